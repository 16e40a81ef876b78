theorem dX11_shape_127 : decode cX11_shape 127 = .ok (.invokevirtual 225, 3) := by decide +kernel
theorem dX11_shape_130 : decode cX11_shape 130 = .ok (.ireturn, 1) := by decide +kernel
set_option maxRecDepth 20000 in
theorem ggX11_steps_X4_canStep : GoodIn wsX11_steps wsX4_canStep := goodIn_r _ [9, 10, 11, 12, 8, 13, 14, 15, 16, 17, 18, 19, 20, 21, 22, 23, 24, 25, 26, 27, 28, 29, 30, 31, 32, 33, 34, 35, 36, 37, 38, 39, 40, 41, 42, 43, 44, 45, 46, 47, 48, 49, 50, 51, 52, 53, 54, 55, 56, 57, 58, 59, 60, 61, 62, 63, 64, 65, 66, 67, 68, 69, 70, 71, 72, 73, 74, 75, 76, 77, 78, 79, 80, 81, 82, 83, 84, 85, 86, 232, 233, 234, 235, 236, 237, 238, 239, 240, 241, 242, 243, 244, 245, 246, 247, 248, 249, 250, 251, 252, 253, 254, 255, 256, 257, 258, 259] (by decide +kernel) (by decide +kernel)
set_option maxRecDepth 20000 in
theorem gX11_steps_X4_canStep : GoodIn wsX11_steps (wsV RX11 228 RX4 yX4_canStep wsX4_canStep) := goodIn_app (goodIn_of _ (by decide +kernel)) ggX11_steps_X4_canStep
set_option maxRecDepth 20000 in
theorem ggX11_steps_X11_refuseAct : GoodIn wsX11_steps wsX11_refuseAct := goodIn_r _ [90, 1, 91, 214, 215, 216, 217, 218, 219, 220, 221, 222, 223, 224, 225, 226, 227, 228, 229, 230, 231] (by decide +kernel) (by decide +kernel)
set_option maxRecDepth 20000 in
theorem gX11_steps_X11_refuseAct : GoodIn wsX11_steps (wsV RX11 232 RX11 yX11_refuseAct wsX11_refuseAct) := goodIn_app (goodIn_of _ (by decide +kernel)) ggX11_steps_X11_refuseAct
set_option maxRecDepth 20000 in
theorem ggX11_steps_X3_keep : GoodIn wsX11_steps wsX3_keep := goodIn_r _ [96, 97, 98, 99, 100, 101, 95, 102, 103, 104, 105, 8, 106, 107, 108, 109, 110, 111, 112, 35, 22, 113, 114, 14, 15, 115, 116, 23, 21, 20, 117, 118, 119, 120, 121, 122, 37, 43, 42, 123, 124, 125, 126, 127, 128, 39, 40, 41, 129, 130, 131, 132, 38, 260, 261, 262, 232, 233, 234, 235, 236, 237, 238, 239, 240, 241, 242, 243, 251, 252, 253, 254] (by decide +kernel) (by decide +kernel)
set_option maxRecDepth 20000 in
theorem gX11_steps_X3_keep : GoodIn wsX11_steps (wsV RX11 235 RX3 yX3_keep wsX3_keep) := goodIn_app (goodIn_of _ (by decide +kernel)) ggX11_steps_X3_keep
set_option maxRecDepth 20000 in
theorem ggX11_steps_X4_step : GoodIn wsX11_steps wsX4_step := goodIn_r _ [136, 20, 21, 22, 23, 119, 114, 14, 10, 11, 12, 8, 13, 15, 24, 25, 26, 27, 28, 29, 30, 31, 32, 33, 34, 35, 36, 37, 38, 39, 40, 41, 42, 43, 44, 45, 46, 47, 48, 49, 50, 51, 52, 53, 54, 55, 56, 57, 58, 59, 60, 61, 62, 63, 64, 65, 66, 67, 68, 69, 70, 71, 72, 73, 74, 75, 76, 77, 78, 79, 80, 81, 82, 83, 84, 85, 86, 137, 138, 139, 140, 128, 141, 142, 143, 144, 145, 116, 117, 146, 147, 148, 149, 150, 151, 152, 153, 154, 155, 156, 157, 158, 159, 160, 161, 162, 163, 164, 165, 166, 167, 168, 169, 118, 170, 171, 172, 173, 174, 175, 176, 177, 178, 179, 180, 181, 182, 183, 184, 185, 186, 187, 188, 189, 190, 191, 192, 193, 194, 195, 196, 197, 123, 198, 199, 200, 201, 202, 203, 204, 205, 206, 207, 208, 209, 210, 211, 212, 213, 115, 232, 233, 234, 235, 236, 237, 238, 239, 240, 241, 242, 243, 244, 245, 246, 247, 248, 249, 250, 251, 252, 253, 254, 255, 256, 257, 258, 259] (by decide +kernel) (by decide +kernel)
set_option maxRecDepth 20000 in
theorem gX11_steps_X4_step : GoodIn wsX11_steps (wsV RX11 238 RX4 yX4_step wsX4_step) := goodIn_app (goodIn_of _ (by decide +kernel)) ggX11_steps_X4_step
theorem dX11_steps_0 : decode cX11_steps 0 = .ok (.aload_n 0, 1) := by decide +kernel
theorem dX11_steps_1 : decode cX11_steps 1 = .ok (.getfield 23, 3) := by decide +kernel
theorem dX11_steps_4 : decode cX11_steps 4 = .ok (.getfield 112, 3) := by decide +kernel
theorem dX11_steps_7 : decode cX11_steps 7 = .ok (.astore_n 2, 1) := by decide +kernel
theorem dX11_steps_8 : decode cX11_steps 8 = .ok (.iload_n 1, 1) := by decide +kernel
theorem dX11_steps_9 : decode cX11_steps 9 = .ok (.iconst 1, 1) := by decide +kernel
theorem dX11_steps_10 : decode cX11_steps 10 = .ok (.if_icmp .lt 20, 3) := by decide +kernel
theorem dX11_steps_13 : decode cX11_steps 13 = .ok (.iload_n 1, 1) := by decide +kernel
theorem dX11_steps_14 : decode cX11_steps 14 = .ok (.bipush 50, 2) := by decide +kernel
theorem dX11_steps_16 : decode cX11_steps 16 = .ok (.if_icmp .gt 14, 3) := by decide +kernel
theorem dX11_steps_19 : decode cX11_steps 19 = .ok (.aload_n 2, 1) := by decide +kernel
theorem dX11_steps_20 : decode cX11_steps 20 = .ok (.aload_n 0, 1) := by decide +kernel
theorem dX11_steps_21 : decode cX11_steps 21 = .ok (.getfield 37, 3) := by decide +kernel
theorem dX11_steps_24 : decode cX11_steps 24 = .ok (.invokevirtual 228, 3) := by decide +kernel
theorem dX11_steps_27 : decode cX11_steps 27 = .ok (.ifCond .ne 8, 3) := by decide +kernel
theorem dX11_steps_30 : decode cX11_steps 30 = .ok (.aload_n 0, 1) := by decide +kernel
theorem dX11_steps_31 : decode cX11_steps 31 = .ok (.invokevirtual 232, 3) := by decide +kernel
theorem dX11_steps_34 : decode cX11_steps 34 = .ok (.ireturn, 1) := by decide +kernel
theorem dX11_steps_35 : decode cX11_steps 35 = .ok (.aload_n 0, 1) := by decide +kernel
theorem dX11_steps_36 : decode cX11_steps 36 = .ok (.getfield 23, 3) := by decide +kernel
theorem dX11_steps_39 : decode cX11_steps 39 = .ok (.getfield 140, 3) := by decide +kernel
theorem dX11_steps_42 : decode cX11_steps 42 = .ok (.aload_n 2, 1) := by decide +kernel
theorem dX11_steps_43 : decode cX11_steps 43 = .ok (.invokevirtual 235, 3) := by decide +kernel
theorem dX11_steps_46 : decode cX11_steps 46 = .ok (.iconst 0, 1) := by decide +kernel
theorem dX11_steps_47 : decode cX11_steps 47 = .ok (.istore_n 3, 1) := by decide +kernel
theorem dX11_steps_48 : decode cX11_steps 48 = .ok (.iload_n 3, 1) := by decide +kernel
theorem dX11_steps_49 : decode cX11_steps 49 = .ok (.iload_n 1, 1) := by decide +kernel
theorem dX11_steps_50 : decode cX11_steps 50 = .ok (.if_icmp .ge 20, 3) := by decide +kernel
theorem dX11_steps_53 : decode cX11_steps 53 = .ok (.aload_n 2, 1) := by decide +kernel
theorem dX11_steps_54 : decode cX11_steps 54 = .ok (.aload_n 0, 1) := by decide +kernel
theorem dX11_steps_55 : decode cX11_steps 55 = .ok (.getfield 37, 3) := by decide +kernel
theorem dX11_steps_58 : decode cX11_steps 58 = .ok (.invokevirtual 238, 3) := by decide +kernel
theorem dX11_steps_61 : decode cX11_steps 61 = .ok (.ifCond .eq 9, 3) := by decide +kernel
theorem dX11_steps_64 : decode cX11_steps 64 = .ok (.iinc 3 1, 3) := by decide +kernel
theorem dX11_steps_67 : decode cX11_steps 67 = .ok (.goto (-19), 3) := by decide +kernel
theorem dX11_steps_70 : decode cX11_steps 70 = .ok (.iload_n 3, 1) := by decide +kernel
theorem dX11_steps_71 : decode cX11_steps 71 = .ok (.ireturn, 1) := by decide +kernel
theorem dX11_refuseAct_0 : decode cX11_refuseAct 0 = .ok (.aload_n 0, 1) := by decide +kernel
theorem dX11_refuseAct_1 : decode cX11_refuseAct 1 = .ok (.getfield 23, 3) := by decide +kernel
theorem dX11_refuseAct_4 : decode cX11_refuseAct 4 = .ok (.getfield 101, 3) := by decide +kernel
theorem dX11_refuseAct_7 : decode cX11_refuseAct 7 = .ok (.iconst 1, 1) := by decide +kernel
theorem dX11_refuseAct_8 : decode cX11_refuseAct 8 = .ok (.dup2, 1) := by decide +kernel
theorem dX11_refuseAct_9 : decode cX11_refuseAct 9 = .ok (.iaload, 1) := by decide +kernel
theorem dX11_refuseAct_10 : decode cX11_refuseAct 10 = .ok (.iconst 1, 1) := by decide +kernel
theorem dX11_refuseAct_11 : decode cX11_refuseAct 11 = .ok (.iadd, 1) := by decide +kernel
theorem dX11_refuseAct_12 : decode cX11_refuseAct 12 = .ok (.iastore, 1) := by decide +kernel
theorem dX11_refuseAct_13 : decode cX11_refuseAct 13 = .ok (.iconst (-1), 1) := by decide +kernel
theorem dX11_refuseAct_14 : decode cX11_refuseAct 14 = .ok (.ireturn, 1) := by decide +kernel
set_option maxRecDepth 20000 in
theorem ggX11_evict_X11_isLine : GoodIn wsX11_evict wsX11_isLine := goodIn_r _ [11] (by decide +kernel) (by decide +kernel)
set_option maxRecDepth 20000 in
theorem gX11_evict_X11_isLine : GoodIn wsX11_evict (va_wsS RX11 173 yX11_isLine wsX11_isLine) := goodIn_app (goodIn_of _ (by decide +kernel)) ggX11_evict_X11_isLine
set_option maxRecDepth 20000 in
theorem ggX11_evict_X11_refuseAct : GoodIn wsX11_evict wsX11_refuseAct := goodIn_r _ [15, 3, 16, 81, 82, 83, 84, 85, 86, 87, 88, 89, 90, 91, 92, 93, 94, 95, 96, 97, 98] (by decide +kernel) (by decide +kernel)
set_option maxRecDepth 20000 in
theorem gX11_evict_X11_refuseAct : GoodIn wsX11_evict (wsV RX11 232 RX11 yX11_refuseAct wsX11_refuseAct) := goodIn_app (goodIn_of _ (by decide +kernel)) ggX11_evict_X11_refuseAct
set_option maxRecDepth 20000 in
theorem ggX11_evict_X3_keep : GoodIn wsX11_evict wsX3_keep := goodIn_r _ [21, 22, 23, 24, 25, 26, 20, 27, 28, 29, 30, 31, 32, 33, 34, 35, 36, 37, 38, 39, 40, 41, 42, 43, 44, 45, 46, 47, 48, 49, 50, 51, 52, 53, 54, 55, 56, 57, 58, 59, 60, 61, 62, 63, 64, 65, 66, 67, 68, 69, 70, 71, 72, 115, 116, 117, 99, 100, 101, 102, 103, 104, 105, 106, 107, 108, 109, 110, 111, 112, 113, 114] (by decide +kernel) (by decide +kernel)
set_option maxRecDepth 20000 in
theorem gX11_evict_X3_keep : GoodIn wsX11_evict (wsV RX11 235 RX3 yX3_keep wsX3_keep) := goodIn_app (goodIn_of _ (by decide +kernel)) ggX11_evict_X3_keep
set_option maxRecDepth 20000 in
theorem ggX11_evict_X1_reach : GoodIn wsX11_evict wsX1_reach := goodIn_r _ [76, 56, 57, 58, 72, 65, 66, 67, 59, 77, 78, 79, 80, 111, 112, 113, 114] (by decide +kernel) (by decide +kernel)
set_option maxRecDepth 20000 in
theorem gX11_evict_X1_reach : GoodIn wsX11_evict (wsV RX11 241 RX1 yX1_reach wsX1_reach) := goodIn_app (goodIn_of _ (by decide +kernel)) ggX11_evict_X1_reach
theorem dX11_evict_0 : decode cX11_evict 0 = .ok (.iload_n 1, 1) := by decide +kernel
theorem dX11_evict_1 : decode cX11_evict 1 = .ok (.invokestatic 173, 3) := by decide +kernel
theorem dX11_evict_4 : decode cX11_evict 4 = .ok (.ifCond .ne 13, 3) := by decide +kernel
theorem dX11_evict_7 : decode cX11_evict 7 = .ok (.new 155, 3) := by decide +kernel
theorem dX11_evict_10 : decode cX11_evict 10 = .ok (.dup, 1) := by decide +kernel
theorem dX11_evict_11 : decode cX11_evict 11 = .ok (.ldc 176, 2) := by decide +kernel
theorem dX11_evict_13 : decode cX11_evict 13 = .ok (.invokespecial 159, 3) := by decide +kernel
theorem dX11_evict_16 : decode cX11_evict 16 = .ok (.athrow, 1) := by decide +kernel
theorem dX11_evict_17 : decode cX11_evict 17 = .ok (.aload_n 0, 1) := by decide +kernel
theorem dX11_evict_18 : decode cX11_evict 18 = .ok (.getfield 23, 3) := by decide +kernel
theorem dX11_evict_21 : decode cX11_evict 21 = .ok (.getfield 112, 3) := by decide +kernel
theorem dX11_evict_24 : decode cX11_evict 24 = .ok (.astore_n 3, 1) := by decide +kernel
theorem dX11_evict_25 : decode cX11_evict 25 = .ok (.iload_n 2, 1) := by decide +kernel
theorem dX11_evict_26 : decode cX11_evict 26 = .ok (.iconst 1, 1) := by decide +kernel
theorem dX11_evict_27 : decode cX11_evict 27 = .ok (.if_icmp .lt 16, 3) := by decide +kernel
theorem dX11_evict_30 : decode cX11_evict 30 = .ok (.iload_n 2, 1) := by decide +kernel
theorem dX11_evict_31 : decode cX11_evict 31 = .ok (.aload_n 3, 1) := by decide +kernel
theorem dX11_evict_32 : decode cX11_evict 32 = .ok (.getfield 131, 3) := by decide +kernel
theorem dX11_evict_35 : decode cX11_evict 35 = .ok (.getfield 178, 3) := by decide +kernel
theorem dX11_evict_38 : decode cX11_evict 38 = .ok (.iload_n 1, 1) := by decide +kernel
theorem dX11_evict_39 : decode cX11_evict 39 = .ok (.iaload, 1) := by decide +kernel
theorem dX11_evict_40 : decode cX11_evict 40 = .ok (.if_icmp .le 8, 3) := by decide +kernel
theorem dX11_evict_43 : decode cX11_evict 43 = .ok (.aload_n 0, 1) := by decide +kernel
theorem dX11_evict_44 : decode cX11_evict 44 = .ok (.invokevirtual 232, 3) := by decide +kernel
theorem dX11_evict_47 : decode cX11_evict 47 = .ok (.ireturn, 1) := by decide +kernel
theorem dX11_evict_48 : decode cX11_evict 48 = .ok (.aload_n 0, 1) := by decide +kernel
theorem dX11_evict_49 : decode cX11_evict 49 = .ok (.getfield 23, 3) := by decide +kernel
theorem dX11_evict_52 : decode cX11_evict 52 = .ok (.getfield 140, 3) := by decide +kernel
theorem dX11_evict_55 : decode cX11_evict 55 = .ok (.aload_n 3, 1) := by decide +kernel
theorem dX11_evict_56 : decode cX11_evict 56 = .ok (.invokevirtual 235, 3) := by decide +kernel
theorem dX11_evict_59 : decode cX11_evict 59 = .ok (.aload_n 3, 1) := by decide +kernel
theorem dX11_evict_60 : decode cX11_evict 60 = .ok (.getfield 131, 3) := by decide +kernel
theorem dX11_evict_63 : decode cX11_evict 63 = .ok (.iload_n 1, 1) := by decide +kernel
theorem dX11_evict_64 : decode cX11_evict 64 = .ok (.iload_n 2, 1) := by decide +kernel
theorem dX11_evict_65 : decode cX11_evict 65 = .ok (.invokevirtual 241, 3) := by decide +kernel
theorem dX11_evict_68 : decode cX11_evict 68 = .ok (.aload_n 3, 1) := by decide +kernel
theorem dX11_evict_69 : decode cX11_evict 69 = .ok (.getfield 131, 3) := by decide +kernel
theorem dX11_evict_72 : decode cX11_evict 72 = .ok (.getfield 178, 3) := by decide +kernel
theorem dX11_evict_75 : decode cX11_evict 75 = .ok (.iload_n 1, 1) := by decide +kernel
theorem dX11_evict_76 : decode cX11_evict 76 = .ok (.iaload, 1) := by decide +kernel
theorem dX11_evict_77 : decode cX11_evict 77 = .ok (.ireturn, 1) := by decide +kernel
set_option maxRecDepth 20000 in
theorem ggX11_crash_X11_isOrder : GoodIn wsX11_crash wsX11_isOrder := goodIn_r _ [11, 1, 2, 6, 12, 13, 14, 15, 16, 17, 143, 144, 145, 146, 147, 148, 149, 150, 151, 152, 153, 154, 155, 156, 157, 158, 159, 160, 161, 162, 163, 164, 165, 166, 167, 168, 169, 170, 171, 172, 173, 174, 175, 176] (by decide +kernel) (by decide +kernel)
set_option maxRecDepth 20000 in
theorem gX11_crash_X11_isOrder : GoodIn wsX11_crash (wsV RX11 245 RX11 yX11_isOrder wsX11_isOrder) := goodIn_app (goodIn_of _ (by decide +kernel)) ggX11_crash_X11_isOrder
set_option maxRecDepth 20000 in
theorem ggX11_crash_X11_refuseAct : GoodIn wsX11_crash wsX11_refuseAct := goodIn_r _ [21, 1, 22, 143, 144, 145, 146, 147, 148, 149, 150, 151, 152, 153, 154, 155, 156, 157, 158, 159, 160] (by decide +kernel) (by decide +kernel)
set_option maxRecDepth 20000 in
theorem gX11_crash_X11_refuseAct : GoodIn wsX11_crash (wsV RX11 232 RX11 yX11_refuseAct wsX11_refuseAct) := goodIn_app (goodIn_of _ (by decide +kernel)) ggX11_crash_X11_refuseAct
set_option maxRecDepth 20000 in
theorem ggX11_crash_X3_keep : GoodIn wsX11_crash wsX3_keep := goodIn_r _ [27, 28, 29, 30, 31, 32, 26, 33, 34, 35, 36, 37, 38, 39, 40, 41, 42, 43, 44, 15, 45, 46, 47, 48, 49, 50, 51, 52, 53, 54, 55, 56, 57, 58, 59, 60, 61, 62, 17, 63, 64, 65, 66, 67, 68, 69, 70, 71, 72, 73, 74, 75, 76, 177, 178, 179, 161, 162, 163, 164, 165, 166, 167, 168, 169, 170, 171, 172, 173, 174, 175, 176] (by decide +kernel) (by decide +kernel)
set_option maxRecDepth 20000 in
theorem gX11_crash_X3_keep : GoodIn wsX11_crash (wsV RX11 235 RX3 yX3_keep wsX3_keep) := goodIn_app (goodIn_of _ (by decide +kernel)) ggX11_crash_X3_keep
set_option maxRecDepth 20000 in
theorem ggX11_crash_X9_open : GoodIn wsX11_crash wsX9_open := goodIn_r _ [81, 82, 83, 84, 85, 80, 86, 87, 88, 89, 90, 69, 70, 71, 91, 92, 93, 94, 95, 96, 97, 98, 99, 173, 174, 175, 176, 180, 181, 182] (by decide +kernel) (by decide +kernel)
set_option maxRecDepth 20000 in
theorem gX11_crash_X9_open : GoodIn wsX11_crash (wsV RX11 248 RX9 yX9_open wsX9_open) := goodIn_app (goodIn_of _ (by decide +kernel)) ggX11_crash_X9_open
set_option maxRecDepth 20000 in
theorem ggX11_crash_X9_fateBy : GoodIn wsX11_crash wsX9_fateBy := goodIn_r _ [103, 104, 105, 106, 107, 108, 109, 110, 80, 111, 89, 90, 69, 70, 71, 112, 10, 113, 114, 115, 116, 117, 118, 119, 120, 121, 122, 123, 161, 162, 163, 164, 165, 166, 167, 168, 169, 170, 171, 172, 180, 181, 182] (by decide +kernel) (by decide +kernel)
set_option maxRecDepth 20000 in
theorem gX11_crash_X9_fateBy : GoodIn wsX11_crash (wsV RX11 252 RX9 yX9_fateBy wsX9_fateBy) := goodIn_app (goodIn_of _ (by decide +kernel)) ggX11_crash_X9_fateBy
set_option maxRecDepth 20000 in
theorem ggX11_crash_X4_fall : GoodIn wsX11_crash wsX4_fall := goodIn_r _ [127, 45, 128, 129, 54, 57, 130, 131, 132, 15, 133, 61, 76, 69, 70, 71, 17, 63, 134, 92, 93, 94, 135, 136, 137, 37, 138, 50, 68, 51, 139, 140, 141, 142, 48, 49, 161, 162, 163, 164, 165, 166, 167, 168, 169, 170, 171, 172, 180, 181, 182, 173, 174, 175, 176] (by decide +kernel) (by decide +kernel)
set_option maxRecDepth 20000 in
theorem gX11_crash_X4_fall : GoodIn wsX11_crash (wsV RX11 256 RX4 yX4_fall wsX4_fall) := goodIn_app (goodIn_of _ (by decide +kernel)) ggX11_crash_X4_fall
theorem dX11_crash_0 : decode cX11_crash 0 = .ok (.aload_n 0, 1) := by decide +kernel
theorem dX11_crash_1 : decode cX11_crash 1 = .ok (.getfield 23, 3) := by decide +kernel
theorem dX11_crash_4 : decode cX11_crash 4 = .ok (.getfield 112, 3) := by decide +kernel
theorem dX11_crash_7 : decode cX11_crash 7 = .ok (.astore_n 2, 1) := by decide +kernel
theorem dX11_crash_8 : decode cX11_crash 8 = .ok (.aload_n 2, 1) := by decide +kernel
theorem dX11_crash_9 : decode cX11_crash 9 = .ok (.getfield 113, 3) := by decide +kernel
theorem dX11_crash_12 : decode cX11_crash 12 = .ok (.iconst 1, 1) := by decide +kernel
theorem dX11_crash_13 : decode cX11_crash 13 = .ok (.if_icmp .eq 11, 3) := by decide +kernel
theorem dX11_crash_16 : decode cX11_crash 16 = .ok (.aload_n 0, 1) := by decide +kernel
theorem dX11_crash_17 : decode cX11_crash 17 = .ok (.iload_n 1, 1) := by decide +kernel
theorem dX11_crash_18 : decode cX11_crash 18 = .ok (.invokevirtual 245, 3) := by decide +kernel
theorem dX11_crash_21 : decode cX11_crash 21 = .ok (.ifCond .ne 8, 3) := by decide +kernel
theorem dX11_crash_24 : decode cX11_crash 24 = .ok (.aload_n 0, 1) := by decide +kernel
theorem dX11_crash_25 : decode cX11_crash 25 = .ok (.invokevirtual 232, 3) := by decide +kernel
theorem dX11_crash_28 : decode cX11_crash 28 = .ok (.ireturn, 1) := by decide +kernel
theorem dX11_crash_29 : decode cX11_crash 29 = .ok (.aload_n 0, 1) := by decide +kernel
theorem dX11_crash_30 : decode cX11_crash 30 = .ok (.getfield 23, 3) := by decide +kernel
theorem dX11_crash_33 : decode cX11_crash 33 = .ok (.getfield 140, 3) := by decide +kernel
theorem dX11_crash_36 : decode cX11_crash 36 = .ok (.aload_n 2, 1) := by decide +kernel
theorem dX11_crash_37 : decode cX11_crash 37 = .ok (.invokevirtual 235, 3) := by decide +kernel
theorem dX11_crash_40 : decode cX11_crash 40 = .ok (.aload_n 0, 1) := by decide +kernel
theorem dX11_crash_41 : decode cX11_crash 41 = .ok (.getfield 44, 3) := by decide +kernel
theorem dX11_crash_44 : decode cX11_crash 44 = .ok (.aload_n 2, 1) := by decide +kernel
theorem dX11_crash_45 : decode cX11_crash 45 = .ok (.getfield 131, 3) := by decide +kernel
theorem dX11_crash_48 : decode cX11_crash 48 = .ok (.iload_n 1, 1) := by decide +kernel
theorem dX11_crash_49 : decode cX11_crash 49 = .ok (.invokevirtual 248, 3) := by decide +kernel
theorem dX11_crash_52 : decode cX11_crash 52 = .ok (.aload_n 0, 1) := by decide +kernel
theorem dX11_crash_53 : decode cX11_crash 53 = .ok (.getfield 44, 3) := by decide +kernel
theorem dX11_crash_56 : decode cX11_crash 56 = .ok (.aload_n 2, 1) := by decide +kernel
theorem dX11_crash_57 : decode cX11_crash 57 = .ok (.invokevirtual 252, 3) := by decide +kernel
theorem dX11_crash_60 : decode cX11_crash 60 = .ok (.istore_n 3, 1) := by decide +kernel
theorem dX11_crash_61 : decode cX11_crash 61 = .ok (.aload_n 2, 1) := by decide +kernel
theorem dX11_crash_62 : decode cX11_crash 62 = .ok (.aload_n 0, 1) := by decide +kernel
theorem dX11_crash_63 : decode cX11_crash 63 = .ok (.getfield 44, 3) := by decide +kernel
theorem dX11_crash_66 : decode cX11_crash 66 = .ok (.invokevirtual 256, 3) := by decide +kernel
theorem dX11_crash_69 : decode cX11_crash 69 = .ok (.iload_n 3, 1) := by decide +kernel
theorem dX11_crash_70 : decode cX11_crash 70 = .ok (.ireturn, 1) := by decide +kernel
set_option maxRecDepth 20000 in
theorem ggX11_recover_X11_refuseAct : GoodIn wsX11_recover wsX11_refuseAct := goodIn_r _ [10, 1, 11, 116, 117, 118, 119, 120, 121, 122, 123, 124, 125, 126, 127, 128, 129, 130, 131, 132, 133] (by decide +kernel) (by decide +kernel)
set_option maxRecDepth 20000 in
theorem gX11_recover_X11_refuseAct : GoodIn wsX11_recover (wsV RX11 232 RX11 yX11_refuseAct wsX11_refuseAct) := goodIn_app (goodIn_of _ (by decide +kernel)) ggX11_recover_X11_refuseAct
set_option maxRecDepth 20000 in
theorem ggX11_recover_X3_keep : GoodIn wsX11_recover wsX3_keep := goodIn_r _ [16, 17, 18, 19, 20, 21, 15, 22, 23, 24, 25, 26, 27, 28, 29, 30, 31, 32, 33, 34, 35, 36, 37, 38, 39, 40, 41, 42, 43, 44, 45, 46, 47, 48, 49, 50, 51, 52, 53, 54, 55, 56, 57, 58, 59, 60, 61, 62, 63, 64, 65, 66, 67, 146, 147, 148, 134, 135, 136, 137, 138, 139, 140, 141, 142, 143, 144, 145, 149, 150, 151, 152] (by decide +kernel) (by decide +kernel)
set_option maxRecDepth 20000 in
theorem gX11_recover_X3_keep : GoodIn wsX11_recover (wsV RX11 235 RX3 yX3_keep wsX3_keep) := goodIn_app (goodIn_of _ (by decide +kernel)) ggX11_recover_X3_keep
set_option maxRecDepth 20000 in
theorem ggX11_recover_X4_beginRecovery : GoodIn wsX11_recover wsX4_beginRecovery := goodIn_r _ [71, 47, 44, 35, 72, 45, 73, 74, 75, 76, 77, 78, 79, 80, 81, 82, 83, 84, 85, 9, 86, 87, 88, 89, 90, 91, 26, 92, 93, 94, 95, 96, 97, 98, 99, 39, 37, 100, 101, 102, 103, 104, 105, 106, 107, 46, 108, 109, 110, 111, 134, 135, 136, 137, 138, 139, 140, 141, 142, 143, 144, 145, 149, 150, 151, 152, 153, 154, 155, 156, 157, 158, 159] (by decide +kernel) (by decide +kernel)
set_option maxRecDepth 20000 in
theorem gX11_recover_X4_beginRecovery : GoodIn wsX11_recover (wsV RX11 260 RX4 yX4_beginRecovery wsX4_beginRecovery) := goodIn_app (goodIn_of _ (by decide +kernel)) ggX11_recover_X4_beginRecovery
set_option maxRecDepth 20000 in
theorem ggX11_recover_X4_microsLeft : GoodIn wsX11_recover wsX4_microsLeft := goodIn_r _ [115, 39, 38, 134, 135, 136, 137, 138, 139, 140, 141, 142, 143, 144, 145] (by decide +kernel) (by decide +kernel)
set_option maxRecDepth 20000 in
theorem gX11_recover_X4_microsLeft : GoodIn wsX11_recover (wsV RX11 127 RX4 yX4_microsLeft wsX4_microsLeft) := goodIn_app (goodIn_of _ (by decide +kernel)) ggX11_recover_X4_microsLeft
theorem dX11_recover_0 : decode cX11_recover 0 = .ok (.aload_n 0, 1) := by decide +kernel
theorem dX11_recover_1 : decode cX11_recover 1 = .ok (.getfield 23, 3) := by decide +kernel
theorem dX11_recover_4 : decode cX11_recover 4 = .ok (.getfield 112, 3) := by decide +kernel
theorem dX11_recover_7 : decode cX11_recover 7 = .ok (.astore_n 1, 1) := by decide +kernel
theorem dX11_recover_8 : decode cX11_recover 8 = .ok (.aload_n 1, 1) := by decide +kernel
theorem dX11_recover_9 : decode cX11_recover 9 = .ok (.getfield 113, 3) := by decide +kernel
theorem dX11_recover_12 : decode cX11_recover 12 = .ok (.iconst 1, 1) := by decide +kernel
theorem dX11_recover_13 : decode cX11_recover 13 = .ok (.if_icmp .eq 8, 3) := by decide +kernel
theorem dX11_recover_16 : decode cX11_recover 16 = .ok (.aload_n 0, 1) := by decide +kernel
theorem dX11_recover_17 : decode cX11_recover 17 = .ok (.invokevirtual 232, 3) := by decide +kernel
theorem dX11_recover_20 : decode cX11_recover 20 = .ok (.ireturn, 1) := by decide +kernel
theorem dX11_recover_21 : decode cX11_recover 21 = .ok (.aload_n 0, 1) := by decide +kernel
theorem dX11_recover_22 : decode cX11_recover 22 = .ok (.getfield 23, 3) := by decide +kernel
theorem dX11_recover_25 : decode cX11_recover 25 = .ok (.getfield 140, 3) := by decide +kernel
theorem dX11_recover_28 : decode cX11_recover 28 = .ok (.aload_n 1, 1) := by decide +kernel
theorem dX11_recover_29 : decode cX11_recover 29 = .ok (.invokevirtual 235, 3) := by decide +kernel
theorem dX11_recover_32 : decode cX11_recover 32 = .ok (.aload_n 1, 1) := by decide +kernel
theorem dX11_recover_33 : decode cX11_recover 33 = .ok (.aload_n 0, 1) := by decide +kernel
theorem dX11_recover_34 : decode cX11_recover 34 = .ok (.getfield 37, 3) := by decide +kernel
theorem dX11_recover_37 : decode cX11_recover 37 = .ok (.invokevirtual 260, 3) := by decide +kernel
theorem dX11_recover_40 : decode cX11_recover 40 = .ok (.aload_n 1, 1) := by decide +kernel
theorem dX11_recover_41 : decode cX11_recover 41 = .ok (.invokevirtual 127, 3) := by decide +kernel
theorem dX11_recover_44 : decode cX11_recover 44 = .ok (.ireturn, 1) := by decide +kernel
set_option maxRecDepth 20000 in
theorem ggX11_later_X11_isAsTold : GoodIn wsX11_later wsX11_isAsTold := goodIn_r _ [10, 11, 12, 13, 14] (by decide +kernel) (by decide +kernel)
set_option maxRecDepth 20000 in
theorem gX11_later_X11_isAsTold : GoodIn wsX11_later (va_wsS RX11 266 yX11_isAsTold wsX11_isAsTold) := goodIn_app (goodIn_of _ (by decide +kernel)) ggX11_later_X11_isAsTold
set_option maxRecDepth 20000 in
theorem ggX11_later_X11_refuseAct : GoodIn wsX11_later wsX11_refuseAct := goodIn_r _ [18, 3, 19, 83, 84, 85, 86, 87, 88, 89, 90, 91, 92, 93, 94, 95, 96, 97, 98, 99, 100] (by decide +kernel) (by decide +kernel)
set_option maxRecDepth 20000 in
theorem gX11_later_X11_refuseAct : GoodIn wsX11_later (wsV RX11 232 RX11 yX11_refuseAct wsX11_refuseAct) := goodIn_app (goodIn_of _ (by decide +kernel)) ggX11_later_X11_refuseAct
set_option maxRecDepth 20000 in
theorem ggX11_later_X3_keep : GoodIn wsX11_later wsX3_keep := goodIn_r _ [24, 25, 26, 27, 28, 29, 23, 30, 31, 32, 33, 34, 35, 36, 37, 38, 39, 40, 41, 42, 43, 44, 45, 46, 47, 48, 49, 50, 51, 52, 53, 54, 55, 56, 57, 58, 59, 60, 61, 62, 63, 64, 65, 66, 67, 68, 69, 70, 71, 72, 73, 74, 75, 113, 114, 115, 101, 102, 103, 104, 105, 106, 107, 108, 109, 110, 111, 112, 116, 117, 118, 119] (by decide +kernel) (by decide +kernel)
set_option maxRecDepth 20000 in
theorem gX11_later_X3_keep : GoodIn wsX11_later (wsV RX11 235 RX3 yX3_keep wsX3_keep) := goodIn_app (goodIn_of _ (by decide +kernel)) ggX11_later_X3_keep
set_option maxRecDepth 20000 in
theorem ggX11_later_X11_packOp : GoodIn wsX11_later wsX11_packOp := goodIn_r _ [78, 11] (by decide +kernel) (by decide +kernel)
set_option maxRecDepth 20000 in
theorem gX11_later_X11_packOp : GoodIn wsX11_later (va_wsS RX11 270 yX11_packOp wsX11_packOp) := goodIn_app (goodIn_of _ (by decide +kernel)) ggX11_later_X11_packOp
set_option maxRecDepth 20000 in
theorem ggX11_later_X4_addWaiting : GoodIn wsX11_later wsX4_addWaiting := goodIn_r _ [82, 51, 50, 101, 102, 103, 104, 105, 106, 107, 108, 109, 110, 111, 112] (by decide +kernel) (by decide +kernel)
set_option maxRecDepth 20000 in
theorem gX11_later_X4_addWaiting : GoodIn wsX11_later (wsV RX11 274 RX4 yX4_addWaiting wsX4_addWaiting) := goodIn_app (goodIn_of _ (by decide +kernel)) ggX11_later_X4_addWaiting
theorem dX11_later_0 : decode cX11_later 0 = .ok (.iload_n 1, 1) := by decide +kernel
theorem dX11_later_1 : decode cX11_later 1 = .ok (.ifCond .lt 8, 3) := by decide +kernel
theorem dX11_later_4 : decode cX11_later 4 = .ok (.iload_n 1, 1) := by decide +kernel
theorem dX11_later_5 : decode cX11_later 5 = .ok (.iconst 5, 1) := by decide +kernel
theorem dX11_later_6 : decode cX11_later 6 = .ok (.if_icmp .lt 14, 3) := by decide +kernel
theorem dX11_later_9 : decode cX11_later 9 = .ok (.new 155, 3) := by decide +kernel
theorem dX11_later_12 : decode cX11_later 12 = .ok (.dup, 1) := by decide +kernel
theorem dX11_later_13 : decode cX11_later 13 = .ok (.ldc_w 264, 3) := by decide +kernel
theorem dX11_later_16 : decode cX11_later 16 = .ok (.invokespecial 159, 3) := by decide +kernel
theorem dX11_later_19 : decode cX11_later 19 = .ok (.athrow, 1) := by decide +kernel
theorem dX11_later_20 : decode cX11_later 20 = .ok (.aload_n 0, 1) := by decide +kernel
theorem dX11_later_21 : decode cX11_later 21 = .ok (.getfield 23, 3) := by decide +kernel
theorem dX11_later_24 : decode cX11_later 24 = .ok (.getfield 112, 3) := by decide +kernel
theorem dX11_later_27 : decode cX11_later 27 = .ok (.astore 4, 2) := by decide +kernel
theorem dX11_later_29 : decode cX11_later 29 = .ok (.aload 4, 2) := by decide +kernel
theorem dX11_later_31 : decode cX11_later 31 = .ok (.getfield 124, 3) := by decide +kernel
theorem dX11_later_34 : decode cX11_later 34 = .ok (.bipush 12, 2) := by decide +kernel
theorem dX11_later_36 : decode cX11_later 36 = .ok (.if_icmp .ge 12, 3) := by decide +kernel
theorem dX11_later_39 : decode cX11_later 39 = .ok (.iload_n 1, 1) := by decide +kernel
theorem dX11_later_40 : decode cX11_later 40 = .ok (.iload_n 2, 1) := by decide +kernel
theorem dX11_later_41 : decode cX11_later 41 = .ok (.iload_n 3, 1) := by decide +kernel
theorem dX11_later_42 : decode cX11_later 42 = .ok (.invokestatic 266, 3) := by decide +kernel
theorem dX11_later_45 : decode cX11_later 45 = .ok (.ifCond .ne 8, 3) := by decide +kernel
theorem dX11_later_48 : decode cX11_later 48 = .ok (.aload_n 0, 1) := by decide +kernel
theorem dX11_later_49 : decode cX11_later 49 = .ok (.invokevirtual 232, 3) := by decide +kernel
theorem dX11_later_52 : decode cX11_later 52 = .ok (.ireturn, 1) := by decide +kernel
theorem dX11_later_53 : decode cX11_later 53 = .ok (.aload_n 0, 1) := by decide +kernel
theorem dX11_later_54 : decode cX11_later 54 = .ok (.getfield 23, 3) := by decide +kernel
theorem dX11_later_57 : decode cX11_later 57 = .ok (.getfield 140, 3) := by decide +kernel
theorem dX11_later_60 : decode cX11_later 60 = .ok (.aload 4, 2) := by decide +kernel
theorem dX11_later_62 : decode cX11_later 62 = .ok (.invokevirtual 235, 3) := by decide +kernel
theorem dX11_later_65 : decode cX11_later 65 = .ok (.aload 4, 2) := by decide +kernel
theorem dX11_later_67 : decode cX11_later 67 = .ok (.iload_n 1, 1) := by decide +kernel
theorem dX11_later_68 : decode cX11_later 68 = .ok (.iload_n 2, 1) := by decide +kernel
theorem dX11_later_69 : decode cX11_later 69 = .ok (.iload_n 3, 1) := by decide +kernel
theorem dX11_later_70 : decode cX11_later 70 = .ok (.invokestatic 270, 3) := by decide +kernel
theorem dX11_later_73 : decode cX11_later 73 = .ok (.invokevirtual 274, 3) := by decide +kernel
theorem dX11_later_76 : decode cX11_later 76 = .ok (.aload 4, 2) := by decide +kernel
theorem dX11_later_78 : decode cX11_later 78 = .ok (.getfield 124, 3) := by decide +kernel
theorem dX11_later_81 : decode cX11_later 81 = .ok (.ireturn, 1) := by decide +kernel
theorem dX11_isAsTold_0 : decode cX11_isAsTold 0 = .ok (.getstatic 277, 3) := by decide +kernel
theorem dX11_isAsTold_3 : decode cX11_isAsTold 3 = .ok (.iload_n 0, 1) := by decide +kernel
theorem dX11_isAsTold_4 : decode cX11_isAsTold 4 = .ok (.iaload, 1) := by decide +kernel
theorem dX11_isAsTold_5 : decode cX11_isAsTold 5 = .ok (.ifCond .le 23, 3) := by decide +kernel
theorem dX11_isAsTold_8 : decode cX11_isAsTold 8 = .ok (.iload_n 1, 1) := by decide +kernel
theorem dX11_isAsTold_9 : decode cX11_isAsTold 9 = .ok (.getstatic 280, 3) := by decide +kernel
theorem dX11_isAsTold_12 : decode cX11_isAsTold 12 = .ok (.iload_n 0, 1) := by decide +kernel
theorem dX11_isAsTold_13 : decode cX11_isAsTold 13 = .ok (.iaload, 1) := by decide +kernel
theorem dX11_isAsTold_14 : decode cX11_isAsTold 14 = .ok (.if_icmp .lt 12, 3) := by decide +kernel
theorem dX11_isAsTold_17 : decode cX11_isAsTold 17 = .ok (.iload_n 1, 1) := by decide +kernel
theorem dX11_isAsTold_18 : decode cX11_isAsTold 18 = .ok (.getstatic 283, 3) := by decide +kernel
theorem dX11_isAsTold_21 : decode cX11_isAsTold 21 = .ok (.iload_n 0, 1) := by decide +kernel
theorem dX11_isAsTold_22 : decode cX11_isAsTold 22 = .ok (.iaload, 1) := by decide +kernel
theorem dX11_isAsTold_23 : decode cX11_isAsTold 23 = .ok (.if_icmp .le 5, 3) := by decide +kernel
theorem dX11_isAsTold_26 : decode cX11_isAsTold 26 = .ok (.iconst 0, 1) := by decide +kernel
theorem dX11_isAsTold_27 : decode cX11_isAsTold 27 = .ok (.ireturn, 1) := by decide +kernel
theorem dX11_isAsTold_28 : decode cX11_isAsTold 28 = .ok (.getstatic 277, 3) := by decide +kernel
theorem dX11_isAsTold_31 : decode cX11_isAsTold 31 = .ok (.iload_n 0, 1) := by decide +kernel
theorem dX11_isAsTold_32 : decode cX11_isAsTold 32 = .ok (.iaload, 1) := by decide +kernel
theorem dX11_isAsTold_33 : decode cX11_isAsTold 33 = .ok (.iconst 1, 1) := by decide +kernel
theorem dX11_isAsTold_34 : decode cX11_isAsTold 34 = .ok (.if_icmp .le 18, 3) := by decide +kernel
theorem dX11_isAsTold_37 : decode cX11_isAsTold 37 = .ok (.iload_n 2, 1) := by decide +kernel
theorem dX11_isAsTold_38 : decode cX11_isAsTold 38 = .ok (.ifCond .lt 12, 3) := by decide +kernel
theorem dX11_isAsTold_41 : decode cX11_isAsTold 41 = .ok (.iload_n 2, 1) := by decide +kernel
theorem dX11_isAsTold_42 : decode cX11_isAsTold 42 = .ok (.getstatic 286, 3) := by decide +kernel
theorem dX11_isAsTold_45 : decode cX11_isAsTold 45 = .ok (.iload_n 0, 1) := by decide +kernel
theorem dX11_isAsTold_46 : decode cX11_isAsTold 46 = .ok (.iaload, 1) := by decide +kernel
theorem dX11_isAsTold_47 : decode cX11_isAsTold 47 = .ok (.if_icmp .le 5, 3) := by decide +kernel
theorem dX11_isAsTold_50 : decode cX11_isAsTold 50 = .ok (.iconst 0, 1) := by decide +kernel
theorem dX11_isAsTold_51 : decode cX11_isAsTold 51 = .ok (.ireturn, 1) := by decide +kernel
theorem dX11_isAsTold_52 : decode cX11_isAsTold 52 = .ok (.iload_n 0, 1) := by decide +kernel
theorem dX11_isAsTold_53 : decode cX11_isAsTold 53 = .ok (.iconst 2, 1) := by decide +kernel
theorem dX11_isAsTold_54 : decode cX11_isAsTold 54 = .ok (.if_icmp .ne 8, 3) := by decide +kernel
theorem dX11_isAsTold_57 : decode cX11_isAsTold 57 = .ok (.iload_n 1, 1) := by decide +kernel
theorem dX11_isAsTold_58 : decode cX11_isAsTold 58 = .ok (.iload_n 2, 1) := by decide +kernel
theorem dX11_isAsTold_59 : decode cX11_isAsTold 59 = .ok (.if_icmp .eq 7, 3) := by decide +kernel
theorem dX11_isAsTold_62 : decode cX11_isAsTold 62 = .ok (.iconst 1, 1) := by decide +kernel
theorem dX11_isAsTold_63 : decode cX11_isAsTold 63 = .ok (.goto 4, 3) := by decide +kernel
theorem dX11_isAsTold_66 : decode cX11_isAsTold 66 = .ok (.iconst 0, 1) := by decide +kernel
theorem dX11_isAsTold_67 : decode cX11_isAsTold 67 = .ok (.ireturn, 1) := by decide +kernel
theorem dX11_packOp_0 : decode cX11_packOp 0 = .ok (.getstatic 277, 3) := by decide +kernel
theorem dX11_packOp_3 : decode cX11_packOp 3 = .ok (.iload_n 0, 1) := by decide +kernel
theorem dX11_packOp_4 : decode cX11_packOp 4 = .ok (.iaload, 1) := by decide +kernel
theorem dX11_packOp_5 : decode cX11_packOp 5 = .ok (.ifCond .le 7, 3) := by decide +kernel
theorem dX11_packOp_8 : decode cX11_packOp 8 = .ok (.iload_n 1, 1) := by decide +kernel
theorem dX11_packOp_9 : decode cX11_packOp 9 = .ok (.goto 4, 3) := by decide +kernel
theorem dX11_packOp_12 : decode cX11_packOp 12 = .ok (.iconst 0, 1) := by decide +kernel
theorem dX11_packOp_13 : decode cX11_packOp 13 = .ok (.istore_n 3, 1) := by decide +kernel
theorem dX11_packOp_14 : decode cX11_packOp 14 = .ok (.getstatic 277, 3) := by decide +kernel
theorem dX11_packOp_17 : decode cX11_packOp 17 = .ok (.iload_n 0, 1) := by decide +kernel
theorem dX11_packOp_18 : decode cX11_packOp 18 = .ok (.iaload, 1) := by decide +kernel
theorem dX11_packOp_19 : decode cX11_packOp 19 = .ok (.iconst 1, 1) := by decide +kernel
theorem dX11_packOp_20 : decode cX11_packOp 20 = .ok (.if_icmp .le 7, 3) := by decide +kernel
theorem dX11_packOp_23 : decode cX11_packOp 23 = .ok (.iload_n 2, 1) := by decide +kernel
theorem dX11_packOp_24 : decode cX11_packOp 24 = .ok (.goto 4, 3) := by decide +kernel
theorem dX11_packOp_27 : decode cX11_packOp 27 = .ok (.iconst 0, 1) := by decide +kernel
theorem dX11_packOp_28 : decode cX11_packOp 28 = .ok (.istore 4, 2) := by decide +kernel
theorem dX11_packOp_30 : decode cX11_packOp 30 = .ok (.iload_n 0, 1) := by decide +kernel
theorem dX11_packOp_31 : decode cX11_packOp 31 = .ok (.iconst 1, 1) := by decide +kernel
theorem dX11_packOp_32 : decode cX11_packOp 32 = .ok (.iadd, 1) := by decide +kernel
theorem dX11_packOp_33 : decode cX11_packOp 33 = .ok (.sipush 10000, 3) := by decide +kernel
theorem dX11_packOp_36 : decode cX11_packOp 36 = .ok (.imul, 1) := by decide +kernel
theorem dX11_packOp_37 : decode cX11_packOp 37 = .ok (.iload_n 3, 1) := by decide +kernel
theorem dX11_packOp_38 : decode cX11_packOp 38 = .ok (.bipush 100, 2) := by decide +kernel
theorem dX11_packOp_40 : decode cX11_packOp 40 = .ok (.imul, 1) := by decide +kernel
theorem dX11_packOp_41 : decode cX11_packOp 41 = .ok (.iadd, 1) := by decide +kernel
theorem dX11_packOp_42 : decode cX11_packOp 42 = .ok (.iload 4, 2) := by decide +kernel
theorem dX11_packOp_44 : decode cX11_packOp 44 = .ok (.iadd, 1) := by decide +kernel
theorem dX11_packOp_45 : decode cX11_packOp 45 = .ok (.ireturn, 1) := by decide +kernel
set_option maxRecDepth 20000 in
theorem ggX11_site_X3_keep : GoodIn wsX11_site wsX3_keep := goodIn_r _ [11, 12, 13, 14, 15, 16, 10, 17, 18, 19, 20, 21, 22, 23, 24, 25, 26, 27, 28, 29, 30, 31, 32, 33, 34, 35, 36, 37, 38, 39, 40, 41, 42, 43, 44, 45, 46, 47, 48, 49, 50, 51, 52, 53, 54, 55, 56, 57, 58, 59, 60, 61, 62, 93, 94, 95, 81, 82, 83, 84, 85, 86, 87, 88, 89, 90, 91, 92, 96, 97, 98, 99] (by decide +kernel) (by decide +kernel)
set_option maxRecDepth 20000 in
theorem gX11_site_X3_keep : GoodIn wsX11_site (wsV RX11 235 RX3 yX3_keep wsX3_keep) := goodIn_app (goodIn_of _ (by decide +kernel)) ggX11_site_X3_keep
theorem dX11_site_0 : decode cX11_site 0 = .ok (.iload_n 1, 1) := by decide +kernel
theorem dX11_site_1 : decode cX11_site 1 = .ok (.ifCond .lt 9, 3) := by decide +kernel
theorem dX11_site_4 : decode cX11_site 4 = .ok (.iload_n 1, 1) := by decide +kernel
theorem dX11_site_5 : decode cX11_site 5 = .ok (.bipush 7, 2) := by decide +kernel
theorem dX11_site_7 : decode cX11_site 7 = .ok (.if_icmp .lt 14, 3) := by decide +kernel
theorem dX11_site_10 : decode cX11_site 10 = .ok (.new 155, 3) := by decide +kernel
theorem dX11_site_13 : decode cX11_site 13 = .ok (.dup, 1) := by decide +kernel
theorem dX11_site_14 : decode cX11_site 14 = .ok (.ldc_w 289, 3) := by decide +kernel
theorem dX11_site_17 : decode cX11_site 17 = .ok (.invokespecial 159, 3) := by decide +kernel
theorem dX11_site_20 : decode cX11_site 20 = .ok (.athrow, 1) := by decide +kernel
theorem dX11_site_21 : decode cX11_site 21 = .ok (.aload_n 0, 1) := by decide +kernel
theorem dX11_site_22 : decode cX11_site 22 = .ok (.getfield 23, 3) := by decide +kernel
theorem dX11_site_25 : decode cX11_site 25 = .ok (.getfield 140, 3) := by decide +kernel
theorem dX11_site_28 : decode cX11_site 28 = .ok (.aload_n 0, 1) := by decide +kernel
theorem dX11_site_29 : decode cX11_site 29 = .ok (.getfield 23, 3) := by decide +kernel
theorem dX11_site_32 : decode cX11_site 32 = .ok (.getfield 112, 3) := by decide +kernel
theorem dX11_site_35 : decode cX11_site 35 = .ok (.invokevirtual 235, 3) := by decide +kernel
theorem dX11_site_38 : decode cX11_site 38 = .ok (.aload_n 0, 1) := by decide +kernel
theorem dX11_site_39 : decode cX11_site 39 = .ok (.getfield 23, 3) := by decide +kernel
theorem dX11_site_42 : decode cX11_site 42 = .ok (.getfield 112, 3) := by decide +kernel
theorem dX11_site_45 : decode cX11_site 45 = .ok (.dup, 1) := by decide +kernel
theorem dX11_site_46 : decode cX11_site 46 = .ok (.getfield 121, 3) := by decide +kernel
theorem dX11_site_49 : decode cX11_site 49 = .ok (.iconst 1, 1) := by decide +kernel
theorem dX11_site_50 : decode cX11_site 50 = .ok (.iload_n 1, 1) := by decide +kernel
theorem dX11_site_51 : decode cX11_site 51 = .ok (.ishl, 1) := by decide +kernel
theorem dX11_site_52 : decode cX11_site 52 = .ok (.ixor, 1) := by decide +kernel
theorem dX11_site_53 : decode cX11_site 53 = .ok (.putfield 121, 3) := by decide +kernel
theorem dX11_site_56 : decode cX11_site 56 = .ok (.aload_n 0, 1) := by decide +kernel
theorem dX11_site_57 : decode cX11_site 57 = .ok (.getfield 23, 3) := by decide +kernel
theorem dX11_site_60 : decode cX11_site 60 = .ok (.getfield 112, 3) := by decide +kernel
theorem dX11_site_63 : decode cX11_site 63 = .ok (.getfield 121, 3) := by decide +kernel
theorem dX11_site_66 : decode cX11_site 66 = .ok (.ireturn, 1) := by decide +kernel
set_option maxRecDepth 20000 in
theorem ggX11_undo_X3_giveBack : GoodIn wsX11_undo wsX3_giveBack := goodIn_r _ [9, 10, 11, 12, 13, 8, 14, 15, 16, 17, 18, 19, 20, 21, 22, 23, 24, 25, 26, 27, 28, 29, 30, 31, 32, 33, 34, 35, 36, 37, 38, 39, 40, 41, 42, 43, 44, 45, 46, 47, 48, 49, 50, 51, 52, 53, 54, 55, 56, 57, 58, 59, 60, 79, 80, 81, 82, 83, 84, 85, 86, 87, 88, 89, 90, 91, 92, 93, 94, 95, 96, 97] (by decide +kernel) (by decide +kernel)
set_option maxRecDepth 20000 in
theorem gX11_undo_X3_giveBack : GoodIn wsX11_undo (wsV RX11 291 RX3 yX3_giveBack wsX3_giveBack) := goodIn_app (goodIn_of _ (by decide +kernel)) ggX11_undo_X3_giveBack
theorem dX11_undo_0 : decode cX11_undo 0 = .ok (.aload_n 0, 1) := by decide +kernel
theorem dX11_undo_1 : decode cX11_undo 1 = .ok (.getfield 23, 3) := by decide +kernel
theorem dX11_undo_4 : decode cX11_undo 4 = .ok (.getfield 140, 3) := by decide +kernel
theorem dX11_undo_7 : decode cX11_undo 7 = .ok (.aload_n 0, 1) := by decide +kernel
theorem dX11_undo_8 : decode cX11_undo 8 = .ok (.getfield 23, 3) := by decide +kernel
theorem dX11_undo_11 : decode cX11_undo 11 = .ok (.getfield 112, 3) := by decide +kernel
theorem dX11_undo_14 : decode cX11_undo 14 = .ok (.invokevirtual 291, 3) := by decide +kernel
theorem dX11_undo_17 : decode cX11_undo 17 = .ok (.ifCond .ne 5, 3) := by decide +kernel
theorem dX11_undo_20 : decode cX11_undo 20 = .ok (.iconst (-1), 1) := by decide +kernel
theorem dX11_undo_21 : decode cX11_undo 21 = .ok (.ireturn, 1) := by decide +kernel
theorem dX11_undo_22 : decode cX11_undo 22 = .ok (.aload_n 0, 1) := by decide +kernel
theorem dX11_undo_23 : decode cX11_undo 23 = .ok (.getfield 23, 3) := by decide +kernel
theorem dX11_undo_26 : decode cX11_undo 26 = .ok (.getfield 140, 3) := by decide +kernel
theorem dX11_undo_29 : decode cX11_undo 29 = .ok (.getfield 144, 3) := by decide +kernel
theorem dX11_undo_32 : decode cX11_undo 32 = .ok (.ireturn, 1) := by decide +kernel
set_option maxRecDepth 20000 in
theorem ggX11_recovered_X11_isWord : GoodIn wsX11_recovered wsX11_isWord := goodIn_r _ [14] (by decide +kernel) (by decide +kernel)
set_option maxRecDepth 20000 in
theorem gX11_recovered_X11_isWord : GoodIn wsX11_recovered (va_wsS RX11 160 yX11_isWord wsX11_isWord) := goodIn_app (goodIn_of _ (by decide +kernel)) ggX11_recovered_X11_isWord
set_option maxRecDepth 20000 in
theorem ggX11_recovered_X11_isOrder : GoodIn wsX11_recovered wsX11_isOrder := goodIn_r _ [18, 6, 7, 8, 19, 20, 21, 22, 23, 24, 68, 69, 70, 71, 72, 73, 74, 75, 76, 77, 78, 79, 80, 81, 82, 83, 84, 85, 86, 87, 88, 89, 90, 91, 92, 93, 94, 95, 96, 97, 101, 102, 103, 104] (by decide +kernel) (by decide +kernel)
set_option maxRecDepth 20000 in
theorem gX11_recovered_X11_isOrder : GoodIn wsX11_recovered (wsV RX11 245 RX11 yX11_isOrder wsX11_isOrder) := goodIn_app (goodIn_of _ (by decide +kernel)) ggX11_recovered_X11_isOrder
set_option maxRecDepth 20000 in
theorem ggX11_recovered_X9_open : GoodIn wsX11_recovered wsX9_open := goodIn_r _ [29, 30, 31, 32, 33, 28, 34, 35, 36, 37, 38, 39, 40, 41, 42, 43, 44, 45, 46, 47, 48, 49, 50, 101, 102, 103, 104, 98, 99, 100] (by decide +kernel) (by decide +kernel)
set_option maxRecDepth 20000 in
theorem gX11_recovered_X9_open : GoodIn wsX11_recovered (wsV RX11 248 RX9 yX9_open wsX9_open) := goodIn_app (goodIn_of _ (by decide +kernel)) ggX11_recovered_X9_open
set_option maxRecDepth 20000 in
theorem ggX11_recovered_X9_recoverPicture : GoodIn wsX11_recovered wsX9_recoverPicture := goodIn_r _ [54, 37, 55, 38, 39, 40, 41, 56, 13, 57, 58, 59, 60, 61, 62, 63, 64, 65, 66, 67, 98, 99, 100] (by decide +kernel) (by decide +kernel)
set_option maxRecDepth 20000 in
theorem gX11_recovered_X9_recoverPicture : GoodIn wsX11_recovered (wsV RX11 216 RX9 yX9_recoverPicture wsX9_recoverPicture) := goodIn_app (goodIn_of _ (by decide +kernel)) ggX11_recovered_X9_recoverPicture
theorem dX11_recovered_0 : decode cX11_recovered 0 = .ok (.iload_n 2, 1) := by decide +kernel
theorem dX11_recovered_1 : decode cX11_recovered 1 = .ok (.invokestatic 160, 3) := by decide +kernel
theorem dX11_recovered_4 : decode cX11_recovered 4 = .ok (.ifCond .ne 13, 3) := by decide +kernel
theorem dX11_recovered_7 : decode cX11_recovered 7 = .ok (.new 155, 3) := by decide +kernel
theorem dX11_recovered_10 : decode cX11_recovered 10 = .ok (.dup, 1) := by decide +kernel
theorem dX11_recovered_11 : decode cX11_recovered 11 = .ok (.ldc 164, 2) := by decide +kernel
theorem dX11_recovered_13 : decode cX11_recovered 13 = .ok (.invokespecial 159, 3) := by decide +kernel
theorem dX11_recovered_16 : decode cX11_recovered 16 = .ok (.athrow, 1) := by decide +kernel
theorem dX11_recovered_17 : decode cX11_recovered 17 = .ok (.aload_n 0, 1) := by decide +kernel
theorem dX11_recovered_18 : decode cX11_recovered 18 = .ok (.iload_n 1, 1) := by decide +kernel
theorem dX11_recovered_19 : decode cX11_recovered 19 = .ok (.invokevirtual 245, 3) := by decide +kernel
theorem dX11_recovered_22 : decode cX11_recovered 22 = .ok (.ifCond .ne 14, 3) := by decide +kernel
theorem dX11_recovered_25 : decode cX11_recovered 25 = .ok (.new 87, 3) := by decide +kernel
theorem dX11_recovered_28 : decode cX11_recovered 28 = .ok (.dup, 1) := by decide +kernel
theorem dX11_recovered_29 : decode cX11_recovered 29 = .ok (.ldc_w 295, 3) := by decide +kernel
theorem dX11_recovered_32 : decode cX11_recovered 32 = .ok (.invokespecial 91, 3) := by decide +kernel
theorem dX11_recovered_35 : decode cX11_recovered 35 = .ok (.athrow, 1) := by decide +kernel
theorem dX11_recovered_36 : decode cX11_recovered 36 = .ok (.aload_n 0, 1) := by decide +kernel
theorem dX11_recovered_37 : decode cX11_recovered 37 = .ok (.getfield 44, 3) := by decide +kernel
theorem dX11_recovered_40 : decode cX11_recovered 40 = .ok (.aload_n 0, 1) := by decide +kernel
theorem dX11_recovered_41 : decode cX11_recovered 41 = .ok (.getfield 23, 3) := by decide +kernel
theorem dX11_recovered_44 : decode cX11_recovered 44 = .ok (.getfield 112, 3) := by decide +kernel
theorem dX11_recovered_47 : decode cX11_recovered 47 = .ok (.getfield 131, 3) := by decide +kernel
theorem dX11_recovered_50 : decode cX11_recovered 50 = .ok (.iload_n 1, 1) := by decide +kernel
theorem dX11_recovered_51 : decode cX11_recovered 51 = .ok (.invokevirtual 248, 3) := by decide +kernel
theorem dX11_recovered_54 : decode cX11_recovered 54 = .ok (.aload_n 0, 1) := by decide +kernel
theorem dX11_recovered_55 : decode cX11_recovered 55 = .ok (.getfield 44, 3) := by decide +kernel
theorem dX11_recovered_58 : decode cX11_recovered 58 = .ok (.aload_n 0, 1) := by decide +kernel
theorem dX11_recovered_59 : decode cX11_recovered 59 = .ok (.getfield 23, 3) := by decide +kernel
theorem dX11_recovered_62 : decode cX11_recovered 62 = .ok (.getfield 112, 3) := by decide +kernel
theorem dX11_recovered_65 : decode cX11_recovered 65 = .ok (.getfield 118, 3) := by decide +kernel
theorem dX11_recovered_68 : decode cX11_recovered 68 = .ok (.invokevirtual 216, 3) := by decide +kernel
theorem dX11_recovered_71 : decode cX11_recovered 71 = .ok (.aload_n 0, 1) := by decide +kernel
theorem dX11_recovered_72 : decode cX11_recovered 72 = .ok (.getfield 44, 3) := by decide +kernel
theorem dX11_recovered_75 : decode cX11_recovered 75 = .ok (.getfield 222, 3) := by decide +kernel
theorem dX11_recovered_78 : decode cX11_recovered 78 = .ok (.iload_n 2, 1) := by decide +kernel
theorem dX11_recovered_79 : decode cX11_recovered 79 = .ok (.iaload, 1) := by decide +kernel
theorem dX11_recovered_80 : decode cX11_recovered 80 = .ok (.ireturn, 1) := by decide +kernel
set_option maxRecDepth 20000 in
theorem ggX11_fate_X11_isOrder : GoodIn wsX11_fate wsX11_isOrder := goodIn_r _ [11, 4, 5, 6, 12, 13, 14, 15, 16, 17, 68, 69, 70, 71, 72, 73, 74, 75, 76, 77, 78, 79, 80, 81, 82, 83, 84, 85, 86, 87, 88, 89, 90, 91, 92, 93, 94, 95, 96, 97, 98, 99, 100, 101] (by decide +kernel) (by decide +kernel)
set_option maxRecDepth 20000 in
theorem gX11_fate_X11_isOrder : GoodIn wsX11_fate (wsV RX11 245 RX11 yX11_isOrder wsX11_isOrder) := goodIn_app (goodIn_of _ (by decide +kernel)) ggX11_fate_X11_isOrder
set_option maxRecDepth 20000 in
theorem ggX11_fate_X9_open : GoodIn wsX11_fate wsX9_open := goodIn_r _ [22, 23, 24, 25, 26, 21, 27, 28, 29, 30, 31, 32, 33, 34, 35, 36, 37, 38, 39, 40, 41, 42, 43, 98, 99, 100, 101, 102, 103, 104] (by decide +kernel) (by decide +kernel)
set_option maxRecDepth 20000 in
theorem gX11_fate_X9_open : GoodIn wsX11_fate (wsV RX11 248 RX9 yX9_open wsX9_open) := goodIn_app (goodIn_of _ (by decide +kernel)) ggX11_fate_X9_open
set_option maxRecDepth 20000 in
theorem ggX11_fate_X9_fateBy : GoodIn wsX11_fate wsX9_fateBy := goodIn_r _ [47, 48, 49, 50, 51, 52, 53, 54, 21, 55, 30, 31, 32, 33, 34, 56, 10, 57, 58, 59, 60, 61, 62, 63, 64, 65, 66, 67, 86, 87, 88, 89, 90, 91, 92, 93, 94, 95, 96, 97, 102, 103, 104] (by decide +kernel) (by decide +kernel)
set_option maxRecDepth 20000 in
theorem gX11_fate_X9_fateBy : GoodIn wsX11_fate (wsV RX11 252 RX9 yX9_fateBy wsX9_fateBy) := goodIn_app (goodIn_of _ (by decide +kernel)) ggX11_fate_X9_fateBy
theorem dX11_fate_0 : decode cX11_fate 0 = .ok (.aload_n 0, 1) := by decide +kernel
theorem dX11_fate_1 : decode cX11_fate 1 = .ok (.iload_n 1, 1) := by decide +kernel
theorem dX11_fate_2 : decode cX11_fate 2 = .ok (.invokevirtual 245, 3) := by decide +kernel
theorem dX11_fate_5 : decode cX11_fate 5 = .ok (.ifCond .ne 14, 3) := by decide +kernel
theorem dX11_fate_8 : decode cX11_fate 8 = .ok (.new 87, 3) := by decide +kernel
theorem dX11_fate_11 : decode cX11_fate 11 = .ok (.dup, 1) := by decide +kernel
theorem dX11_fate_12 : decode cX11_fate 12 = .ok (.ldc_w 295, 3) := by decide +kernel
theorem dX11_fate_15 : decode cX11_fate 15 = .ok (.invokespecial 91, 3) := by decide +kernel
theorem dX11_fate_18 : decode cX11_fate 18 = .ok (.athrow, 1) := by decide +kernel
theorem dX11_fate_19 : decode cX11_fate 19 = .ok (.aload_n 0, 1) := by decide +kernel
theorem dX11_fate_20 : decode cX11_fate 20 = .ok (.getfield 44, 3) := by decide +kernel
theorem dX11_fate_23 : decode cX11_fate 23 = .ok (.aload_n 0, 1) := by decide +kernel
theorem dX11_fate_24 : decode cX11_fate 24 = .ok (.getfield 23, 3) := by decide +kernel
theorem dX11_fate_27 : decode cX11_fate 27 = .ok (.getfield 112, 3) := by decide +kernel
theorem dX11_fate_30 : decode cX11_fate 30 = .ok (.getfield 131, 3) := by decide +kernel
theorem dX11_fate_33 : decode cX11_fate 33 = .ok (.iload_n 1, 1) := by decide +kernel
theorem dX11_fate_34 : decode cX11_fate 34 = .ok (.invokevirtual 248, 3) := by decide +kernel
theorem dX11_fate_37 : decode cX11_fate 37 = .ok (.aload_n 0, 1) := by decide +kernel
theorem dX11_fate_38 : decode cX11_fate 38 = .ok (.getfield 44, 3) := by decide +kernel
theorem dX11_fate_41 : decode cX11_fate 41 = .ok (.aload_n 0, 1) := by decide +kernel
theorem dX11_fate_42 : decode cX11_fate 42 = .ok (.getfield 23, 3) := by decide +kernel
theorem dX11_fate_45 : decode cX11_fate 45 = .ok (.getfield 112, 3) := by decide +kernel
theorem dX11_fate_48 : decode cX11_fate 48 = .ok (.invokevirtual 252, 3) := by decide +kernel
theorem dX11_fate_51 : decode cX11_fate 51 = .ok (.ireturn, 1) := by decide +kernel
set_option maxRecDepth 20000 in
theorem ggX11_check_X2_run : GoodIn wsX11_check wsX2_run := goodIn_r _ [15, 16, 17, 18, 19, 20, 21, 22, 23, 24, 25, 26, 27, 28, 29, 30, 31, 32, 33, 34, 35, 36, 37, 38, 39, 40, 41, 42, 43, 44, 45, 46, 47, 48, 49, 50, 51, 52, 53, 54, 55, 56, 57, 58, 59, 60, 61, 62, 63, 64, 65, 66, 67, 68, 69, 70, 71, 72, 73, 74, 75, 76, 77, 78, 79, 80, 81, 82, 83, 84, 85, 86, 87, 88, 89, 90, 91, 92, 93, 94, 95, 96, 97, 98, 99, 100, 101, 102, 103, 104, 105, 106, 107, 108, 109, 110, 111, 112, 14, 113, 114, 115, 116, 117, 118, 119, 120, 121, 122, 123, 124, 125, 126, 127, 128, 129, 130, 131, 132, 133, 134, 135, 136, 137, 138, 139, 140, 141, 142, 143, 144, 145, 146, 147, 148, 149, 150, 151, 152, 153, 154, 155, 156, 157, 158, 159, 160, 161, 162, 163, 164, 165, 166, 167, 168, 169, 170, 171, 172, 173, 174, 175, 176, 177, 178, 179, 180, 181, 182, 183, 184, 185, 186, 187, 188, 189, 190, 191, 192, 193, 194, 195, 196, 197, 198, 199, 200, 201, 202, 203, 204, 205, 206, 207, 208, 209, 210, 211, 212, 213, 214, 215, 216, 217, 218, 219, 220, 221, 222, 223, 224, 225, 226, 227, 228, 229, 230, 231, 232, 233, 234, 235, 236, 237, 238, 239, 240, 241, 242, 243, 244, 245, 246, 247, 248, 249, 250, 251, 252, 253, 254, 255, 256, 257, 258, 259, 260, 261, 262, 293, 294, 295, 296, 297, 298, 299, 281, 282, 283, 284, 285, 286, 287, 288, 289, 290, 291, 292, 300, 301, 302, 303, 304, 305, 306, 307, 308, 309, 310, 311, 312, 313, 314, 315, 316, 317, 318] (by decide +kernel) (by decide +kernel)
set_option maxRecDepth 20000 in
theorem gX11_check_X2_run : GoodIn wsX11_check (wsV RX11 299 RX2 yX2_run wsX2_run) := goodIn_app (goodIn_of _ (by decide +kernel)) ggX11_check_X2_run
theorem dX11_check_0 : decode cX11_check 0 = .ok (.iload_n 1, 1) := by decide +kernel
theorem dX11_check_1 : decode cX11_check 1 = .ok (.ifCond .lt 8, 3) := by decide +kernel
theorem dX11_check_4 : decode cX11_check 4 = .ok (.iload_n 1, 1) := by decide +kernel
theorem dX11_check_5 : decode cX11_check 5 = .ok (.iconst 2, 1) := by decide +kernel
theorem dX11_check_6 : decode cX11_check 6 = .ok (.if_icmp .le 14, 3) := by decide +kernel
theorem dX11_check_9 : decode cX11_check 9 = .ok (.new 155, 3) := by decide +kernel
theorem dX11_check_12 : decode cX11_check 12 = .ok (.dup, 1) := by decide +kernel
theorem dX11_check_13 : decode cX11_check 13 = .ok (.ldc_w 297, 3) := by decide +kernel
theorem dX11_check_16 : decode cX11_check 16 = .ok (.invokespecial 159, 3) := by decide +kernel
theorem dX11_check_19 : decode cX11_check 19 = .ok (.athrow, 1) := by decide +kernel
theorem dX11_check_20 : decode cX11_check 20 = .ok (.aload_n 0, 1) := by decide +kernel
theorem dX11_check_21 : decode cX11_check 21 = .ok (.getfield 65, 3) := by decide +kernel
theorem dX11_check_24 : decode cX11_check 24 = .ok (.aload_n 0, 1) := by decide +kernel
theorem dX11_check_25 : decode cX11_check 25 = .ok (.getfield 23, 3) := by decide +kernel
theorem dX11_check_28 : decode cX11_check 28 = .ok (.getfield 112, 3) := by decide +kernel
theorem dX11_check_31 : decode cX11_check 31 = .ok (.aload_n 0, 1) := by decide +kernel
theorem dX11_check_32 : decode cX11_check 32 = .ok (.getfield 23, 3) := by decide +kernel
theorem dX11_check_35 : decode cX11_check 35 = .ok (.getfield 112, 3) := by decide +kernel
theorem dX11_check_38 : decode cX11_check 38 = .ok (.getfield 121, 3) := by decide +kernel
theorem dX11_check_41 : decode cX11_check 41 = .ok (.iconst 0, 1) := by decide +kernel
theorem dX11_check_42 : decode cX11_check 42 = .ok (.invokevirtual 299, 3) := by decide +kernel
theorem dX11_check_45 : decode cX11_check 45 = .ok (.iload_n 1, 1) := by decide +kernel
theorem dX11_check_46 : decode cX11_check 46 = .ok (.ifCond .ne 26, 3) := by decide +kernel
theorem dX11_check_49 : decode cX11_check 49 = .ok (.aload_n 0, 1) := by decide +kernel
theorem dX11_check_50 : decode cX11_check 50 = .ok (.getfield 65, 3) := by decide +kernel
theorem dX11_check_53 : decode cX11_check 53 = .ok (.getfield 303, 3) := by decide +kernel
theorem dX11_check_56 : decode cX11_check 56 = .ok (.ifCond .eq 8, 3) := by decide +kernel
theorem dX11_check_59 : decode cX11_check 59 = .ok (.bipush (-2), 2) := by decide +kernel
theorem dX11_check_61 : decode cX11_check 61 = .ok (.goto 10, 3) := by decide +kernel
theorem dX11_check_64 : decode cX11_check 64 = .ok (.aload_n 0, 1) := by decide +kernel
theorem dX11_check_65 : decode cX11_check 65 = .ok (.getfield 65, 3) := by decide +kernel
theorem dX11_check_68 : decode cX11_check 68 = .ok (.getfield 306, 3) := by decide +kernel
theorem dX11_check_71 : decode cX11_check 71 = .ok (.ireturn, 1) := by decide +kernel
theorem dX11_check_72 : decode cX11_check 72 = .ok (.aload_n 0, 1) := by decide +kernel
theorem dX11_check_73 : decode cX11_check 73 = .ok (.getfield 65, 3) := by decide +kernel
theorem dX11_check_76 : decode cX11_check 76 = .ok (.getfield 306, 3) := by decide +kernel
theorem dX11_check_79 : decode cX11_check 79 = .ok (.ifCond .ne 20, 3) := by decide +kernel
theorem dX11_check_82 : decode cX11_check 82 = .ok (.aload_n 0, 1) := by decide +kernel
theorem dX11_check_83 : decode cX11_check 83 = .ok (.getfield 65, 3) := by decide +kernel
theorem dX11_check_86 : decode cX11_check 86 = .ok (.getfield 303, 3) := by decide +kernel
theorem dX11_check_89 : decode cX11_check 89 = .ok (.ifCond .eq 8, 3) := by decide +kernel
theorem dX11_check_92 : decode cX11_check 92 = .ok (.bipush (-2), 2) := by decide +kernel
theorem dX11_check_94 : decode cX11_check 94 = .ok (.goto 4, 3) := by decide +kernel
theorem dX11_check_97 : decode cX11_check 97 = .ok (.iconst (-1), 1) := by decide +kernel
theorem dX11_check_98 : decode cX11_check 98 = .ok (.ireturn, 1) := by decide +kernel
theorem dX11_check_99 : decode cX11_check 99 = .ok (.iload_n 1, 1) := by decide +kernel
theorem dX11_check_100 : decode cX11_check 100 = .ok (.iconst 1, 1) := by decide +kernel
theorem dX11_check_101 : decode cX11_check 101 = .ok (.if_icmp .ne 13, 3) := by decide +kernel
theorem dX11_check_104 : decode cX11_check 104 = .ok (.aload_n 0, 1) := by decide +kernel
theorem dX11_check_105 : decode cX11_check 105 = .ok (.getfield 65, 3) := by decide +kernel
theorem dX11_check_108 : decode cX11_check 108 = .ok (.getfield 309, 3) := by decide +kernel
theorem dX11_check_111 : decode cX11_check 111 = .ok (.goto 10, 3) := by decide +kernel
theorem dX11_check_114 : decode cX11_check 114 = .ok (.aload_n 0, 1) := by decide +kernel
theorem dX11_check_115 : decode cX11_check 115 = .ok (.getfield 65, 3) := by decide +kernel
theorem dX11_check_118 : decode cX11_check 118 = .ok (.getfield 312, 3) := by decide +kernel
theorem dX11_check_121 : decode cX11_check 121 = .ok (.ireturn, 1) := by decide +kernel
set_option maxRecDepth 20000 in
theorem ggX11_needless_X4_isReady : GoodIn wsX11_needless wsX4_isReady := goodIn_r _ [10, 11, 12, 13, 14, 15, 16, 17, 9, 18, 19, 20, 21, 22, 23, 24, 25, 26, 27, 28, 29, 30, 31, 32, 33, 34, 35, 36, 37, 38, 39, 40, 41, 42, 43, 44, 45, 46, 47, 48, 49, 50, 51, 52, 53, 54, 55, 56, 57, 58, 59, 60, 61, 62, 63, 64, 65, 66, 67, 68, 69, 70, 71, 72, 73, 74, 75, 76, 77, 78, 79, 80, 81, 82, 83, 284, 285, 286, 287, 288, 289, 290, 291, 292, 293, 294, 295, 296, 297, 298, 299, 300, 301, 302, 303, 304, 305, 306, 307, 308, 309, 310, 311] (by decide +kernel) (by decide +kernel)
set_option maxRecDepth 20000 in
theorem gX11_needless_X4_isReady : GoodIn wsX11_needless (wsV RX11 315 RX4 yX4_isReady wsX4_isReady) := goodIn_app (goodIn_of _ (by decide +kernel)) ggX11_needless_X4_isReady
set_option maxRecDepth 20000 in
theorem ggX11_needless_X2_run : GoodIn wsX11_needless wsX2_run := goodIn_r _ [88, 89, 90, 91, 92, 93, 94, 95, 96, 97, 98, 99, 100, 101, 9, 102, 13, 103, 104, 36, 37, 38, 19, 20, 105, 106, 14, 12, 11, 107, 108, 109, 110, 111, 112, 32, 113, 34, 35, 40, 39, 114, 115, 116, 117, 118, 119, 120, 121, 122, 24, 123, 124, 125, 126, 127, 27, 52, 53, 128, 46, 129, 130, 131, 132, 133, 134, 135, 136, 137, 138, 139, 140, 141, 142, 143, 144, 145, 146, 147, 148, 149, 150, 151, 152, 153, 154, 155, 16, 17, 18, 156, 157, 158, 159, 160, 161, 162, 87, 163, 164, 165, 166, 167, 168, 169, 170, 171, 172, 173, 174, 175, 176, 177, 178, 179, 180, 181, 182, 183, 184, 185, 186, 187, 188, 189, 190, 191, 192, 193, 194, 195, 196, 197, 198, 199, 200, 201, 202, 203, 204, 205, 206, 207, 208, 15, 21, 22, 23, 25, 26, 28, 29, 30, 31, 33, 41, 42, 43, 44, 45, 47, 48, 49, 50, 51, 54, 55, 56, 57, 58, 59, 60, 61, 62, 63, 64, 65, 66, 67, 68, 69, 70, 71, 72, 73, 74, 75, 76, 77, 78, 79, 80, 81, 82, 83, 209, 210, 211, 212, 213, 214, 215, 216, 217, 218, 219, 220, 221, 222, 223, 224, 225, 226, 227, 228, 229, 230, 231, 232, 233, 234, 235, 236, 237, 238, 239, 240, 241, 242, 243, 244, 245, 246, 247, 248, 249, 250, 251, 252, 253, 254, 255, 256, 257, 258, 259, 260, 261, 312, 313, 314, 315, 316, 317, 318, 284, 285, 286, 287, 288, 289, 290, 291, 292, 293, 294, 295, 303, 304, 305, 306, 296, 297, 298, 299, 300, 301, 302, 319, 320, 321, 307, 308, 309, 310, 311] (by decide +kernel) (by decide +kernel)
set_option maxRecDepth 20000 in
theorem gX11_needless_X2_run : GoodIn wsX11_needless (wsV RX11 299 RX2 yX2_run wsX2_run) := goodIn_app (goodIn_of _ (by decide +kernel)) ggX11_needless_X2_run
set_option maxRecDepth 20000 in
theorem ggX11_needless_X2_isSound : GoodIn wsX11_needless wsX2_isSound := goodIn_r _ [265, 91, 94, 312, 313, 314, 315, 316, 317, 318] (by decide +kernel) (by decide +kernel)
set_option maxRecDepth 20000 in
theorem gX11_needless_X2_isSound : GoodIn wsX11_needless (wsV RX11 318 RX2 yX2_isSound wsX2_isSound) := goodIn_app (goodIn_of _ (by decide +kernel)) ggX11_needless_X2_isSound
theorem dX11_needless_0 : decode cX11_needless 0 = .ok (.aload_n 0, 1) := by decide +kernel
theorem dX11_needless_1 : decode cX11_needless 1 = .ok (.getfield 23, 3) := by decide +kernel
theorem dX11_needless_4 : decode cX11_needless 4 = .ok (.getfield 112, 3) := by decide +kernel
theorem dX11_needless_7 : decode cX11_needless 7 = .ok (.astore_n 1, 1) := by decide +kernel
theorem dX11_needless_8 : decode cX11_needless 8 = .ok (.aload_n 1, 1) := by decide +kernel
theorem dX11_needless_9 : decode cX11_needless 9 = .ok (.aload_n 0, 1) := by decide +kernel
theorem dX11_needless_10 : decode cX11_needless 10 = .ok (.getfield 37, 3) := by decide +kernel
theorem dX11_needless_13 : decode cX11_needless 13 = .ok (.invokevirtual 315, 3) := by decide +kernel
theorem dX11_needless_16 : decode cX11_needless 16 = .ok (.ifCond .ne 5, 3) := by decide +kernel
theorem dX11_needless_19 : decode cX11_needless 19 = .ok (.iconst (-1), 1) := by decide +kernel
theorem dX11_needless_20 : decode cX11_needless 20 = .ok (.ireturn, 1) := by decide +kernel
theorem dX11_needless_21 : decode cX11_needless 21 = .ok (.iconst 0, 1) := by decide +kernel
theorem dX11_needless_22 : decode cX11_needless 22 = .ok (.istore_n 2, 1) := by decide +kernel
theorem dX11_needless_23 : decode cX11_needless 23 = .ok (.iconst 0, 1) := by decide +kernel
theorem dX11_needless_24 : decode cX11_needless 24 = .ok (.istore_n 3, 1) := by decide +kernel
theorem dX11_needless_25 : decode cX11_needless 25 = .ok (.iload_n 3, 1) := by decide +kernel
theorem dX11_needless_26 : decode cX11_needless 26 = .ok (.bipush 7, 2) := by decide +kernel
theorem dX11_needless_28 : decode cX11_needless 28 = .ok (.if_icmp .ge 59, 3) := by decide +kernel
theorem dX11_needless_31 : decode cX11_needless 31 = .ok (.aload_n 1, 1) := by decide +kernel
theorem dX11_needless_32 : decode cX11_needless 32 = .ok (.getfield 121, 3) := by decide +kernel
theorem dX11_needless_35 : decode cX11_needless 35 = .ok (.iconst 1, 1) := by decide +kernel
theorem dX11_needless_36 : decode cX11_needless 36 = .ok (.iload_n 3, 1) := by decide +kernel
theorem dX11_needless_37 : decode cX11_needless 37 = .ok (.ishl, 1) := by decide +kernel
theorem dX11_needless_38 : decode cX11_needless 38 = .ok (.ior, 1) := by decide +kernel
theorem dX11_needless_39 : decode cX11_needless 39 = .ok (.istore 4, 2) := by decide +kernel
theorem dX11_needless_41 : decode cX11_needless 41 = .ok (.iload 4, 2) := by decide +kernel
theorem dX11_needless_43 : decode cX11_needless 43 = .ok (.aload_n 1, 1) := by decide +kernel
theorem dX11_needless_44 : decode cX11_needless 44 = .ok (.getfield 121, 3) := by decide +kernel
theorem dX11_needless_47 : decode cX11_needless 47 = .ok (.if_icmp .eq 34, 3) := by decide +kernel
theorem dX11_needless_50 : decode cX11_needless 50 = .ok (.aload_n 0, 1) := by decide +kernel
theorem dX11_needless_51 : decode cX11_needless 51 = .ok (.getfield 65, 3) := by decide +kernel
theorem dX11_needless_54 : decode cX11_needless 54 = .ok (.aload_n 1, 1) := by decide +kernel
theorem dX11_needless_55 : decode cX11_needless 55 = .ok (.iload 4, 2) := by decide +kernel
theorem dX11_needless_57 : decode cX11_needless 57 = .ok (.iconst 1, 1) := by decide +kernel
theorem dX11_needless_58 : decode cX11_needless 58 = .ok (.invokevirtual 299, 3) := by decide +kernel
theorem dX11_needless_61 : decode cX11_needless 61 = .ok (.iload_n 2, 1) := by decide +kernel
theorem dX11_needless_62 : decode cX11_needless 62 = .ok (.aload_n 0, 1) := by decide +kernel
theorem dX11_needless_63 : decode cX11_needless 63 = .ok (.getfield 65, 3) := by decide +kernel
theorem dX11_needless_66 : decode cX11_needless 66 = .ok (.invokevirtual 318, 3) := by decide +kernel
theorem dX11_needless_69 : decode cX11_needless 69 = .ok (.ifCond .eq 9, 3) := by decide +kernel
theorem dX11_needless_72 : decode cX11_needless 72 = .ok (.iconst 1, 1) := by decide +kernel
theorem dX11_needless_73 : decode cX11_needless 73 = .ok (.iload_n 3, 1) := by decide +kernel
theorem dX11_needless_74 : decode cX11_needless 74 = .ok (.ishl, 1) := by decide +kernel
theorem dX11_needless_75 : decode cX11_needless 75 = .ok (.goto 4, 3) := by decide +kernel
theorem dX11_needless_78 : decode cX11_needless 78 = .ok (.iconst 0, 1) := by decide +kernel
theorem dX11_needless_79 : decode cX11_needless 79 = .ok (.ior, 1) := by decide +kernel
theorem dX11_needless_80 : decode cX11_needless 80 = .ok (.istore_n 2, 1) := by decide +kernel
theorem dX11_needless_81 : decode cX11_needless 81 = .ok (.iinc 3 1, 3) := by decide +kernel
theorem dX11_needless_84 : decode cX11_needless 84 = .ok (.goto (-59), 3) := by decide +kernel
theorem dX11_needless_87 : decode cX11_needless 87 = .ok (.iload_n 2, 1) := by decide +kernel
theorem dX11_needless_88 : decode cX11_needless 88 = .ok (.ireturn, 1) := by decide +kernel
set_option maxRecDepth 20000 in
theorem ggX11_least_X4_isReady : GoodIn wsX11_least wsX4_isReady := goodIn_r _ [12, 13, 14, 15, 16, 17, 18, 19, 11, 20, 21, 22, 23, 24, 25, 26, 27, 28, 29, 30, 31, 32, 33, 34, 35, 36, 37, 38, 39, 40, 41, 42, 43, 44, 45, 46, 47, 48, 49, 50, 51, 52, 53, 54, 55, 56, 57, 58, 59, 60, 61, 62, 63, 64, 65, 66, 67, 68, 69, 70, 71, 72, 73, 74, 75, 76, 77, 78, 79, 80, 81, 82, 83, 84, 85, 293, 294, 295, 296, 297, 298, 299, 300, 301, 302, 303, 304, 305, 306, 307, 308, 309, 310, 311, 312, 313, 314, 315, 316, 317, 318, 319, 320] (by decide +kernel) (by decide +kernel)
set_option maxRecDepth 20000 in
theorem gX11_least_X4_isReady : GoodIn wsX11_least (wsV RX11 315 RX4 yX4_isReady wsX4_isReady) := goodIn_app (goodIn_of _ (by decide +kernel)) ggX11_least_X4_isReady
set_option maxRecDepth 20000 in
theorem ggX11_least_J6_bitCount_0f7a4 : GoodIn wsX11_least wsJ6_bitCount_0f7a4 := goodIn_r _ [89, 90, 91, 92] (by decide +kernel) (by decide +kernel)
set_option maxRecDepth 20000 in
theorem gX11_least_J6_bitCount_0f7a4 : GoodIn wsX11_least (va_wsS RX11 324 yJ6_bitCount_0f7a4 wsJ6_bitCount_0f7a4) := goodIn_app (goodIn_of _ (by decide +kernel)) ggX11_least_J6_bitCount_0f7a4
set_option maxRecDepth 20000 in
theorem ggX11_least_X2_run : GoodIn wsX11_least wsX2_run := goodIn_r _ [97, 98, 99, 100, 101, 102, 103, 104, 105, 106, 107, 108, 109, 110, 11, 111, 15, 112, 113, 38, 39, 40, 21, 22, 114, 115, 16, 14, 13, 116, 117, 118, 119, 120, 121, 34, 122, 36, 37, 42, 41, 123, 124, 125, 126, 127, 128, 129, 130, 131, 26, 132, 133, 134, 135, 136, 29, 54, 55, 137, 48, 138, 139, 140, 141, 142, 143, 144, 145, 146, 147, 148, 149, 150, 151, 152, 153, 154, 155, 156, 157, 158, 159, 160, 161, 162, 163, 164, 18, 19, 20, 165, 166, 167, 168, 169, 170, 171, 96, 172, 173, 174, 175, 176, 177, 178, 179, 180, 181, 182, 183, 184, 185, 186, 187, 188, 189, 190, 191, 192, 193, 194, 195, 196, 197, 198, 199, 200, 201, 202, 203, 204, 205, 206, 207, 208, 209, 210, 211, 212, 213, 214, 215, 216, 217, 17, 23, 24, 25, 27, 28, 30, 31, 32, 33, 35, 43, 44, 45, 46, 47, 49, 50, 51, 52, 53, 56, 57, 58, 59, 60, 61, 62, 63, 64, 65, 66, 67, 68, 69, 70, 71, 72, 73, 74, 75, 76, 77, 78, 79, 80, 81, 82, 83, 84, 85, 218, 219, 220, 221, 222, 223, 224, 225, 226, 227, 228, 229, 230, 231, 232, 233, 234, 235, 236, 237, 238, 239, 240, 241, 242, 243, 244, 245, 246, 247, 248, 249, 250, 251, 252, 253, 254, 255, 256, 257, 258, 259, 260, 261, 262, 263, 264, 265, 266, 267, 268, 269, 270, 321, 322, 323, 324, 325, 326, 327, 293, 294, 295, 296, 297, 298, 299, 300, 301, 302, 303, 304, 312, 313, 314, 315, 305, 306, 307, 308, 309, 310, 311, 328, 329, 330, 316, 317, 318, 319, 320] (by decide +kernel) (by decide +kernel)
set_option maxRecDepth 20000 in
theorem gX11_least_X2_run : GoodIn wsX11_least (wsV RX11 299 RX2 yX2_run wsX2_run) := goodIn_app (goodIn_of _ (by decide +kernel)) ggX11_least_X2_run
set_option maxRecDepth 20000 in
theorem ggX11_least_X2_isSound : GoodIn wsX11_least wsX2_isSound := goodIn_r _ [274, 100, 103, 321, 322, 323, 324, 325, 326, 327] (by decide +kernel) (by decide +kernel)
set_option maxRecDepth 20000 in
theorem gX11_least_X2_isSound : GoodIn wsX11_least (wsV RX11 318 RX2 yX2_isSound wsX2_isSound) := goodIn_app (goodIn_of _ (by decide +kernel)) ggX11_least_X2_isSound
theorem dX11_least_0 : decode cX11_least 0 = .ok (.iload_n 1, 1) := by decide +kernel
theorem dX11_least_1 : decode cX11_least 1 = .ok (.ifCond .lt 8, 3) := by decide +kernel
theorem dX11_least_4 : decode cX11_least 4 = .ok (.iload_n 1, 1) := by decide +kernel
theorem dX11_least_5 : decode cX11_least 5 = .ok (.iconst 1, 1) := by decide +kernel
theorem dX11_least_6 : decode cX11_least 6 = .ok (.if_icmp .le 14, 3) := by decide +kernel
theorem dX11_least_9 : decode cX11_least 9 = .ok (.new 155, 3) := by decide +kernel
theorem dX11_least_12 : decode cX11_least 12 = .ok (.dup, 1) := by decide +kernel
theorem dX11_least_13 : decode cX11_least 13 = .ok (.ldc_w 322, 3) := by decide +kernel
theorem dX11_least_16 : decode cX11_least 16 = .ok (.invokespecial 159, 3) := by decide +kernel
theorem dX11_least_19 : decode cX11_least 19 = .ok (.athrow, 1) := by decide +kernel
theorem dX11_least_20 : decode cX11_least 20 = .ok (.aload_n 0, 1) := by decide +kernel
theorem dX11_least_21 : decode cX11_least 21 = .ok (.getfield 23, 3) := by decide +kernel
theorem dX11_least_24 : decode cX11_least 24 = .ok (.getfield 112, 3) := by decide +kernel
theorem dX11_least_27 : decode cX11_least 27 = .ok (.astore_n 2, 1) := by decide +kernel
theorem dX11_least_28 : decode cX11_least 28 = .ok (.aload_n 2, 1) := by decide +kernel
theorem dX11_least_29 : decode cX11_least 29 = .ok (.aload_n 0, 1) := by decide +kernel
theorem dX11_least_30 : decode cX11_least 30 = .ok (.getfield 37, 3) := by decide +kernel
theorem dX11_least_33 : decode cX11_least 33 = .ok (.invokevirtual 315, 3) := by decide +kernel
theorem dX11_least_36 : decode cX11_least 36 = .ok (.ifCond .ne 5, 3) := by decide +kernel
theorem dX11_least_39 : decode cX11_least 39 = .ok (.iconst (-1), 1) := by decide +kernel
theorem dX11_least_40 : decode cX11_least 40 = .ok (.ireturn, 1) := by decide +kernel
theorem dX11_least_41 : decode cX11_least 41 = .ok (.aload_n 2, 1) := by decide +kernel
theorem dX11_least_42 : decode cX11_least 42 = .ok (.getfield 121, 3) := by decide +kernel
theorem dX11_least_45 : decode cX11_least 45 = .ok (.bipush (-16), 2) := by decide +kernel
theorem dX11_least_47 : decode cX11_least 47 = .ok (.iand, 1) := by decide +kernel
theorem dX11_least_48 : decode cX11_least 48 = .ok (.istore_n 3, 1) := by decide +kernel
theorem dX11_least_49 : decode cX11_least 49 = .ok (.iconst 0, 1) := by decide +kernel
theorem dX11_least_50 : decode cX11_least 50 = .ok (.istore 4, 2) := by decide +kernel
theorem dX11_least_52 : decode cX11_least 52 = .ok (.iload 4, 2) := by decide +kernel
theorem dX11_least_54 : decode cX11_least 54 = .ok (.bipush 15, 2) := by decide +kernel
theorem dX11_least_56 : decode cX11_least 56 = .ok (.invokestatic 324, 3) := by decide +kernel
theorem dX11_least_59 : decode cX11_least 59 = .ok (.if_icmp .gt 75, 3) := by decide +kernel
theorem dX11_least_62 : decode cX11_least 62 = .ok (.iconst 0, 1) := by decide +kernel
theorem dX11_least_63 : decode cX11_least 63 = .ok (.istore 5, 2) := by decide +kernel
theorem dX11_least_65 : decode cX11_least 65 = .ok (.iload 5, 2) := by decide +kernel
theorem dX11_least_67 : decode cX11_least 67 = .ok (.bipush 15, 2) := by decide +kernel
theorem dX11_least_69 : decode cX11_least 69 = .ok (.if_icmp .gt 59, 3) := by decide +kernel
theorem dX11_least_72 : decode cX11_least 72 = .ok (.iload 5, 2) := by decide +kernel
theorem dX11_least_74 : decode cX11_least 74 = .ok (.invokestatic 324, 3) := by decide +kernel
theorem dX11_least_77 : decode cX11_least 77 = .ok (.iload 4, 2) := by decide +kernel
theorem dX11_least_79 : decode cX11_least 79 = .ok (.if_icmp .ne 43, 3) := by decide +kernel
theorem dX11_least_82 : decode cX11_least 82 = .ok (.aload_n 0, 1) := by decide +kernel
theorem dX11_least_83 : decode cX11_least 83 = .ok (.getfield 65, 3) := by decide +kernel
theorem dX11_least_86 : decode cX11_least 86 = .ok (.aload_n 2, 1) := by decide +kernel
theorem dX11_least_87 : decode cX11_least 87 = .ok (.iload_n 3, 1) := by decide +kernel
theorem dX11_least_88 : decode cX11_least 88 = .ok (.bipush 15, 2) := by decide +kernel
theorem dX11_least_90 : decode cX11_least 90 = .ok (.iload 5, 2) := by decide +kernel
theorem dX11_least_92 : decode cX11_least 92 = .ok (.iconst (-1), 1) := by decide +kernel
theorem dX11_least_93 : decode cX11_least 93 = .ok (.ixor, 1) := by decide +kernel
theorem dX11_least_94 : decode cX11_least 94 = .ok (.iand, 1) := by decide +kernel
theorem dX11_least_95 : decode cX11_least 95 = .ok (.ior, 1) := by decide +kernel
theorem dX11_least_96 : decode cX11_least 96 = .ok (.iconst 1, 1) := by decide +kernel
theorem dX11_least_97 : decode cX11_least 97 = .ok (.invokevirtual 299, 3) := by decide +kernel
theorem dX11_least_100 : decode cX11_least 100 = .ok (.aload_n 0, 1) := by decide +kernel
theorem dX11_least_101 : decode cX11_least 101 = .ok (.getfield 65, 3) := by decide +kernel
theorem dX11_least_104 : decode cX11_least 104 = .ok (.invokevirtual 318, 3) := by decide +kernel
theorem dX11_least_107 : decode cX11_least 107 = .ok (.ifCond .eq 15, 3) := by decide +kernel
theorem dX11_least_110 : decode cX11_least 110 = .ok (.iload_n 1, 1) := by decide +kernel
theorem dX11_least_111 : decode cX11_least 111 = .ok (.ifCond .ne 8, 3) := by decide +kernel
theorem dX11_least_114 : decode cX11_least 114 = .ok (.iload 5, 2) := by decide +kernel
theorem dX11_least_116 : decode cX11_least 116 = .ok (.goto 5, 3) := by decide +kernel
theorem dX11_least_119 : decode cX11_least 119 = .ok (.iload 4, 2) := by decide +kernel
theorem dX11_least_121 : decode cX11_least 121 = .ok (.ireturn, 1) := by decide +kernel
theorem dX11_least_122 : decode cX11_least 122 = .ok (.iinc 5 1, 3) := by decide +kernel
theorem dX11_least_125 : decode cX11_least 125 = .ok (.goto (-60), 3) := by decide +kernel
theorem dX11_least_128 : decode cX11_least 128 = .ok (.iinc 4 1, 3) := by decide +kernel
theorem dX11_least_131 : decode cX11_least 131 = .ok (.goto (-79), 3) := by decide +kernel
theorem dX11_least_134 : decode cX11_least 134 = .ok (.iconst (-1), 1) := by decide +kernel
theorem dX11_least_135 : decode cX11_least 135 = .ok (.ireturn, 1) := by decide +kernel
set_option maxRecDepth 20000 in
theorem ggX11_chance_X1_orderTotal : GoodIn wsX11_chance wsX1_orderTotal := goodIn_r _ [12, 13, 101, 102, 103, 104] (by decide +kernel) (by decide +kernel)
set_option maxRecDepth 20000 in
theorem gX11_chance_X1_orderTotal : GoodIn wsX11_chance (wsV RX11 197 RX1 yX1_orderTotal wsX1_orderTotal) := goodIn_app (goodIn_of _ (by decide +kernel)) ggX11_chance_X1_orderTotal
set_option maxRecDepth 20000 in
theorem ggX11_chance_X9_start : GoodIn wsX11_chance wsX9_start := goodIn_r _ [18, 19, 20, 21, 22, 23, 24, 25, 26, 27, 28, 29, 105, 106, 107, 101, 102, 103, 104] (by decide +kernel) (by decide +kernel)
set_option maxRecDepth 20000 in
theorem gX11_chance_X9_start : GoodIn wsX11_chance (wsV RX11 213 RX9 yX9_start wsX9_start) := goodIn_app (goodIn_of _ (by decide +kernel)) ggX11_chance_X9_start
set_option maxRecDepth 20000 in
theorem ggX11_chance_X9_fateBy : GoodIn wsX11_chance wsX9_fateBy := goodIn_r _ [33, 34, 35, 36, 37, 38, 39, 40, 17, 41, 21, 22, 23, 24, 25, 42, 43, 44, 45, 46, 47, 48, 49, 50, 51, 52, 53, 54, 89, 90, 91, 92, 93, 94, 95, 96, 97, 98, 99, 100, 105, 106, 107] (by decide +kernel) (by decide +kernel)
set_option maxRecDepth 20000 in
theorem gX11_chance_X9_fateBy : GoodIn wsX11_chance (wsV RX11 252 RX9 yX9_fateBy wsX9_fateBy) := goodIn_app (goodIn_of _ (by decide +kernel)) ggX11_chance_X9_fateBy
set_option maxRecDepth 20000 in
theorem ggX11_chance_X9_goOn : GoodIn wsX11_chance wsX9_goOn := goodIn_r _ [58, 19, 59, 20, 21, 22, 23, 24, 25, 60, 61, 62, 17, 63, 64, 105, 106, 107, 101, 102, 103, 104] (by decide +kernel) (by decide +kernel)
set_option maxRecDepth 20000 in
theorem gX11_chance_X9_goOn : GoodIn wsX11_chance (wsV RX11 333 RX9 yX9_goOn wsX9_goOn) := goodIn_app (goodIn_of _ (by decide +kernel)) ggX11_chance_X9_goOn
set_option maxRecDepth 20000 in
theorem ggX11_chance_X11_commonDivisor : GoodIn wsX11_chance wsX11_commonDivisor := goodIn_r _ [67, 68, 69, 47, 70] (by decide +kernel) (by decide +kernel)
set_option maxRecDepth 20000 in
theorem gX11_chance_X11_commonDivisor : GoodIn wsX11_chance (va_wsS RX11 336 yX11_commonDivisor wsX11_commonDivisor) := goodIn_app (goodIn_of _ (by decide +kernel)) ggX11_chance_X11_commonDivisor
theorem dX11_chance_0 : decode cX11_chance 0 = .ok (.iload_n 1, 1) := by decide +kernel
theorem dX11_chance_1 : decode cX11_chance 1 = .ok (.ifCond .lt 8, 3) := by decide +kernel
theorem dX11_chance_4 : decode cX11_chance 4 = .ok (.iload_n 1, 1) := by decide +kernel
theorem dX11_chance_5 : decode cX11_chance 5 = .ok (.iconst 1, 1) := by decide +kernel
theorem dX11_chance_6 : decode cX11_chance 6 = .ok (.if_icmp .le 14, 3) := by decide +kernel
theorem dX11_chance_9 : decode cX11_chance 9 = .ok (.new 155, 3) := by decide +kernel
theorem dX11_chance_12 : decode cX11_chance 12 = .ok (.dup, 1) := by decide +kernel
theorem dX11_chance_13 : decode cX11_chance 13 = .ok (.ldc_w 329, 3) := by decide +kernel
theorem dX11_chance_16 : decode cX11_chance 16 = .ok (.invokespecial 159, 3) := by decide +kernel
theorem dX11_chance_19 : decode cX11_chance 19 = .ok (.athrow, 1) := by decide +kernel
theorem dX11_chance_20 : decode cX11_chance 20 = .ok (.aload_n 0, 1) := by decide +kernel
theorem dX11_chance_21 : decode cX11_chance 21 = .ok (.getfield 23, 3) := by decide +kernel
theorem dX11_chance_24 : decode cX11_chance 24 = .ok (.getfield 112, 3) := by decide +kernel
theorem dX11_chance_27 : decode cX11_chance 27 = .ok (.astore_n 2, 1) := by decide +kernel
theorem dX11_chance_28 : decode cX11_chance 28 = .ok (.aload_n 2, 1) := by decide +kernel
theorem dX11_chance_29 : decode cX11_chance 29 = .ok (.getfield 131, 3) := by decide +kernel
theorem dX11_chance_32 : decode cX11_chance 32 = .ok (.invokevirtual 197, 3) := by decide +kernel
theorem dX11_chance_35 : decode cX11_chance 35 = .ok (.ldc2_w 331, 3) := by decide +kernel
theorem dX11_chance_38 : decode cX11_chance 38 = .ok (.lcmp, 1) := by decide +kernel
theorem dX11_chance_39 : decode cX11_chance 39 = .ok (.ifCond .le 5, 3) := by decide +kernel
theorem dX11_chance_42 : decode cX11_chance 42 = .ok (.iconst (-1), 1) := by decide +kernel
theorem dX11_chance_43 : decode cX11_chance 43 = .ok (.ireturn, 1) := by decide +kernel
theorem dX11_chance_44 : decode cX11_chance 44 = .ok (.aload_n 2, 1) := by decide +kernel
theorem dX11_chance_45 : decode cX11_chance 45 = .ok (.getfield 131, 3) := by decide +kernel
theorem dX11_chance_48 : decode cX11_chance 48 = .ok (.invokevirtual 197, 3) := by decide +kernel
theorem dX11_chance_51 : decode cX11_chance 51 = .ok (.l2i, 1) := by decide +kernel
theorem dX11_chance_52 : decode cX11_chance 52 = .ok (.istore_n 3, 1) := by decide +kernel
theorem dX11_chance_53 : decode cX11_chance 53 = .ok (.iconst 0, 1) := by decide +kernel
theorem dX11_chance_54 : decode cX11_chance 54 = .ok (.istore 4, 2) := by decide +kernel
theorem dX11_chance_56 : decode cX11_chance 56 = .ok (.aload_n 0, 1) := by decide +kernel
theorem dX11_chance_57 : decode cX11_chance 57 = .ok (.getfield 44, 3) := by decide +kernel
theorem dX11_chance_60 : decode cX11_chance 60 = .ok (.aload_n 2, 1) := by decide +kernel
theorem dX11_chance_61 : decode cX11_chance 61 = .ok (.getfield 131, 3) := by decide +kernel
theorem dX11_chance_64 : decode cX11_chance 64 = .ok (.invokevirtual 213, 3) := by decide +kernel
theorem dX11_chance_67 : decode cX11_chance 67 = .ok (.iconst 0, 1) := by decide +kernel
theorem dX11_chance_68 : decode cX11_chance 68 = .ok (.istore 5, 2) := by decide +kernel
theorem dX11_chance_70 : decode cX11_chance 70 = .ok (.iload 5, 2) := by decide +kernel
theorem dX11_chance_72 : decode cX11_chance 72 = .ok (.iload_n 3, 1) := by decide +kernel
theorem dX11_chance_73 : decode cX11_chance 73 = .ok (.if_icmp .ge 52, 3) := by decide +kernel
theorem dX11_chance_76 : decode cX11_chance 76 = .ok (.aload_n 0, 1) := by decide +kernel
theorem dX11_chance_77 : decode cX11_chance 77 = .ok (.getfield 44, 3) := by decide +kernel
theorem dX11_chance_80 : decode cX11_chance 80 = .ok (.aload_n 2, 1) := by decide +kernel
theorem dX11_chance_81 : decode cX11_chance 81 = .ok (.invokevirtual 252, 3) := by decide +kernel
theorem dX11_chance_84 : decode cX11_chance 84 = .ok (.istore 6, 2) := by decide +kernel
theorem dX11_chance_86 : decode cX11_chance 86 = .ok (.iload 4, 2) := by decide +kernel
theorem dX11_chance_88 : decode cX11_chance 88 = .ok (.iload 6, 2) := by decide +kernel
theorem dX11_chance_90 : decode cX11_chance 90 = .ok (.iconst 1, 1) := by decide +kernel
theorem dX11_chance_91 : decode cX11_chance 91 = .ok (.if_icmp .eq 9, 3) := by decide +kernel
theorem dX11_chance_94 : decode cX11_chance 94 = .ok (.iload 6, 2) := by decide +kernel
theorem dX11_chance_96 : decode cX11_chance 96 = .ok (.iconst 2, 1) := by decide +kernel
theorem dX11_chance_97 : decode cX11_chance 97 = .ok (.if_icmp .ne 7, 3) := by decide +kernel
theorem dX11_chance_100 : decode cX11_chance 100 = .ok (.iconst 1, 1) := by decide +kernel
theorem dX11_chance_101 : decode cX11_chance 101 = .ok (.goto 4, 3) := by decide +kernel
theorem dX11_chance_104 : decode cX11_chance 104 = .ok (.iconst 0, 1) := by decide +kernel
theorem dX11_chance_105 : decode cX11_chance 105 = .ok (.iadd, 1) := by decide +kernel
theorem dX11_chance_106 : decode cX11_chance 106 = .ok (.istore 4, 2) := by decide +kernel
theorem dX11_chance_108 : decode cX11_chance 108 = .ok (.aload_n 0, 1) := by decide +kernel
theorem dX11_chance_109 : decode cX11_chance 109 = .ok (.getfield 44, 3) := by decide +kernel
theorem dX11_chance_112 : decode cX11_chance 112 = .ok (.aload_n 2, 1) := by decide +kernel
theorem dX11_chance_113 : decode cX11_chance 113 = .ok (.getfield 131, 3) := by decide +kernel
theorem dX11_chance_116 : decode cX11_chance 116 = .ok (.invokevirtual 333, 3) := by decide +kernel
theorem dX11_chance_119 : decode cX11_chance 119 = .ok (.iinc 5 1, 3) := by decide +kernel
theorem dX11_chance_122 : decode cX11_chance 122 = .ok (.goto (-52), 3) := by decide +kernel
theorem dX11_chance_125 : decode cX11_chance 125 = .ok (.iload_n 3, 1) := by decide +kernel
theorem dX11_chance_126 : decode cX11_chance 126 = .ok (.iload 4, 2) := by decide +kernel
theorem dX11_chance_128 : decode cX11_chance 128 = .ok (.invokestatic 336, 3) := by decide +kernel
theorem dX11_chance_131 : decode cX11_chance 131 = .ok (.istore 5, 2) := by decide +kernel
theorem dX11_chance_133 : decode cX11_chance 133 = .ok (.iload_n 1, 1) := by decide +kernel
theorem dX11_chance_134 : decode cX11_chance 134 = .ok (.ifCond .ne 8, 3) := by decide +kernel
theorem dX11_chance_137 : decode cX11_chance 137 = .ok (.iload 4, 2) := by decide +kernel
theorem dX11_chance_139 : decode cX11_chance 139 = .ok (.goto 4, 3) := by decide +kernel
theorem dX11_chance_142 : decode cX11_chance 142 = .ok (.iload_n 3, 1) := by decide +kernel
theorem dX11_chance_143 : decode cX11_chance 143 = .ok (.iload 5, 2) := by decide +kernel
theorem dX11_chance_145 : decode cX11_chance 145 = .ok (.idiv, 1) := by decide +kernel
theorem dX11_chance_146 : decode cX11_chance 146 = .ok (.ireturn, 1) := by decide +kernel
theorem dX11_commonDivisor_0 : decode cX11_commonDivisor 0 = .ok (.iload_n 0, 1) := by decide +kernel
theorem dX11_commonDivisor_1 : decode cX11_commonDivisor 1 = .ok (.istore_n 2, 1) := by decide +kernel
theorem dX11_commonDivisor_2 : decode cX11_commonDivisor 2 = .ok (.iload_n 1, 1) := by decide +kernel
theorem dX11_commonDivisor_3 : decode cX11_commonDivisor 3 = .ok (.istore_n 3, 1) := by decide +kernel
theorem dX11_commonDivisor_4 : decode cX11_commonDivisor 4 = .ok (.iconst 0, 1) := by decide +kernel
theorem dX11_commonDivisor_5 : decode cX11_commonDivisor 5 = .ok (.istore 4, 2) := by decide +kernel
theorem dX11_commonDivisor_7 : decode cX11_commonDivisor 7 = .ok (.iload 4, 2) := by decide +kernel
theorem dX11_commonDivisor_9 : decode cX11_commonDivisor 9 = .ok (.sipush 2000, 3) := by decide +kernel
theorem dX11_commonDivisor_12 : decode cX11_commonDivisor 12 = .ok (.if_icmp .ge 23, 3) := by decide +kernel
theorem dX11_commonDivisor_15 : decode cX11_commonDivisor 15 = .ok (.iload_n 3, 1) := by decide +kernel
theorem dX11_commonDivisor_16 : decode cX11_commonDivisor 16 = .ok (.ifCond .le 19, 3) := by decide +kernel
theorem dX11_commonDivisor_19 : decode cX11_commonDivisor 19 = .ok (.iload_n 2, 1) := by decide +kernel
theorem dX11_commonDivisor_20 : decode cX11_commonDivisor 20 = .ok (.iload_n 3, 1) := by decide +kernel
theorem dX11_commonDivisor_21 : decode cX11_commonDivisor 21 = .ok (.irem, 1) := by decide +kernel
theorem dX11_commonDivisor_22 : decode cX11_commonDivisor 22 = .ok (.istore 5, 2) := by decide +kernel
theorem dX11_commonDivisor_24 : decode cX11_commonDivisor 24 = .ok (.iload_n 3, 1) := by decide +kernel
theorem dX11_commonDivisor_25 : decode cX11_commonDivisor 25 = .ok (.istore_n 2, 1) := by decide +kernel
theorem dX11_commonDivisor_26 : decode cX11_commonDivisor 26 = .ok (.iload 5, 2) := by decide +kernel
theorem dX11_commonDivisor_28 : decode cX11_commonDivisor 28 = .ok (.istore_n 3, 1) := by decide +kernel
theorem dX11_commonDivisor_29 : decode cX11_commonDivisor 29 = .ok (.iinc 4 1, 3) := by decide +kernel
theorem dX11_commonDivisor_32 : decode cX11_commonDivisor 32 = .ok (.goto (-25), 3) := by decide +kernel
theorem dX11_commonDivisor_35 : decode cX11_commonDivisor 35 = .ok (.iload_n 2, 1) := by decide +kernel
theorem dX11_commonDivisor_36 : decode cX11_commonDivisor 36 = .ok (.iconst 1, 1) := by decide +kernel
theorem dX11_commonDivisor_37 : decode cX11_commonDivisor 37 = .ok (.invokestatic 340, 3) := by decide +kernel
theorem dX11_commonDivisor_40 : decode cX11_commonDivisor 40 = .ok (.ireturn, 1) := by decide +kernel
set_option maxRecDepth 20000 in
theorem ggX11_see_X11_isWord : GoodIn wsX11_see wsX11_isWord := goodIn_r _ [8] (by decide +kernel) (by decide +kernel)
set_option maxRecDepth 20000 in
theorem gX11_see_X11_isWord : GoodIn wsX11_see (va_wsS RX11 160 yX11_isWord wsX11_isWord) := goodIn_app (goodIn_of _ (by decide +kernel)) ggX11_see_X11_isWord
theorem dX11_see_0 : decode cX11_see 0 = .ok (.aload_n 0, 1) := by decide +kernel
theorem dX11_see_1 : decode cX11_see 1 = .ok (.getfield 23, 3) := by decide +kernel
theorem dX11_see_4 : decode cX11_see 4 = .ok (.getfield 149, 3) := by decide +kernel
theorem dX11_see_7 : decode cX11_see 7 = .ok (.bipush 8, 2) := by decide +kernel
theorem dX11_see_9 : decode cX11_see 9 = .ok (.if_icmp .ge 21, 3) := by decide +kernel
theorem dX11_see_12 : decode cX11_see 12 = .ok (.iload_n 1, 1) := by decide +kernel
theorem dX11_see_13 : decode cX11_see 13 = .ok (.invokestatic 160, 3) := by decide +kernel
theorem dX11_see_16 : decode cX11_see 16 = .ok (.ifCond .eq 14, 3) := by decide +kernel
theorem dX11_see_19 : decode cX11_see 19 = .ok (.iload_n 2, 1) := by decide +kernel
theorem dX11_see_20 : decode cX11_see 20 = .ok (.ifCond .lt 10, 3) := by decide +kernel
theorem dX11_see_23 : decode cX11_see 23 = .ok (.iload_n 2, 1) := by decide +kernel
theorem dX11_see_24 : decode cX11_see 24 = .ok (.sipush 999, 3) := by decide +kernel
theorem dX11_see_27 : decode cX11_see 27 = .ok (.if_icmp .le 18, 3) := by decide +kernel
theorem dX11_see_30 : decode cX11_see 30 = .ok (.aload_n 0, 1) := by decide +kernel
theorem dX11_see_31 : decode cX11_see 31 = .ok (.getfield 23, 3) := by decide +kernel
theorem dX11_see_34 : decode cX11_see 34 = .ok (.getfield 101, 3) := by decide +kernel
theorem dX11_see_37 : decode cX11_see 37 = .ok (.iconst 2, 1) := by decide +kernel
theorem dX11_see_38 : decode cX11_see 38 = .ok (.dup2, 1) := by decide +kernel
theorem dX11_see_39 : decode cX11_see 39 = .ok (.iaload, 1) := by decide +kernel
theorem dX11_see_40 : decode cX11_see 40 = .ok (.iconst 1, 1) := by decide +kernel
theorem dX11_see_41 : decode cX11_see 41 = .ok (.iadd, 1) := by decide +kernel
theorem dX11_see_42 : decode cX11_see 42 = .ok (.iastore, 1) := by decide +kernel
theorem dX11_see_43 : decode cX11_see 43 = .ok (.iconst (-1), 1) := by decide +kernel
theorem dX11_see_44 : decode cX11_see 44 = .ok (.ireturn, 1) := by decide +kernel
theorem dX11_see_45 : decode cX11_see 45 = .ok (.aload_n 0, 1) := by decide +kernel
theorem dX11_see_46 : decode cX11_see 46 = .ok (.getfield 23, 3) := by decide +kernel
theorem dX11_see_49 : decode cX11_see 49 = .ok (.getfield 345, 3) := by decide +kernel
theorem dX11_see_52 : decode cX11_see 52 = .ok (.aload_n 0, 1) := by decide +kernel
theorem dX11_see_53 : decode cX11_see 53 = .ok (.getfield 23, 3) := by decide +kernel
theorem dX11_see_56 : decode cX11_see 56 = .ok (.getfield 149, 3) := by decide +kernel
theorem dX11_see_59 : decode cX11_see 59 = .ok (.iload_n 1, 1) := by decide +kernel
theorem dX11_see_60 : decode cX11_see 60 = .ok (.sipush 1000, 3) := by decide +kernel
theorem dX11_see_63 : decode cX11_see 63 = .ok (.imul, 1) := by decide +kernel
theorem dX11_see_64 : decode cX11_see 64 = .ok (.iload_n 2, 1) := by decide +kernel
theorem dX11_see_65 : decode cX11_see 65 = .ok (.iadd, 1) := by decide +kernel
theorem dX11_see_66 : decode cX11_see 66 = .ok (.iastore, 1) := by decide +kernel
theorem dX11_see_67 : decode cX11_see 67 = .ok (.aload_n 0, 1) := by decide +kernel
theorem dX11_see_68 : decode cX11_see 68 = .ok (.getfield 23, 3) := by decide +kernel
theorem dX11_see_71 : decode cX11_see 71 = .ok (.dup, 1) := by decide +kernel
theorem dX11_see_72 : decode cX11_see 72 = .ok (.getfield 149, 3) := by decide +kernel
theorem dX11_see_75 : decode cX11_see 75 = .ok (.iconst 1, 1) := by decide +kernel
theorem dX11_see_76 : decode cX11_see 76 = .ok (.iadd, 1) := by decide +kernel
theorem dX11_see_77 : decode cX11_see 77 = .ok (.putfield 149, 3) := by decide +kernel
theorem dX11_see_80 : decode cX11_see 80 = .ok (.aload_n 0, 1) := by decide +kernel
theorem dX11_see_81 : decode cX11_see 81 = .ok (.getfield 23, 3) := by decide +kernel
theorem dX11_see_84 : decode cX11_see 84 = .ok (.getfield 149, 3) := by decide +kernel
theorem dX11_see_87 : decode cX11_see 87 = .ok (.ireturn, 1) := by decide +kernel
set_option maxRecDepth 20000 in
theorem ggX11_explained_X1_orderTotal : GoodIn wsX11_explained wsX1_orderTotal := goodIn_r _ [14, 15, 83, 84, 85, 86] (by decide +kernel) (by decide +kernel)
set_option maxRecDepth 20000 in
theorem gX11_explained_X1_orderTotal : GoodIn wsX11_explained (wsV RX11 197 RX1 yX1_orderTotal wsX1_orderTotal) := goodIn_app (goodIn_of _ (by decide +kernel)) ggX11_explained_X1_orderTotal
set_option maxRecDepth 20000 in
theorem ggX11_explained_X8_narrow : GoodIn wsX11_explained wsX8_narrow := goodIn_r _ [20, 21, 22, 23, 24, 25, 26, 27, 28, 29, 30, 31, 32, 19, 33, 83, 84, 85, 86, 87, 88] (by decide +kernel) (by decide +kernel)
set_option maxRecDepth 20000 in
theorem gX11_explained_X8_narrow : GoodIn wsX11_explained (wsV RX11 350 RX8 yX8_narrow wsX8_narrow) := goodIn_app (goodIn_of _ (by decide +kernel)) ggX11_explained_X8_narrow
set_option maxRecDepth 20000 in
theorem ggX11_explained_X8_ordersLeft : GoodIn wsX11_explained wsX8_ordersLeft := goodIn_r _ [37, 27, 38, 39, 40, 41, 42, 43, 44, 87, 88] (by decide +kernel) (by decide +kernel)
set_option maxRecDepth 20000 in
theorem gX11_explained_X8_ordersLeft : GoodIn wsX11_explained (wsV RX11 354 RX8 yX8_ordersLeft wsX8_ordersLeft) := goodIn_app (goodIn_of _ (by decide +kernel)) ggX11_explained_X8_ordersLeft
set_option maxRecDepth 20000 in
theorem ggX11_explained_X8_firstLeft : GoodIn wsX11_explained wsX8_firstLeft := goodIn_r _ [48, 28, 27, 49, 50, 40, 51, 52, 83, 84, 85, 86, 87, 88] (by decide +kernel) (by decide +kernel)
set_option maxRecDepth 20000 in
theorem gX11_explained_X8_firstLeft : GoodIn wsX11_explained (wsV RX11 357 RX8 yX8_firstLeft wsX8_firstLeft) := goodIn_app (goodIn_of _ (by decide +kernel)) ggX11_explained_X8_firstLeft
theorem dX11_explained_0 : decode cX11_explained 0 = .ok (.iload_n 1, 1) := by decide +kernel
theorem dX11_explained_1 : decode cX11_explained 1 = .ok (.ifCond .lt 8, 3) := by decide +kernel
theorem dX11_explained_4 : decode cX11_explained 4 = .ok (.iload_n 1, 1) := by decide +kernel
theorem dX11_explained_5 : decode cX11_explained 5 = .ok (.iconst 1, 1) := by decide +kernel
theorem dX11_explained_6 : decode cX11_explained 6 = .ok (.if_icmp .le 14, 3) := by decide +kernel
theorem dX11_explained_9 : decode cX11_explained 9 = .ok (.new 155, 3) := by decide +kernel
theorem dX11_explained_12 : decode cX11_explained 12 = .ok (.dup, 1) := by decide +kernel
theorem dX11_explained_13 : decode cX11_explained 13 = .ok (.ldc_w 348, 3) := by decide +kernel
theorem dX11_explained_16 : decode cX11_explained 16 = .ok (.invokespecial 159, 3) := by decide +kernel
theorem dX11_explained_19 : decode cX11_explained 19 = .ok (.athrow, 1) := by decide +kernel
theorem dX11_explained_20 : decode cX11_explained 20 = .ok (.aload_n 0, 1) := by decide +kernel
theorem dX11_explained_21 : decode cX11_explained 21 = .ok (.getfield 23, 3) := by decide +kernel
theorem dX11_explained_24 : decode cX11_explained 24 = .ok (.getfield 112, 3) := by decide +kernel
theorem dX11_explained_27 : decode cX11_explained 27 = .ok (.getfield 131, 3) := by decide +kernel
theorem dX11_explained_30 : decode cX11_explained 30 = .ok (.astore_n 2, 1) := by decide +kernel
theorem dX11_explained_31 : decode cX11_explained 31 = .ok (.aload_n 2, 1) := by decide +kernel
theorem dX11_explained_32 : decode cX11_explained 32 = .ok (.invokevirtual 197, 3) := by decide +kernel
theorem dX11_explained_35 : decode cX11_explained 35 = .ok (.ldc2_w 331, 3) := by decide +kernel
theorem dX11_explained_38 : decode cX11_explained 38 = .ok (.lcmp, 1) := by decide +kernel
theorem dX11_explained_39 : decode cX11_explained 39 = .ok (.ifCond .le 6, 3) := by decide +kernel
theorem dX11_explained_42 : decode cX11_explained 42 = .ok (.bipush (-2), 2) := by decide +kernel
theorem dX11_explained_44 : decode cX11_explained 44 = .ok (.ireturn, 1) := by decide +kernel
theorem dX11_explained_45 : decode cX11_explained 45 = .ok (.aload_n 0, 1) := by decide +kernel
theorem dX11_explained_46 : decode cX11_explained 46 = .ok (.getfield 58, 3) := by decide +kernel
theorem dX11_explained_49 : decode cX11_explained 49 = .ok (.aload_n 2, 1) := by decide +kernel
theorem dX11_explained_50 : decode cX11_explained 50 = .ok (.aload_n 0, 1) := by decide +kernel
theorem dX11_explained_51 : decode cX11_explained 51 = .ok (.getfield 23, 3) := by decide +kernel
theorem dX11_explained_54 : decode cX11_explained 54 = .ok (.getfield 345, 3) := by decide +kernel
theorem dX11_explained_57 : decode cX11_explained 57 = .ok (.aload_n 0, 1) := by decide +kernel
theorem dX11_explained_58 : decode cX11_explained 58 = .ok (.getfield 23, 3) := by decide +kernel
theorem dX11_explained_61 : decode cX11_explained 61 = .ok (.getfield 149, 3) := by decide +kernel
theorem dX11_explained_64 : decode cX11_explained 64 = .ok (.invokevirtual 350, 3) := by decide +kernel
theorem dX11_explained_67 : decode cX11_explained 67 = .ok (.aload_n 0, 1) := by decide +kernel
theorem dX11_explained_68 : decode cX11_explained 68 = .ok (.getfield 58, 3) := by decide +kernel
theorem dX11_explained_71 : decode cX11_explained 71 = .ok (.invokevirtual 354, 3) := by decide +kernel
theorem dX11_explained_74 : decode cX11_explained 74 = .ok (.istore_n 3, 1) := by decide +kernel
theorem dX11_explained_75 : decode cX11_explained 75 = .ok (.iload_n 1, 1) := by decide +kernel
theorem dX11_explained_76 : decode cX11_explained 76 = .ok (.ifCond .ne 5, 3) := by decide +kernel
theorem dX11_explained_79 : decode cX11_explained 79 = .ok (.iload_n 3, 1) := by decide +kernel
theorem dX11_explained_80 : decode cX11_explained 80 = .ok (.ireturn, 1) := by decide +kernel
theorem dX11_explained_81 : decode cX11_explained 81 = .ok (.iload_n 3, 1) := by decide +kernel
theorem dX11_explained_82 : decode cX11_explained 82 = .ok (.ifCond .ne 7, 3) := by decide +kernel
theorem dX11_explained_85 : decode cX11_explained 85 = .ok (.iconst (-1), 1) := by decide +kernel
theorem dX11_explained_86 : decode cX11_explained 86 = .ok (.goto 11, 3) := by decide +kernel
theorem dX11_explained_89 : decode cX11_explained 89 = .ok (.aload_n 0, 1) := by decide +kernel
theorem dX11_explained_90 : decode cX11_explained 90 = .ok (.getfield 58, 3) := by decide +kernel
theorem dX11_explained_93 : decode cX11_explained 93 = .ok (.aload_n 2, 1) := by decide +kernel
theorem dX11_explained_94 : decode cX11_explained 94 = .ok (.invokevirtual 357, 3) := by decide +kernel
theorem dX11_explained_97 : decode cX11_explained 97 = .ok (.ireturn, 1) := by decide +kernel
set_option maxRecDepth 20000 in
theorem ggX11_look_X1_orderTotal : GoodIn wsX11_look wsX1_orderTotal := goodIn_r _ [14, 15, 86, 87, 88, 89] (by decide +kernel) (by decide +kernel)
set_option maxRecDepth 20000 in
theorem gX11_look_X1_orderTotal : GoodIn wsX11_look (wsV RX11 197 RX1 yX1_orderTotal wsX1_orderTotal) := goodIn_app (goodIn_of _ (by decide +kernel)) ggX11_look_X1_orderTotal
set_option maxRecDepth 20000 in
theorem ggX11_look_X8_narrow : GoodIn wsX11_look wsX8_narrow := goodIn_r _ [20, 21, 22, 23, 24, 25, 26, 27, 28, 29, 30, 31, 32, 19, 33, 86, 87, 88, 89, 90, 91] (by decide +kernel) (by decide +kernel)
set_option maxRecDepth 20000 in
theorem gX11_look_X8_narrow : GoodIn wsX11_look (wsV RX11 350 RX8 yX8_narrow wsX8_narrow) := goodIn_app (goodIn_of _ (by decide +kernel)) ggX11_look_X8_narrow
set_option maxRecDepth 20000 in
theorem ggX11_look_X8_ordersLeft : GoodIn wsX11_look wsX8_ordersLeft := goodIn_r _ [37, 27, 38, 39, 40, 41, 42, 43, 44, 90, 91] (by decide +kernel) (by decide +kernel)
set_option maxRecDepth 20000 in
theorem gX11_look_X8_ordersLeft : GoodIn wsX11_look (wsV RX11 354 RX8 yX8_ordersLeft wsX8_ordersLeft) := goodIn_app (goodIn_of _ (by decide +kernel)) ggX11_look_X8_ordersLeft
set_option maxRecDepth 20000 in
theorem ggX11_look_X8_unlikeNumbers : GoodIn wsX11_look wsX8_unlikeNumbers := goodIn_r _ [48, 21, 28, 29, 27, 49, 50, 51, 52, 53, 54, 55, 86, 87, 88, 89, 90, 91] (by decide +kernel) (by decide +kernel)
set_option maxRecDepth 20000 in
theorem gX11_look_X8_unlikeNumbers : GoodIn wsX11_look (wsV RX11 363 RX8 yX8_unlikeNumbers wsX8_unlikeNumbers) := goodIn_app (goodIn_of _ (by decide +kernel)) ggX11_look_X8_unlikeNumbers
theorem dX11_look_0 : decode cX11_look 0 = .ok (.iload_n 1, 1) := by decide +kernel
theorem dX11_look_1 : decode cX11_look 1 = .ok (.ifCond .lt 8, 3) := by decide +kernel
theorem dX11_look_4 : decode cX11_look 4 = .ok (.iload_n 1, 1) := by decide +kernel
theorem dX11_look_5 : decode cX11_look 5 = .ok (.iconst 1, 1) := by decide +kernel
theorem dX11_look_6 : decode cX11_look 6 = .ok (.if_icmp .le 14, 3) := by decide +kernel
theorem dX11_look_9 : decode cX11_look 9 = .ok (.new 155, 3) := by decide +kernel
theorem dX11_look_12 : decode cX11_look 12 = .ok (.dup, 1) := by decide +kernel
theorem dX11_look_13 : decode cX11_look 13 = .ok (.ldc_w 361, 3) := by decide +kernel
theorem dX11_look_16 : decode cX11_look 16 = .ok (.invokespecial 159, 3) := by decide +kernel
theorem dX11_look_19 : decode cX11_look 19 = .ok (.athrow, 1) := by decide +kernel
theorem dX11_look_20 : decode cX11_look 20 = .ok (.aload_n 0, 1) := by decide +kernel
theorem dX11_look_21 : decode cX11_look 21 = .ok (.getfield 23, 3) := by decide +kernel
theorem dX11_look_24 : decode cX11_look 24 = .ok (.getfield 112, 3) := by decide +kernel
theorem dX11_look_27 : decode cX11_look 27 = .ok (.getfield 131, 3) := by decide +kernel
theorem dX11_look_30 : decode cX11_look 30 = .ok (.astore_n 2, 1) := by decide +kernel
theorem dX11_look_31 : decode cX11_look 31 = .ok (.iconst (-1), 1) := by decide +kernel
theorem dX11_look_32 : decode cX11_look 32 = .ok (.istore_n 3, 1) := by decide +kernel
theorem dX11_look_33 : decode cX11_look 33 = .ok (.iconst 0, 1) := by decide +kernel
theorem dX11_look_34 : decode cX11_look 34 = .ok (.istore 4, 2) := by decide +kernel
theorem dX11_look_36 : decode cX11_look 36 = .ok (.aload_n 2, 1) := by decide +kernel
theorem dX11_look_37 : decode cX11_look 37 = .ok (.invokevirtual 197, 3) := by decide +kernel
theorem dX11_look_40 : decode cX11_look 40 = .ok (.ldc2_w 331, 3) := by decide +kernel
theorem dX11_look_43 : decode cX11_look 43 = .ok (.lcmp, 1) := by decide +kernel
theorem dX11_look_44 : decode cX11_look 44 = .ok (.ifCond .gt 77, 3) := by decide +kernel
theorem dX11_look_47 : decode cX11_look 47 = .ok (.aload_n 0, 1) := by decide +kernel
theorem dX11_look_48 : decode cX11_look 48 = .ok (.getfield 58, 3) := by decide +kernel
theorem dX11_look_51 : decode cX11_look 51 = .ok (.aload_n 2, 1) := by decide +kernel
theorem dX11_look_52 : decode cX11_look 52 = .ok (.aload_n 0, 1) := by decide +kernel
theorem dX11_look_53 : decode cX11_look 53 = .ok (.getfield 23, 3) := by decide +kernel
theorem dX11_look_56 : decode cX11_look 56 = .ok (.getfield 345, 3) := by decide +kernel
theorem dX11_look_59 : decode cX11_look 59 = .ok (.aload_n 0, 1) := by decide +kernel
theorem dX11_look_60 : decode cX11_look 60 = .ok (.getfield 23, 3) := by decide +kernel
theorem dX11_look_63 : decode cX11_look 63 = .ok (.getfield 149, 3) := by decide +kernel
theorem dX11_look_66 : decode cX11_look 66 = .ok (.invokevirtual 350, 3) := by decide +kernel
theorem dX11_look_69 : decode cX11_look 69 = .ok (.iconst 0, 1) := by decide +kernel
theorem dX11_look_70 : decode cX11_look 70 = .ok (.istore 5, 2) := by decide +kernel
theorem dX11_look_72 : decode cX11_look 72 = .ok (.iload 5, 2) := by decide +kernel
theorem dX11_look_74 : decode cX11_look 74 = .ok (.bipush 64, 2) := by decide +kernel
theorem dX11_look_76 : decode cX11_look 76 = .ok (.if_icmp .ge 45, 3) := by decide +kernel
theorem dX11_look_79 : decode cX11_look 79 = .ok (.aload_n 0, 1) := by decide +kernel
theorem dX11_look_80 : decode cX11_look 80 = .ok (.getfield 58, 3) := by decide +kernel
theorem dX11_look_83 : decode cX11_look 83 = .ok (.invokevirtual 354, 3) := by decide +kernel
theorem dX11_look_86 : decode cX11_look 86 = .ok (.ifCond .le 35, 3) := by decide +kernel
theorem dX11_look_89 : decode cX11_look 89 = .ok (.aload_n 0, 1) := by decide +kernel
theorem dX11_look_90 : decode cX11_look 90 = .ok (.getfield 58, 3) := by decide +kernel
theorem dX11_look_93 : decode cX11_look 93 = .ok (.aload_n 2, 1) := by decide +kernel
theorem dX11_look_94 : decode cX11_look 94 = .ok (.iload 5, 2) := by decide +kernel
theorem dX11_look_96 : decode cX11_look 96 = .ok (.invokevirtual 363, 3) := by decide +kernel
theorem dX11_look_99 : decode cX11_look 99 = .ok (.istore 6, 2) := by decide +kernel
theorem dX11_look_101 : decode cX11_look 101 = .ok (.iload 6, 2) := by decide +kernel
theorem dX11_look_103 : decode cX11_look 103 = .ok (.iload 4, 2) := by decide +kernel
theorem dX11_look_105 : decode cX11_look 105 = .ok (.if_icmp .le 10, 3) := by decide +kernel
theorem dX11_look_108 : decode cX11_look 108 = .ok (.iload 6, 2) := by decide +kernel
theorem dX11_look_110 : decode cX11_look 110 = .ok (.istore 4, 2) := by decide +kernel
theorem dX11_look_112 : decode cX11_look 112 = .ok (.iload 5, 2) := by decide +kernel
theorem dX11_look_114 : decode cX11_look 114 = .ok (.istore_n 3, 1) := by decide +kernel
theorem dX11_look_115 : decode cX11_look 115 = .ok (.iinc 5 1, 3) := by decide +kernel
theorem dX11_look_118 : decode cX11_look 118 = .ok (.goto (-46), 3) := by decide +kernel
theorem dX11_look_121 : decode cX11_look 121 = .ok (.iload_n 1, 1) := by decide +kernel
theorem dX11_look_122 : decode cX11_look 122 = .ok (.ifCond .ne 7, 3) := by decide +kernel
theorem dX11_look_125 : decode cX11_look 125 = .ok (.iload_n 3, 1) := by decide +kernel
theorem dX11_look_126 : decode cX11_look 126 = .ok (.goto 5, 3) := by decide +kernel
theorem dX11_look_129 : decode cX11_look 129 = .ok (.iload 4, 2) := by decide +kernel
theorem dX11_look_131 : decode cX11_look 131 = .ok (.ireturn, 1) := by decide +kernel
theorem dX11_forget_0 : decode cX11_forget 0 = .ok (.aload_n 0, 1) := by decide +kernel
theorem dX11_forget_1 : decode cX11_forget 1 = .ok (.getfield 23, 3) := by decide +kernel
theorem dX11_forget_4 : decode cX11_forget 4 = .ok (.iconst 0, 1) := by decide +kernel
theorem dX11_forget_5 : decode cX11_forget 5 = .ok (.putfield 149, 3) := by decide +kernel
theorem dX11_forget_8 : decode cX11_forget 8 = .ok (.return_, 1) := by decide +kernel
set_option maxRecDepth 20000 in
theorem ggX11_years_X10_start : GoodIn wsX11_years wsX10_start := goodIn_r _ [18, 19, 20, 21, 22, 23, 24, 25, 26, 27, 28, 29, 30, 31, 32, 33, 34, 35, 36, 37, 38, 39, 40, 41, 42, 43, 44, 45, 46, 47, 48, 49, 50, 51, 52, 53, 310, 311, 312, 313, 314, 315, 316, 317, 318, 319, 320, 321, 322, 323, 324, 325, 326, 327, 328, 329, 330, 331] (by decide +kernel) (by decide +kernel)
set_option maxRecDepth 20000 in
theorem gX11_years_X10_start : GoodIn wsX11_years (wsV RX11 371 RX10 yX10_start wsX10_start) := goodIn_app (goodIn_of _ (by decide +kernel)) ggX11_years_X10_start
set_option maxRecDepth 20000 in
theorem ggX11_years_X10_passOne : GoodIn wsX11_years wsX10_passOne := goodIn_r _ [57, 19, 58, 59, 60, 61, 62, 63, 64, 65, 66, 67, 17, 68, 20, 69, 70, 71, 72, 73, 74, 75, 26, 76, 40, 39, 28, 38, 43, 29, 34, 77, 78, 79, 80, 35, 81, 82, 83, 84, 85, 86, 87, 88, 89, 90, 91, 47, 92, 49, 50, 31, 32, 33, 52, 51, 93, 94, 95, 96, 97, 98, 99, 100, 101, 102, 103, 104, 105, 106, 107, 108, 109, 110, 111, 112, 113, 114, 115, 116, 117, 118, 119, 120, 121, 122, 123, 124, 125, 126, 127, 128, 129, 130, 131, 132, 133, 134, 135, 136, 137, 138, 139, 30, 140, 141, 142, 143, 144, 37, 41, 145, 146, 147, 148, 149, 150, 151, 152, 153, 154, 155, 156, 157, 158, 159, 160, 161, 162, 163, 164, 165, 166, 167, 168, 42, 169, 170, 171, 172, 173, 174, 175, 176, 177, 178, 179, 180, 181, 182, 183, 184, 185, 186, 187, 188, 189, 190, 191, 192, 193, 194, 195, 196, 53, 197, 198, 199, 200, 201, 202, 203, 204, 205, 206, 207, 208, 209, 36, 210, 211, 212, 213, 214, 215, 216, 21, 22, 217, 218, 219, 220, 221, 222, 223, 224, 225, 226, 227, 228, 229, 230, 231, 232, 233, 234, 235, 236, 237, 238, 239, 240, 241, 242, 243, 244, 245, 246, 247, 248, 249, 250, 251, 252, 253, 254, 255, 256, 257, 258, 259, 260, 261, 262, 263, 264, 265, 266, 267, 268, 269, 270, 271, 272, 273, 274, 275, 276, 277, 278, 279, 280, 281, 282, 283, 310, 311, 312, 313, 314, 315, 316, 317, 318, 319, 320, 321, 322, 323, 324, 325, 326, 327, 328, 329, 330, 331, 337, 338, 339, 340, 341, 342, 343, 332, 333, 334, 335, 336, 344, 345, 346] (by decide +kernel) (by decide +kernel)
set_option maxRecDepth 20000 in
theorem gX11_years_X10_passOne : GoodIn wsX11_years (wsV RX11 374 RX10 yX10_passOne wsX10_passOne) := goodIn_app (goodIn_of _ (by decide +kernel)) ggX11_years_X10_passOne
set_option maxRecDepth 20000 in
theorem ggX11_years_X7_survey : GoodIn wsX11_years wsX7_survey := goodIn_r _ [126, 127, 128, 129, 130, 131, 97, 98, 99, 132, 133, 134, 125, 135, 111, 112, 332, 333, 334, 335, 336] (by decide +kernel) (by decide +kernel)
set_option maxRecDepth 20000 in
theorem gX11_years_X7_survey : GoodIn wsX11_years (wsV RX11 210 RX7 yX7_survey wsX7_survey) := goodIn_app (goodIn_of _ (by decide +kernel)) ggX11_years_X7_survey
set_option maxRecDepth 20000 in
theorem ggX11_years_J6_bitCount_0f7a4 : GoodIn wsX11_years wsJ6_bitCount_0f7a4 := goodIn_r _ [288, 289, 290, 291] (by decide +kernel) (by decide +kernel)
set_option maxRecDepth 20000 in
theorem gX11_years_J6_bitCount_0f7a4 : GoodIn wsX11_years (va_wsS RX11 324 yJ6_bitCount_0f7a4 wsJ6_bitCount_0f7a4) := goodIn_app (goodIn_of _ (by decide +kernel)) ggX11_years_J6_bitCount_0f7a4
theorem dX11_years_0 : decode cX11_years 0 = .ok (.iload_n 3, 1) := by decide +kernel
theorem dX11_years_1 : decode cX11_years 1 = .ok (.ifCond .lt 8, 3) := by decide +kernel
theorem dX11_years_4 : decode cX11_years 4 = .ok (.iload_n 3, 1) := by decide +kernel
theorem dX11_years_5 : decode cX11_years 5 = .ok (.iconst 2, 1) := by decide +kernel
theorem dX11_years_6 : decode cX11_years 6 = .ok (.if_icmp .le 14, 3) := by decide +kernel
theorem dX11_years_9 : decode cX11_years 9 = .ok (.new 155, 3) := by decide +kernel
theorem dX11_years_12 : decode cX11_years 12 = .ok (.dup, 1) := by decide +kernel
theorem dX11_years_13 : decode cX11_years 13 = .ok (.ldc_w 367, 3) := by decide +kernel
theorem dX11_years_16 : decode cX11_years 16 = .ok (.invokespecial 159, 3) := by decide +kernel
theorem dX11_years_19 : decode cX11_years 19 = .ok (.athrow, 1) := by decide +kernel
theorem dX11_years_20 : decode cX11_years 20 = .ok (.iload_n 2, 1) := by decide +kernel
theorem dX11_years_21 : decode cX11_years 21 = .ok (.ifCond .lt 9, 3) := by decide +kernel
theorem dX11_years_24 : decode cX11_years 24 = .ok (.iload_n 2, 1) := by decide +kernel
theorem dX11_years_25 : decode cX11_years 25 = .ok (.bipush 30, 2) := by decide +kernel
theorem dX11_years_27 : decode cX11_years 27 = .ok (.if_icmp .le 14, 3) := by decide +kernel
theorem dX11_years_30 : decode cX11_years 30 = .ok (.new 87, 3) := by decide +kernel
theorem dX11_years_33 : decode cX11_years 33 = .ok (.dup, 1) := by decide +kernel
theorem dX11_years_34 : decode cX11_years 34 = .ok (.ldc_w 369, 3) := by decide +kernel
theorem dX11_years_37 : decode cX11_years 37 = .ok (.invokespecial 91, 3) := by decide +kernel
theorem dX11_years_40 : decode cX11_years 40 = .ok (.athrow, 1) := by decide +kernel
theorem dX11_years_41 : decode cX11_years 41 = .ok (.aload_n 0, 1) := by decide +kernel
theorem dX11_years_42 : decode cX11_years 42 = .ok (.getfield 72, 3) := by decide +kernel
theorem dX11_years_45 : decode cX11_years 45 = .ok (.aload_n 0, 1) := by decide +kernel
theorem dX11_years_46 : decode cX11_years 46 = .ok (.getfield 23, 3) := by decide +kernel
theorem dX11_years_49 : decode cX11_years 49 = .ok (.getfield 112, 3) := by decide +kernel
theorem dX11_years_52 : decode cX11_years 52 = .ok (.iload_n 1, 1) := by decide +kernel
theorem dX11_years_53 : decode cX11_years 53 = .ok (.invokevirtual 371, 3) := by decide +kernel
theorem dX11_years_56 : decode cX11_years 56 = .ok (.iconst 0, 1) := by decide +kernel
theorem dX11_years_57 : decode cX11_years 57 = .ok (.istore 4, 2) := by decide +kernel
theorem dX11_years_59 : decode cX11_years 59 = .ok (.iload 4, 2) := by decide +kernel
theorem dX11_years_61 : decode cX11_years 61 = .ok (.iload_n 2, 1) := by decide +kernel
theorem dX11_years_62 : decode cX11_years 62 = .ok (.if_icmp .ge 16, 3) := by decide +kernel
theorem dX11_years_65 : decode cX11_years 65 = .ok (.aload_n 0, 1) := by decide +kernel
theorem dX11_years_66 : decode cX11_years 66 = .ok (.getfield 72, 3) := by decide +kernel
theorem dX11_years_69 : decode cX11_years 69 = .ok (.invokevirtual 374, 3) := by decide +kernel
theorem dX11_years_72 : decode cX11_years 72 = .ok (.iinc 4 1, 3) := by decide +kernel
theorem dX11_years_75 : decode cX11_years 75 = .ok (.goto (-16), 3) := by decide +kernel
theorem dX11_years_78 : decode cX11_years 78 = .ok (.iload_n 3, 1) := by decide +kernel
theorem dX11_years_79 : decode cX11_years 79 = .ok (.iconst 2, 1) := by decide +kernel
theorem dX11_years_80 : decode cX11_years 80 = .ok (.if_icmp .ne 34, 3) := by decide +kernel
theorem dX11_years_83 : decode cX11_years 83 = .ok (.aload_n 0, 1) := by decide +kernel
theorem dX11_years_84 : decode cX11_years 84 = .ok (.getfield 51, 3) := by decide +kernel
theorem dX11_years_87 : decode cX11_years 87 = .ok (.aload_n 0, 1) := by decide +kernel
theorem dX11_years_88 : decode cX11_years 88 = .ok (.getfield 72, 3) := by decide +kernel
theorem dX11_years_91 : decode cX11_years 91 = .ok (.getfield 377, 3) := by decide +kernel
theorem dX11_years_94 : decode cX11_years 94 = .ok (.getfield 131, 3) := by decide +kernel
theorem dX11_years_97 : decode cX11_years 97 = .ok (.getfield 166, 3) := by decide +kernel
theorem dX11_years_100 : decode cX11_years 100 = .ok (.invokevirtual 210, 3) := by decide +kernel
theorem dX11_years_103 : decode cX11_years 103 = .ok (.aload_n 0, 1) := by decide +kernel
theorem dX11_years_104 : decode cX11_years 104 = .ok (.getfield 51, 3) := by decide +kernel
theorem dX11_years_107 : decode cX11_years 107 = .ok (.getfield 380, 3) := by decide +kernel
theorem dX11_years_110 : decode cX11_years 110 = .ok (.invokestatic 324, 3) := by decide +kernel
theorem dX11_years_113 : decode cX11_years 113 = .ok (.ireturn, 1) := by decide +kernel
theorem dX11_years_114 : decode cX11_years 114 = .ok (.iload_n 3, 1) := by decide +kernel
theorem dX11_years_115 : decode cX11_years 115 = .ok (.ifCond .ne 13, 3) := by decide +kernel
theorem dX11_years_118 : decode cX11_years 118 = .ok (.aload_n 0, 1) := by decide +kernel
theorem dX11_years_119 : decode cX11_years 119 = .ok (.getfield 72, 3) := by decide +kernel
theorem dX11_years_122 : decode cX11_years 122 = .ok (.getfield 383, 3) := by decide +kernel
theorem dX11_years_125 : decode cX11_years 125 = .ok (.goto 10, 3) := by decide +kernel
theorem dX11_years_128 : decode cX11_years 128 = .ok (.aload_n 0, 1) := by decide +kernel
theorem dX11_years_129 : decode cX11_years 129 = .ok (.getfield 72, 3) := by decide +kernel
theorem dX11_years_132 : decode cX11_years 132 = .ok (.getfield 386, 3) := by decide +kernel
theorem dX11_years_135 : decode cX11_years 135 = .ok (.ireturn, 1) := by decide +kernel
set_option maxRecDepth 20000 in
theorem ggX11_image_X0_init : GoodIn wsX11_image wsX0_init := goodIn_r _ [8, 9, 10, 11, 12, 13, 14, 15, 16, 17, 18, 19, 20, 21, 22, 23, 24, 25, 26, 27, 28, 29, 30, 31, 32, 33, 34, 35, 36, 37, 38, 39, 40, 41, 42, 43, 44, 45, 46, 47, 48, 49, 50, 51, 52, 53, 54, 55, 101, 102, 103, 104, 105, 106, 107, 108, 109, 110, 111, 112, 96, 97, 98, 99, 100, 113, 114, 115, 116, 117, 118, 119] (by decide +kernel) (by decide +kernel)
set_option maxRecDepth 20000 in
theorem gX11_image_X0_init_n22 : GoodIn wsX11_image (wsX0_init) := ggX11_image_X0_init
set_option maxRecDepth 20000 in
theorem ggX11_image_X0_copyFrom : GoodIn wsX11_image wsX0_copyFrom := goodIn_r _ [59, 15, 19, 21, 60, 61, 62, 63, 22, 23, 64, 65, 66, 14, 67, 30, 31, 68, 32, 33, 34, 35, 36, 37, 38, 39, 40, 41, 69, 70, 71, 29, 72, 45, 73, 46, 47, 48, 74, 75, 76, 18, 77, 54, 55, 78, 79, 80, 81, 53, 52, 13, 24, 25, 26, 10, 11, 27, 28, 20, 42, 43, 44, 82, 96, 97, 98, 99, 100, 101, 102, 103, 104, 105, 106, 107, 108, 109, 110, 111, 112, 116, 117, 118, 119, 113, 114, 115] (by decide +kernel) (by decide +kernel)
set_option maxRecDepth 20000 in
theorem gX11_image_X0_copyFrom : GoodIn wsX11_image (wsV RX11 387 RX0 yX0_copyFrom wsX0_copyFrom) := goodIn_app (goodIn_of _ (by decide +kernel)) ggX11_image_X0_copyFrom
theorem dX11_image_0 : decode cX11_image 0 = .ok (.aload_n 0, 1) := by decide +kernel
theorem dX11_image_1 : decode cX11_image 1 = .ok (.getfield 27, 3) := by decide +kernel
theorem dX11_image_4 : decode cX11_image 4 = .ok (.ifnonnull 14, 3) := by decide +kernel
theorem dX11_image_7 : decode cX11_image 7 = .ok (.aload_n 0, 1) := by decide +kernel
theorem dX11_image_8 : decode cX11_image 8 = .ok (.new 20, 3) := by decide +kernel
theorem dX11_image_11 : decode cX11_image 11 = .ok (.dup, 1) := by decide +kernel
theorem dX11_image_12 : decode cX11_image 12 = .ok (.invokespecial 22, 3) := by decide +kernel
theorem dX11_image_15 : decode cX11_image 15 = .ok (.putfield 27, 3) := by decide +kernel
theorem dX11_image_18 : decode cX11_image 18 = .ok (.aload_n 0, 1) := by decide +kernel
theorem dX11_image_19 : decode cX11_image 19 = .ok (.getfield 27, 3) := by decide +kernel
theorem dX11_image_22 : decode cX11_image 22 = .ok (.aload_n 0, 1) := by decide +kernel
theorem dX11_image_23 : decode cX11_image 23 = .ok (.getfield 23, 3) := by decide +kernel
theorem dX11_image_26 : decode cX11_image 26 = .ok (.invokevirtual 387, 3) := by decide +kernel
theorem dX11_image_29 : decode cX11_image 29 = .ok (.aload_n 0, 1) := by decide +kernel
theorem dX11_image_30 : decode cX11_image 30 = .ok (.iconst 1, 1) := by decide +kernel
theorem dX11_image_31 : decode cX11_image 31 = .ok (.putfield 30, 3) := by decide +kernel
theorem dX11_image_34 : decode cX11_image 34 = .ok (.return_, 1) := by decide +kernel
set_option maxRecDepth 20000 in
theorem ggX11_restore_X0_copyFrom : GoodIn wsX11_restore wsX0_copyFrom := goodIn_r _ [8, 9, 10, 11, 12, 13, 14, 15, 16, 17, 18, 19, 20, 21, 22, 23, 24, 25, 26, 27, 28, 29, 30, 31, 32, 33, 34, 35, 36, 37, 38, 39, 40, 41, 42, 43, 44, 45, 46, 47, 48, 49, 50, 51, 52, 53, 54, 55, 56, 57, 58, 59, 60, 61, 62, 63, 64, 65, 66, 67, 68, 69, 70, 71, 85, 86, 87, 88, 89, 90, 91, 92, 93, 94, 95, 96, 97, 98, 99, 100, 101, 102, 103, 104, 105, 106, 107, 108] (by decide +kernel) (by decide +kernel)
set_option maxRecDepth 20000 in
theorem gX11_restore_X0_copyFrom : GoodIn wsX11_restore (wsV RX11 387 RX0 yX0_copyFrom wsX0_copyFrom) := goodIn_app (goodIn_of _ (by decide +kernel)) ggX11_restore_X0_copyFrom
theorem dX11_restore_0 : decode cX11_restore 0 = .ok (.aload_n 0, 1) := by decide +kernel
theorem dX11_restore_1 : decode cX11_restore 1 = .ok (.getfield 30, 3) := by decide +kernel
theorem dX11_restore_4 : decode cX11_restore 4 = .ok (.ifCond .eq 10, 3) := by decide +kernel
theorem dX11_restore_7 : decode cX11_restore 7 = .ok (.aload_n 0, 1) := by decide +kernel
theorem dX11_restore_8 : decode cX11_restore 8 = .ok (.getfield 27, 3) := by decide +kernel
theorem dX11_restore_11 : decode cX11_restore 11 = .ok (.ifnonnull 5, 3) := by decide +kernel
theorem dX11_restore_14 : decode cX11_restore 14 = .ok (.iconst 0, 1) := by decide +kernel
theorem dX11_restore_15 : decode cX11_restore 15 = .ok (.ireturn, 1) := by decide +kernel
theorem dX11_restore_16 : decode cX11_restore 16 = .ok (.aload_n 0, 1) := by decide +kernel
theorem dX11_restore_17 : decode cX11_restore 17 = .ok (.getfield 23, 3) := by decide +kernel
theorem dX11_restore_20 : decode cX11_restore 20 = .ok (.aload_n 0, 1) := by decide +kernel
theorem dX11_restore_21 : decode cX11_restore 21 = .ok (.getfield 27, 3) := by decide +kernel
theorem dX11_restore_24 : decode cX11_restore 24 = .ok (.invokevirtual 387, 3) := by decide +kernel
theorem dX11_restore_27 : decode cX11_restore 27 = .ok (.iconst 1, 1) := by decide +kernel
theorem dX11_restore_28 : decode cX11_restore 28 = .ok (.ireturn, 1) := by decide +kernel
theorem dX11_isWord_0 : decode cX11_isWord 0 = .ok (.iload_n 0, 1) := by decide +kernel
theorem dX11_isWord_1 : decode cX11_isWord 1 = .ok (.ifCond .lt 13, 3) := by decide +kernel
theorem dX11_isWord_4 : decode cX11_isWord 4 = .ok (.iload_n 0, 1) := by decide +kernel
theorem dX11_isWord_5 : decode cX11_isWord 5 = .ok (.bipush 64, 2) := by decide +kernel
theorem dX11_isWord_7 : decode cX11_isWord 7 = .ok (.if_icmp .ge 7, 3) := by decide +kernel
theorem dX11_isWord_10 : decode cX11_isWord 10 = .ok (.iconst 1, 1) := by decide +kernel
theorem dX11_isWord_11 : decode cX11_isWord 11 = .ok (.goto 4, 3) := by decide +kernel
theorem dX11_isWord_14 : decode cX11_isWord 14 = .ok (.iconst 0, 1) := by decide +kernel
theorem dX11_isWord_15 : decode cX11_isWord 15 = .ok (.ireturn, 1) := by decide +kernel
theorem dX11_isLine_0 : decode cX11_isLine 0 = .ok (.iload_n 0, 1) := by decide +kernel
theorem dX11_isLine_1 : decode cX11_isLine 1 = .ok (.ifCond .lt 13, 3) := by decide +kernel
theorem dX11_isLine_4 : decode cX11_isLine 4 = .ok (.iload_n 0, 1) := by decide +kernel
theorem dX11_isLine_5 : decode cX11_isLine 5 = .ok (.bipush 16, 2) := by decide +kernel
theorem dX11_isLine_7 : decode cX11_isLine 7 = .ok (.if_icmp .ge 7, 3) := by decide +kernel
theorem dX11_isLine_10 : decode cX11_isLine 10 = .ok (.iconst 1, 1) := by decide +kernel
theorem dX11_isLine_11 : decode cX11_isLine 11 = .ok (.goto 4, 3) := by decide +kernel
theorem dX11_isLine_14 : decode cX11_isLine 14 = .ok (.iconst 0, 1) := by decide +kernel
theorem dX11_isLine_15 : decode cX11_isLine 15 = .ok (.ireturn, 1) := by decide +kernel
set_option maxRecDepth 20000 in
theorem ggX11_isOrder_X1_orderTotal : GoodIn wsX11_isOrder wsX1_orderTotal := goodIn_r _ [8, 9, 40, 41, 42, 43] (by decide +kernel) (by decide +kernel)
set_option maxRecDepth 20000 in
theorem gX11_isOrder_X1_orderTotal : GoodIn wsX11_isOrder (wsV RX11 197 RX1 yX1_orderTotal wsX1_orderTotal) := goodIn_app (goodIn_of _ (by decide +kernel)) ggX11_isOrder_X1_orderTotal
theorem dX11_isOrder_0 : decode cX11_isOrder 0 = .ok (.iload_n 1, 1) := by decide +kernel
theorem dX11_isOrder_1 : decode cX11_isOrder 1 = .ok (.ifCond .lt 26, 3) := by decide +kernel
theorem dX11_isOrder_4 : decode cX11_isOrder 4 = .ok (.iload_n 1, 1) := by decide +kernel
theorem dX11_isOrder_5 : decode cX11_isOrder 5 = .ok (.i2l, 1) := by decide +kernel
theorem dX11_isOrder_6 : decode cX11_isOrder 6 = .ok (.aload_n 0, 1) := by decide +kernel
theorem dX11_isOrder_7 : decode cX11_isOrder 7 = .ok (.getfield 23, 3) := by decide +kernel
theorem dX11_isOrder_10 : decode cX11_isOrder 10 = .ok (.getfield 112, 3) := by decide +kernel
theorem dX11_isOrder_13 : decode cX11_isOrder 13 = .ok (.getfield 131, 3) := by decide +kernel
theorem dX11_isOrder_16 : decode cX11_isOrder 16 = .ok (.invokevirtual 197, 3) := by decide +kernel
theorem dX11_isOrder_19 : decode cX11_isOrder 19 = .ok (.lcmp, 1) := by decide +kernel
theorem dX11_isOrder_20 : decode cX11_isOrder 20 = .ok (.ifCond .ge 7, 3) := by decide +kernel
theorem dX11_isOrder_23 : decode cX11_isOrder 23 = .ok (.iconst 1, 1) := by decide +kernel
theorem dX11_isOrder_24 : decode cX11_isOrder 24 = .ok (.goto 4, 3) := by decide +kernel
theorem dX11_isOrder_27 : decode cX11_isOrder 27 = .ok (.iconst 0, 1) := by decide +kernel
theorem dX11_isOrder_28 : decode cX11_isOrder 28 = .ok (.ireturn, 1) := by decide +kernel
theorem dX11_blockAddress_0 : decode cX11_blockAddress 0 = .ok (.bipush 24, 2) := by decide +kernel
theorem dX11_blockAddress_2 : decode cX11_blockAddress 2 = .ok (.iload_n 0, 1) := by decide +kernel
theorem dX11_blockAddress_3 : decode cX11_blockAddress 3 = .ok (.iconst 4, 1) := by decide +kernel
theorem dX11_blockAddress_4 : decode cX11_blockAddress 4 = .ok (.imul, 1) := by decide +kernel
theorem dX11_blockAddress_5 : decode cX11_blockAddress 5 = .ok (.iadd, 1) := by decide +kernel
theorem dX11_blockAddress_6 : decode cX11_blockAddress 6 = .ok (.ireturn, 1) := by decide +kernel
theorem dX11_isHeapAddress_0 : decode cX11_isHeapAddress 0 = .ok (.iload_n 0, 1) := by decide +kernel
theorem dX11_isHeapAddress_1 : decode cX11_isHeapAddress 1 = .ok (.bipush 20, 2) := by decide +kernel
theorem dX11_isHeapAddress_3 : decode cX11_isHeapAddress 3 = .ok (.if_icmp .lt 13, 3) := by decide +kernel
theorem dX11_isHeapAddress_6 : decode cX11_isHeapAddress 6 = .ok (.iload_n 0, 1) := by decide +kernel
theorem dX11_isHeapAddress_7 : decode cX11_isHeapAddress 7 = .ok (.bipush 64, 2) := by decide +kernel
theorem dX11_isHeapAddress_9 : decode cX11_isHeapAddress 9 = .ok (.if_icmp .ge 7, 3) := by decide +kernel
theorem dX11_isHeapAddress_12 : decode cX11_isHeapAddress 12 = .ok (.iconst 1, 1) := by decide +kernel
theorem dX11_isHeapAddress_13 : decode cX11_isHeapAddress 13 = .ok (.goto 4, 3) := by decide +kernel
theorem dX11_isHeapAddress_16 : decode cX11_isHeapAddress 16 = .ok (.iconst 0, 1) := by decide +kernel
theorem dX11_isHeapAddress_17 : decode cX11_isHeapAddress 17 = .ok (.ireturn, 1) := by decide +kernel
theorem dX11_entryPlace_0 : decode cX11_entryPlace 0 = .ok (.iconst 4, 1) := by decide +kernel
theorem dX11_entryPlace_1 : decode cX11_entryPlace 1 = .ok (.iconst 2, 1) := by decide +kernel
theorem dX11_entryPlace_2 : decode cX11_entryPlace 2 = .ok (.iload_n 2, 1) := by decide +kernel
theorem dX11_entryPlace_3 : decode cX11_entryPlace 3 = .ok (.ifCond .ne 11, 3) := by decide +kernel
theorem dX11_entryPlace_6 : decode cX11_entryPlace 6 = .ok (.iload_n 1, 1) := by decide +kernel
theorem dX11_entryPlace_7 : decode cX11_entryPlace 7 = .ok (.iconst 1, 1) := by decide +kernel
theorem dX11_entryPlace_8 : decode cX11_entryPlace 8 = .ok (.isub, 1) := by decide +kernel
theorem dX11_entryPlace_9 : decode cX11_entryPlace 9 = .ok (.iload_n 0, 1) := by decide +kernel
theorem dX11_entryPlace_10 : decode cX11_entryPlace 10 = .ok (.isub, 1) := by decide +kernel
theorem dX11_entryPlace_11 : decode cX11_entryPlace 11 = .ok (.goto 4, 3) := by decide +kernel
theorem dX11_entryPlace_14 : decode cX11_entryPlace 14 = .ok (.iload_n 0, 1) := by decide +kernel
theorem dX11_entryPlace_15 : decode cX11_entryPlace 15 = .ok (.imul, 1) := by decide +kernel
theorem dX11_entryPlace_16 : decode cX11_entryPlace 16 = .ok (.iadd, 1) := by decide +kernel
theorem dX11_entryPlace_17 : decode cX11_entryPlace 17 = .ok (.ireturn, 1) := by decide +kernel
set_option maxRecDepth 20000 in
theorem ggX11_recoverWords_X11_entryPlace : GoodIn wsX11_recoverWords wsX11_entryPlace := goodIn_r _ [8] (by decide +kernel) (by decide +kernel)
set_option maxRecDepth 20000 in
theorem gX11_recoverWords_X11_entryPlace : GoodIn wsX11_recoverWords (va_wsS RX11 394 yX11_entryPlace wsX11_entryPlace) := goodIn_app (goodIn_of _ (by decide +kernel)) ggX11_recoverWords_X11_entryPlace
set_option maxRecDepth 20000 in
theorem ggX11_recoverWords_X11_isHeapAddress : GoodIn wsX11_recoverWords wsX11_isHeapAddress := goodIn_r _ [11] (by decide +kernel) (by decide +kernel)
set_option maxRecDepth 20000 in
theorem gX11_recoverWords_X11_isHeapAddress : GoodIn wsX11_recoverWords (va_wsS RX11 397 yX11_isHeapAddress wsX11_isHeapAddress) := goodIn_app (goodIn_of _ (by decide +kernel)) ggX11_recoverWords_X11_isHeapAddress
theorem dX11_recoverWords_0 : decode cX11_recoverWords 0 = .ok (.aload_n 0, 1) := by decide +kernel
theorem dX11_recoverWords_1 : decode cX11_recoverWords 1 = .ok (.iconst 0, 1) := by decide +kernel
theorem dX11_recoverWords_2 : decode cX11_recoverWords 2 = .ok (.iaload, 1) := by decide +kernel
theorem dX11_recoverWords_3 : decode cX11_recoverWords 3 = .ok (.bipush 8, 2) := by decide +kernel
theorem dX11_recoverWords_5 : decode cX11_recoverWords 5 = .ok (.invokestatic 391, 3) := by decide +kernel
theorem dX11_recoverWords_8 : decode cX11_recoverWords 8 = .ok (.istore_n 2, 1) := by decide +kernel
theorem dX11_recoverWords_9 : decode cX11_recoverWords 9 = .ok (.iconst 0, 1) := by decide +kernel
theorem dX11_recoverWords_10 : decode cX11_recoverWords 10 = .ok (.istore_n 3, 1) := by decide +kernel
theorem dX11_recoverWords_11 : decode cX11_recoverWords 11 = .ok (.iload_n 3, 1) := by decide +kernel
theorem dX11_recoverWords_12 : decode cX11_recoverWords 12 = .ok (.iload_n 2, 1) := by decide +kernel
theorem dX11_recoverWords_13 : decode cX11_recoverWords 13 = .ok (.if_icmp .ge 39, 3) := by decide +kernel
theorem dX11_recoverWords_16 : decode cX11_recoverWords 16 = .ok (.iload_n 3, 1) := by decide +kernel
theorem dX11_recoverWords_17 : decode cX11_recoverWords 17 = .ok (.iload_n 2, 1) := by decide +kernel
theorem dX11_recoverWords_18 : decode cX11_recoverWords 18 = .ok (.iload_n 1, 1) := by decide +kernel
theorem dX11_recoverWords_19 : decode cX11_recoverWords 19 = .ok (.invokestatic 394, 3) := by decide +kernel
theorem dX11_recoverWords_22 : decode cX11_recoverWords 22 = .ok (.istore 4, 2) := by decide +kernel
theorem dX11_recoverWords_24 : decode cX11_recoverWords 24 = .ok (.aload_n 0, 1) := by decide +kernel
theorem dX11_recoverWords_25 : decode cX11_recoverWords 25 = .ok (.iload 4, 2) := by decide +kernel
theorem dX11_recoverWords_27 : decode cX11_recoverWords 27 = .ok (.iaload, 1) := by decide +kernel
theorem dX11_recoverWords_28 : decode cX11_recoverWords 28 = .ok (.invokestatic 397, 3) := by decide +kernel
theorem dX11_recoverWords_31 : decode cX11_recoverWords 31 = .ok (.ifCond .eq 15, 3) := by decide +kernel
theorem dX11_recoverWords_34 : decode cX11_recoverWords 34 = .ok (.aload_n 0, 1) := by decide +kernel
theorem dX11_recoverWords_35 : decode cX11_recoverWords 35 = .ok (.aload_n 0, 1) := by decide +kernel
theorem dX11_recoverWords_36 : decode cX11_recoverWords 36 = .ok (.iload 4, 2) := by decide +kernel
theorem dX11_recoverWords_38 : decode cX11_recoverWords 38 = .ok (.iaload, 1) := by decide +kernel
theorem dX11_recoverWords_39 : decode cX11_recoverWords 39 = .ok (.aload_n 0, 1) := by decide +kernel
theorem dX11_recoverWords_40 : decode cX11_recoverWords 40 = .ok (.iload 4, 2) := by decide +kernel
theorem dX11_recoverWords_42 : decode cX11_recoverWords 42 = .ok (.iconst 1, 1) := by decide +kernel
theorem dX11_recoverWords_43 : decode cX11_recoverWords 43 = .ok (.iadd, 1) := by decide +kernel
theorem dX11_recoverWords_44 : decode cX11_recoverWords 44 = .ok (.iaload, 1) := by decide +kernel
theorem dX11_recoverWords_45 : decode cX11_recoverWords 45 = .ok (.iastore, 1) := by decide +kernel
theorem dX11_recoverWords_46 : decode cX11_recoverWords 46 = .ok (.iinc 3 1, 3) := by decide +kernel
theorem dX11_recoverWords_49 : decode cX11_recoverWords 49 = .ok (.goto (-38), 3) := by decide +kernel
theorem dX11_recoverWords_52 : decode cX11_recoverWords 52 = .ok (.aload_n 0, 1) := by decide +kernel
theorem dX11_recoverWords_53 : decode cX11_recoverWords 53 = .ok (.iconst 0, 1) := by decide +kernel
theorem dX11_recoverWords_54 : decode cX11_recoverWords 54 = .ok (.iconst 0, 1) := by decide +kernel
theorem dX11_recoverWords_55 : decode cX11_recoverWords 55 = .ok (.iastore, 1) := by decide +kernel
theorem dX11_recoverWords_56 : decode cX11_recoverWords 56 = .ok (.return_, 1) := by decide +kernel
theorem dX11_isBlockAddress_0 : decode cX11_isBlockAddress 0 = .ok (.iload_n 0, 1) := by decide +kernel
theorem dX11_isBlockAddress_1 : decode cX11_isBlockAddress 1 = .ok (.bipush 24, 2) := by decide +kernel
theorem dX11_isBlockAddress_3 : decode cX11_isBlockAddress 3 = .ok (.if_icmp .lt 19, 3) := by decide +kernel
theorem dX11_isBlockAddress_6 : decode cX11_isBlockAddress 6 = .ok (.iload_n 0, 1) := by decide +kernel
theorem dX11_isBlockAddress_7 : decode cX11_isBlockAddress 7 = .ok (.bipush 64, 2) := by decide +kernel
theorem dX11_isBlockAddress_9 : decode cX11_isBlockAddress 9 = .ok (.if_icmp .ge 13, 3) := by decide +kernel
theorem dX11_isBlockAddress_12 : decode cX11_isBlockAddress 12 = .ok (.iload_n 0, 1) := by decide +kernel
theorem dX11_isBlockAddress_13 : decode cX11_isBlockAddress 13 = .ok (.iconst 4, 1) := by decide +kernel
theorem dX11_isBlockAddress_14 : decode cX11_isBlockAddress 14 = .ok (.irem, 1) := by decide +kernel
theorem dX11_isBlockAddress_15 : decode cX11_isBlockAddress 15 = .ok (.ifCond .ne 7, 3) := by decide +kernel
theorem dX11_isBlockAddress_18 : decode cX11_isBlockAddress 18 = .ok (.iconst 1, 1) := by decide +kernel
theorem dX11_isBlockAddress_19 : decode cX11_isBlockAddress 19 = .ok (.goto 4, 3) := by decide +kernel
theorem dX11_isBlockAddress_22 : decode cX11_isBlockAddress 22 = .ok (.iconst 0, 1) := by decide +kernel
theorem dX11_isBlockAddress_23 : decode cX11_isBlockAddress 23 = .ok (.ireturn, 1) := by decide +kernel
set_option maxRecDepth 20000 in
theorem ggX12_init_X12_begins : GoodIn wsX12_init wsX12_begins := goodIn_r _ [26, 6, 27, 28, 29, 30, 31, 32, 33, 34, 35, 36, 37, 38, 39, 40, 41, 42, 43, 44, 45, 46, 47, 48, 49, 50, 51, 52, 53, 54, 55, 56, 57, 58, 59, 60, 61, 62, 63, 64, 65, 66, 67, 68, 69, 70, 71, 72, 73, 74, 75, 76, 77] (by decide +kernel) (by decide +kernel)
set_option maxRecDepth 20000 in
theorem gX12_init_X12_begins : GoodIn wsX12_init (wsV RX12 60 RX12 yX12_begins wsX12_begins) := goodIn_app (goodIn_of _ (by decide +kernel)) ggX12_init_X12_begins
theorem dX12_init_0 : decode cX12_init 0 = .ok (.aload_n 0, 1) := by decide +kernel
theorem dX12_init_1 : decode cX12_init 1 = .ok (.invokespecial 3, 3) := by decide +kernel
theorem dX12_init_4 : decode cX12_init 4 = .ok (.aload_n 0, 1) := by decide +kernel
theorem dX12_init_5 : decode cX12_init 5 = .ok (.ldc 9, 2) := by decide +kernel
theorem dX12_init_7 : decode cX12_init 7 = .ok (.newarray .int, 2) := by decide +kernel
theorem dX12_init_9 : decode cX12_init 9 = .ok (.putfield 10, 3) := by decide +kernel
theorem dX12_init_12 : decode cX12_init 12 = .ok (.aload_n 0, 1) := by decide +kernel
theorem dX12_init_13 : decode cX12_init 13 = .ok (.bipush 16, 2) := by decide +kernel
theorem dX12_init_15 : decode cX12_init 15 = .ok (.newarray .int, 2) := by decide +kernel
theorem dX12_init_17 : decode cX12_init 17 = .ok (.putfield 14, 3) := by decide +kernel
theorem dX12_init_20 : decode cX12_init 20 = .ok (.aload_n 0, 1) := by decide +kernel
theorem dX12_init_21 : decode cX12_init 21 = .ok (.bipush 16, 2) := by decide +kernel
theorem dX12_init_23 : decode cX12_init 23 = .ok (.newarray .int, 2) := by decide +kernel
theorem dX12_init_25 : decode cX12_init 25 = .ok (.putfield 17, 3) := by decide +kernel
theorem dX12_init_28 : decode cX12_init 28 = .ok (.aload_n 0, 1) := by decide +kernel
theorem dX12_init_29 : decode cX12_init 29 = .ok (.bipush 6, 2) := by decide +kernel
theorem dX12_init_31 : decode cX12_init 31 = .ok (.newarray .int, 2) := by decide +kernel
theorem dX12_init_33 : decode cX12_init 33 = .ok (.putfield 20, 3) := by decide +kernel
theorem dX12_init_36 : decode cX12_init 36 = .ok (.aload_n 0, 1) := by decide +kernel
theorem dX12_init_37 : decode cX12_init 37 = .ok (.sipush 700, 3) := by decide +kernel
theorem dX12_init_40 : decode cX12_init 40 = .ok (.newarray .int, 2) := by decide +kernel
theorem dX12_init_42 : decode cX12_init 42 = .ok (.putfield 23, 3) := by decide +kernel
theorem dX12_init_45 : decode cX12_init 45 = .ok (.aload_n 0, 1) := by decide +kernel
theorem dX12_init_46 : decode cX12_init 46 = .ok (.iconst (-1), 1) := by decide +kernel
theorem dX12_init_47 : decode cX12_init 47 = .ok (.putfield 26, 3) := by decide +kernel
theorem dX12_init_50 : decode cX12_init 50 = .ok (.aload_n 0, 1) := by decide +kernel
theorem dX12_init_51 : decode cX12_init 51 = .ok (.bipush 64, 2) := by decide +kernel
theorem dX12_init_53 : decode cX12_init 53 = .ok (.newarray .int, 2) := by decide +kernel
theorem dX12_init_55 : decode cX12_init 55 = .ok (.putfield 30, 3) := by decide +kernel
theorem dX12_init_58 : decode cX12_init 58 = .ok (.aload_n 0, 1) := by decide +kernel
theorem dX12_init_59 : decode cX12_init 59 = .ok (.bipush 64, 2) := by decide +kernel
theorem dX12_init_61 : decode cX12_init 61 = .ok (.newarray .int, 2) := by decide +kernel
theorem dX12_init_63 : decode cX12_init 63 = .ok (.putfield 33, 3) := by decide +kernel
theorem dX12_init_66 : decode cX12_init 66 = .ok (.aload_n 0, 1) := by decide +kernel
theorem dX12_init_67 : decode cX12_init 67 = .ok (.bipush 64, 2) := by decide +kernel
theorem dX12_init_69 : decode cX12_init 69 = .ok (.newarray .int, 2) := by decide +kernel
theorem dX12_init_71 : decode cX12_init 71 = .ok (.putfield 36, 3) := by decide +kernel
theorem dX12_init_74 : decode cX12_init 74 = .ok (.aload_n 0, 1) := by decide +kernel
theorem dX12_init_75 : decode cX12_init 75 = .ok (.bipush 64, 2) := by decide +kernel
theorem dX12_init_77 : decode cX12_init 77 = .ok (.newarray .int, 2) := by decide +kernel
theorem dX12_init_79 : decode cX12_init 79 = .ok (.putfield 39, 3) := by decide +kernel
theorem dX12_init_82 : decode cX12_init 82 = .ok (.aload_n 0, 1) := by decide +kernel
theorem dX12_init_83 : decode cX12_init 83 = .ok (.bipush 16, 2) := by decide +kernel
theorem dX12_init_85 : decode cX12_init 85 = .ok (.newarray .int, 2) := by decide +kernel
theorem dX12_init_87 : decode cX12_init 87 = .ok (.putfield 42, 3) := by decide +kernel
theorem dX12_init_90 : decode cX12_init 90 = .ok (.aload_n 0, 1) := by decide +kernel
theorem dX12_init_91 : decode cX12_init 91 = .ok (.bipush 64, 2) := by decide +kernel
theorem dX12_init_93 : decode cX12_init 93 = .ok (.newarray .int, 2) := by decide +kernel
theorem dX12_init_95 : decode cX12_init 95 = .ok (.putfield 45, 3) := by decide +kernel
theorem dX12_init_98 : decode cX12_init 98 = .ok (.aload_n 0, 1) := by decide +kernel
theorem dX12_init_99 : decode cX12_init 99 = .ok (.bipush 88, 2) := by decide +kernel
theorem dX12_init_101 : decode cX12_init 101 = .ok (.newarray .int, 2) := by decide +kernel
theorem dX12_init_103 : decode cX12_init 103 = .ok (.putfield 48, 3) := by decide +kernel
theorem dX12_init_106 : decode cX12_init 106 = .ok (.aload_n 0, 1) := by decide +kernel
theorem dX12_init_107 : decode cX12_init 107 = .ok (.bipush 64, 2) := by decide +kernel
theorem dX12_init_109 : decode cX12_init 109 = .ok (.newarray .int, 2) := by decide +kernel
theorem dX12_init_111 : decode cX12_init 111 = .ok (.putfield 51, 3) := by decide +kernel
theorem dX12_init_114 : decode cX12_init 114 = .ok (.aload_n 0, 1) := by decide +kernel
theorem dX12_init_115 : decode cX12_init 115 = .ok (.sipush 156, 3) := by decide +kernel
theorem dX12_init_118 : decode cX12_init 118 = .ok (.newarray .int, 2) := by decide +kernel
theorem dX12_init_120 : decode cX12_init 120 = .ok (.putfield 54, 3) := by decide +kernel
theorem dX12_init_123 : decode cX12_init 123 = .ok (.aload_n 0, 1) := by decide +kernel
theorem dX12_init_124 : decode cX12_init 124 = .ok (.sipush 2000, 3) := by decide +kernel
theorem dX12_init_127 : decode cX12_init 127 = .ok (.newarray .int, 2) := by decide +kernel
theorem dX12_init_129 : decode cX12_init 129 = .ok (.putfield 57, 3) := by decide +kernel
theorem dX12_init_132 : decode cX12_init 132 = .ok (.aload_n 0, 1) := by decide +kernel
theorem dX12_init_133 : decode cX12_init 133 = .ok (.invokevirtual 60, 3) := by decide +kernel
theorem dX12_init_136 : decode cX12_init 136 = .ok (.return_, 1) := by decide +kernel
theorem dX12_thrown_0 : decode cX12_thrown 0 = .ok (.aload_n 0, 1) := by decide +kernel
theorem dX12_thrown_1 : decode cX12_thrown 1 = .ok (.getfield 63, 3) := by decide +kernel
theorem dX12_thrown_4 : decode cX12_thrown 4 = .ok (.ireturn, 1) := by decide +kernel
theorem dX12_right_0 : decode cX12_right 0 = .ok (.aload_n 0, 1) := by decide +kernel
theorem dX12_right_1 : decode cX12_right 1 = .ok (.getfield 63, 3) := by decide +kernel
theorem dX12_right_4 : decode cX12_right 4 = .ok (.ifCond .ne 12, 3) := by decide +kernel
theorem dX12_right_7 : decode cX12_right 7 = .ok (.iload_n 1, 1) := by decide +kernel
theorem dX12_right_8 : decode cX12_right 8 = .ok (.ifCond .ne 8, 3) := by decide +kernel
theorem dX12_right_11 : decode cX12_right 11 = .ok (.aload_n 0, 1) := by decide +kernel
theorem dX12_right_12 : decode cX12_right 12 = .ok (.iload_n 2, 1) := by decide +kernel
theorem dX12_right_13 : decode cX12_right 13 = .ok (.putfield 63, 3) := by decide +kernel
theorem dX12_right_16 : decode cX12_right 16 = .ok (.aload_n 0, 1) := by decide +kernel
theorem dX12_right_17 : decode cX12_right 17 = .ok (.getfield 63, 3) := by decide +kernel
theorem dX12_right_20 : decode cX12_right 20 = .ok (.ifCond .ne 7, 3) := by decide +kernel
theorem dX12_right_23 : decode cX12_right 23 = .ok (.iconst 1, 1) := by decide +kernel
theorem dX12_right_24 : decode cX12_right 24 = .ok (.goto 4, 3) := by decide +kernel
theorem dX12_right_27 : decode cX12_right 27 = .ok (.iconst 0, 1) := by decide +kernel
theorem dX12_right_28 : decode cX12_right 28 = .ok (.ireturn, 1) := by decide +kernel
theorem dX12_within_0 : decode cX12_within 0 = .ok (.iload_n 0, 1) := by decide +kernel
theorem dX12_within_1 : decode cX12_within 1 = .ok (.iload_n 1, 1) := by decide +kernel
theorem dX12_within_2 : decode cX12_within 2 = .ok (.if_icmp .lt 12, 3) := by decide +kernel
theorem dX12_within_5 : decode cX12_within 5 = .ok (.iload_n 0, 1) := by decide +kernel
theorem dX12_within_6 : decode cX12_within 6 = .ok (.iload_n 2, 1) := by decide +kernel
theorem dX12_within_7 : decode cX12_within 7 = .ok (.if_icmp .gt 7, 3) := by decide +kernel
theorem dX12_within_10 : decode cX12_within 10 = .ok (.iconst 1, 1) := by decide +kernel
theorem dX12_within_11 : decode cX12_within 11 = .ok (.goto 4, 3) := by decide +kernel
theorem dX12_within_14 : decode cX12_within 14 = .ok (.iconst 0, 1) := by decide +kernel
theorem dX12_within_15 : decode cX12_within 15 = .ok (.ireturn, 1) := by decide +kernel
theorem dX12_copies_0 : decode cX12_copies 0 = .ok (.iconst 0, 1) := by decide +kernel
theorem dX12_copies_1 : decode cX12_copies 1 = .ok (.istore 4, 2) := by decide +kernel
theorem dX12_copies_3 : decode cX12_copies 3 = .ok (.iload 4, 2) := by decide +kernel
theorem dX12_copies_5 : decode cX12_copies 5 = .ok (.iload_n 3, 1) := by decide +kernel
theorem dX12_copies_6 : decode cX12_copies 6 = .ok (.if_icmp .ge 27, 3) := by decide +kernel
theorem dX12_copies_9 : decode cX12_copies 9 = .ok (.aload_n 0, 1) := by decide +kernel
theorem dX12_copies_10 : decode cX12_copies 10 = .ok (.getfield 10, 3) := by decide +kernel
theorem dX12_copies_13 : decode cX12_copies 13 = .ok (.iload_n 2, 1) := by decide +kernel
theorem dX12_copies_14 : decode cX12_copies 14 = .ok (.iload 4, 2) := by decide +kernel
theorem dX12_copies_16 : decode cX12_copies 16 = .ok (.iadd, 1) := by decide +kernel
theorem dX12_copies_17 : decode cX12_copies 17 = .ok (.aload_n 0, 1) := by decide +kernel
theorem dX12_copies_18 : decode cX12_copies 18 = .ok (.getfield 10, 3) := by decide +kernel
theorem dX12_copies_21 : decode cX12_copies 21 = .ok (.iload_n 1, 1) := by decide +kernel
theorem dX12_copies_22 : decode cX12_copies 22 = .ok (.iload 4, 2) := by decide +kernel
theorem dX12_copies_24 : decode cX12_copies 24 = .ok (.iadd, 1) := by decide +kernel
theorem dX12_copies_25 : decode cX12_copies 25 = .ok (.iaload, 1) := by decide +kernel
theorem dX12_copies_26 : decode cX12_copies 26 = .ok (.iastore, 1) := by decide +kernel
theorem dX12_copies_27 : decode cX12_copies 27 = .ok (.iinc 4 1, 3) := by decide +kernel
theorem dX12_copies_30 : decode cX12_copies 30 = .ok (.goto (-27), 3) := by decide +kernel
theorem dX12_copies_33 : decode cX12_copies 33 = .ok (.return_, 1) := by decide +kernel
theorem dX12_begins_0 : decode cX12_begins 0 = .ok (.iconst 0, 1) := by decide +kernel
theorem dX12_begins_1 : decode cX12_begins 1 = .ok (.istore_n 1, 1) := by decide +kernel
theorem dX12_begins_2 : decode cX12_begins 2 = .ok (.iload_n 1, 1) := by decide +kernel
theorem dX12_begins_3 : decode cX12_begins 3 = .ok (.sipush 786, 3) := by decide +kernel
theorem dX12_begins_6 : decode cX12_begins 6 = .ok (.if_icmp .ge 16, 3) := by decide +kernel
theorem dX12_begins_9 : decode cX12_begins 9 = .ok (.aload_n 0, 1) := by decide +kernel
theorem dX12_begins_10 : decode cX12_begins 10 = .ok (.getfield 10, 3) := by decide +kernel
theorem dX12_begins_13 : decode cX12_begins 13 = .ok (.iload_n 1, 1) := by decide +kernel
theorem dX12_begins_14 : decode cX12_begins 14 = .ok (.iconst 0, 1) := by decide +kernel
theorem dX12_begins_15 : decode cX12_begins 15 = .ok (.iastore, 1) := by decide +kernel
theorem dX12_begins_16 : decode cX12_begins 16 = .ok (.iinc 1 1, 3) := by decide +kernel
theorem dX12_begins_19 : decode cX12_begins 19 = .ok (.goto (-17), 3) := by decide +kernel
theorem dX12_begins_22 : decode cX12_begins 22 = .ok (.return_, 1) := by decide +kernel
theorem dX12_block_0 : decode cX12_block 0 = .ok (.bipush 24, 2) := by decide +kernel
theorem dX12_block_2 : decode cX12_block 2 = .ok (.iconst 4, 1) := by decide +kernel
theorem dX12_block_3 : decode cX12_block 3 = .ok (.iload_n 0, 1) := by decide +kernel
theorem dX12_block_4 : decode cX12_block 4 = .ok (.imul, 1) := by decide +kernel
theorem dX12_block_5 : decode cX12_block 5 = .ok (.iadd, 1) := by decide +kernel
theorem dX12_block_6 : decode cX12_block 6 = .ok (.ireturn, 1) := by decide +kernel
theorem dX12_blockAt_0 : decode cX12_blockAt 0 = .ok (.iload_n 0, 1) := by decide +kernel
theorem dX12_blockAt_1 : decode cX12_blockAt 1 = .ok (.bipush 24, 2) := by decide +kernel
theorem dX12_blockAt_3 : decode cX12_blockAt 3 = .ok (.if_icmp .lt 24, 3) := by decide +kernel
theorem dX12_blockAt_6 : decode cX12_blockAt 6 = .ok (.iload_n 0, 1) := by decide +kernel
theorem dX12_blockAt_7 : decode cX12_blockAt 7 = .ok (.bipush 64, 2) := by decide +kernel
theorem dX12_blockAt_9 : decode cX12_blockAt 9 = .ok (.if_icmp .ge 18, 3) := by decide +kernel
theorem dX12_blockAt_12 : decode cX12_blockAt 12 = .ok (.iload_n 0, 1) := by decide +kernel
theorem dX12_blockAt_13 : decode cX12_blockAt 13 = .ok (.iconst 4, 1) := by decide +kernel
theorem dX12_blockAt_14 : decode cX12_blockAt 14 = .ok (.irem, 1) := by decide +kernel
theorem dX12_blockAt_15 : decode cX12_blockAt 15 = .ok (.ifCond .ne 12, 3) := by decide +kernel
theorem dX12_blockAt_18 : decode cX12_blockAt 18 = .ok (.iload_n 0, 1) := by decide +kernel
theorem dX12_blockAt_19 : decode cX12_blockAt 19 = .ok (.bipush 24, 2) := by decide +kernel
theorem dX12_blockAt_21 : decode cX12_blockAt 21 = .ok (.isub, 1) := by decide +kernel
theorem dX12_blockAt_22 : decode cX12_blockAt 22 = .ok (.iconst 4, 1) := by decide +kernel
theorem dX12_blockAt_23 : decode cX12_blockAt 23 = .ok (.idiv, 1) := by decide +kernel
theorem dX12_blockAt_24 : decode cX12_blockAt 24 = .ok (.goto 4, 3) := by decide +kernel
theorem dX12_blockAt_27 : decode cX12_blockAt 27 = .ok (.iconst (-1), 1) := by decide +kernel
theorem dX12_blockAt_28 : decode cX12_blockAt 28 = .ok (.ireturn, 1) := by decide +kernel
theorem dX12_wordOf_0 : decode cX12_wordOf 0 = .ok (.iload_n 2, 1) := by decide +kernel
theorem dX12_wordOf_1 : decode cX12_wordOf 1 = .ok (.iconst 4, 1) := by decide +kernel
theorem dX12_wordOf_2 : decode cX12_wordOf 2 = .ok (.idiv, 1) := by decide +kernel
theorem dX12_wordOf_3 : decode cX12_wordOf 3 = .ok (.istore_n 3, 1) := by decide +kernel
theorem dX12_wordOf_4 : decode cX12_wordOf 4 = .ok (.aload_n 0, 1) := by decide +kernel
theorem dX12_wordOf_5 : decode cX12_wordOf 5 = .ok (.getfield 10, 3) := by decide +kernel
theorem dX12_wordOf_8 : decode cX12_wordOf 8 = .ok (.iload_n 1, 1) := by decide +kernel
theorem dX12_wordOf_9 : decode cX12_wordOf 9 = .ok (.iload_n 2, 1) := by decide +kernel
theorem dX12_wordOf_10 : decode cX12_wordOf 10 = .ok (.iadd, 1) := by decide +kernel
theorem dX12_wordOf_11 : decode cX12_wordOf 11 = .ok (.iaload, 1) := by decide +kernel
theorem dX12_wordOf_12 : decode cX12_wordOf 12 = .ok (.istore 4, 2) := by decide +kernel
theorem dX12_wordOf_14 : decode cX12_wordOf 14 = .ok (.iconst 0, 1) := by decide +kernel
theorem dX12_wordOf_15 : decode cX12_wordOf 15 = .ok (.istore 5, 2) := by decide +kernel
theorem dX12_wordOf_17 : decode cX12_wordOf 17 = .ok (.iload 5, 2) := by decide +kernel
theorem dX12_wordOf_19 : decode cX12_wordOf 19 = .ok (.aload_n 0, 1) := by decide +kernel
theorem dX12_wordOf_20 : decode cX12_wordOf 20 = .ok (.getfield 10, 3) := by decide +kernel
theorem dX12_wordOf_23 : decode cX12_wordOf 23 = .ok (.iload_n 1, 1) := by decide +kernel
theorem dX12_wordOf_24 : decode cX12_wordOf 24 = .ok (.bipush 64, 2) := by decide +kernel
theorem dX12_wordOf_26 : decode cX12_wordOf 26 = .ok (.iadd, 1) := by decide +kernel
theorem dX12_wordOf_27 : decode cX12_wordOf 27 = .ok (.iload_n 3, 1) := by decide +kernel
theorem dX12_wordOf_28 : decode cX12_wordOf 28 = .ok (.iadd, 1) := by decide +kernel
theorem dX12_wordOf_29 : decode cX12_wordOf 29 = .ok (.iaload, 1) := by decide +kernel
theorem dX12_wordOf_30 : decode cX12_wordOf 30 = .ok (.if_icmp .ge 55, 3) := by decide +kernel
theorem dX12_wordOf_33 : decode cX12_wordOf 33 = .ok (.aload_n 0, 1) := by decide +kernel
theorem dX12_wordOf_34 : decode cX12_wordOf 34 = .ok (.getfield 10, 3) := by decide +kernel
theorem dX12_wordOf_37 : decode cX12_wordOf 37 = .ok (.iload_n 1, 1) := by decide +kernel
theorem dX12_wordOf_38 : decode cX12_wordOf 38 = .ok (.bipush 96, 2) := by decide +kernel
theorem dX12_wordOf_40 : decode cX12_wordOf 40 = .ok (.iadd, 1) := by decide +kernel
theorem dX12_wordOf_41 : decode cX12_wordOf 41 = .ok (.bipush 12, 2) := by decide +kernel
theorem dX12_wordOf_43 : decode cX12_wordOf 43 = .ok (.iload_n 3, 1) := by decide +kernel
theorem dX12_wordOf_44 : decode cX12_wordOf 44 = .ok (.imul, 1) := by decide +kernel
theorem dX12_wordOf_45 : decode cX12_wordOf 45 = .ok (.iadd, 1) := by decide +kernel
theorem dX12_wordOf_46 : decode cX12_wordOf 46 = .ok (.iconst 2, 1) := by decide +kernel
theorem dX12_wordOf_47 : decode cX12_wordOf 47 = .ok (.iload 5, 2) := by decide +kernel
theorem dX12_wordOf_49 : decode cX12_wordOf 49 = .ok (.imul, 1) := by decide +kernel
theorem dX12_wordOf_50 : decode cX12_wordOf 50 = .ok (.iadd, 1) := by decide +kernel
theorem dX12_wordOf_51 : decode cX12_wordOf 51 = .ok (.iaload, 1) := by decide +kernel
theorem dX12_wordOf_52 : decode cX12_wordOf 52 = .ok (.iload_n 2, 1) := by decide +kernel
theorem dX12_wordOf_53 : decode cX12_wordOf 53 = .ok (.if_icmp .ne 26, 3) := by decide +kernel
theorem dX12_wordOf_56 : decode cX12_wordOf 56 = .ok (.aload_n 0, 1) := by decide +kernel
theorem dX12_wordOf_57 : decode cX12_wordOf 57 = .ok (.getfield 10, 3) := by decide +kernel
theorem dX12_wordOf_60 : decode cX12_wordOf 60 = .ok (.iload_n 1, 1) := by decide +kernel
theorem dX12_wordOf_61 : decode cX12_wordOf 61 = .ok (.bipush 96, 2) := by decide +kernel
theorem dX12_wordOf_63 : decode cX12_wordOf 63 = .ok (.iadd, 1) := by decide +kernel
theorem dX12_wordOf_64 : decode cX12_wordOf 64 = .ok (.bipush 12, 2) := by decide +kernel
theorem dX12_wordOf_66 : decode cX12_wordOf 66 = .ok (.iload_n 3, 1) := by decide +kernel
theorem dX12_wordOf_67 : decode cX12_wordOf 67 = .ok (.imul, 1) := by decide +kernel
theorem dX12_wordOf_68 : decode cX12_wordOf 68 = .ok (.iadd, 1) := by decide +kernel
theorem dX12_wordOf_69 : decode cX12_wordOf 69 = .ok (.iconst 2, 1) := by decide +kernel
theorem dX12_wordOf_70 : decode cX12_wordOf 70 = .ok (.iload 5, 2) := by decide +kernel
theorem dX12_wordOf_72 : decode cX12_wordOf 72 = .ok (.imul, 1) := by decide +kernel
theorem dX12_wordOf_73 : decode cX12_wordOf 73 = .ok (.iadd, 1) := by decide +kernel
theorem dX12_wordOf_74 : decode cX12_wordOf 74 = .ok (.iconst 1, 1) := by decide +kernel
theorem dX12_wordOf_75 : decode cX12_wordOf 75 = .ok (.iadd, 1) := by decide +kernel
theorem dX12_wordOf_76 : decode cX12_wordOf 76 = .ok (.iaload, 1) := by decide +kernel
theorem dX12_wordOf_77 : decode cX12_wordOf 77 = .ok (.istore 4, 2) := by decide +kernel
theorem dX12_wordOf_79 : decode cX12_wordOf 79 = .ok (.iinc 5 1, 3) := by decide +kernel
theorem dX12_wordOf_82 : decode cX12_wordOf 82 = .ok (.goto (-65), 3) := by decide +kernel
theorem dX12_wordOf_85 : decode cX12_wordOf 85 = .ok (.iload 4, 2) := by decide +kernel
theorem dX12_wordOf_87 : decode cX12_wordOf 87 = .ok (.ireturn, 1) := by decide +kernel
theorem dX12_reaches_0 : decode cX12_reaches 0 = .ok (.iload_n 1, 1) := by decide +kernel
theorem dX12_reaches_1 : decode cX12_reaches 1 = .ok (.bipush 96, 2) := by decide +kernel
theorem dX12_reaches_3 : decode cX12_reaches 3 = .ok (.iadd, 1) := by decide +kernel
theorem dX12_reaches_4 : decode cX12_reaches 4 = .ok (.bipush 12, 2) := by decide +kernel
theorem dX12_reaches_6 : decode cX12_reaches 6 = .ok (.iload_n 2, 1) := by decide +kernel
theorem dX12_reaches_7 : decode cX12_reaches 7 = .ok (.imul, 1) := by decide +kernel
theorem dX12_reaches_8 : decode cX12_reaches 8 = .ok (.iadd, 1) := by decide +kernel
theorem dX12_reaches_9 : decode cX12_reaches 9 = .ok (.istore 4, 2) := by decide +kernel
theorem dX12_reaches_11 : decode cX12_reaches 11 = .ok (.iconst 0, 1) := by decide +kernel
theorem dX12_reaches_12 : decode cX12_reaches 12 = .ok (.istore 5, 2) := by decide +kernel
theorem dX12_reaches_14 : decode cX12_reaches 14 = .ok (.iload 5, 2) := by decide +kernel
theorem dX12_reaches_16 : decode cX12_reaches 16 = .ok (.iload_n 3, 1) := by decide +kernel
theorem dX12_reaches_17 : decode cX12_reaches 17 = .ok (.if_icmp .ge 42, 3) := by decide +kernel
theorem dX12_reaches_20 : decode cX12_reaches 20 = .ok (.aload_n 0, 1) := by decide +kernel
theorem dX12_reaches_21 : decode cX12_reaches 21 = .ok (.getfield 10, 3) := by decide +kernel
theorem dX12_reaches_24 : decode cX12_reaches 24 = .ok (.iload_n 1, 1) := by decide +kernel
theorem dX12_reaches_25 : decode cX12_reaches 25 = .ok (.aload_n 0, 1) := by decide +kernel
theorem dX12_reaches_26 : decode cX12_reaches 26 = .ok (.getfield 10, 3) := by decide +kernel
theorem dX12_reaches_29 : decode cX12_reaches 29 = .ok (.iload 4, 2) := by decide +kernel
theorem dX12_reaches_31 : decode cX12_reaches 31 = .ok (.iconst 2, 1) := by decide +kernel
theorem dX12_reaches_32 : decode cX12_reaches 32 = .ok (.iload 5, 2) := by decide +kernel
theorem dX12_reaches_34 : decode cX12_reaches 34 = .ok (.imul, 1) := by decide +kernel
theorem dX12_reaches_35 : decode cX12_reaches 35 = .ok (.iadd, 1) := by decide +kernel
theorem dX12_reaches_36 : decode cX12_reaches 36 = .ok (.iaload, 1) := by decide +kernel
theorem dX12_reaches_37 : decode cX12_reaches 37 = .ok (.iadd, 1) := by decide +kernel
theorem dX12_reaches_38 : decode cX12_reaches 38 = .ok (.aload_n 0, 1) := by decide +kernel
theorem dX12_reaches_39 : decode cX12_reaches 39 = .ok (.getfield 10, 3) := by decide +kernel
theorem dX12_reaches_42 : decode cX12_reaches 42 = .ok (.iload 4, 2) := by decide +kernel
theorem dX12_reaches_44 : decode cX12_reaches 44 = .ok (.iconst 2, 1) := by decide +kernel
theorem dX12_reaches_45 : decode cX12_reaches 45 = .ok (.iload 5, 2) := by decide +kernel
theorem dX12_reaches_47 : decode cX12_reaches 47 = .ok (.imul, 1) := by decide +kernel
theorem dX12_reaches_48 : decode cX12_reaches 48 = .ok (.iadd, 1) := by decide +kernel
theorem dX12_reaches_49 : decode cX12_reaches 49 = .ok (.iconst 1, 1) := by decide +kernel
theorem dX12_reaches_50 : decode cX12_reaches 50 = .ok (.iadd, 1) := by decide +kernel
theorem dX12_reaches_51 : decode cX12_reaches 51 = .ok (.iaload, 1) := by decide +kernel
theorem dX12_reaches_52 : decode cX12_reaches 52 = .ok (.iastore, 1) := by decide +kernel
theorem dX12_reaches_53 : decode cX12_reaches 53 = .ok (.iinc 5 1, 3) := by decide +kernel
theorem dX12_reaches_56 : decode cX12_reaches 56 = .ok (.goto (-42), 3) := by decide +kernel
theorem dX12_reaches_59 : decode cX12_reaches 59 = .ok (.aload_n 0, 1) := by decide +kernel
theorem dX12_reaches_60 : decode cX12_reaches 60 = .ok (.getfield 10, 3) := by decide +kernel
theorem dX12_reaches_63 : decode cX12_reaches 63 = .ok (.iload_n 1, 1) := by decide +kernel
theorem dX12_reaches_64 : decode cX12_reaches 64 = .ok (.bipush 64, 2) := by decide +kernel
theorem dX12_reaches_66 : decode cX12_reaches 66 = .ok (.iadd, 1) := by decide +kernel
theorem dX12_reaches_67 : decode cX12_reaches 67 = .ok (.iload_n 2, 1) := by decide +kernel
theorem dX12_reaches_68 : decode cX12_reaches 68 = .ok (.iadd, 1) := by decide +kernel
theorem dX12_reaches_69 : decode cX12_reaches 69 = .ok (.iaload, 1) := by decide +kernel
theorem dX12_reaches_70 : decode cX12_reaches 70 = .ok (.iload_n 3, 1) := by decide +kernel
theorem dX12_reaches_71 : decode cX12_reaches 71 = .ok (.isub, 1) := by decide +kernel
theorem dX12_reaches_72 : decode cX12_reaches 72 = .ok (.istore 5, 2) := by decide +kernel
theorem dX12_reaches_74 : decode cX12_reaches 74 = .ok (.iconst 0, 1) := by decide +kernel
theorem dX12_reaches_75 : decode cX12_reaches 75 = .ok (.istore 6, 2) := by decide +kernel
theorem dX12_reaches_77 : decode cX12_reaches 77 = .ok (.iload 6, 2) := by decide +kernel
theorem dX12_reaches_79 : decode cX12_reaches 79 = .ok (.iconst 2, 1) := by decide +kernel
theorem dX12_reaches_80 : decode cX12_reaches 80 = .ok (.iload 5, 2) := by decide +kernel
theorem dX12_reaches_82 : decode cX12_reaches 82 = .ok (.imul, 1) := by decide +kernel
theorem dX12_reaches_83 : decode cX12_reaches 83 = .ok (.if_icmp .ge 33, 3) := by decide +kernel
theorem dX12_reaches_86 : decode cX12_reaches 86 = .ok (.aload_n 0, 1) := by decide +kernel
theorem dX12_reaches_87 : decode cX12_reaches 87 = .ok (.getfield 10, 3) := by decide +kernel
theorem dX12_reaches_90 : decode cX12_reaches 90 = .ok (.iload 4, 2) := by decide +kernel
theorem dX12_reaches_92 : decode cX12_reaches 92 = .ok (.iload 6, 2) := by decide +kernel
theorem dX12_reaches_94 : decode cX12_reaches 94 = .ok (.iadd, 1) := by decide +kernel
theorem dX12_reaches_95 : decode cX12_reaches 95 = .ok (.aload_n 0, 1) := by decide +kernel
theorem dX12_reaches_96 : decode cX12_reaches 96 = .ok (.getfield 10, 3) := by decide +kernel
theorem dX12_reaches_99 : decode cX12_reaches 99 = .ok (.iload 4, 2) := by decide +kernel
theorem dX12_reaches_101 : decode cX12_reaches 101 = .ok (.iconst 2, 1) := by decide +kernel
theorem dX12_reaches_102 : decode cX12_reaches 102 = .ok (.iload_n 3, 1) := by decide +kernel
theorem dX12_reaches_103 : decode cX12_reaches 103 = .ok (.imul, 1) := by decide +kernel
theorem dX12_reaches_104 : decode cX12_reaches 104 = .ok (.iadd, 1) := by decide +kernel
theorem dX12_reaches_105 : decode cX12_reaches 105 = .ok (.iload 6, 2) := by decide +kernel
theorem dX12_reaches_107 : decode cX12_reaches 107 = .ok (.iadd, 1) := by decide +kernel
theorem dX12_reaches_108 : decode cX12_reaches 108 = .ok (.iaload, 1) := by decide +kernel
theorem dX12_reaches_109 : decode cX12_reaches 109 = .ok (.iastore, 1) := by decide +kernel
theorem dX12_reaches_110 : decode cX12_reaches 110 = .ok (.iinc 6 1, 3) := by decide +kernel
theorem dX12_reaches_113 : decode cX12_reaches 113 = .ok (.goto (-36), 3) := by decide +kernel
theorem dX12_reaches_116 : decode cX12_reaches 116 = .ok (.aload_n 0, 1) := by decide +kernel
theorem dX12_reaches_117 : decode cX12_reaches 117 = .ok (.getfield 10, 3) := by decide +kernel
theorem dX12_reaches_120 : decode cX12_reaches 120 = .ok (.iload_n 1, 1) := by decide +kernel
theorem dX12_reaches_121 : decode cX12_reaches 121 = .ok (.bipush 64, 2) := by decide +kernel
theorem dX12_reaches_123 : decode cX12_reaches 123 = .ok (.iadd, 1) := by decide +kernel
theorem dX12_reaches_124 : decode cX12_reaches 124 = .ok (.iload_n 2, 1) := by decide +kernel
theorem dX12_reaches_125 : decode cX12_reaches 125 = .ok (.iadd, 1) := by decide +kernel
theorem dX12_reaches_126 : decode cX12_reaches 126 = .ok (.iload 5, 2) := by decide +kernel
theorem dX12_reaches_128 : decode cX12_reaches 128 = .ok (.iastore, 1) := by decide +kernel
theorem dX12_reaches_129 : decode cX12_reaches 129 = .ok (.aload_n 0, 1) := by decide +kernel
theorem dX12_reaches_130 : decode cX12_reaches 130 = .ok (.getfield 10, 3) := by decide +kernel
theorem dX12_reaches_133 : decode cX12_reaches 133 = .ok (.iload_n 1, 1) := by decide +kernel
theorem dX12_reaches_134 : decode cX12_reaches 134 = .ok (.bipush 80, 2) := by decide +kernel
theorem dX12_reaches_136 : decode cX12_reaches 136 = .ok (.iadd, 1) := by decide +kernel
theorem dX12_reaches_137 : decode cX12_reaches 137 = .ok (.iload_n 2, 1) := by decide +kernel
theorem dX12_reaches_138 : decode cX12_reaches 138 = .ok (.iadd, 1) := by decide +kernel
theorem dX12_reaches_139 : decode cX12_reaches 139 = .ok (.aload_n 0, 1) := by decide +kernel
theorem dX12_reaches_140 : decode cX12_reaches 140 = .ok (.getfield 10, 3) := by decide +kernel
theorem dX12_reaches_143 : decode cX12_reaches 143 = .ok (.iload_n 1, 1) := by decide +kernel
theorem dX12_reaches_144 : decode cX12_reaches 144 = .ok (.bipush 80, 2) := by decide +kernel
theorem dX12_reaches_146 : decode cX12_reaches 146 = .ok (.iadd, 1) := by decide +kernel
theorem dX12_reaches_147 : decode cX12_reaches 147 = .ok (.iload_n 2, 1) := by decide +kernel
theorem dX12_reaches_148 : decode cX12_reaches 148 = .ok (.iadd, 1) := by decide +kernel
theorem dX12_reaches_149 : decode cX12_reaches 149 = .ok (.iaload, 1) := by decide +kernel
theorem dX12_reaches_150 : decode cX12_reaches 150 = .ok (.iload_n 3, 1) := by decide +kernel
theorem dX12_reaches_151 : decode cX12_reaches 151 = .ok (.if_icmp .ge 7, 3) := by decide +kernel
theorem dX12_reaches_154 : decode cX12_reaches 154 = .ok (.iconst 0, 1) := by decide +kernel
theorem dX12_reaches_155 : decode cX12_reaches 155 = .ok (.goto 16, 3) := by decide +kernel
theorem dX12_reaches_158 : decode cX12_reaches 158 = .ok (.aload_n 0, 1) := by decide +kernel
theorem dX12_reaches_159 : decode cX12_reaches 159 = .ok (.getfield 10, 3) := by decide +kernel
theorem dX12_reaches_162 : decode cX12_reaches 162 = .ok (.iload_n 1, 1) := by decide +kernel
theorem dX12_reaches_163 : decode cX12_reaches 163 = .ok (.bipush 80, 2) := by decide +kernel
theorem dX12_reaches_165 : decode cX12_reaches 165 = .ok (.iadd, 1) := by decide +kernel
theorem dX12_reaches_166 : decode cX12_reaches 166 = .ok (.iload_n 2, 1) := by decide +kernel
theorem dX12_reaches_167 : decode cX12_reaches 167 = .ok (.iadd, 1) := by decide +kernel
theorem dX12_reaches_168 : decode cX12_reaches 168 = .ok (.iaload, 1) := by decide +kernel
theorem dX12_reaches_169 : decode cX12_reaches 169 = .ok (.iload_n 3, 1) := by decide +kernel
theorem dX12_reaches_170 : decode cX12_reaches 170 = .ok (.isub, 1) := by decide +kernel
theorem dX12_reaches_171 : decode cX12_reaches 171 = .ok (.iastore, 1) := by decide +kernel
theorem dX12_reaches_172 : decode cX12_reaches 172 = .ok (.return_, 1) := by decide +kernel
set_option maxRecDepth 20000 in
theorem ggX12_stores_X12_reaches : GoodIn wsX12_stores wsX12_reaches := goodIn_r _ [6, 1, 7, 8, 9, 10, 11, 12, 13, 14, 15, 16, 17, 18, 19, 20, 21, 22, 23, 24, 25, 26, 27, 28, 29, 30, 31, 32, 33, 34, 35, 36, 37, 38, 39, 40, 41, 42, 43, 44, 45, 46, 47, 48, 49, 50, 51, 52, 53, 54, 55, 56, 57] (by decide +kernel) (by decide +kernel)
set_option maxRecDepth 20000 in
theorem gX12_stores_X12_reaches : GoodIn wsX12_stores (wsV RX12 66 RX12 yX12_reaches wsX12_reaches) := goodIn_app (goodIn_of _ (by decide +kernel)) ggX12_stores_X12_reaches
theorem dX12_stores_0 : decode cX12_stores 0 = .ok (.iload_n 2, 1) := by decide +kernel
theorem dX12_stores_1 : decode cX12_stores 1 = .ok (.iconst 4, 1) := by decide +kernel
theorem dX12_stores_2 : decode cX12_stores 2 = .ok (.idiv, 1) := by decide +kernel
theorem dX12_stores_3 : decode cX12_stores 3 = .ok (.istore 4, 2) := by decide +kernel
theorem dX12_stores_5 : decode cX12_stores 5 = .ok (.aload_n 0, 1) := by decide +kernel
theorem dX12_stores_6 : decode cX12_stores 6 = .ok (.getfield 10, 3) := by decide +kernel
theorem dX12_stores_9 : decode cX12_stores 9 = .ok (.iload_n 1, 1) := by decide +kernel
theorem dX12_stores_10 : decode cX12_stores 10 = .ok (.bipush 64, 2) := by decide +kernel
theorem dX12_stores_12 : decode cX12_stores 12 = .ok (.iadd, 1) := by decide +kernel
theorem dX12_stores_13 : decode cX12_stores 13 = .ok (.iload 4, 2) := by decide +kernel
theorem dX12_stores_15 : decode cX12_stores 15 = .ok (.iadd, 1) := by decide +kernel
theorem dX12_stores_16 : decode cX12_stores 16 = .ok (.iaload, 1) := by decide +kernel
theorem dX12_stores_17 : decode cX12_stores 17 = .ok (.bipush 6, 2) := by decide +kernel
theorem dX12_stores_19 : decode cX12_stores 19 = .ok (.if_icmp .ne 11, 3) := by decide +kernel
theorem dX12_stores_22 : decode cX12_stores 22 = .ok (.aload_n 0, 1) := by decide +kernel
theorem dX12_stores_23 : decode cX12_stores 23 = .ok (.iload_n 1, 1) := by decide +kernel
theorem dX12_stores_24 : decode cX12_stores 24 = .ok (.iload 4, 2) := by decide +kernel
theorem dX12_stores_26 : decode cX12_stores 26 = .ok (.iconst 1, 1) := by decide +kernel
theorem dX12_stores_27 : decode cX12_stores 27 = .ok (.invokevirtual 66, 3) := by decide +kernel
theorem dX12_stores_30 : decode cX12_stores 30 = .ok (.iload_n 1, 1) := by decide +kernel
theorem dX12_stores_31 : decode cX12_stores 31 = .ok (.bipush 96, 2) := by decide +kernel
theorem dX12_stores_33 : decode cX12_stores 33 = .ok (.iadd, 1) := by decide +kernel
theorem dX12_stores_34 : decode cX12_stores 34 = .ok (.bipush 12, 2) := by decide +kernel
theorem dX12_stores_36 : decode cX12_stores 36 = .ok (.iload 4, 2) := by decide +kernel
theorem dX12_stores_38 : decode cX12_stores 38 = .ok (.imul, 1) := by decide +kernel
theorem dX12_stores_39 : decode cX12_stores 39 = .ok (.iadd, 1) := by decide +kernel
theorem dX12_stores_40 : decode cX12_stores 40 = .ok (.iconst 2, 1) := by decide +kernel
theorem dX12_stores_41 : decode cX12_stores 41 = .ok (.aload_n 0, 1) := by decide +kernel
theorem dX12_stores_42 : decode cX12_stores 42 = .ok (.getfield 10, 3) := by decide +kernel
theorem dX12_stores_45 : decode cX12_stores 45 = .ok (.iload_n 1, 1) := by decide +kernel
theorem dX12_stores_46 : decode cX12_stores 46 = .ok (.bipush 64, 2) := by decide +kernel
theorem dX12_stores_48 : decode cX12_stores 48 = .ok (.iadd, 1) := by decide +kernel
theorem dX12_stores_49 : decode cX12_stores 49 = .ok (.iload 4, 2) := by decide +kernel
theorem dX12_stores_51 : decode cX12_stores 51 = .ok (.iadd, 1) := by decide +kernel
theorem dX12_stores_52 : decode cX12_stores 52 = .ok (.iaload, 1) := by decide +kernel
theorem dX12_stores_53 : decode cX12_stores 53 = .ok (.imul, 1) := by decide +kernel
theorem dX12_stores_54 : decode cX12_stores 54 = .ok (.iadd, 1) := by decide +kernel
theorem dX12_stores_55 : decode cX12_stores 55 = .ok (.istore 5, 2) := by decide +kernel
theorem dX12_stores_57 : decode cX12_stores 57 = .ok (.aload_n 0, 1) := by decide +kernel
theorem dX12_stores_58 : decode cX12_stores 58 = .ok (.getfield 10, 3) := by decide +kernel
theorem dX12_stores_61 : decode cX12_stores 61 = .ok (.iload 5, 2) := by decide +kernel
theorem dX12_stores_63 : decode cX12_stores 63 = .ok (.iload_n 2, 1) := by decide +kernel
theorem dX12_stores_64 : decode cX12_stores 64 = .ok (.iastore, 1) := by decide +kernel
theorem dX12_stores_65 : decode cX12_stores 65 = .ok (.aload_n 0, 1) := by decide +kernel
theorem dX12_stores_66 : decode cX12_stores 66 = .ok (.getfield 10, 3) := by decide +kernel
theorem dX12_stores_69 : decode cX12_stores 69 = .ok (.iload 5, 2) := by decide +kernel
theorem dX12_stores_71 : decode cX12_stores 71 = .ok (.iconst 1, 1) := by decide +kernel
theorem dX12_stores_72 : decode cX12_stores 72 = .ok (.iadd, 1) := by decide +kernel
theorem dX12_stores_73 : decode cX12_stores 73 = .ok (.iload_n 3, 1) := by decide +kernel
theorem dX12_stores_74 : decode cX12_stores 74 = .ok (.iastore, 1) := by decide +kernel
theorem dX12_stores_75 : decode cX12_stores 75 = .ok (.aload_n 0, 1) := by decide +kernel
theorem dX12_stores_76 : decode cX12_stores 76 = .ok (.getfield 10, 3) := by decide +kernel
theorem dX12_stores_79 : decode cX12_stores 79 = .ok (.iload_n 1, 1) := by decide +kernel
theorem dX12_stores_80 : decode cX12_stores 80 = .ok (.bipush 64, 2) := by decide +kernel
theorem dX12_stores_82 : decode cX12_stores 82 = .ok (.iadd, 1) := by decide +kernel
theorem dX12_stores_83 : decode cX12_stores 83 = .ok (.iload 4, 2) := by decide +kernel
theorem dX12_stores_85 : decode cX12_stores 85 = .ok (.iadd, 1) := by decide +kernel
theorem dX12_stores_86 : decode cX12_stores 86 = .ok (.dup2, 1) := by decide +kernel
theorem dX12_stores_87 : decode cX12_stores 87 = .ok (.iaload, 1) := by decide +kernel
theorem dX12_stores_88 : decode cX12_stores 88 = .ok (.iconst 1, 1) := by decide +kernel
theorem dX12_stores_89 : decode cX12_stores 89 = .ok (.iadd, 1) := by decide +kernel
theorem dX12_stores_90 : decode cX12_stores 90 = .ok (.iastore, 1) := by decide +kernel
theorem dX12_stores_91 : decode cX12_stores 91 = .ok (.return_, 1) := by decide +kernel
set_option maxRecDepth 20000 in
theorem ggX12_does_X12_stores : GoodIn wsX12_does wsX12_stores := goodIn_r _ [6, 1, 7, 8, 9, 5, 10, 11, 12, 13, 14, 15, 16, 17, 18, 19, 20, 21, 22, 23, 24, 25, 26, 27, 28, 29, 30, 31, 32, 33, 34, 35, 36, 37, 38, 39, 40, 41, 42, 43, 44, 45, 46, 47, 48, 49, 50, 51, 52, 53, 54, 55, 56, 57, 58, 59, 60, 61] (by decide +kernel) (by decide +kernel)
set_option maxRecDepth 20000 in
theorem gX12_does_X12_stores : GoodIn wsX12_does (wsV RX12 70 RX12 yX12_stores wsX12_stores) := goodIn_app (goodIn_of _ (by decide +kernel)) ggX12_does_X12_stores
set_option maxRecDepth 20000 in
theorem ggX12_does_X12_reaches : GoodIn wsX12_does wsX12_reaches := goodIn_r _ [10, 1, 11, 12, 13, 14, 15, 16, 17, 18, 19, 20, 21, 22, 23, 24, 25, 26, 27, 28, 29, 30, 31, 32, 33, 34, 35, 36, 37, 38, 39, 40, 41, 42, 43, 44, 45, 46, 47, 48, 49, 50, 51, 52, 53, 54, 55, 56, 57, 58, 59, 60, 61] (by decide +kernel) (by decide +kernel)
set_option maxRecDepth 20000 in
theorem gX12_does_X12_reaches : GoodIn wsX12_does (wsV RX12 66 RX12 yX12_reaches wsX12_reaches) := goodIn_app (goodIn_of _ (by decide +kernel)) ggX12_does_X12_reaches
theorem dX12_does_0 : decode cX12_does 0 = .ok (.iload_n 2, 1) := by decide +kernel
theorem dX12_does_1 : decode cX12_does 1 = .ok (.ifCond .ne 28, 3) := by decide +kernel
theorem dX12_does_4 : decode cX12_does 4 = .ok (.aload_n 0, 1) := by decide +kernel
theorem dX12_does_5 : decode cX12_does 5 = .ok (.iload_n 1, 1) := by decide +kernel
theorem dX12_does_6 : decode cX12_does 6 = .ok (.iload_n 3, 1) := by decide +kernel
theorem dX12_does_7 : decode cX12_does 7 = .ok (.iload 4, 2) := by decide +kernel
theorem dX12_does_9 : decode cX12_does 9 = .ok (.invokevirtual 70, 3) := by decide +kernel
theorem dX12_does_12 : decode cX12_does 12 = .ok (.aload_n 0, 1) := by decide +kernel
theorem dX12_does_13 : decode cX12_does 13 = .ok (.getfield 10, 3) := by decide +kernel
theorem dX12_does_16 : decode cX12_does 16 = .ok (.iload_n 1, 1) := by decide +kernel
theorem dX12_does_17 : decode cX12_does 17 = .ok (.sipush 783, 3) := by decide +kernel
theorem dX12_does_20 : decode cX12_does 20 = .ok (.iadd, 1) := by decide +kernel
theorem dX12_does_21 : decode cX12_does 21 = .ok (.dup2, 1) := by decide +kernel
theorem dX12_does_22 : decode cX12_does 22 = .ok (.iaload, 1) := by decide +kernel
theorem dX12_does_23 : decode cX12_does 23 = .ok (.iconst 1, 1) := by decide +kernel
theorem dX12_does_24 : decode cX12_does 24 = .ok (.iadd, 1) := by decide +kernel
theorem dX12_does_25 : decode cX12_does 25 = .ok (.iastore, 1) := by decide +kernel
theorem dX12_does_26 : decode cX12_does 26 = .ok (.goto 96, 3) := by decide +kernel
theorem dX12_does_29 : decode cX12_does 29 = .ok (.iload_n 2, 1) := by decide +kernel
theorem dX12_does_30 : decode cX12_does 30 = .ok (.iconst 1, 1) := by decide +kernel
theorem dX12_does_31 : decode cX12_does 31 = .ok (.if_icmp .ne 42, 3) := by decide +kernel
theorem dX12_does_34 : decode cX12_does 34 = .ok (.aload_n 0, 1) := by decide +kernel
theorem dX12_does_35 : decode cX12_does 35 = .ok (.getfield 10, 3) := by decide +kernel
theorem dX12_does_38 : decode cX12_does 38 = .ok (.iload_n 1, 1) := by decide +kernel
theorem dX12_does_39 : decode cX12_does 39 = .ok (.bipush 80, 2) := by decide +kernel
theorem dX12_does_41 : decode cX12_does 41 = .ok (.iadd, 1) := by decide +kernel
theorem dX12_does_42 : decode cX12_does 42 = .ok (.iload_n 3, 1) := by decide +kernel
theorem dX12_does_43 : decode cX12_does 43 = .ok (.iadd, 1) := by decide +kernel
theorem dX12_does_44 : decode cX12_does 44 = .ok (.aload_n 0, 1) := by decide +kernel
theorem dX12_does_45 : decode cX12_does 45 = .ok (.getfield 10, 3) := by decide +kernel
theorem dX12_does_48 : decode cX12_does 48 = .ok (.iload_n 1, 1) := by decide +kernel
theorem dX12_does_49 : decode cX12_does 49 = .ok (.bipush 64, 2) := by decide +kernel
theorem dX12_does_51 : decode cX12_does 51 = .ok (.iadd, 1) := by decide +kernel
theorem dX12_does_52 : decode cX12_does 52 = .ok (.iload_n 3, 1) := by decide +kernel
theorem dX12_does_53 : decode cX12_does 53 = .ok (.iadd, 1) := by decide +kernel
theorem dX12_does_54 : decode cX12_does 54 = .ok (.iaload, 1) := by decide +kernel
theorem dX12_does_55 : decode cX12_does 55 = .ok (.iastore, 1) := by decide +kernel
theorem dX12_does_56 : decode cX12_does 56 = .ok (.aload_n 0, 1) := by decide +kernel
theorem dX12_does_57 : decode cX12_does 57 = .ok (.getfield 10, 3) := by decide +kernel
theorem dX12_does_60 : decode cX12_does 60 = .ok (.iload_n 1, 1) := by decide +kernel
theorem dX12_does_61 : decode cX12_does 61 = .ok (.sipush 784, 3) := by decide +kernel
theorem dX12_does_64 : decode cX12_does 64 = .ok (.iadd, 1) := by decide +kernel
theorem dX12_does_65 : decode cX12_does 65 = .ok (.dup2, 1) := by decide +kernel
theorem dX12_does_66 : decode cX12_does 66 = .ok (.iaload, 1) := by decide +kernel
theorem dX12_does_67 : decode cX12_does 67 = .ok (.iconst 1, 1) := by decide +kernel
theorem dX12_does_68 : decode cX12_does 68 = .ok (.iadd, 1) := by decide +kernel
theorem dX12_does_69 : decode cX12_does 69 = .ok (.iastore, 1) := by decide +kernel
theorem dX12_does_70 : decode cX12_does 70 = .ok (.goto 52, 3) := by decide +kernel
theorem dX12_does_73 : decode cX12_does 73 = .ok (.iconst 0, 1) := by decide +kernel
theorem dX12_does_74 : decode cX12_does 74 = .ok (.istore 5, 2) := by decide +kernel
theorem dX12_does_76 : decode cX12_does 76 = .ok (.iload 5, 2) := by decide +kernel
theorem dX12_does_78 : decode cX12_does 78 = .ok (.bipush 16, 2) := by decide +kernel
theorem dX12_does_80 : decode cX12_does 80 = .ok (.if_icmp .ge 28, 3) := by decide +kernel
theorem dX12_does_83 : decode cX12_does 83 = .ok (.aload_n 0, 1) := by decide +kernel
theorem dX12_does_84 : decode cX12_does 84 = .ok (.iload_n 1, 1) := by decide +kernel
theorem dX12_does_85 : decode cX12_does 85 = .ok (.iload 5, 2) := by decide +kernel
theorem dX12_does_87 : decode cX12_does 87 = .ok (.aload_n 0, 1) := by decide +kernel
theorem dX12_does_88 : decode cX12_does 88 = .ok (.getfield 10, 3) := by decide +kernel
theorem dX12_does_91 : decode cX12_does 91 = .ok (.iload_n 1, 1) := by decide +kernel
theorem dX12_does_92 : decode cX12_does 92 = .ok (.bipush 80, 2) := by decide +kernel
theorem dX12_does_94 : decode cX12_does 94 = .ok (.iadd, 1) := by decide +kernel
theorem dX12_does_95 : decode cX12_does 95 = .ok (.iload 5, 2) := by decide +kernel
theorem dX12_does_97 : decode cX12_does 97 = .ok (.iadd, 1) := by decide +kernel
theorem dX12_does_98 : decode cX12_does 98 = .ok (.iaload, 1) := by decide +kernel
theorem dX12_does_99 : decode cX12_does 99 = .ok (.invokevirtual 66, 3) := by decide +kernel
theorem dX12_does_102 : decode cX12_does 102 = .ok (.iinc 5 1, 3) := by decide +kernel
theorem dX12_does_105 : decode cX12_does 105 = .ok (.goto (-29), 3) := by decide +kernel
theorem dX12_does_108 : decode cX12_does 108 = .ok (.aload_n 0, 1) := by decide +kernel
theorem dX12_does_109 : decode cX12_does 109 = .ok (.getfield 10, 3) := by decide +kernel
theorem dX12_does_112 : decode cX12_does 112 = .ok (.iload_n 1, 1) := by decide +kernel
theorem dX12_does_113 : decode cX12_does 113 = .ok (.sipush 785, 3) := by decide +kernel
theorem dX12_does_116 : decode cX12_does 116 = .ok (.iadd, 1) := by decide +kernel
theorem dX12_does_117 : decode cX12_does 117 = .ok (.dup2, 1) := by decide +kernel
theorem dX12_does_118 : decode cX12_does 118 = .ok (.iaload, 1) := by decide +kernel
theorem dX12_does_119 : decode cX12_does 119 = .ok (.iconst 1, 1) := by decide +kernel
theorem dX12_does_120 : decode cX12_does 120 = .ok (.iadd, 1) := by decide +kernel
theorem dX12_does_121 : decode cX12_does 121 = .ok (.iastore, 1) := by decide +kernel
theorem dX12_does_122 : decode cX12_does 122 = .ok (.return_, 1) := by decide +kernel
theorem dX12_writes_0 : decode cX12_writes 0 = .ok (.aload_n 0, 1) := by decide +kernel
theorem dX12_writes_1 : decode cX12_writes 1 = .ok (.getfield 30, 3) := by decide +kernel
theorem dX12_writes_4 : decode cX12_writes 4 = .ok (.iload_n 1, 1) := by decide +kernel
theorem dX12_writes_5 : decode cX12_writes 5 = .ok (.iload_n 2, 1) := by decide +kernel
theorem dX12_writes_6 : decode cX12_writes 6 = .ok (.iastore, 1) := by decide +kernel
theorem dX12_writes_7 : decode cX12_writes 7 = .ok (.aload_n 0, 1) := by decide +kernel
theorem dX12_writes_8 : decode cX12_writes 8 = .ok (.getfield 33, 3) := by decide +kernel
theorem dX12_writes_11 : decode cX12_writes 11 = .ok (.aload_n 0, 1) := by decide +kernel
theorem dX12_writes_12 : decode cX12_writes 12 = .ok (.getfield 73, 3) := by decide +kernel
theorem dX12_writes_15 : decode cX12_writes 15 = .ok (.iload_n 1, 1) := by decide +kernel
theorem dX12_writes_16 : decode cX12_writes 16 = .ok (.iastore, 1) := by decide +kernel
theorem dX12_writes_17 : decode cX12_writes 17 = .ok (.aload_n 0, 1) := by decide +kernel
theorem dX12_writes_18 : decode cX12_writes 18 = .ok (.getfield 36, 3) := by decide +kernel
theorem dX12_writes_21 : decode cX12_writes 21 = .ok (.aload_n 0, 1) := by decide +kernel
theorem dX12_writes_22 : decode cX12_writes 22 = .ok (.getfield 73, 3) := by decide +kernel
theorem dX12_writes_25 : decode cX12_writes 25 = .ok (.iload_n 2, 1) := by decide +kernel
theorem dX12_writes_26 : decode cX12_writes 26 = .ok (.iastore, 1) := by decide +kernel
theorem dX12_writes_27 : decode cX12_writes 27 = .ok (.aload_n 0, 1) := by decide +kernel
theorem dX12_writes_28 : decode cX12_writes 28 = .ok (.dup, 1) := by decide +kernel
theorem dX12_writes_29 : decode cX12_writes 29 = .ok (.getfield 73, 3) := by decide +kernel
theorem dX12_writes_32 : decode cX12_writes 32 = .ok (.iconst 1, 1) := by decide +kernel
theorem dX12_writes_33 : decode cX12_writes 33 = .ok (.iadd, 1) := by decide +kernel
theorem dX12_writes_34 : decode cX12_writes 34 = .ok (.putfield 73, 3) := by decide +kernel
theorem dX12_writes_37 : decode cX12_writes 37 = .ok (.return_, 1) := by decide +kernel
set_option maxRecDepth 20000 in
theorem ggX12_isUsed_X12_block : GoodIn wsX12_isUsed wsX12_block := goodIn_r _ [4] (by decide +kernel) (by decide +kernel)
set_option maxRecDepth 20000 in
theorem gX12_isUsed_X12_block : GoodIn wsX12_isUsed (va_wsS RX12 76 yX12_block wsX12_block) := goodIn_app (goodIn_of _ (by decide +kernel)) ggX12_isUsed_X12_block
theorem dX12_isUsed_0 : decode cX12_isUsed 0 = .ok (.aload_n 0, 1) := by decide +kernel
theorem dX12_isUsed_1 : decode cX12_isUsed 1 = .ok (.iload_n 1, 1) := by decide +kernel
theorem dX12_isUsed_2 : decode cX12_isUsed 2 = .ok (.invokestatic 76, 3) := by decide +kernel
theorem dX12_isUsed_5 : decode cX12_isUsed 5 = .ok (.iaload, 1) := by decide +kernel
theorem dX12_isUsed_6 : decode cX12_isUsed 6 = .ok (.iconst 1, 1) := by decide +kernel
theorem dX12_isUsed_7 : decode cX12_isUsed 7 = .ok (.if_icmp .ne 7, 3) := by decide +kernel
theorem dX12_isUsed_10 : decode cX12_isUsed 10 = .ok (.iconst 1, 1) := by decide +kernel
theorem dX12_isUsed_11 : decode cX12_isUsed 11 = .ok (.goto 4, 3) := by decide +kernel
theorem dX12_isUsed_14 : decode cX12_isUsed 14 = .ok (.iconst 0, 1) := by decide +kernel
theorem dX12_isUsed_15 : decode cX12_isUsed 15 = .ok (.ireturn, 1) := by decide +kernel
set_option maxRecDepth 20000 in
theorem ggX12_usedAt_X12_blockAt : GoodIn wsX12_usedAt wsX12_blockAt := goodIn_r _ [4] (by decide +kernel) (by decide +kernel)
set_option maxRecDepth 20000 in
theorem gX12_usedAt_X12_blockAt : GoodIn wsX12_usedAt (va_wsS RX12 80 yX12_blockAt wsX12_blockAt) := goodIn_app (goodIn_of _ (by decide +kernel)) ggX12_usedAt_X12_blockAt
set_option maxRecDepth 20000 in
theorem ggX12_usedAt_X12_isUsed : GoodIn wsX12_usedAt wsX12_isUsed := goodIn_r _ [7, 8, 9, 3, 10] (by decide +kernel) (by decide +kernel)
set_option maxRecDepth 20000 in
theorem gX12_usedAt_X12_isUsed : GoodIn wsX12_usedAt (va_wsS RX12 83 yX12_isUsed wsX12_isUsed) := goodIn_app (goodIn_of _ (by decide +kernel)) ggX12_usedAt_X12_isUsed
theorem dX12_usedAt_0 : decode cX12_usedAt 0 = .ok (.iload_n 1, 1) := by decide +kernel
theorem dX12_usedAt_1 : decode cX12_usedAt 1 = .ok (.invokestatic 80, 3) := by decide +kernel
theorem dX12_usedAt_4 : decode cX12_usedAt 4 = .ok (.istore_n 2, 1) := by decide +kernel
theorem dX12_usedAt_5 : decode cX12_usedAt 5 = .ok (.iload_n 2, 1) := by decide +kernel
theorem dX12_usedAt_6 : decode cX12_usedAt 6 = .ok (.iconst (-1), 1) := by decide +kernel
theorem dX12_usedAt_7 : decode cX12_usedAt 7 = .ok (.if_icmp .eq 15, 3) := by decide +kernel
theorem dX12_usedAt_10 : decode cX12_usedAt 10 = .ok (.aload_n 0, 1) := by decide +kernel
theorem dX12_usedAt_11 : decode cX12_usedAt 11 = .ok (.iload_n 2, 1) := by decide +kernel
theorem dX12_usedAt_12 : decode cX12_usedAt 12 = .ok (.invokestatic 83, 3) := by decide +kernel
theorem dX12_usedAt_15 : decode cX12_usedAt 15 = .ok (.ifCond .eq 7, 3) := by decide +kernel
theorem dX12_usedAt_18 : decode cX12_usedAt 18 = .ok (.iload_n 2, 1) := by decide +kernel
theorem dX12_usedAt_19 : decode cX12_usedAt 19 = .ok (.goto 4, 3) := by decide +kernel
theorem dX12_usedAt_22 : decode cX12_usedAt 22 = .ok (.iconst (-1), 1) := by decide +kernel
theorem dX12_usedAt_23 : decode cX12_usedAt 23 = .ok (.ireturn, 1) := by decide +kernel
set_option maxRecDepth 20000 in
theorem ggX12_shapes_X12_usedAt : GoodIn wsX12_shapes wsX12_usedAt := goodIn_r _ [7, 8, 9, 6, 10, 11, 12, 13, 14, 15, 16] (by decide +kernel) (by decide +kernel)
set_option maxRecDepth 20000 in
theorem gX12_shapes_X12_usedAt : GoodIn wsX12_shapes (va_wsS RX12 96 yX12_usedAt wsX12_usedAt) := goodIn_app (goodIn_of _ (by decide +kernel)) ggX12_shapes_X12_usedAt
set_option maxRecDepth 20000 in
theorem ggX12_shapes_X12_block : GoodIn wsX12_shapes wsX12_block := goodIn_r _ [16] (by decide +kernel) (by decide +kernel)
set_option maxRecDepth 20000 in
theorem gX12_shapes_X12_block : GoodIn wsX12_shapes (va_wsS RX12 76 yX12_block wsX12_block) := goodIn_app (goodIn_of _ (by decide +kernel)) ggX12_shapes_X12_block
theorem dX12_shapes_0 : decode cX12_shapes 0 = .ok (.aload_n 0, 1) := by decide +kernel
theorem dX12_shapes_1 : decode cX12_shapes 1 = .ok (.aload_n 0, 1) := by decide +kernel
theorem dX12_shapes_2 : decode cX12_shapes 2 = .ok (.aload_n 0, 1) := by decide +kernel
theorem dX12_shapes_3 : decode cX12_shapes 3 = .ok (.iconst 0, 1) := by decide +kernel
theorem dX12_shapes_4 : decode cX12_shapes 4 = .ok (.dup_x1, 1) := by decide +kernel
theorem dX12_shapes_5 : decode cX12_shapes 5 = .ok (.putfield 87, 3) := by decide +kernel
theorem dX12_shapes_8 : decode cX12_shapes 8 = .ok (.dup_x1, 1) := by decide +kernel
theorem dX12_shapes_9 : decode cX12_shapes 9 = .ok (.putfield 90, 3) := by decide +kernel
theorem dX12_shapes_12 : decode cX12_shapes 12 = .ok (.putfield 93, 3) := by decide +kernel
theorem dX12_shapes_15 : decode cX12_shapes 15 = .ok (.iconst 0, 1) := by decide +kernel
theorem dX12_shapes_16 : decode cX12_shapes 16 = .ok (.istore_n 2, 1) := by decide +kernel
theorem dX12_shapes_17 : decode cX12_shapes 17 = .ok (.iload_n 2, 1) := by decide +kernel
theorem dX12_shapes_18 : decode cX12_shapes 18 = .ok (.iconst 4, 1) := by decide +kernel
theorem dX12_shapes_19 : decode cX12_shapes 19 = .ok (.if_icmp .ge 160, 3) := by decide +kernel
theorem dX12_shapes_22 : decode cX12_shapes 22 = .ok (.iconst 0, 1) := by decide +kernel
theorem dX12_shapes_23 : decode cX12_shapes 23 = .ok (.istore_n 3, 1) := by decide +kernel
theorem dX12_shapes_24 : decode cX12_shapes 24 = .ok (.aload_n 1, 1) := by decide +kernel
theorem dX12_shapes_25 : decode cX12_shapes 25 = .ok (.bipush 20, 2) := by decide +kernel
theorem dX12_shapes_27 : decode cX12_shapes 27 = .ok (.iload_n 2, 1) := by decide +kernel
theorem dX12_shapes_28 : decode cX12_shapes 28 = .ok (.iadd, 1) := by decide +kernel
theorem dX12_shapes_29 : decode cX12_shapes 29 = .ok (.iaload, 1) := by decide +kernel
theorem dX12_shapes_30 : decode cX12_shapes 30 = .ok (.istore 4, 2) := by decide +kernel
theorem dX12_shapes_32 : decode cX12_shapes 32 = .ok (.iload 4, 2) := by decide +kernel
theorem dX12_shapes_34 : decode cX12_shapes 34 = .ok (.ifCond .eq 7, 3) := by decide +kernel
theorem dX12_shapes_37 : decode cX12_shapes 37 = .ok (.iconst 1, 1) := by decide +kernel
theorem dX12_shapes_38 : decode cX12_shapes 38 = .ok (.goto 4, 3) := by decide +kernel
theorem dX12_shapes_41 : decode cX12_shapes 41 = .ok (.iconst 0, 1) := by decide +kernel
theorem dX12_shapes_42 : decode cX12_shapes 42 = .ok (.istore 5, 2) := by decide +kernel
theorem dX12_shapes_44 : decode cX12_shapes 44 = .ok (.iload 5, 2) := by decide +kernel
theorem dX12_shapes_46 : decode cX12_shapes 46 = .ok (.ifCond .eq 117, 3) := by decide +kernel
theorem dX12_shapes_49 : decode cX12_shapes 49 = .ok (.aload_n 1, 1) := by decide +kernel
theorem dX12_shapes_50 : decode cX12_shapes 50 = .ok (.iload 4, 2) := by decide +kernel
theorem dX12_shapes_52 : decode cX12_shapes 52 = .ok (.invokestatic 96, 3) := by decide +kernel
theorem dX12_shapes_55 : decode cX12_shapes 55 = .ok (.istore 6, 2) := by decide +kernel
theorem dX12_shapes_57 : decode cX12_shapes 57 = .ok (.iload 6, 2) := by decide +kernel
theorem dX12_shapes_59 : decode cX12_shapes 59 = .ok (.iconst (-1), 1) := by decide +kernel
theorem dX12_shapes_60 : decode cX12_shapes 60 = .ok (.if_icmp .ne 18, 3) := by decide +kernel
theorem dX12_shapes_63 : decode cX12_shapes 63 = .ok (.aload_n 0, 1) := by decide +kernel
theorem dX12_shapes_64 : decode cX12_shapes 64 = .ok (.dup, 1) := by decide +kernel
theorem dX12_shapes_65 : decode cX12_shapes 65 = .ok (.getfield 90, 3) := by decide +kernel
theorem dX12_shapes_68 : decode cX12_shapes 68 = .ok (.iconst 1, 1) := by decide +kernel
theorem dX12_shapes_69 : decode cX12_shapes 69 = .ok (.iload_n 2, 1) := by decide +kernel
theorem dX12_shapes_70 : decode cX12_shapes 70 = .ok (.ishl, 1) := by decide +kernel
theorem dX12_shapes_71 : decode cX12_shapes 71 = .ok (.ior, 1) := by decide +kernel
theorem dX12_shapes_72 : decode cX12_shapes 72 = .ok (.putfield 90, 3) := by decide +kernel
theorem dX12_shapes_75 : decode cX12_shapes 75 = .ok (.goto 25, 3) := by decide +kernel
theorem dX12_shapes_78 : decode cX12_shapes 78 = .ok (.iload_n 3, 1) := by decide +kernel
theorem dX12_shapes_79 : decode cX12_shapes 79 = .ok (.iload 6, 2) := by decide +kernel
theorem dX12_shapes_81 : decode cX12_shapes 81 = .ok (.ishr, 1) := by decide +kernel
theorem dX12_shapes_82 : decode cX12_shapes 82 = .ok (.iconst 1, 1) := by decide +kernel
theorem dX12_shapes_83 : decode cX12_shapes 83 = .ok (.iand, 1) := by decide +kernel
theorem dX12_shapes_84 : decode cX12_shapes 84 = .ok (.iconst 1, 1) := by decide +kernel
theorem dX12_shapes_85 : decode cX12_shapes 85 = .ok (.if_icmp .ne 15, 3) := by decide +kernel
theorem dX12_shapes_88 : decode cX12_shapes 88 = .ok (.aload_n 0, 1) := by decide +kernel
theorem dX12_shapes_89 : decode cX12_shapes 89 = .ok (.dup, 1) := by decide +kernel
theorem dX12_shapes_90 : decode cX12_shapes 90 = .ok (.getfield 87, 3) := by decide +kernel
theorem dX12_shapes_93 : decode cX12_shapes 93 = .ok (.iconst 1, 1) := by decide +kernel
theorem dX12_shapes_94 : decode cX12_shapes 94 = .ok (.iload_n 2, 1) := by decide +kernel
theorem dX12_shapes_95 : decode cX12_shapes 95 = .ok (.ishl, 1) := by decide +kernel
theorem dX12_shapes_96 : decode cX12_shapes 96 = .ok (.ior, 1) := by decide +kernel
theorem dX12_shapes_97 : decode cX12_shapes 97 = .ok (.putfield 87, 3) := by decide +kernel
theorem dX12_shapes_100 : decode cX12_shapes 100 = .ok (.iload 6, 2) := by decide +kernel
theorem dX12_shapes_102 : decode cX12_shapes 102 = .ok (.iconst (-1), 1) := by decide +kernel
theorem dX12_shapes_103 : decode cX12_shapes 103 = .ok (.if_icmp .eq 16, 3) := by decide +kernel
theorem dX12_shapes_106 : decode cX12_shapes 106 = .ok (.iload_n 3, 1) := by decide +kernel
theorem dX12_shapes_107 : decode cX12_shapes 107 = .ok (.iload 6, 2) := by decide +kernel
theorem dX12_shapes_109 : decode cX12_shapes 109 = .ok (.ishr, 1) := by decide +kernel
theorem dX12_shapes_110 : decode cX12_shapes 110 = .ok (.iconst 1, 1) := by decide +kernel
theorem dX12_shapes_111 : decode cX12_shapes 111 = .ok (.iand, 1) := by decide +kernel
theorem dX12_shapes_112 : decode cX12_shapes 112 = .ok (.ifCond .ne 7, 3) := by decide +kernel
theorem dX12_shapes_115 : decode cX12_shapes 115 = .ok (.iconst 1, 1) := by decide +kernel
theorem dX12_shapes_116 : decode cX12_shapes 116 = .ok (.goto 4, 3) := by decide +kernel
theorem dX12_shapes_119 : decode cX12_shapes 119 = .ok (.iconst 0, 1) := by decide +kernel
theorem dX12_shapes_120 : decode cX12_shapes 120 = .ok (.istore 5, 2) := by decide +kernel
theorem dX12_shapes_122 : decode cX12_shapes 122 = .ok (.iload 5, 2) := by decide +kernel
theorem dX12_shapes_124 : decode cX12_shapes 124 = .ok (.ifCond .ne 6, 3) := by decide +kernel
theorem dX12_shapes_127 : decode cX12_shapes 127 = .ok (.goto (-83), 3) := by decide +kernel
theorem dX12_shapes_130 : decode cX12_shapes 130 = .ok (.iload_n 3, 1) := by decide +kernel
theorem dX12_shapes_131 : decode cX12_shapes 131 = .ok (.iconst 1, 1) := by decide +kernel
theorem dX12_shapes_132 : decode cX12_shapes 132 = .ok (.iload 6, 2) := by decide +kernel
theorem dX12_shapes_134 : decode cX12_shapes 134 = .ok (.ishl, 1) := by decide +kernel
theorem dX12_shapes_135 : decode cX12_shapes 135 = .ok (.ior, 1) := by decide +kernel
theorem dX12_shapes_136 : decode cX12_shapes 136 = .ok (.istore_n 3, 1) := by decide +kernel
theorem dX12_shapes_137 : decode cX12_shapes 137 = .ok (.aload_n 1, 1) := by decide +kernel
theorem dX12_shapes_138 : decode cX12_shapes 138 = .ok (.iload 6, 2) := by decide +kernel
theorem dX12_shapes_140 : decode cX12_shapes 140 = .ok (.invokestatic 76, 3) := by decide +kernel
theorem dX12_shapes_143 : decode cX12_shapes 143 = .ok (.iconst 1, 1) := by decide +kernel
theorem dX12_shapes_144 : decode cX12_shapes 144 = .ok (.iadd, 1) := by decide +kernel
theorem dX12_shapes_145 : decode cX12_shapes 145 = .ok (.iaload, 1) := by decide +kernel
theorem dX12_shapes_146 : decode cX12_shapes 146 = .ok (.istore 4, 2) := by decide +kernel
theorem dX12_shapes_148 : decode cX12_shapes 148 = .ok (.iload 4, 2) := by decide +kernel
theorem dX12_shapes_150 : decode cX12_shapes 150 = .ok (.ifCond .eq 7, 3) := by decide +kernel
theorem dX12_shapes_153 : decode cX12_shapes 153 = .ok (.iconst 1, 1) := by decide +kernel
theorem dX12_shapes_154 : decode cX12_shapes 154 = .ok (.goto 4, 3) := by decide +kernel
theorem dX12_shapes_157 : decode cX12_shapes 157 = .ok (.iconst 0, 1) := by decide +kernel
theorem dX12_shapes_158 : decode cX12_shapes 158 = .ok (.istore 5, 2) := by decide +kernel
theorem dX12_shapes_160 : decode cX12_shapes 160 = .ok (.goto (-116), 3) := by decide +kernel
theorem dX12_shapes_163 : decode cX12_shapes 163 = .ok (.aload_n 0, 1) := by decide +kernel
theorem dX12_shapes_164 : decode cX12_shapes 164 = .ok (.dup, 1) := by decide +kernel
theorem dX12_shapes_165 : decode cX12_shapes 165 = .ok (.getfield 93, 3) := by decide +kernel
theorem dX12_shapes_168 : decode cX12_shapes 168 = .ok (.iload_n 3, 1) := by decide +kernel
theorem dX12_shapes_169 : decode cX12_shapes 169 = .ok (.ior, 1) := by decide +kernel
theorem dX12_shapes_170 : decode cX12_shapes 170 = .ok (.putfield 93, 3) := by decide +kernel
theorem dX12_shapes_173 : decode cX12_shapes 173 = .ok (.iinc 2 1, 3) := by decide +kernel
theorem dX12_shapes_176 : decode cX12_shapes 176 = .ok (.goto (-159), 3) := by decide +kernel
theorem dX12_shapes_179 : decode cX12_shapes 179 = .ok (.return_, 1) := by decide +kernel
set_option maxRecDepth 20000 in
theorem ggX12_usedBlocks_X12_isUsed : GoodIn wsX12_usedBlocks wsX12_isUsed := goodIn_r _ [4, 5, 6, 3, 7] (by decide +kernel) (by decide +kernel)
set_option maxRecDepth 20000 in
theorem gX12_usedBlocks_X12_isUsed : GoodIn wsX12_usedBlocks (va_wsS RX12 83 yX12_isUsed wsX12_isUsed) := goodIn_app (goodIn_of _ (by decide +kernel)) ggX12_usedBlocks_X12_isUsed
theorem dX12_usedBlocks_0 : decode cX12_usedBlocks 0 = .ok (.iconst 0, 1) := by decide +kernel
theorem dX12_usedBlocks_1 : decode cX12_usedBlocks 1 = .ok (.istore_n 1, 1) := by decide +kernel
theorem dX12_usedBlocks_2 : decode cX12_usedBlocks 2 = .ok (.iconst 0, 1) := by decide +kernel
theorem dX12_usedBlocks_3 : decode cX12_usedBlocks 3 = .ok (.istore_n 2, 1) := by decide +kernel
theorem dX12_usedBlocks_4 : decode cX12_usedBlocks 4 = .ok (.iload_n 2, 1) := by decide +kernel
theorem dX12_usedBlocks_5 : decode cX12_usedBlocks 5 = .ok (.bipush 10, 2) := by decide +kernel
theorem dX12_usedBlocks_7 : decode cX12_usedBlocks 7 = .ok (.if_icmp .ge 23, 3) := by decide +kernel
theorem dX12_usedBlocks_10 : decode cX12_usedBlocks 10 = .ok (.aload_n 0, 1) := by decide +kernel
theorem dX12_usedBlocks_11 : decode cX12_usedBlocks 11 = .ok (.iload_n 2, 1) := by decide +kernel
theorem dX12_usedBlocks_12 : decode cX12_usedBlocks 12 = .ok (.invokestatic 83, 3) := by decide +kernel
theorem dX12_usedBlocks_15 : decode cX12_usedBlocks 15 = .ok (.ifCond .eq 9, 3) := by decide +kernel
theorem dX12_usedBlocks_18 : decode cX12_usedBlocks 18 = .ok (.iload_n 1, 1) := by decide +kernel
theorem dX12_usedBlocks_19 : decode cX12_usedBlocks 19 = .ok (.iconst 1, 1) := by decide +kernel
theorem dX12_usedBlocks_20 : decode cX12_usedBlocks 20 = .ok (.iload_n 2, 1) := by decide +kernel
theorem dX12_usedBlocks_21 : decode cX12_usedBlocks 21 = .ok (.ishl, 1) := by decide +kernel
theorem dX12_usedBlocks_22 : decode cX12_usedBlocks 22 = .ok (.ior, 1) := by decide +kernel
theorem dX12_usedBlocks_23 : decode cX12_usedBlocks 23 = .ok (.istore_n 1, 1) := by decide +kernel
theorem dX12_usedBlocks_24 : decode cX12_usedBlocks 24 = .ok (.iinc 2 1, 3) := by decide +kernel
theorem dX12_usedBlocks_27 : decode cX12_usedBlocks 27 = .ok (.goto (-23), 3) := by decide +kernel
theorem dX12_usedBlocks_30 : decode cX12_usedBlocks 30 = .ok (.iload_n 1, 1) := by decide +kernel
theorem dX12_usedBlocks_31 : decode cX12_usedBlocks 31 = .ok (.ireturn, 1) := by decide +kernel
theorem dX12_bits_0 : decode cX12_bits 0 = .ok (.iconst 0, 1) := by decide +kernel
theorem dX12_bits_1 : decode cX12_bits 1 = .ok (.istore_n 1, 1) := by decide +kernel
theorem dX12_bits_2 : decode cX12_bits 2 = .ok (.iload_n 0, 1) := by decide +kernel
theorem dX12_bits_3 : decode cX12_bits 3 = .ok (.istore_n 2, 1) := by decide +kernel
theorem dX12_bits_4 : decode cX12_bits 4 = .ok (.iload_n 2, 1) := by decide +kernel
theorem dX12_bits_5 : decode cX12_bits 5 = .ok (.ifCond .eq 15, 3) := by decide +kernel
theorem dX12_bits_8 : decode cX12_bits 8 = .ok (.iinc 1 1, 3) := by decide +kernel
theorem dX12_bits_11 : decode cX12_bits 11 = .ok (.iload_n 2, 1) := by decide +kernel
theorem dX12_bits_12 : decode cX12_bits 12 = .ok (.iload_n 2, 1) := by decide +kernel
theorem dX12_bits_13 : decode cX12_bits 13 = .ok (.iconst 1, 1) := by decide +kernel
theorem dX12_bits_14 : decode cX12_bits 14 = .ok (.isub, 1) := by decide +kernel
theorem dX12_bits_15 : decode cX12_bits 15 = .ok (.iand, 1) := by decide +kernel
theorem dX12_bits_16 : decode cX12_bits 16 = .ok (.istore_n 2, 1) := by decide +kernel
theorem dX12_bits_17 : decode cX12_bits 17 = .ok (.goto (-13), 3) := by decide +kernel
theorem dX12_bits_20 : decode cX12_bits 20 = .ok (.iload_n 1, 1) := by decide +kernel
theorem dX12_bits_21 : decode cX12_bits 21 = .ok (.ireturn, 1) := by decide +kernel
set_option maxRecDepth 20000 in
theorem ggX12_leaked_X12_shapes : GoodIn wsX12_leaked wsX12_shapes := goodIn_r _ [6, 7, 8, 1, 9, 10, 5, 11, 12, 13, 14, 15, 16, 17, 18, 19, 20, 24, 25, 26, 27, 28, 29, 30, 31, 32, 33, 34, 35, 36, 37, 38, 39, 40, 41, 42, 43, 44, 45, 46, 47, 48, 49, 50, 51, 52, 53, 54, 55, 56, 57, 58, 59, 60, 61, 62, 63, 64, 65, 66, 67, 68, 69, 70, 71, 72, 73, 74] (by decide +kernel) (by decide +kernel)
set_option maxRecDepth 20000 in
theorem gX12_leaked_X12_shapes : GoodIn wsX12_leaked (wsV RX12 100 RX12 yX12_shapes wsX12_shapes) := goodIn_app (goodIn_of _ (by decide +kernel)) ggX12_leaked_X12_shapes
set_option maxRecDepth 20000 in
theorem ggX12_leaked_X12_usedBlocks : GoodIn wsX12_leaked wsX12_usedBlocks := goodIn_r _ [23, 15, 16, 5, 17, 18, 19, 20] (by decide +kernel) (by decide +kernel)
set_option maxRecDepth 20000 in
theorem gX12_leaked_X12_usedBlocks : GoodIn wsX12_leaked (va_wsS RX12 104 yX12_usedBlocks wsX12_usedBlocks) := goodIn_app (goodIn_of _ (by decide +kernel)) ggX12_leaked_X12_usedBlocks
theorem dX12_leaked_0 : decode cX12_leaked 0 = .ok (.aload_n 0, 1) := by decide +kernel
theorem dX12_leaked_1 : decode cX12_leaked 1 = .ok (.aload_n 1, 1) := by decide +kernel
theorem dX12_leaked_2 : decode cX12_leaked 2 = .ok (.invokevirtual 100, 3) := by decide +kernel
theorem dX12_leaked_5 : decode cX12_leaked 5 = .ok (.aload_n 1, 1) := by decide +kernel
theorem dX12_leaked_6 : decode cX12_leaked 6 = .ok (.invokestatic 104, 3) := by decide +kernel
theorem dX12_leaked_9 : decode cX12_leaked 9 = .ok (.aload_n 0, 1) := by decide +kernel
theorem dX12_leaked_10 : decode cX12_leaked 10 = .ok (.getfield 93, 3) := by decide +kernel
theorem dX12_leaked_13 : decode cX12_leaked 13 = .ok (.iconst (-1), 1) := by decide +kernel
theorem dX12_leaked_14 : decode cX12_leaked 14 = .ok (.ixor, 1) := by decide +kernel
theorem dX12_leaked_15 : decode cX12_leaked 15 = .ok (.iand, 1) := by decide +kernel
theorem dX12_leaked_16 : decode cX12_leaked 16 = .ok (.ireturn, 1) := by decide +kernel
set_option maxRecDepth 20000 in
theorem ggX12_freeBlock_X12_block : GoodIn wsX12_freeBlock wsX12_block := goodIn_r _ [5] (by decide +kernel) (by decide +kernel)
set_option maxRecDepth 20000 in
theorem gX12_freeBlock_X12_block : GoodIn wsX12_freeBlock (va_wsS RX12 76 yX12_block wsX12_block) := goodIn_app (goodIn_of _ (by decide +kernel)) ggX12_freeBlock_X12_block
theorem dX12_freeBlock_0 : decode cX12_freeBlock 0 = .ok (.iconst 0, 1) := by decide +kernel
theorem dX12_freeBlock_1 : decode cX12_freeBlock 1 = .ok (.istore_n 1, 1) := by decide +kernel
theorem dX12_freeBlock_2 : decode cX12_freeBlock 2 = .ok (.iload_n 1, 1) := by decide +kernel
theorem dX12_freeBlock_3 : decode cX12_freeBlock 3 = .ok (.bipush 10, 2) := by decide +kernel
theorem dX12_freeBlock_5 : decode cX12_freeBlock 5 = .ok (.if_icmp .ge 21, 3) := by decide +kernel
theorem dX12_freeBlock_8 : decode cX12_freeBlock 8 = .ok (.aload_n 0, 1) := by decide +kernel
theorem dX12_freeBlock_9 : decode cX12_freeBlock 9 = .ok (.getfield 30, 3) := by decide +kernel
theorem dX12_freeBlock_12 : decode cX12_freeBlock 12 = .ok (.iload_n 1, 1) := by decide +kernel
theorem dX12_freeBlock_13 : decode cX12_freeBlock 13 = .ok (.invokestatic 76, 3) := by decide +kernel
theorem dX12_freeBlock_16 : decode cX12_freeBlock 16 = .ok (.iaload, 1) := by decide +kernel
theorem dX12_freeBlock_17 : decode cX12_freeBlock 17 = .ok (.ifCond .eq 9, 3) := by decide +kernel
theorem dX12_freeBlock_20 : decode cX12_freeBlock 20 = .ok (.iinc 1 1, 3) := by decide +kernel
theorem dX12_freeBlock_23 : decode cX12_freeBlock 23 = .ok (.goto (-21), 3) := by decide +kernel
theorem dX12_freeBlock_26 : decode cX12_freeBlock 26 = .ok (.iload_n 1, 1) := by decide +kernel
theorem dX12_freeBlock_27 : decode cX12_freeBlock 27 = .ok (.bipush 10, 2) := by decide +kernel
theorem dX12_freeBlock_29 : decode cX12_freeBlock 29 = .ok (.if_icmp .ge 7, 3) := by decide +kernel
theorem dX12_freeBlock_32 : decode cX12_freeBlock 32 = .ok (.iload_n 1, 1) := by decide +kernel
theorem dX12_freeBlock_33 : decode cX12_freeBlock 33 = .ok (.goto 4, 3) := by decide +kernel
theorem dX12_freeBlock_36 : decode cX12_freeBlock 36 = .ok (.iconst (-1), 1) := by decide +kernel
theorem dX12_freeBlock_37 : decode cX12_freeBlock 37 = .ok (.ireturn, 1) := by decide +kernel
set_option maxRecDepth 20000 in
theorem ggX12_isOp_X12_writes : GoodIn wsX12_isOp wsX12_writes := goodIn_r _ [6, 1, 7, 8, 9, 40, 41, 42, 43, 44, 45, 46, 47, 48, 49, 50, 51, 52, 53, 54, 55, 56, 57, 58, 59, 60, 61, 62, 63, 64, 65, 66, 67, 68, 69, 70, 71, 72, 73, 74, 75, 76, 77, 78, 79, 80, 81, 82, 83, 84, 85, 86, 87, 88, 89, 90] (by decide +kernel) (by decide +kernel)
set_option maxRecDepth 20000 in
theorem gX12_isOp_X12_writes : GoodIn wsX12_isOp (wsV RX12 108 RX12 yX12_writes wsX12_writes) := goodIn_app (goodIn_of _ (by decide +kernel)) ggX12_isOp_X12_writes
set_option maxRecDepth 20000 in
theorem ggX12_isOp_X12_leaked : GoodIn wsX12_isOp wsX12_leaked := goodIn_r _ [13, 14, 15, 16, 17, 5, 18, 19, 20, 21, 22, 23, 24, 25, 26, 27, 28, 29, 30, 31, 32, 33, 34, 35, 40, 41, 42, 43, 44, 45, 46, 47, 48, 49, 50, 51, 52, 53, 54, 55, 56, 57, 58, 59, 60, 61, 62, 63, 64, 65, 66, 67, 68, 69, 70, 71, 72, 73, 74, 75, 76, 77, 78, 79, 80, 81, 82, 83, 84, 85, 86, 87, 88, 89, 90] (by decide +kernel) (by decide +kernel)
set_option maxRecDepth 20000 in
theorem gX12_isOp_X12_leaked : GoodIn wsX12_isOp (wsV RX12 111 RX12 yX12_leaked wsX12_leaked) := goodIn_app (goodIn_of _ (by decide +kernel)) ggX12_isOp_X12_leaked
set_option maxRecDepth 20000 in
theorem ggX12_isOp_X12_block : GoodIn wsX12_isOp wsX12_block := goodIn_r _ [32] (by decide +kernel) (by decide +kernel)
set_option maxRecDepth 20000 in
theorem gX12_isOp_X12_block : GoodIn wsX12_isOp (va_wsS RX12 76 yX12_block wsX12_block) := goodIn_app (goodIn_of _ (by decide +kernel)) ggX12_isOp_X12_block
set_option maxRecDepth 20000 in
theorem ggX12_isOp_X12_freeBlock : GoodIn wsX12_isOp wsX12_freeBlock := goodIn_r _ [39, 1, 30, 31, 5, 32, 40, 41, 42, 43, 44, 45, 46, 47, 48, 49, 50, 51, 52, 53, 54, 55, 56, 57, 58, 59, 60, 61, 62, 63, 64, 65, 66, 67, 68, 69, 70, 71, 72, 73, 74, 75, 76, 77, 78, 79, 80, 81, 82, 83, 84, 85, 86, 87, 88, 89, 90] (by decide +kernel) (by decide +kernel)
set_option maxRecDepth 20000 in
theorem gX12_isOp_X12_freeBlock : GoodIn wsX12_isOp (wsV RX12 114 RX12 yX12_freeBlock wsX12_freeBlock) := goodIn_app (goodIn_of _ (by decide +kernel)) ggX12_isOp_X12_freeBlock
set_option maxRecDepth 20000 in
theorem ggX12_isOp_X12_usedAt : GoodIn wsX12_isOp wsX12_usedAt := goodIn_r _ [23, 24, 25, 5, 26, 27, 28, 29, 30, 31, 32] (by decide +kernel) (by decide +kernel)
set_option maxRecDepth 20000 in
theorem gX12_isOp_X12_usedAt : GoodIn wsX12_isOp (va_wsS RX12 96 yX12_usedAt wsX12_usedAt) := goodIn_app (goodIn_of _ (by decide +kernel)) ggX12_isOp_X12_usedAt
theorem dX12_isOp_0 : decode cX12_isOp 0 = .ok (.iload_n 1, 1) := by decide +kernel
theorem dX12_isOp_1 : decode cX12_isOp 1 = .ok (.iconst 3, 1) := by decide +kernel
theorem dX12_isOp_2 : decode cX12_isOp 2 = .ok (.if_icmp .ne 11, 3) := by decide +kernel
theorem dX12_isOp_5 : decode cX12_isOp 5 = .ok (.aload_n 0, 1) := by decide +kernel
theorem dX12_isOp_6 : decode cX12_isOp 6 = .ok (.iload_n 2, 1) := by decide +kernel
theorem dX12_isOp_7 : decode cX12_isOp 7 = .ok (.iload_n 3, 1) := by decide +kernel
theorem dX12_isOp_8 : decode cX12_isOp 8 = .ok (.invokevirtual 108, 3) := by decide +kernel
theorem dX12_isOp_11 : decode cX12_isOp 11 = .ok (.iconst 1, 1) := by decide +kernel
theorem dX12_isOp_12 : decode cX12_isOp 12 = .ok (.ireturn, 1) := by decide +kernel
theorem dX12_isOp_13 : decode cX12_isOp 13 = .ok (.iload_n 1, 1) := by decide +kernel
theorem dX12_isOp_14 : decode cX12_isOp 14 = .ok (.iconst 4, 1) := by decide +kernel
theorem dX12_isOp_15 : decode cX12_isOp 15 = .ok (.if_icmp .ne 61, 3) := by decide +kernel
theorem dX12_isOp_18 : decode cX12_isOp 18 = .ok (.aload_n 0, 1) := by decide +kernel
theorem dX12_isOp_19 : decode cX12_isOp 19 = .ok (.aload_n 0, 1) := by decide +kernel
theorem dX12_isOp_20 : decode cX12_isOp 20 = .ok (.getfield 30, 3) := by decide +kernel
theorem dX12_isOp_23 : decode cX12_isOp 23 = .ok (.invokevirtual 111, 3) := by decide +kernel
theorem dX12_isOp_26 : decode cX12_isOp 26 = .ok (.istore 4, 2) := by decide +kernel
theorem dX12_isOp_28 : decode cX12_isOp 28 = .ok (.iconst 0, 1) := by decide +kernel
theorem dX12_isOp_29 : decode cX12_isOp 29 = .ok (.istore 5, 2) := by decide +kernel
theorem dX12_isOp_31 : decode cX12_isOp 31 = .ok (.iload 5, 2) := by decide +kernel
theorem dX12_isOp_33 : decode cX12_isOp 33 = .ok (.bipush 10, 2) := by decide +kernel
theorem dX12_isOp_35 : decode cX12_isOp 35 = .ok (.if_icmp .ge 30, 3) := by decide +kernel
theorem dX12_isOp_38 : decode cX12_isOp 38 = .ok (.iload 4, 2) := by decide +kernel
theorem dX12_isOp_40 : decode cX12_isOp 40 = .ok (.iload 5, 2) := by decide +kernel
theorem dX12_isOp_42 : decode cX12_isOp 42 = .ok (.ishr, 1) := by decide +kernel
theorem dX12_isOp_43 : decode cX12_isOp 43 = .ok (.iconst 1, 1) := by decide +kernel
theorem dX12_isOp_44 : decode cX12_isOp 44 = .ok (.iand, 1) := by decide +kernel
theorem dX12_isOp_45 : decode cX12_isOp 45 = .ok (.iconst 1, 1) := by decide +kernel
theorem dX12_isOp_46 : decode cX12_isOp 46 = .ok (.if_icmp .ne 13, 3) := by decide +kernel
theorem dX12_isOp_49 : decode cX12_isOp 49 = .ok (.aload_n 0, 1) := by decide +kernel
theorem dX12_isOp_50 : decode cX12_isOp 50 = .ok (.iload 5, 2) := by decide +kernel
theorem dX12_isOp_52 : decode cX12_isOp 52 = .ok (.invokestatic 76, 3) := by decide +kernel
theorem dX12_isOp_55 : decode cX12_isOp 55 = .ok (.iconst 0, 1) := by decide +kernel
theorem dX12_isOp_56 : decode cX12_isOp 56 = .ok (.invokevirtual 108, 3) := by decide +kernel
theorem dX12_isOp_59 : decode cX12_isOp 59 = .ok (.iinc 5 1, 3) := by decide +kernel
theorem dX12_isOp_62 : decode cX12_isOp 62 = .ok (.goto (-31), 3) := by decide +kernel
theorem dX12_isOp_65 : decode cX12_isOp 65 = .ok (.iload 4, 2) := by decide +kernel
theorem dX12_isOp_67 : decode cX12_isOp 67 = .ok (.ifCond .eq 7, 3) := by decide +kernel
theorem dX12_isOp_70 : decode cX12_isOp 70 = .ok (.iconst 1, 1) := by decide +kernel
theorem dX12_isOp_71 : decode cX12_isOp 71 = .ok (.goto 4, 3) := by decide +kernel
theorem dX12_isOp_74 : decode cX12_isOp 74 = .ok (.iconst 0, 1) := by decide +kernel
theorem dX12_isOp_75 : decode cX12_isOp 75 = .ok (.ireturn, 1) := by decide +kernel
theorem dX12_isOp_76 : decode cX12_isOp 76 = .ok (.iload_n 1, 1) := by decide +kernel
theorem dX12_isOp_77 : decode cX12_isOp 77 = .ok (.ifCond .ne 10, 3) := by decide +kernel
theorem dX12_isOp_80 : decode cX12_isOp 80 = .ok (.aload_n 0, 1) := by decide +kernel
theorem dX12_isOp_81 : decode cX12_isOp 81 = .ok (.invokevirtual 114, 3) := by decide +kernel
theorem dX12_isOp_84 : decode cX12_isOp 84 = .ok (.goto 19, 3) := by decide +kernel
theorem dX12_isOp_87 : decode cX12_isOp 87 = .ok (.aload_n 0, 1) := by decide +kernel
theorem dX12_isOp_88 : decode cX12_isOp 88 = .ok (.getfield 30, 3) := by decide +kernel
theorem dX12_isOp_91 : decode cX12_isOp 91 = .ok (.aload_n 0, 1) := by decide +kernel
theorem dX12_isOp_92 : decode cX12_isOp 92 = .ok (.getfield 30, 3) := by decide +kernel
theorem dX12_isOp_95 : decode cX12_isOp 95 = .ok (.bipush 20, 2) := by decide +kernel
theorem dX12_isOp_97 : decode cX12_isOp 97 = .ok (.iload_n 2, 1) := by decide +kernel
theorem dX12_isOp_98 : decode cX12_isOp 98 = .ok (.iadd, 1) := by decide +kernel
theorem dX12_isOp_99 : decode cX12_isOp 99 = .ok (.iaload, 1) := by decide +kernel
theorem dX12_isOp_100 : decode cX12_isOp 100 = .ok (.invokestatic 96, 3) := by decide +kernel
theorem dX12_isOp_103 : decode cX12_isOp 103 = .ok (.istore 4, 2) := by decide +kernel
theorem dX12_isOp_105 : decode cX12_isOp 105 = .ok (.iload 4, 2) := by decide +kernel
theorem dX12_isOp_107 : decode cX12_isOp 107 = .ok (.iconst (-1), 1) := by decide +kernel
theorem dX12_isOp_108 : decode cX12_isOp 108 = .ok (.if_icmp .ne 5, 3) := by decide +kernel
theorem dX12_isOp_111 : decode cX12_isOp 111 = .ok (.iconst 0, 1) := by decide +kernel
theorem dX12_isOp_112 : decode cX12_isOp 112 = .ok (.ireturn, 1) := by decide +kernel
theorem dX12_isOp_113 : decode cX12_isOp 113 = .ok (.iload 4, 2) := by decide +kernel
theorem dX12_isOp_115 : decode cX12_isOp 115 = .ok (.invokestatic 76, 3) := by decide +kernel
theorem dX12_isOp_118 : decode cX12_isOp 118 = .ok (.istore 5, 2) := by decide +kernel
theorem dX12_isOp_120 : decode cX12_isOp 120 = .ok (.iload_n 1, 1) := by decide +kernel
theorem dX12_isOp_121 : decode cX12_isOp 121 = .ok (.ifCond .ne 49, 3) := by decide +kernel
theorem dX12_isOp_124 : decode cX12_isOp 124 = .ok (.aload_n 0, 1) := by decide +kernel
theorem dX12_isOp_125 : decode cX12_isOp 125 = .ok (.iload 5, 2) := by decide +kernel
theorem dX12_isOp_127 : decode cX12_isOp 127 = .ok (.iconst 1, 1) := by decide +kernel
theorem dX12_isOp_128 : decode cX12_isOp 128 = .ok (.invokevirtual 108, 3) := by decide +kernel
theorem dX12_isOp_131 : decode cX12_isOp 131 = .ok (.aload_n 0, 1) := by decide +kernel
theorem dX12_isOp_132 : decode cX12_isOp 132 = .ok (.iload 5, 2) := by decide +kernel
theorem dX12_isOp_134 : decode cX12_isOp 134 = .ok (.iconst 1, 1) := by decide +kernel
theorem dX12_isOp_135 : decode cX12_isOp 135 = .ok (.iadd, 1) := by decide +kernel
theorem dX12_isOp_136 : decode cX12_isOp 136 = .ok (.aload_n 0, 1) := by decide +kernel
theorem dX12_isOp_137 : decode cX12_isOp 137 = .ok (.getfield 30, 3) := by decide +kernel
theorem dX12_isOp_140 : decode cX12_isOp 140 = .ok (.bipush 20, 2) := by decide +kernel
theorem dX12_isOp_142 : decode cX12_isOp 142 = .ok (.iload_n 2, 1) := by decide +kernel
theorem dX12_isOp_143 : decode cX12_isOp 143 = .ok (.iadd, 1) := by decide +kernel
theorem dX12_isOp_144 : decode cX12_isOp 144 = .ok (.iaload, 1) := by decide +kernel
theorem dX12_isOp_145 : decode cX12_isOp 145 = .ok (.invokevirtual 108, 3) := by decide +kernel
theorem dX12_isOp_148 : decode cX12_isOp 148 = .ok (.aload_n 0, 1) := by decide +kernel
theorem dX12_isOp_149 : decode cX12_isOp 149 = .ok (.iload 5, 2) := by decide +kernel
theorem dX12_isOp_151 : decode cX12_isOp 151 = .ok (.iconst 2, 1) := by decide +kernel
theorem dX12_isOp_152 : decode cX12_isOp 152 = .ok (.iadd, 1) := by decide +kernel
theorem dX12_isOp_153 : decode cX12_isOp 153 = .ok (.iload_n 3, 1) := by decide +kernel
theorem dX12_isOp_154 : decode cX12_isOp 154 = .ok (.invokevirtual 108, 3) := by decide +kernel
theorem dX12_isOp_157 : decode cX12_isOp 157 = .ok (.aload_n 0, 1) := by decide +kernel
theorem dX12_isOp_158 : decode cX12_isOp 158 = .ok (.bipush 20, 2) := by decide +kernel
theorem dX12_isOp_160 : decode cX12_isOp 160 = .ok (.iload_n 2, 1) := by decide +kernel
theorem dX12_isOp_161 : decode cX12_isOp 161 = .ok (.iadd, 1) := by decide +kernel
theorem dX12_isOp_162 : decode cX12_isOp 162 = .ok (.iload 5, 2) := by decide +kernel
theorem dX12_isOp_164 : decode cX12_isOp 164 = .ok (.invokevirtual 108, 3) := by decide +kernel
theorem dX12_isOp_167 : decode cX12_isOp 167 = .ok (.goto 79, 3) := by decide +kernel
theorem dX12_isOp_170 : decode cX12_isOp 170 = .ok (.iload_n 1, 1) := by decide +kernel
theorem dX12_isOp_171 : decode cX12_isOp 171 = .ok (.iconst 1, 1) := by decide +kernel
theorem dX12_isOp_172 : decode cX12_isOp 172 = .ok (.if_icmp .ne 30, 3) := by decide +kernel
theorem dX12_isOp_175 : decode cX12_isOp 175 = .ok (.aload_n 0, 1) := by decide +kernel
theorem dX12_isOp_176 : decode cX12_isOp 176 = .ok (.bipush 20, 2) := by decide +kernel
theorem dX12_isOp_178 : decode cX12_isOp 178 = .ok (.iload_n 2, 1) := by decide +kernel
theorem dX12_isOp_179 : decode cX12_isOp 179 = .ok (.iadd, 1) := by decide +kernel
theorem dX12_isOp_180 : decode cX12_isOp 180 = .ok (.aload_n 0, 1) := by decide +kernel
theorem dX12_isOp_181 : decode cX12_isOp 181 = .ok (.getfield 30, 3) := by decide +kernel
theorem dX12_isOp_184 : decode cX12_isOp 184 = .ok (.iload 5, 2) := by decide +kernel
theorem dX12_isOp_186 : decode cX12_isOp 186 = .ok (.iconst 1, 1) := by decide +kernel
theorem dX12_isOp_187 : decode cX12_isOp 187 = .ok (.iadd, 1) := by decide +kernel
theorem dX12_isOp_188 : decode cX12_isOp 188 = .ok (.iaload, 1) := by decide +kernel
theorem dX12_isOp_189 : decode cX12_isOp 189 = .ok (.invokevirtual 108, 3) := by decide +kernel
theorem dX12_isOp_192 : decode cX12_isOp 192 = .ok (.aload_n 0, 1) := by decide +kernel
theorem dX12_isOp_193 : decode cX12_isOp 193 = .ok (.iload 5, 2) := by decide +kernel
theorem dX12_isOp_195 : decode cX12_isOp 195 = .ok (.iconst 0, 1) := by decide +kernel
theorem dX12_isOp_196 : decode cX12_isOp 196 = .ok (.invokevirtual 108, 3) := by decide +kernel
theorem dX12_isOp_199 : decode cX12_isOp 199 = .ok (.goto 47, 3) := by decide +kernel
theorem dX12_isOp_202 : decode cX12_isOp 202 = .ok (.aload_n 0, 1) := by decide +kernel
theorem dX12_isOp_203 : decode cX12_isOp 203 = .ok (.bipush 20, 2) := by decide +kernel
theorem dX12_isOp_205 : decode cX12_isOp 205 = .ok (.iload_n 2, 1) := by decide +kernel
theorem dX12_isOp_206 : decode cX12_isOp 206 = .ok (.iadd, 1) := by decide +kernel
theorem dX12_isOp_207 : decode cX12_isOp 207 = .ok (.aload_n 0, 1) := by decide +kernel
theorem dX12_isOp_208 : decode cX12_isOp 208 = .ok (.getfield 30, 3) := by decide +kernel
theorem dX12_isOp_211 : decode cX12_isOp 211 = .ok (.iload 5, 2) := by decide +kernel
theorem dX12_isOp_213 : decode cX12_isOp 213 = .ok (.iconst 1, 1) := by decide +kernel
theorem dX12_isOp_214 : decode cX12_isOp 214 = .ok (.iadd, 1) := by decide +kernel
theorem dX12_isOp_215 : decode cX12_isOp 215 = .ok (.iaload, 1) := by decide +kernel
theorem dX12_isOp_216 : decode cX12_isOp 216 = .ok (.invokevirtual 108, 3) := by decide +kernel
theorem dX12_isOp_219 : decode cX12_isOp 219 = .ok (.aload_n 0, 1) := by decide +kernel
theorem dX12_isOp_220 : decode cX12_isOp 220 = .ok (.iload 5, 2) := by decide +kernel
theorem dX12_isOp_222 : decode cX12_isOp 222 = .ok (.iconst 1, 1) := by decide +kernel
theorem dX12_isOp_223 : decode cX12_isOp 223 = .ok (.iadd, 1) := by decide +kernel
theorem dX12_isOp_224 : decode cX12_isOp 224 = .ok (.aload_n 0, 1) := by decide +kernel
theorem dX12_isOp_225 : decode cX12_isOp 225 = .ok (.getfield 30, 3) := by decide +kernel
theorem dX12_isOp_228 : decode cX12_isOp 228 = .ok (.bipush 20, 2) := by decide +kernel
theorem dX12_isOp_230 : decode cX12_isOp 230 = .ok (.iload_n 3, 1) := by decide +kernel
theorem dX12_isOp_231 : decode cX12_isOp 231 = .ok (.iadd, 1) := by decide +kernel
theorem dX12_isOp_232 : decode cX12_isOp 232 = .ok (.iaload, 1) := by decide +kernel
theorem dX12_isOp_233 : decode cX12_isOp 233 = .ok (.invokevirtual 108, 3) := by decide +kernel
theorem dX12_isOp_236 : decode cX12_isOp 236 = .ok (.aload_n 0, 1) := by decide +kernel
theorem dX12_isOp_237 : decode cX12_isOp 237 = .ok (.bipush 20, 2) := by decide +kernel
theorem dX12_isOp_239 : decode cX12_isOp 239 = .ok (.iload_n 3, 1) := by decide +kernel
theorem dX12_isOp_240 : decode cX12_isOp 240 = .ok (.iadd, 1) := by decide +kernel
theorem dX12_isOp_241 : decode cX12_isOp 241 = .ok (.iload 5, 2) := by decide +kernel
theorem dX12_isOp_243 : decode cX12_isOp 243 = .ok (.invokevirtual 108, 3) := by decide +kernel
theorem dX12_isOp_246 : decode cX12_isOp 246 = .ok (.iconst 1, 1) := by decide +kernel
theorem dX12_isOp_247 : decode cX12_isOp 247 = .ok (.ireturn, 1) := by decide +kernel
set_option maxRecDepth 20000 in
theorem ggX12_laysWords_X12_wordOf : GoodIn wsX12_laysWords wsX12_wordOf := goodIn_r _ [6, 7, 8, 9, 10, 11, 12, 13, 14, 15, 16, 17, 18, 19, 20, 21, 22, 23, 24, 25, 26, 27, 28, 29, 30, 31, 32, 33, 34, 35, 36, 37, 38, 39, 40, 41, 42, 43, 44, 45, 46, 47, 48, 49, 50, 51, 52, 53, 54, 55, 56, 57, 58] (by decide +kernel) (by decide +kernel)
set_option maxRecDepth 20000 in
theorem gX12_laysWords_X12_wordOf : GoodIn wsX12_laysWords (wsV RX12 118 RX12 yX12_wordOf wsX12_wordOf) := goodIn_app (goodIn_of _ (by decide +kernel)) ggX12_laysWords_X12_wordOf
theorem dX12_laysWords_0 : decode cX12_laysWords 0 = .ok (.iconst 0, 1) := by decide +kernel
theorem dX12_laysWords_1 : decode cX12_laysWords 1 = .ok (.istore_n 2, 1) := by decide +kernel
theorem dX12_laysWords_2 : decode cX12_laysWords 2 = .ok (.iload_n 2, 1) := by decide +kernel
theorem dX12_laysWords_3 : decode cX12_laysWords 3 = .ok (.bipush 64, 2) := by decide +kernel
theorem dX12_laysWords_5 : decode cX12_laysWords 5 = .ok (.if_icmp .ge 21, 3) := by decide +kernel
theorem dX12_laysWords_8 : decode cX12_laysWords 8 = .ok (.aload_n 0, 1) := by decide +kernel
theorem dX12_laysWords_9 : decode cX12_laysWords 9 = .ok (.getfield 30, 3) := by decide +kernel
theorem dX12_laysWords_12 : decode cX12_laysWords 12 = .ok (.iload_n 2, 1) := by decide +kernel
theorem dX12_laysWords_13 : decode cX12_laysWords 13 = .ok (.aload_n 0, 1) := by decide +kernel
theorem dX12_laysWords_14 : decode cX12_laysWords 14 = .ok (.iload_n 1, 1) := by decide +kernel
theorem dX12_laysWords_15 : decode cX12_laysWords 15 = .ok (.iload_n 2, 1) := by decide +kernel
theorem dX12_laysWords_16 : decode cX12_laysWords 16 = .ok (.invokevirtual 118, 3) := by decide +kernel
theorem dX12_laysWords_19 : decode cX12_laysWords 19 = .ok (.iastore, 1) := by decide +kernel
theorem dX12_laysWords_20 : decode cX12_laysWords 20 = .ok (.iinc 2 1, 3) := by decide +kernel
theorem dX12_laysWords_23 : decode cX12_laysWords 23 = .ok (.goto (-21), 3) := by decide +kernel
theorem dX12_laysWords_26 : decode cX12_laysWords 26 = .ok (.return_, 1) := by decide +kernel
set_option maxRecDepth 20000 in
theorem ggX12_isWritten_X12_laysWords : GoodIn wsX12_isWritten wsX12_laysWords := goodIn_r _ [7, 8, 9, 10, 11, 6, 12, 2, 53, 54, 55, 56, 57, 58, 59, 60, 61, 62, 63, 64, 65, 66, 67, 68, 69, 70, 71, 72, 73, 74, 75, 76, 77, 78, 79, 80, 81, 82, 83, 84, 85, 86, 87, 88, 89, 90, 91, 92, 93, 94, 95, 96, 97, 98, 99, 100, 101, 102, 103] (by decide +kernel) (by decide +kernel)
set_option maxRecDepth 20000 in
theorem gX12_isWritten_X12_laysWords : GoodIn wsX12_isWritten (wsV RX12 122 RX12 yX12_laysWords wsX12_laysWords) := goodIn_app (goodIn_of _ (by decide +kernel)) ggX12_isWritten_X12_laysWords
set_option maxRecDepth 20000 in
theorem ggX12_isWritten_X12_isOp : GoodIn wsX12_isWritten wsX12_isOp := goodIn_r _ [16, 8, 17, 18, 19, 6, 20, 21, 1, 22, 23, 24, 25, 26, 27, 28, 29, 30, 31, 32, 33, 34, 35, 36, 37, 38, 39, 40, 41, 42, 43, 44, 45, 46, 47, 48, 49, 50, 51, 52, 53, 54, 55, 56, 57, 58, 59, 60, 61, 62, 63, 64, 65, 66, 67, 68, 69, 70, 71, 72, 73, 74, 75, 76, 77, 78, 79, 80, 81, 82, 83, 84, 85, 86, 87, 88, 89, 90, 91, 92, 93, 94, 95, 96, 97, 98, 99, 100, 101, 102, 103] (by decide +kernel) (by decide +kernel)
set_option maxRecDepth 20000 in
theorem gX12_isWritten_X12_isOp : GoodIn wsX12_isWritten (wsV RX12 126 RX12 yX12_isOp wsX12_isOp) := goodIn_app (goodIn_of _ (by decide +kernel)) ggX12_isWritten_X12_isOp
theorem dX12_isWritten_0 : decode cX12_isWritten 0 = .ok (.aload_n 0, 1) := by decide +kernel
theorem dX12_isWritten_1 : decode cX12_isWritten 1 = .ok (.iload_n 1, 1) := by decide +kernel
theorem dX12_isWritten_2 : decode cX12_isWritten 2 = .ok (.invokevirtual 122, 3) := by decide +kernel
theorem dX12_isWritten_5 : decode cX12_isWritten 5 = .ok (.aload_n 0, 1) := by decide +kernel
theorem dX12_isWritten_6 : decode cX12_isWritten 6 = .ok (.iconst 0, 1) := by decide +kernel
theorem dX12_isWritten_7 : decode cX12_isWritten 7 = .ok (.putfield 73, 3) := by decide +kernel
theorem dX12_isWritten_10 : decode cX12_isWritten 10 = .ok (.iload_n 1, 1) := by decide +kernel
theorem dX12_isWritten_11 : decode cX12_isWritten 11 = .ok (.sipush 616, 3) := by decide +kernel
theorem dX12_isWritten_14 : decode cX12_isWritten 14 = .ok (.iadd, 1) := by decide +kernel
theorem dX12_isWritten_15 : decode cX12_isWritten 15 = .ok (.istore_n 2, 1) := by decide +kernel
theorem dX12_isWritten_16 : decode cX12_isWritten 16 = .ok (.iconst 1, 1) := by decide +kernel
theorem dX12_isWritten_17 : decode cX12_isWritten 17 = .ok (.istore_n 3, 1) := by decide +kernel
theorem dX12_isWritten_18 : decode cX12_isWritten 18 = .ok (.iconst 0, 1) := by decide +kernel
theorem dX12_isWritten_19 : decode cX12_isWritten 19 = .ok (.istore 4, 2) := by decide +kernel
theorem dX12_isWritten_21 : decode cX12_isWritten 21 = .ok (.iload 4, 2) := by decide +kernel
theorem dX12_isWritten_23 : decode cX12_isWritten 23 = .ok (.aload_n 0, 1) := by decide +kernel
theorem dX12_isWritten_24 : decode cX12_isWritten 24 = .ok (.getfield 10, 3) := by decide +kernel
theorem dX12_isWritten_27 : decode cX12_isWritten 27 = .ok (.iload_n 2, 1) := by decide +kernel
theorem dX12_isWritten_28 : decode cX12_isWritten 28 = .ok (.iaload, 1) := by decide +kernel
theorem dX12_isWritten_29 : decode cX12_isWritten 29 = .ok (.if_icmp .ge 57, 3) := by decide +kernel
theorem dX12_isWritten_32 : decode cX12_isWritten 32 = .ok (.iload_n 3, 1) := by decide +kernel
theorem dX12_isWritten_33 : decode cX12_isWritten 33 = .ok (.ifCond .eq 53, 3) := by decide +kernel
theorem dX12_isWritten_36 : decode cX12_isWritten 36 = .ok (.aload_n 0, 1) := by decide +kernel
theorem dX12_isWritten_37 : decode cX12_isWritten 37 = .ok (.aload_n 0, 1) := by decide +kernel
theorem dX12_isWritten_38 : decode cX12_isWritten 38 = .ok (.getfield 10, 3) := by decide +kernel
theorem dX12_isWritten_41 : decode cX12_isWritten 41 = .ok (.iload_n 2, 1) := by decide +kernel
theorem dX12_isWritten_42 : decode cX12_isWritten 42 = .ok (.iconst 3, 1) := by decide +kernel
theorem dX12_isWritten_43 : decode cX12_isWritten 43 = .ok (.iload 4, 2) := by decide +kernel
theorem dX12_isWritten_45 : decode cX12_isWritten 45 = .ok (.imul, 1) := by decide +kernel
theorem dX12_isWritten_46 : decode cX12_isWritten 46 = .ok (.iadd, 1) := by decide +kernel
theorem dX12_isWritten_47 : decode cX12_isWritten 47 = .ok (.iconst 1, 1) := by decide +kernel
theorem dX12_isWritten_48 : decode cX12_isWritten 48 = .ok (.iadd, 1) := by decide +kernel
theorem dX12_isWritten_49 : decode cX12_isWritten 49 = .ok (.iaload, 1) := by decide +kernel
theorem dX12_isWritten_50 : decode cX12_isWritten 50 = .ok (.aload_n 0, 1) := by decide +kernel
theorem dX12_isWritten_51 : decode cX12_isWritten 51 = .ok (.getfield 10, 3) := by decide +kernel
theorem dX12_isWritten_54 : decode cX12_isWritten 54 = .ok (.iload_n 2, 1) := by decide +kernel
theorem dX12_isWritten_55 : decode cX12_isWritten 55 = .ok (.iconst 3, 1) := by decide +kernel
theorem dX12_isWritten_56 : decode cX12_isWritten 56 = .ok (.iload 4, 2) := by decide +kernel
theorem dX12_isWritten_58 : decode cX12_isWritten 58 = .ok (.imul, 1) := by decide +kernel
theorem dX12_isWritten_59 : decode cX12_isWritten 59 = .ok (.iadd, 1) := by decide +kernel
theorem dX12_isWritten_60 : decode cX12_isWritten 60 = .ok (.iconst 2, 1) := by decide +kernel
theorem dX12_isWritten_61 : decode cX12_isWritten 61 = .ok (.iadd, 1) := by decide +kernel
theorem dX12_isWritten_62 : decode cX12_isWritten 62 = .ok (.iaload, 1) := by decide +kernel
theorem dX12_isWritten_63 : decode cX12_isWritten 63 = .ok (.aload_n 0, 1) := by decide +kernel
theorem dX12_isWritten_64 : decode cX12_isWritten 64 = .ok (.getfield 10, 3) := by decide +kernel
theorem dX12_isWritten_67 : decode cX12_isWritten 67 = .ok (.iload_n 2, 1) := by decide +kernel
theorem dX12_isWritten_68 : decode cX12_isWritten 68 = .ok (.iconst 3, 1) := by decide +kernel
theorem dX12_isWritten_69 : decode cX12_isWritten 69 = .ok (.iload 4, 2) := by decide +kernel
theorem dX12_isWritten_71 : decode cX12_isWritten 71 = .ok (.imul, 1) := by decide +kernel
theorem dX12_isWritten_72 : decode cX12_isWritten 72 = .ok (.iadd, 1) := by decide +kernel
theorem dX12_isWritten_73 : decode cX12_isWritten 73 = .ok (.iconst 3, 1) := by decide +kernel
theorem dX12_isWritten_74 : decode cX12_isWritten 74 = .ok (.iadd, 1) := by decide +kernel
theorem dX12_isWritten_75 : decode cX12_isWritten 75 = .ok (.iaload, 1) := by decide +kernel
theorem dX12_isWritten_76 : decode cX12_isWritten 76 = .ok (.invokevirtual 126, 3) := by decide +kernel
theorem dX12_isWritten_79 : decode cX12_isWritten 79 = .ok (.istore_n 3, 1) := by decide +kernel
theorem dX12_isWritten_80 : decode cX12_isWritten 80 = .ok (.iinc 4 1, 3) := by decide +kernel
theorem dX12_isWritten_83 : decode cX12_isWritten 83 = .ok (.goto (-62), 3) := by decide +kernel
theorem dX12_isWritten_86 : decode cX12_isWritten 86 = .ok (.iload_n 3, 1) := by decide +kernel
theorem dX12_isWritten_87 : decode cX12_isWritten 87 = .ok (.ifCond .eq 16, 3) := by decide +kernel
theorem dX12_isWritten_90 : decode cX12_isWritten 90 = .ok (.aload_n 0, 1) := by decide +kernel
theorem dX12_isWritten_91 : decode cX12_isWritten 91 = .ok (.getfield 73, 3) := by decide +kernel
theorem dX12_isWritten_94 : decode cX12_isWritten 94 = .ok (.bipush 8, 2) := by decide +kernel
theorem dX12_isWritten_96 : decode cX12_isWritten 96 = .ok (.if_icmp .gt 7, 3) := by decide +kernel
theorem dX12_isWritten_99 : decode cX12_isWritten 99 = .ok (.iconst 1, 1) := by decide +kernel
theorem dX12_isWritten_100 : decode cX12_isWritten 100 = .ok (.goto 4, 3) := by decide +kernel
theorem dX12_isWritten_103 : decode cX12_isWritten 103 = .ok (.iconst 0, 1) := by decide +kernel
theorem dX12_isWritten_104 : decode cX12_isWritten 104 = .ok (.ireturn, 1) := by decide +kernel
theorem dX12_lays_0 : decode cX12_lays 0 = .ok (.iload_n 1, 1) := by decide +kernel
theorem dX12_lays_1 : decode cX12_lays 1 = .ok (.sipush 288, 3) := by decide +kernel
theorem dX12_lays_4 : decode cX12_lays 4 = .ok (.iadd, 1) := by decide +kernel
theorem dX12_lays_5 : decode cX12_lays 5 = .ok (.iconst 3, 1) := by decide +kernel
theorem dX12_lays_6 : decode cX12_lays 6 = .ok (.aload_n 0, 1) := by decide +kernel
theorem dX12_lays_7 : decode cX12_lays 7 = .ok (.getfield 10, 3) := by decide +kernel
theorem dX12_lays_10 : decode cX12_lays 10 = .ok (.iload_n 1, 1) := by decide +kernel
theorem dX12_lays_11 : decode cX12_lays 11 = .ok (.sipush 774, 3) := by decide +kernel
theorem dX12_lays_14 : decode cX12_lays 14 = .ok (.iadd, 1) := by decide +kernel
theorem dX12_lays_15 : decode cX12_lays 15 = .ok (.iaload, 1) := by decide +kernel
theorem dX12_lays_16 : decode cX12_lays 16 = .ok (.imul, 1) := by decide +kernel
theorem dX12_lays_17 : decode cX12_lays 17 = .ok (.iadd, 1) := by decide +kernel
theorem dX12_lays_18 : decode cX12_lays 18 = .ok (.istore 5, 2) := by decide +kernel
theorem dX12_lays_20 : decode cX12_lays 20 = .ok (.aload_n 0, 1) := by decide +kernel
theorem dX12_lays_21 : decode cX12_lays 21 = .ok (.getfield 10, 3) := by decide +kernel
theorem dX12_lays_24 : decode cX12_lays 24 = .ok (.iload 5, 2) := by decide +kernel
theorem dX12_lays_26 : decode cX12_lays 26 = .ok (.iload_n 2, 1) := by decide +kernel
theorem dX12_lays_27 : decode cX12_lays 27 = .ok (.iastore, 1) := by decide +kernel
theorem dX12_lays_28 : decode cX12_lays 28 = .ok (.aload_n 0, 1) := by decide +kernel
theorem dX12_lays_29 : decode cX12_lays 29 = .ok (.getfield 10, 3) := by decide +kernel
theorem dX12_lays_32 : decode cX12_lays 32 = .ok (.iload 5, 2) := by decide +kernel
theorem dX12_lays_34 : decode cX12_lays 34 = .ok (.iconst 1, 1) := by decide +kernel
theorem dX12_lays_35 : decode cX12_lays 35 = .ok (.iadd, 1) := by decide +kernel
