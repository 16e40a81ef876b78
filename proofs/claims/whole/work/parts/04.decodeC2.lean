theorem dX7_survey_14 : decode cX7_survey 14 = .ok (.dup, 1) := by decide +kernel
theorem dX7_survey_15 : decode cX7_survey 15 = .ok (.getfield 18, 3) := by decide +kernel
theorem dX7_survey_18 : decode cX7_survey 18 = .ok (.aload_n 1, 1) := by decide +kernel
theorem dX7_survey_19 : decode cX7_survey 19 = .ok (.iload_n 2, 1) := by decide +kernel
theorem dX7_survey_20 : decode cX7_survey 20 = .ok (.invokestatic 27, 3) := by decide +kernel
theorem dX7_survey_23 : decode cX7_survey 23 = .ok (.iaload, 1) := by decide +kernel
theorem dX7_survey_24 : decode cX7_survey 24 = .ok (.iconst 1, 1) := by decide +kernel
theorem dX7_survey_25 : decode cX7_survey 25 = .ok (.if_icmp .ne 9, 3) := by decide +kernel
theorem dX7_survey_28 : decode cX7_survey 28 = .ok (.iconst 1, 1) := by decide +kernel
theorem dX7_survey_29 : decode cX7_survey 29 = .ok (.iload_n 2, 1) := by decide +kernel
theorem dX7_survey_30 : decode cX7_survey 30 = .ok (.ishl, 1) := by decide +kernel
theorem dX7_survey_31 : decode cX7_survey 31 = .ok (.goto 4, 3) := by decide +kernel
theorem dX7_survey_34 : decode cX7_survey 34 = .ok (.iconst 0, 1) := by decide +kernel
theorem dX7_survey_35 : decode cX7_survey 35 = .ok (.ior, 1) := by decide +kernel
theorem dX7_survey_36 : decode cX7_survey 36 = .ok (.putfield 18, 3) := by decide +kernel
theorem dX7_survey_39 : decode cX7_survey 39 = .ok (.iinc 2 1, 3) := by decide +kernel
theorem dX7_survey_42 : decode cX7_survey 42 = .ok (.goto (-35), 3) := by decide +kernel
theorem dX7_survey_45 : decode cX7_survey 45 = .ok (.aload_n 0, 1) := by decide +kernel
theorem dX7_survey_46 : decode cX7_survey 46 = .ok (.iconst 0, 1) := by decide +kernel
theorem dX7_survey_47 : decode cX7_survey 47 = .ok (.putfield 9, 3) := by decide +kernel
theorem dX7_survey_50 : decode cX7_survey 50 = .ok (.aload_n 0, 1) := by decide +kernel
theorem dX7_survey_51 : decode cX7_survey 51 = .ok (.iconst 0, 1) := by decide +kernel
theorem dX7_survey_52 : decode cX7_survey 52 = .ok (.putfield 21, 3) := by decide +kernel
theorem dX7_survey_55 : decode cX7_survey 55 = .ok (.aload_n 0, 1) := by decide +kernel
theorem dX7_survey_56 : decode cX7_survey 56 = .ok (.iconst 0, 1) := by decide +kernel
theorem dX7_survey_57 : decode cX7_survey 57 = .ok (.putfield 24, 3) := by decide +kernel
theorem dX7_survey_60 : decode cX7_survey 60 = .ok (.iconst 0, 1) := by decide +kernel
theorem dX7_survey_61 : decode cX7_survey 61 = .ok (.istore_n 2, 1) := by decide +kernel
theorem dX7_survey_62 : decode cX7_survey 62 = .ok (.iload_n 2, 1) := by decide +kernel
theorem dX7_survey_63 : decode cX7_survey 63 = .ok (.iconst 4, 1) := by decide +kernel
theorem dX7_survey_64 : decode cX7_survey 64 = .ok (.if_icmp .ge 15, 3) := by decide +kernel
theorem dX7_survey_67 : decode cX7_survey 67 = .ok (.aload_n 0, 1) := by decide +kernel
theorem dX7_survey_68 : decode cX7_survey 68 = .ok (.aload_n 1, 1) := by decide +kernel
theorem dX7_survey_69 : decode cX7_survey 69 = .ok (.iload_n 2, 1) := by decide +kernel
theorem dX7_survey_70 : decode cX7_survey 70 = .ok (.invokevirtual 31, 3) := by decide +kernel
theorem dX7_survey_73 : decode cX7_survey 73 = .ok (.iinc 2 1, 3) := by decide +kernel
theorem dX7_survey_76 : decode cX7_survey 76 = .ok (.goto (-14), 3) := by decide +kernel
theorem dX7_survey_79 : decode cX7_survey 79 = .ok (.aload_n 0, 1) := by decide +kernel
theorem dX7_survey_80 : decode cX7_survey 80 = .ok (.aload_n 0, 1) := by decide +kernel
theorem dX7_survey_81 : decode cX7_survey 81 = .ok (.getfield 18, 3) := by decide +kernel
theorem dX7_survey_84 : decode cX7_survey 84 = .ok (.aload_n 0, 1) := by decide +kernel
theorem dX7_survey_85 : decode cX7_survey 85 = .ok (.getfield 9, 3) := by decide +kernel
theorem dX7_survey_88 : decode cX7_survey 88 = .ok (.iconst (-1), 1) := by decide +kernel
theorem dX7_survey_89 : decode cX7_survey 89 = .ok (.ixor, 1) := by decide +kernel
theorem dX7_survey_90 : decode cX7_survey 90 = .ok (.iand, 1) := by decide +kernel
theorem dX7_survey_91 : decode cX7_survey 91 = .ok (.putfield 15, 3) := by decide +kernel
theorem dX7_survey_94 : decode cX7_survey 94 = .ok (.return_, 1) := by decide +kernel
theorem dX7_follow_0 : decode cX7_follow 0 = .ok (.iconst 0, 1) := by decide +kernel
theorem dX7_follow_1 : decode cX7_follow 1 = .ok (.istore_n 3, 1) := by decide +kernel
theorem dX7_follow_2 : decode cX7_follow 2 = .ok (.aload_n 1, 1) := by decide +kernel
theorem dX7_follow_3 : decode cX7_follow 3 = .ok (.bipush 20, 2) := by decide +kernel
theorem dX7_follow_5 : decode cX7_follow 5 = .ok (.iload_n 2, 1) := by decide +kernel
theorem dX7_follow_6 : decode cX7_follow 6 = .ok (.iadd, 1) := by decide +kernel
theorem dX7_follow_7 : decode cX7_follow 7 = .ok (.iaload, 1) := by decide +kernel
theorem dX7_follow_8 : decode cX7_follow 8 = .ok (.istore 4, 2) := by decide +kernel
theorem dX7_follow_10 : decode cX7_follow 10 = .ok (.iconst 0, 1) := by decide +kernel
theorem dX7_follow_11 : decode cX7_follow 11 = .ok (.istore 5, 2) := by decide +kernel
theorem dX7_follow_13 : decode cX7_follow 13 = .ok (.iload 5, 2) := by decide +kernel
theorem dX7_follow_15 : decode cX7_follow 15 = .ok (.bipush 10, 2) := by decide +kernel
theorem dX7_follow_17 : decode cX7_follow 17 = .ok (.if_icmp .gt 97, 3) := by decide +kernel
theorem dX7_follow_20 : decode cX7_follow 20 = .ok (.iload 4, 2) := by decide +kernel
theorem dX7_follow_22 : decode cX7_follow 22 = .ok (.ifCond .eq 92, 3) := by decide +kernel
theorem dX7_follow_25 : decode cX7_follow 25 = .ok (.iload 4, 2) := by decide +kernel
theorem dX7_follow_27 : decode cX7_follow 27 = .ok (.invokestatic 35, 3) := by decide +kernel
theorem dX7_follow_30 : decode cX7_follow 30 = .ok (.ifCond .eq 15, 3) := by decide +kernel
theorem dX7_follow_33 : decode cX7_follow 33 = .ok (.iconst 1, 1) := by decide +kernel
theorem dX7_follow_34 : decode cX7_follow 34 = .ok (.iload 4, 2) := by decide +kernel
theorem dX7_follow_36 : decode cX7_follow 36 = .ok (.bipush 24, 2) := by decide +kernel
theorem dX7_follow_38 : decode cX7_follow 38 = .ok (.isub, 1) := by decide +kernel
theorem dX7_follow_39 : decode cX7_follow 39 = .ok (.iconst 4, 1) := by decide +kernel
theorem dX7_follow_40 : decode cX7_follow 40 = .ok (.idiv, 1) := by decide +kernel
theorem dX7_follow_41 : decode cX7_follow 41 = .ok (.ishl, 1) := by decide +kernel
theorem dX7_follow_42 : decode cX7_follow 42 = .ok (.goto 4, 3) := by decide +kernel
theorem dX7_follow_45 : decode cX7_follow 45 = .ok (.iconst 0, 1) := by decide +kernel
theorem dX7_follow_46 : decode cX7_follow 46 = .ok (.istore 6, 2) := by decide +kernel
theorem dX7_follow_48 : decode cX7_follow 48 = .ok (.aload_n 0, 1) := by decide +kernel
theorem dX7_follow_49 : decode cX7_follow 49 = .ok (.getfield 18, 3) := by decide +kernel
theorem dX7_follow_52 : decode cX7_follow 52 = .ok (.iload 6, 2) := by decide +kernel
theorem dX7_follow_54 : decode cX7_follow 54 = .ok (.iand, 1) := by decide +kernel
theorem dX7_follow_55 : decode cX7_follow 55 = .ok (.ifCond .ne 18, 3) := by decide +kernel
theorem dX7_follow_58 : decode cX7_follow 58 = .ok (.aload_n 0, 1) := by decide +kernel
theorem dX7_follow_59 : decode cX7_follow 59 = .ok (.dup, 1) := by decide +kernel
theorem dX7_follow_60 : decode cX7_follow 60 = .ok (.getfield 21, 3) := by decide +kernel
theorem dX7_follow_63 : decode cX7_follow 63 = .ok (.iconst 1, 1) := by decide +kernel
theorem dX7_follow_64 : decode cX7_follow 64 = .ok (.iload_n 2, 1) := by decide +kernel
theorem dX7_follow_65 : decode cX7_follow 65 = .ok (.ishl, 1) := by decide +kernel
theorem dX7_follow_66 : decode cX7_follow 66 = .ok (.ior, 1) := by decide +kernel
theorem dX7_follow_67 : decode cX7_follow 67 = .ok (.putfield 21, 3) := by decide +kernel
theorem dX7_follow_70 : decode cX7_follow 70 = .ok (.goto 44, 3) := by decide +kernel
theorem dX7_follow_73 : decode cX7_follow 73 = .ok (.iload_n 3, 1) := by decide +kernel
theorem dX7_follow_74 : decode cX7_follow 74 = .ok (.iload 6, 2) := by decide +kernel
theorem dX7_follow_76 : decode cX7_follow 76 = .ok (.iand, 1) := by decide +kernel
theorem dX7_follow_77 : decode cX7_follow 77 = .ok (.ifCond .eq 18, 3) := by decide +kernel
theorem dX7_follow_80 : decode cX7_follow 80 = .ok (.aload_n 0, 1) := by decide +kernel
theorem dX7_follow_81 : decode cX7_follow 81 = .ok (.dup, 1) := by decide +kernel
theorem dX7_follow_82 : decode cX7_follow 82 = .ok (.getfield 24, 3) := by decide +kernel
theorem dX7_follow_85 : decode cX7_follow 85 = .ok (.iconst 1, 1) := by decide +kernel
theorem dX7_follow_86 : decode cX7_follow 86 = .ok (.iload_n 2, 1) := by decide +kernel
theorem dX7_follow_87 : decode cX7_follow 87 = .ok (.ishl, 1) := by decide +kernel
theorem dX7_follow_88 : decode cX7_follow 88 = .ok (.ior, 1) := by decide +kernel
theorem dX7_follow_89 : decode cX7_follow 89 = .ok (.putfield 24, 3) := by decide +kernel
theorem dX7_follow_92 : decode cX7_follow 92 = .ok (.goto 22, 3) := by decide +kernel
theorem dX7_follow_95 : decode cX7_follow 95 = .ok (.iload_n 3, 1) := by decide +kernel
theorem dX7_follow_96 : decode cX7_follow 96 = .ok (.iload 6, 2) := by decide +kernel
theorem dX7_follow_98 : decode cX7_follow 98 = .ok (.ior, 1) := by decide +kernel
theorem dX7_follow_99 : decode cX7_follow 99 = .ok (.istore_n 3, 1) := by decide +kernel
theorem dX7_follow_100 : decode cX7_follow 100 = .ok (.aload_n 1, 1) := by decide +kernel
theorem dX7_follow_101 : decode cX7_follow 101 = .ok (.iload 4, 2) := by decide +kernel
theorem dX7_follow_103 : decode cX7_follow 103 = .ok (.iconst 1, 1) := by decide +kernel
theorem dX7_follow_104 : decode cX7_follow 104 = .ok (.iadd, 1) := by decide +kernel
theorem dX7_follow_105 : decode cX7_follow 105 = .ok (.iaload, 1) := by decide +kernel
theorem dX7_follow_106 : decode cX7_follow 106 = .ok (.istore 4, 2) := by decide +kernel
theorem dX7_follow_108 : decode cX7_follow 108 = .ok (.iinc 5 1, 3) := by decide +kernel
theorem dX7_follow_111 : decode cX7_follow 111 = .ok (.goto (-98), 3) := by decide +kernel
theorem dX7_follow_114 : decode cX7_follow 114 = .ok (.aload_n 0, 1) := by decide +kernel
theorem dX7_follow_115 : decode cX7_follow 115 = .ok (.dup, 1) := by decide +kernel
theorem dX7_follow_116 : decode cX7_follow 116 = .ok (.getfield 9, 3) := by decide +kernel
theorem dX7_follow_119 : decode cX7_follow 119 = .ok (.iload_n 3, 1) := by decide +kernel
theorem dX7_follow_120 : decode cX7_follow 120 = .ok (.ior, 1) := by decide +kernel
theorem dX7_follow_121 : decode cX7_follow 121 = .ok (.putfield 9, 3) := by decide +kernel
theorem dX7_follow_124 : decode cX7_follow 124 = .ok (.return_, 1) := by decide +kernel
theorem dX7_answer_0 : decode cX7_answer 0 = .ok (.iload_n 1, 1) := by decide +kernel
theorem dX7_answer_1 : decode cX7_answer 1 = .ok (.tableswitch 51 0 3 #[31, 36, 41, 46], 31) := by decide +kernel
theorem dX7_answer_32 : decode cX7_answer 32 = .ok (.aload_n 0, 1) := by decide +kernel
theorem dX7_answer_33 : decode cX7_answer 33 = .ok (.getfield 9, 3) := by decide +kernel
theorem dX7_answer_36 : decode cX7_answer 36 = .ok (.ireturn, 1) := by decide +kernel
theorem dX7_answer_37 : decode cX7_answer 37 = .ok (.aload_n 0, 1) := by decide +kernel
theorem dX7_answer_38 : decode cX7_answer 38 = .ok (.getfield 15, 3) := by decide +kernel
theorem dX7_answer_41 : decode cX7_answer 41 = .ok (.ireturn, 1) := by decide +kernel
theorem dX7_answer_42 : decode cX7_answer 42 = .ok (.aload_n 0, 1) := by decide +kernel
theorem dX7_answer_43 : decode cX7_answer 43 = .ok (.getfield 18, 3) := by decide +kernel
theorem dX7_answer_46 : decode cX7_answer 46 = .ok (.ireturn, 1) := by decide +kernel
theorem dX7_answer_47 : decode cX7_answer 47 = .ok (.aload_n 0, 1) := by decide +kernel
theorem dX7_answer_48 : decode cX7_answer 48 = .ok (.getfield 21, 3) := by decide +kernel
theorem dX7_answer_51 : decode cX7_answer 51 = .ok (.ireturn, 1) := by decide +kernel
theorem dX7_answer_52 : decode cX7_answer 52 = .ok (.aload_n 0, 1) := by decide +kernel
theorem dX7_answer_53 : decode cX7_answer 53 = .ok (.getfield 24, 3) := by decide +kernel
theorem dX7_answer_56 : decode cX7_answer 56 = .ok (.ireturn, 1) := by decide +kernel
theorem dX8_init_0 : decode cX8_init 0 = .ok (.aload_n 0, 1) := by decide +kernel
theorem dX8_init_1 : decode cX8_init 1 = .ok (.invokespecial 3, 3) := by decide +kernel
theorem dX8_init_4 : decode cX8_init 4 = .ok (.aload_n 0, 1) := by decide +kernel
theorem dX8_init_5 : decode cX8_init 5 = .ok (.bipush 16, 2) := by decide +kernel
theorem dX8_init_7 : decode cX8_init 7 = .ok (.newarray .int, 2) := by decide +kernel
theorem dX8_init_9 : decode cX8_init 9 = .ok (.putfield 9, 3) := by decide +kernel
theorem dX8_init_12 : decode cX8_init 12 = .ok (.aload_n 0, 1) := by decide +kernel
theorem dX8_init_13 : decode cX8_init 13 = .ok (.iconst 4, 1) := by decide +kernel
theorem dX8_init_14 : decode cX8_init 14 = .ok (.newarray .int, 2) := by decide +kernel
theorem dX8_init_16 : decode cX8_init 16 = .ok (.putfield 15, 3) := by decide +kernel
theorem dX8_init_19 : decode cX8_init 19 = .ok (.return_, 1) := by decide +kernel
theorem dX8_narrow_0 : decode cX8_narrow 0 = .ok (.iconst 0, 1) := by decide +kernel
theorem dX8_narrow_1 : decode cX8_narrow 1 = .ok (.istore 4, 2) := by decide +kernel
theorem dX8_narrow_3 : decode cX8_narrow 3 = .ok (.iload 4, 2) := by decide +kernel
theorem dX8_narrow_5 : decode cX8_narrow 5 = .ok (.bipush 16, 2) := by decide +kernel
theorem dX8_narrow_7 : decode cX8_narrow 7 = .ok (.if_icmp .ge 123, 3) := by decide +kernel
theorem dX8_narrow_10 : decode cX8_narrow 10 = .ok (.aload_n 1, 1) := by decide +kernel
theorem dX8_narrow_11 : decode cX8_narrow 11 = .ok (.getfield 18, 3) := by decide +kernel
theorem dX8_narrow_14 : decode cX8_narrow 14 = .ok (.iload 4, 2) := by decide +kernel
theorem dX8_narrow_16 : decode cX8_narrow 16 = .ok (.iconst 4, 1) := by decide +kernel
theorem dX8_narrow_17 : decode cX8_narrow 17 = .ok (.imul, 1) := by decide +kernel
theorem dX8_narrow_18 : decode cX8_narrow 18 = .ok (.aload_n 0, 1) := by decide +kernel
theorem dX8_narrow_19 : decode cX8_narrow 19 = .ok (.getfield 15, 3) := by decide +kernel
theorem dX8_narrow_22 : decode cX8_narrow 22 = .ok (.iconst 0, 1) := by decide +kernel
theorem dX8_narrow_23 : decode cX8_narrow 23 = .ok (.iconst 4, 1) := by decide +kernel
theorem dX8_narrow_24 : decode cX8_narrow 24 = .ok (.invokestatic 23, 3) := by decide +kernel
theorem dX8_narrow_27 : decode cX8_narrow 27 = .ok (.aload_n 0, 1) := by decide +kernel
theorem dX8_narrow_28 : decode cX8_narrow 28 = .ok (.getfield 9, 3) := by decide +kernel
theorem dX8_narrow_31 : decode cX8_narrow 31 = .ok (.iload 4, 2) := by decide +kernel
theorem dX8_narrow_33 : decode cX8_narrow 33 = .ok (.iconst 0, 1) := by decide +kernel
theorem dX8_narrow_34 : decode cX8_narrow 34 = .ok (.iastore, 1) := by decide +kernel
theorem dX8_narrow_35 : decode cX8_narrow 35 = .ok (.iconst 0, 1) := by decide +kernel
theorem dX8_narrow_36 : decode cX8_narrow 36 = .ok (.istore 5, 2) := by decide +kernel
theorem dX8_narrow_38 : decode cX8_narrow 38 = .ok (.iload 5, 2) := by decide +kernel
theorem dX8_narrow_40 : decode cX8_narrow 40 = .ok (.aload_n 1, 1) := by decide +kernel
theorem dX8_narrow_41 : decode cX8_narrow 41 = .ok (.getfield 29, 3) := by decide +kernel
theorem dX8_narrow_44 : decode cX8_narrow 44 = .ok (.iload 4, 2) := by decide +kernel
theorem dX8_narrow_46 : decode cX8_narrow 46 = .ok (.iaload, 1) := by decide +kernel
theorem dX8_narrow_47 : decode cX8_narrow 47 = .ok (.if_icmp .gt 77, 3) := by decide +kernel
theorem dX8_narrow_50 : decode cX8_narrow 50 = .ok (.iload 5, 2) := by decide +kernel
theorem dX8_narrow_52 : decode cX8_narrow 52 = .ok (.ifCond .le 37, 3) := by decide +kernel
theorem dX8_narrow_55 : decode cX8_narrow 55 = .ok (.aload_n 1, 1) := by decide +kernel
theorem dX8_narrow_56 : decode cX8_narrow 56 = .ok (.getfield 32, 3) := by decide +kernel
theorem dX8_narrow_59 : decode cX8_narrow 59 = .ok (.iload 4, 2) := by decide +kernel
theorem dX8_narrow_61 : decode cX8_narrow 61 = .ok (.bipush 6, 2) := by decide +kernel
theorem dX8_narrow_63 : decode cX8_narrow 63 = .ok (.imul, 1) := by decide +kernel
theorem dX8_narrow_64 : decode cX8_narrow 64 = .ok (.iload 5, 2) := by decide +kernel
theorem dX8_narrow_66 : decode cX8_narrow 66 = .ok (.iadd, 1) := by decide +kernel
theorem dX8_narrow_67 : decode cX8_narrow 67 = .ok (.iconst 1, 1) := by decide +kernel
theorem dX8_narrow_68 : decode cX8_narrow 68 = .ok (.isub, 1) := by decide +kernel
theorem dX8_narrow_69 : decode cX8_narrow 69 = .ok (.iaload, 1) := by decide +kernel
theorem dX8_narrow_70 : decode cX8_narrow 70 = .ok (.istore 6, 2) := by decide +kernel
theorem dX8_narrow_72 : decode cX8_narrow 72 = .ok (.aload_n 0, 1) := by decide +kernel
theorem dX8_narrow_73 : decode cX8_narrow 73 = .ok (.getfield 15, 3) := by decide +kernel
theorem dX8_narrow_76 : decode cX8_narrow 76 = .ok (.iload 6, 2) := by decide +kernel
theorem dX8_narrow_78 : decode cX8_narrow 78 = .ok (.bipush 100, 2) := by decide +kernel
theorem dX8_narrow_80 : decode cX8_narrow 80 = .ok (.idiv, 1) := by decide +kernel
theorem dX8_narrow_81 : decode cX8_narrow 81 = .ok (.iconst 4, 1) := by decide +kernel
theorem dX8_narrow_82 : decode cX8_narrow 82 = .ok (.irem, 1) := by decide +kernel
theorem dX8_narrow_83 : decode cX8_narrow 83 = .ok (.iload 6, 2) := by decide +kernel
theorem dX8_narrow_85 : decode cX8_narrow 85 = .ok (.bipush 100, 2) := by decide +kernel
theorem dX8_narrow_87 : decode cX8_narrow 87 = .ok (.irem, 1) := by decide +kernel
theorem dX8_narrow_88 : decode cX8_narrow 88 = .ok (.iastore, 1) := by decide +kernel
theorem dX8_narrow_89 : decode cX8_narrow 89 = .ok (.aload_n 0, 1) := by decide +kernel
theorem dX8_narrow_90 : decode cX8_narrow 90 = .ok (.getfield 9, 3) := by decide +kernel
theorem dX8_narrow_93 : decode cX8_narrow 93 = .ok (.iload 4, 2) := by decide +kernel
theorem dX8_narrow_95 : decode cX8_narrow 95 = .ok (.dup2, 1) := by decide +kernel
theorem dX8_narrow_96 : decode cX8_narrow 96 = .ok (.iaload, 1) := by decide +kernel
theorem dX8_narrow_97 : decode cX8_narrow 97 = .ok (.aload_n 0, 1) := by decide +kernel
theorem dX8_narrow_98 : decode cX8_narrow 98 = .ok (.iload 4, 2) := by decide +kernel
theorem dX8_narrow_100 : decode cX8_narrow 100 = .ok (.aload_n 2, 1) := by decide +kernel
theorem dX8_narrow_101 : decode cX8_narrow 101 = .ok (.iload_n 3, 1) := by decide +kernel
theorem dX8_narrow_102 : decode cX8_narrow 102 = .ok (.invokevirtual 35, 3) := by decide +kernel
theorem dX8_narrow_105 : decode cX8_narrow 105 = .ok (.ifCond .eq 10, 3) := by decide +kernel
theorem dX8_narrow_108 : decode cX8_narrow 108 = .ok (.iconst 1, 1) := by decide +kernel
theorem dX8_narrow_109 : decode cX8_narrow 109 = .ok (.iload 5, 2) := by decide +kernel
theorem dX8_narrow_111 : decode cX8_narrow 111 = .ok (.ishl, 1) := by decide +kernel
theorem dX8_narrow_112 : decode cX8_narrow 112 = .ok (.goto 4, 3) := by decide +kernel
theorem dX8_narrow_115 : decode cX8_narrow 115 = .ok (.iconst 0, 1) := by decide +kernel
theorem dX8_narrow_116 : decode cX8_narrow 116 = .ok (.ior, 1) := by decide +kernel
theorem dX8_narrow_117 : decode cX8_narrow 117 = .ok (.iastore, 1) := by decide +kernel
theorem dX8_narrow_118 : decode cX8_narrow 118 = .ok (.iinc 5 1, 3) := by decide +kernel
theorem dX8_narrow_121 : decode cX8_narrow 121 = .ok (.goto (-83), 3) := by decide +kernel
theorem dX8_narrow_124 : decode cX8_narrow 124 = .ok (.iinc 4 1, 3) := by decide +kernel
theorem dX8_narrow_127 : decode cX8_narrow 127 = .ok (.goto (-124), 3) := by decide +kernel
theorem dX8_narrow_130 : decode cX8_narrow 130 = .ok (.return_, 1) := by decide +kernel
theorem dX8_fits_0 : decode cX8_fits 0 = .ok (.iconst 0, 1) := by decide +kernel
theorem dX8_fits_1 : decode cX8_fits 1 = .ok (.istore 4, 2) := by decide +kernel
theorem dX8_fits_3 : decode cX8_fits 3 = .ok (.iload 4, 2) := by decide +kernel
theorem dX8_fits_5 : decode cX8_fits 5 = .ok (.iload_n 3, 1) := by decide +kernel
theorem dX8_fits_6 : decode cX8_fits 6 = .ok (.if_icmp .ge 49, 3) := by decide +kernel
theorem dX8_fits_9 : decode cX8_fits 9 = .ok (.aload_n 2, 1) := by decide +kernel
theorem dX8_fits_10 : decode cX8_fits 10 = .ok (.iload 4, 2) := by decide +kernel
theorem dX8_fits_12 : decode cX8_fits 12 = .ok (.iaload, 1) := by decide +kernel
theorem dX8_fits_13 : decode cX8_fits 13 = .ok (.sipush 1000, 3) := by decide +kernel
theorem dX8_fits_16 : decode cX8_fits 16 = .ok (.idiv, 1) := by decide +kernel
theorem dX8_fits_17 : decode cX8_fits 17 = .ok (.istore 5, 2) := by decide +kernel
theorem dX8_fits_19 : decode cX8_fits 19 = .ok (.iload 5, 2) := by decide +kernel
theorem dX8_fits_21 : decode cX8_fits 21 = .ok (.iconst 4, 1) := by decide +kernel
theorem dX8_fits_22 : decode cX8_fits 22 = .ok (.idiv, 1) := by decide +kernel
theorem dX8_fits_23 : decode cX8_fits 23 = .ok (.iload_n 1, 1) := by decide +kernel
theorem dX8_fits_24 : decode cX8_fits 24 = .ok (.if_icmp .ne 25, 3) := by decide +kernel
theorem dX8_fits_27 : decode cX8_fits 27 = .ok (.aload_n 0, 1) := by decide +kernel
theorem dX8_fits_28 : decode cX8_fits 28 = .ok (.getfield 15, 3) := by decide +kernel
theorem dX8_fits_31 : decode cX8_fits 31 = .ok (.iload 5, 2) := by decide +kernel
theorem dX8_fits_33 : decode cX8_fits 33 = .ok (.iconst 4, 1) := by decide +kernel
theorem dX8_fits_34 : decode cX8_fits 34 = .ok (.irem, 1) := by decide +kernel
theorem dX8_fits_35 : decode cX8_fits 35 = .ok (.iaload, 1) := by decide +kernel
theorem dX8_fits_36 : decode cX8_fits 36 = .ok (.aload_n 2, 1) := by decide +kernel
theorem dX8_fits_37 : decode cX8_fits 37 = .ok (.iload 4, 2) := by decide +kernel
theorem dX8_fits_39 : decode cX8_fits 39 = .ok (.iaload, 1) := by decide +kernel
theorem dX8_fits_40 : decode cX8_fits 40 = .ok (.sipush 1000, 3) := by decide +kernel
theorem dX8_fits_43 : decode cX8_fits 43 = .ok (.irem, 1) := by decide +kernel
theorem dX8_fits_44 : decode cX8_fits 44 = .ok (.if_icmp .eq 5, 3) := by decide +kernel
theorem dX8_fits_47 : decode cX8_fits 47 = .ok (.iconst 0, 1) := by decide +kernel
theorem dX8_fits_48 : decode cX8_fits 48 = .ok (.ireturn, 1) := by decide +kernel
theorem dX8_fits_49 : decode cX8_fits 49 = .ok (.iinc 4 1, 3) := by decide +kernel
theorem dX8_fits_52 : decode cX8_fits 52 = .ok (.goto (-49), 3) := by decide +kernel
theorem dX8_fits_55 : decode cX8_fits 55 = .ok (.iconst 1, 1) := by decide +kernel
theorem dX8_fits_56 : decode cX8_fits 56 = .ok (.ireturn, 1) := by decide +kernel
theorem dX8_ordersLeft_0 : decode cX8_ordersLeft 0 = .ok (.iconst 1, 1) := by decide +kernel
theorem dX8_ordersLeft_1 : decode cX8_ordersLeft 1 = .ok (.istore_n 1, 1) := by decide +kernel
theorem dX8_ordersLeft_2 : decode cX8_ordersLeft 2 = .ok (.iconst 0, 1) := by decide +kernel
theorem dX8_ordersLeft_3 : decode cX8_ordersLeft 3 = .ok (.istore_n 2, 1) := by decide +kernel
theorem dX8_ordersLeft_4 : decode cX8_ordersLeft 4 = .ok (.iload_n 2, 1) := by decide +kernel
theorem dX8_ordersLeft_5 : decode cX8_ordersLeft 5 = .ok (.bipush 16, 2) := by decide +kernel
theorem dX8_ordersLeft_7 : decode cX8_ordersLeft 7 = .ok (.if_icmp .ge 21, 3) := by decide +kernel
theorem dX8_ordersLeft_10 : decode cX8_ordersLeft 10 = .ok (.iload_n 1, 1) := by decide +kernel
theorem dX8_ordersLeft_11 : decode cX8_ordersLeft 11 = .ok (.aload_n 0, 1) := by decide +kernel
theorem dX8_ordersLeft_12 : decode cX8_ordersLeft 12 = .ok (.getfield 9, 3) := by decide +kernel
theorem dX8_ordersLeft_15 : decode cX8_ordersLeft 15 = .ok (.iload_n 2, 1) := by decide +kernel
theorem dX8_ordersLeft_16 : decode cX8_ordersLeft 16 = .ok (.iaload, 1) := by decide +kernel
theorem dX8_ordersLeft_17 : decode cX8_ordersLeft 17 = .ok (.invokestatic 39, 3) := by decide +kernel
theorem dX8_ordersLeft_20 : decode cX8_ordersLeft 20 = .ok (.imul, 1) := by decide +kernel
theorem dX8_ordersLeft_21 : decode cX8_ordersLeft 21 = .ok (.istore_n 1, 1) := by decide +kernel
theorem dX8_ordersLeft_22 : decode cX8_ordersLeft 22 = .ok (.iinc 2 1, 3) := by decide +kernel
theorem dX8_ordersLeft_25 : decode cX8_ordersLeft 25 = .ok (.goto (-21), 3) := by decide +kernel
theorem dX8_ordersLeft_28 : decode cX8_ordersLeft 28 = .ok (.iload_n 1, 1) := by decide +kernel
theorem dX8_ordersLeft_29 : decode cX8_ordersLeft 29 = .ok (.ireturn, 1) := by decide +kernel
theorem dX8_firstLeft_0 : decode cX8_firstLeft 0 = .ok (.iconst 0, 1) := by decide +kernel
theorem dX8_firstLeft_1 : decode cX8_firstLeft 1 = .ok (.istore_n 2, 1) := by decide +kernel
theorem dX8_firstLeft_2 : decode cX8_firstLeft 2 = .ok (.iconst 0, 1) := by decide +kernel
theorem dX8_firstLeft_3 : decode cX8_firstLeft 3 = .ok (.istore_n 3, 1) := by decide +kernel
theorem dX8_firstLeft_4 : decode cX8_firstLeft 4 = .ok (.iload_n 3, 1) := by decide +kernel
theorem dX8_firstLeft_5 : decode cX8_firstLeft 5 = .ok (.bipush 16, 2) := by decide +kernel
theorem dX8_firstLeft_7 : decode cX8_firstLeft 7 = .ok (.if_icmp .ge 30, 3) := by decide +kernel
theorem dX8_firstLeft_10 : decode cX8_firstLeft 10 = .ok (.iload_n 2, 1) := by decide +kernel
theorem dX8_firstLeft_11 : decode cX8_firstLeft 11 = .ok (.aload_n 1, 1) := by decide +kernel
theorem dX8_firstLeft_12 : decode cX8_firstLeft 12 = .ok (.getfield 29, 3) := by decide +kernel
theorem dX8_firstLeft_15 : decode cX8_firstLeft 15 = .ok (.iload_n 3, 1) := by decide +kernel
theorem dX8_firstLeft_16 : decode cX8_firstLeft 16 = .ok (.iaload, 1) := by decide +kernel
theorem dX8_firstLeft_17 : decode cX8_firstLeft 17 = .ok (.iconst 1, 1) := by decide +kernel
theorem dX8_firstLeft_18 : decode cX8_firstLeft 18 = .ok (.iadd, 1) := by decide +kernel
theorem dX8_firstLeft_19 : decode cX8_firstLeft 19 = .ok (.imul, 1) := by decide +kernel
theorem dX8_firstLeft_20 : decode cX8_firstLeft 20 = .ok (.aload_n 0, 1) := by decide +kernel
theorem dX8_firstLeft_21 : decode cX8_firstLeft 21 = .ok (.getfield 9, 3) := by decide +kernel
theorem dX8_firstLeft_24 : decode cX8_firstLeft 24 = .ok (.iload_n 3, 1) := by decide +kernel
theorem dX8_firstLeft_25 : decode cX8_firstLeft 25 = .ok (.iaload, 1) := by decide +kernel
theorem dX8_firstLeft_26 : decode cX8_firstLeft 26 = .ok (.invokestatic 45, 3) := by decide +kernel
theorem dX8_firstLeft_29 : decode cX8_firstLeft 29 = .ok (.iadd, 1) := by decide +kernel
theorem dX8_firstLeft_30 : decode cX8_firstLeft 30 = .ok (.istore_n 2, 1) := by decide +kernel
theorem dX8_firstLeft_31 : decode cX8_firstLeft 31 = .ok (.iinc 3 1, 3) := by decide +kernel
theorem dX8_firstLeft_34 : decode cX8_firstLeft 34 = .ok (.goto (-30), 3) := by decide +kernel
theorem dX8_firstLeft_37 : decode cX8_firstLeft 37 = .ok (.iload_n 2, 1) := by decide +kernel
theorem dX8_firstLeft_38 : decode cX8_firstLeft 38 = .ok (.ireturn, 1) := by decide +kernel
theorem dX8_unlikeNumbers_0 : decode cX8_unlikeNumbers 0 = .ok (.iload_n 2, 1) := by decide +kernel
theorem dX8_unlikeNumbers_1 : decode cX8_unlikeNumbers 1 = .ok (.iconst 4, 1) := by decide +kernel
theorem dX8_unlikeNumbers_2 : decode cX8_unlikeNumbers 2 = .ok (.idiv, 1) := by decide +kernel
theorem dX8_unlikeNumbers_3 : decode cX8_unlikeNumbers 3 = .ok (.istore_n 3, 1) := by decide +kernel
theorem dX8_unlikeNumbers_4 : decode cX8_unlikeNumbers 4 = .ok (.aload_n 1, 1) := by decide +kernel
theorem dX8_unlikeNumbers_5 : decode cX8_unlikeNumbers 5 = .ok (.getfield 18, 3) := by decide +kernel
theorem dX8_unlikeNumbers_8 : decode cX8_unlikeNumbers 8 = .ok (.iload_n 2, 1) := by decide +kernel
theorem dX8_unlikeNumbers_9 : decode cX8_unlikeNumbers 9 = .ok (.iaload, 1) := by decide +kernel
theorem dX8_unlikeNumbers_10 : decode cX8_unlikeNumbers 10 = .ok (.istore 4, 2) := by decide +kernel
theorem dX8_unlikeNumbers_12 : decode cX8_unlikeNumbers 12 = .ok (.lconst 0, 1) := by decide +kernel
theorem dX8_unlikeNumbers_13 : decode cX8_unlikeNumbers 13 = .ok (.lstore 5, 2) := by decide +kernel
theorem dX8_unlikeNumbers_15 : decode cX8_unlikeNumbers 15 = .ok (.lconst 0, 1) := by decide +kernel
theorem dX8_unlikeNumbers_16 : decode cX8_unlikeNumbers 16 = .ok (.lstore 7, 2) := by decide +kernel
theorem dX8_unlikeNumbers_18 : decode cX8_unlikeNumbers 18 = .ok (.iconst 0, 1) := by decide +kernel
theorem dX8_unlikeNumbers_19 : decode cX8_unlikeNumbers 19 = .ok (.istore 9, 2) := by decide +kernel
theorem dX8_unlikeNumbers_21 : decode cX8_unlikeNumbers 21 = .ok (.iload 9, 2) := by decide +kernel
theorem dX8_unlikeNumbers_23 : decode cX8_unlikeNumbers 23 = .ok (.aload_n 1, 1) := by decide +kernel
theorem dX8_unlikeNumbers_24 : decode cX8_unlikeNumbers 24 = .ok (.getfield 29, 3) := by decide +kernel
theorem dX8_unlikeNumbers_27 : decode cX8_unlikeNumbers 27 = .ok (.iload_n 3, 1) := by decide +kernel
theorem dX8_unlikeNumbers_28 : decode cX8_unlikeNumbers 28 = .ok (.iaload, 1) := by decide +kernel
theorem dX8_unlikeNumbers_29 : decode cX8_unlikeNumbers 29 = .ok (.if_icmp .gt 112, 3) := by decide +kernel
theorem dX8_unlikeNumbers_32 : decode cX8_unlikeNumbers 32 = .ok (.iload 9, 2) := by decide +kernel
theorem dX8_unlikeNumbers_34 : decode cX8_unlikeNumbers 34 = .ok (.ifCond .le 20, 3) := by decide +kernel
theorem dX8_unlikeNumbers_37 : decode cX8_unlikeNumbers 37 = .ok (.aload_n 1, 1) := by decide +kernel
theorem dX8_unlikeNumbers_38 : decode cX8_unlikeNumbers 38 = .ok (.getfield 32, 3) := by decide +kernel
theorem dX8_unlikeNumbers_41 : decode cX8_unlikeNumbers 41 = .ok (.iload_n 3, 1) := by decide +kernel
theorem dX8_unlikeNumbers_42 : decode cX8_unlikeNumbers 42 = .ok (.bipush 6, 2) := by decide +kernel
theorem dX8_unlikeNumbers_44 : decode cX8_unlikeNumbers 44 = .ok (.imul, 1) := by decide +kernel
theorem dX8_unlikeNumbers_45 : decode cX8_unlikeNumbers 45 = .ok (.iload 9, 2) := by decide +kernel
theorem dX8_unlikeNumbers_47 : decode cX8_unlikeNumbers 47 = .ok (.iadd, 1) := by decide +kernel
theorem dX8_unlikeNumbers_48 : decode cX8_unlikeNumbers 48 = .ok (.iconst 1, 1) := by decide +kernel
theorem dX8_unlikeNumbers_49 : decode cX8_unlikeNumbers 49 = .ok (.isub, 1) := by decide +kernel
theorem dX8_unlikeNumbers_50 : decode cX8_unlikeNumbers 50 = .ok (.iaload, 1) := by decide +kernel
theorem dX8_unlikeNumbers_51 : decode cX8_unlikeNumbers 51 = .ok (.goto 4, 3) := by decide +kernel
theorem dX8_unlikeNumbers_54 : decode cX8_unlikeNumbers 54 = .ok (.iconst (-1), 1) := by decide +kernel
theorem dX8_unlikeNumbers_55 : decode cX8_unlikeNumbers 55 = .ok (.istore 10, 2) := by decide +kernel
theorem dX8_unlikeNumbers_57 : decode cX8_unlikeNumbers 57 = .ok (.iload 9, 2) := by decide +kernel
theorem dX8_unlikeNumbers_59 : decode cX8_unlikeNumbers 59 = .ok (.ifCond .le 19, 3) := by decide +kernel
theorem dX8_unlikeNumbers_62 : decode cX8_unlikeNumbers 62 = .ok (.iload 10, 2) := by decide +kernel
theorem dX8_unlikeNumbers_64 : decode cX8_unlikeNumbers 64 = .ok (.bipush 100, 2) := by decide +kernel
theorem dX8_unlikeNumbers_66 : decode cX8_unlikeNumbers 66 = .ok (.idiv, 1) := by decide +kernel
theorem dX8_unlikeNumbers_67 : decode cX8_unlikeNumbers 67 = .ok (.iload_n 2, 1) := by decide +kernel
theorem dX8_unlikeNumbers_68 : decode cX8_unlikeNumbers 68 = .ok (.if_icmp .ne 10, 3) := by decide +kernel
theorem dX8_unlikeNumbers_71 : decode cX8_unlikeNumbers 71 = .ok (.iload 10, 2) := by decide +kernel
theorem dX8_unlikeNumbers_73 : decode cX8_unlikeNumbers 73 = .ok (.bipush 100, 2) := by decide +kernel
theorem dX8_unlikeNumbers_75 : decode cX8_unlikeNumbers 75 = .ok (.irem, 1) := by decide +kernel
theorem dX8_unlikeNumbers_76 : decode cX8_unlikeNumbers 76 = .ok (.istore 4, 2) := by decide +kernel
theorem dX8_unlikeNumbers_78 : decode cX8_unlikeNumbers 78 = .ok (.aload_n 0, 1) := by decide +kernel
theorem dX8_unlikeNumbers_79 : decode cX8_unlikeNumbers 79 = .ok (.getfield 9, 3) := by decide +kernel
theorem dX8_unlikeNumbers_82 : decode cX8_unlikeNumbers 82 = .ok (.iload_n 3, 1) := by decide +kernel
theorem dX8_unlikeNumbers_83 : decode cX8_unlikeNumbers 83 = .ok (.iaload, 1) := by decide +kernel
theorem dX8_unlikeNumbers_84 : decode cX8_unlikeNumbers 84 = .ok (.iload 9, 2) := by decide +kernel
theorem dX8_unlikeNumbers_86 : decode cX8_unlikeNumbers 86 = .ok (.ishr, 1) := by decide +kernel
theorem dX8_unlikeNumbers_87 : decode cX8_unlikeNumbers 87 = .ok (.iconst 1, 1) := by decide +kernel
theorem dX8_unlikeNumbers_88 : decode cX8_unlikeNumbers 88 = .ok (.iand, 1) := by decide +kernel
theorem dX8_unlikeNumbers_89 : decode cX8_unlikeNumbers 89 = .ok (.ifCond .eq 46, 3) := by decide +kernel
theorem dX8_unlikeNumbers_92 : decode cX8_unlikeNumbers 92 = .ok (.lload 5, 2) := by decide +kernel
theorem dX8_unlikeNumbers_94 : decode cX8_unlikeNumbers 94 = .ok (.iload 4, 2) := by decide +kernel
theorem dX8_unlikeNumbers_96 : decode cX8_unlikeNumbers 96 = .ok (.bipush 64, 2) := by decide +kernel
theorem dX8_unlikeNumbers_98 : decode cX8_unlikeNumbers 98 = .ok (.if_icmp .ge 10, 3) := by decide +kernel
theorem dX8_unlikeNumbers_101 : decode cX8_unlikeNumbers 101 = .ok (.lconst 1, 1) := by decide +kernel
theorem dX8_unlikeNumbers_102 : decode cX8_unlikeNumbers 102 = .ok (.iload 4, 2) := by decide +kernel
theorem dX8_unlikeNumbers_104 : decode cX8_unlikeNumbers 104 = .ok (.lshl, 1) := by decide +kernel
theorem dX8_unlikeNumbers_105 : decode cX8_unlikeNumbers 105 = .ok (.goto 4, 3) := by decide +kernel
theorem dX8_unlikeNumbers_108 : decode cX8_unlikeNumbers 108 = .ok (.lconst 0, 1) := by decide +kernel
theorem dX8_unlikeNumbers_109 : decode cX8_unlikeNumbers 109 = .ok (.lor, 1) := by decide +kernel
theorem dX8_unlikeNumbers_110 : decode cX8_unlikeNumbers 110 = .ok (.lstore 5, 2) := by decide +kernel
theorem dX8_unlikeNumbers_112 : decode cX8_unlikeNumbers 112 = .ok (.lload 7, 2) := by decide +kernel
theorem dX8_unlikeNumbers_114 : decode cX8_unlikeNumbers 114 = .ok (.iload 4, 2) := by decide +kernel
theorem dX8_unlikeNumbers_116 : decode cX8_unlikeNumbers 116 = .ok (.bipush 64, 2) := by decide +kernel
theorem dX8_unlikeNumbers_118 : decode cX8_unlikeNumbers 118 = .ok (.if_icmp .ge 7, 3) := by decide +kernel
theorem dX8_unlikeNumbers_121 : decode cX8_unlikeNumbers 121 = .ok (.lconst 0, 1) := by decide +kernel
theorem dX8_unlikeNumbers_122 : decode cX8_unlikeNumbers 122 = .ok (.goto 10, 3) := by decide +kernel
theorem dX8_unlikeNumbers_125 : decode cX8_unlikeNumbers 125 = .ok (.lconst 1, 1) := by decide +kernel
theorem dX8_unlikeNumbers_126 : decode cX8_unlikeNumbers 126 = .ok (.iload 4, 2) := by decide +kernel
theorem dX8_unlikeNumbers_128 : decode cX8_unlikeNumbers 128 = .ok (.bipush 64, 2) := by decide +kernel
theorem dX8_unlikeNumbers_130 : decode cX8_unlikeNumbers 130 = .ok (.isub, 1) := by decide +kernel
theorem dX8_unlikeNumbers_131 : decode cX8_unlikeNumbers 131 = .ok (.lshl, 1) := by decide +kernel
theorem dX8_unlikeNumbers_132 : decode cX8_unlikeNumbers 132 = .ok (.lor, 1) := by decide +kernel
theorem dX8_unlikeNumbers_133 : decode cX8_unlikeNumbers 133 = .ok (.lstore 7, 2) := by decide +kernel
theorem dX8_unlikeNumbers_135 : decode cX8_unlikeNumbers 135 = .ok (.iinc 9 1, 3) := by decide +kernel
theorem dX8_unlikeNumbers_138 : decode cX8_unlikeNumbers 138 = .ok (.goto (-117), 3) := by decide +kernel
theorem dX8_unlikeNumbers_141 : decode cX8_unlikeNumbers 141 = .ok (.lload 5, 2) := by decide +kernel
theorem dX8_unlikeNumbers_143 : decode cX8_unlikeNumbers 143 = .ok (.invokestatic 48, 3) := by decide +kernel
theorem dX8_unlikeNumbers_146 : decode cX8_unlikeNumbers 146 = .ok (.lload 7, 2) := by decide +kernel
theorem dX8_unlikeNumbers_148 : decode cX8_unlikeNumbers 148 = .ok (.invokestatic 48, 3) := by decide +kernel
theorem dX8_unlikeNumbers_151 : decode cX8_unlikeNumbers 151 = .ok (.iadd, 1) := by decide +kernel
theorem dX8_unlikeNumbers_152 : decode cX8_unlikeNumbers 152 = .ok (.ireturn, 1) := by decide +kernel
theorem dX9_init_0 : decode cX9_init 0 = .ok (.aload_n 0, 1) := by decide +kernel
theorem dX9_init_1 : decode cX9_init 1 = .ok (.invokespecial 3, 3) := by decide +kernel
theorem dX9_init_4 : decode cX9_init 4 = .ok (.aload_n 0, 1) := by decide +kernel
theorem dX9_init_5 : decode cX9_init 5 = .ok (.bipush 16, 2) := by decide +kernel
theorem dX9_init_7 : decode cX9_init 7 = .ok (.newarray .int, 2) := by decide +kernel
theorem dX9_init_9 : decode cX9_init 9 = .ok (.putfield 9, 3) := by decide +kernel
theorem dX9_init_12 : decode cX9_init 12 = .ok (.aload_n 0, 1) := by decide +kernel
theorem dX9_init_13 : decode cX9_init 13 = .ok (.bipush 64, 2) := by decide +kernel
theorem dX9_init_15 : decode cX9_init 15 = .ok (.newarray .int, 2) := by decide +kernel
theorem dX9_init_17 : decode cX9_init 17 = .ok (.putfield 15, 3) := by decide +kernel
theorem dX9_init_20 : decode cX9_init 20 = .ok (.aload_n 0, 1) := by decide +kernel
theorem dX9_init_21 : decode cX9_init 21 = .ok (.bipush 64, 2) := by decide +kernel
theorem dX9_init_23 : decode cX9_init 23 = .ok (.newarray .int, 2) := by decide +kernel
theorem dX9_init_25 : decode cX9_init 25 = .ok (.putfield 18, 3) := by decide +kernel
theorem dX9_init_28 : decode cX9_init 28 = .ok (.return_, 1) := by decide +kernel
theorem dX9_start_0 : decode cX9_start 0 = .ok (.aload_n 0, 1) := by decide +kernel
theorem dX9_start_1 : decode cX9_start 1 = .ok (.getfield 9, 3) := by decide +kernel
theorem dX9_start_4 : decode cX9_start 4 = .ok (.iconst 0, 1) := by decide +kernel
theorem dX9_start_5 : decode cX9_start 5 = .ok (.invokestatic 21, 3) := by decide +kernel
theorem dX9_start_8 : decode cX9_start 8 = .ok (.aload_n 1, 1) := by decide +kernel
theorem dX9_start_9 : decode cX9_start 9 = .ok (.getfield 27, 3) := by decide +kernel
theorem dX9_start_12 : decode cX9_start 12 = .ok (.iconst 0, 1) := by decide +kernel
theorem dX9_start_13 : decode cX9_start 13 = .ok (.aload_n 0, 1) := by decide +kernel
theorem dX9_start_14 : decode cX9_start 14 = .ok (.getfield 15, 3) := by decide +kernel
theorem dX9_start_17 : decode cX9_start 17 = .ok (.iconst 0, 1) := by decide +kernel
theorem dX9_start_18 : decode cX9_start 18 = .ok (.bipush 64, 2) := by decide +kernel
theorem dX9_start_20 : decode cX9_start 20 = .ok (.invokestatic 32, 3) := by decide +kernel
theorem dX9_start_23 : decode cX9_start 23 = .ok (.return_, 1) := by decide +kernel
theorem dX9_open_0 : decode cX9_open 0 = .ok (.aload_n 0, 1) := by decide +kernel
theorem dX9_open_1 : decode cX9_open 1 = .ok (.aload_n 1, 1) := by decide +kernel
theorem dX9_open_2 : decode cX9_open 2 = .ok (.invokevirtual 38, 3) := by decide +kernel
theorem dX9_open_5 : decode cX9_open 5 = .ok (.iload_n 2, 1) := by decide +kernel
theorem dX9_open_6 : decode cX9_open 6 = .ok (.istore_n 3, 1) := by decide +kernel
theorem dX9_open_7 : decode cX9_open 7 = .ok (.bipush 15, 2) := by decide +kernel
theorem dX9_open_9 : decode cX9_open 9 = .ok (.istore 4, 2) := by decide +kernel
theorem dX9_open_11 : decode cX9_open 11 = .ok (.iload 4, 2) := by decide +kernel
theorem dX9_open_13 : decode cX9_open 13 = .ok (.ifCond .lt 36, 3) := by decide +kernel
theorem dX9_open_16 : decode cX9_open 16 = .ok (.aload_n 1, 1) := by decide +kernel
theorem dX9_open_17 : decode cX9_open 17 = .ok (.getfield 42, 3) := by decide +kernel
theorem dX9_open_20 : decode cX9_open 20 = .ok (.iload 4, 2) := by decide +kernel
theorem dX9_open_22 : decode cX9_open 22 = .ok (.iaload, 1) := by decide +kernel
theorem dX9_open_23 : decode cX9_open 23 = .ok (.iconst 1, 1) := by decide +kernel
theorem dX9_open_24 : decode cX9_open 24 = .ok (.iadd, 1) := by decide +kernel
theorem dX9_open_25 : decode cX9_open 25 = .ok (.istore 5, 2) := by decide +kernel
theorem dX9_open_27 : decode cX9_open 27 = .ok (.aload_n 0, 1) := by decide +kernel
theorem dX9_open_28 : decode cX9_open 28 = .ok (.aload_n 1, 1) := by decide +kernel
theorem dX9_open_29 : decode cX9_open 29 = .ok (.iload 4, 2) := by decide +kernel
theorem dX9_open_31 : decode cX9_open 31 = .ok (.iload_n 3, 1) := by decide +kernel
theorem dX9_open_32 : decode cX9_open 32 = .ok (.iload 5, 2) := by decide +kernel
theorem dX9_open_34 : decode cX9_open 34 = .ok (.irem, 1) := by decide +kernel
theorem dX9_open_35 : decode cX9_open 35 = .ok (.invokevirtual 45, 3) := by decide +kernel
theorem dX9_open_38 : decode cX9_open 38 = .ok (.iload_n 3, 1) := by decide +kernel
theorem dX9_open_39 : decode cX9_open 39 = .ok (.iload 5, 2) := by decide +kernel
theorem dX9_open_41 : decode cX9_open 41 = .ok (.idiv, 1) := by decide +kernel
theorem dX9_open_42 : decode cX9_open 42 = .ok (.istore_n 3, 1) := by decide +kernel
theorem dX9_open_43 : decode cX9_open 43 = .ok (.iinc 4 (-1), 3) := by decide +kernel
theorem dX9_open_46 : decode cX9_open 46 = .ok (.goto (-35), 3) := by decide +kernel
theorem dX9_open_49 : decode cX9_open 49 = .ok (.return_, 1) := by decide +kernel
theorem dX9_raise_0 : decode cX9_raise 0 = .ok (.iconst 0, 1) := by decide +kernel
theorem dX9_raise_1 : decode cX9_raise 1 = .ok (.istore 4, 2) := by decide +kernel
theorem dX9_raise_3 : decode cX9_raise 3 = .ok (.iload 4, 2) := by decide +kernel
theorem dX9_raise_5 : decode cX9_raise 5 = .ok (.iload_n 3, 1) := by decide +kernel
theorem dX9_raise_6 : decode cX9_raise 6 = .ok (.if_icmp .ge 67, 3) := by decide +kernel
theorem dX9_raise_9 : decode cX9_raise 9 = .ok (.aload_n 0, 1) := by decide +kernel
theorem dX9_raise_10 : decode cX9_raise 10 = .ok (.getfield 9, 3) := by decide +kernel
theorem dX9_raise_13 : decode cX9_raise 13 = .ok (.iload_n 2, 1) := by decide +kernel
theorem dX9_raise_14 : decode cX9_raise 14 = .ok (.iaload, 1) := by decide +kernel
theorem dX9_raise_15 : decode cX9_raise 15 = .ok (.aload_n 1, 1) := by decide +kernel
theorem dX9_raise_16 : decode cX9_raise 16 = .ok (.getfield 42, 3) := by decide +kernel
theorem dX9_raise_19 : decode cX9_raise 19 = .ok (.iload_n 2, 1) := by decide +kernel
theorem dX9_raise_20 : decode cX9_raise 20 = .ok (.iaload, 1) := by decide +kernel
theorem dX9_raise_21 : decode cX9_raise 21 = .ok (.if_icmp .ge 52, 3) := by decide +kernel
theorem dX9_raise_24 : decode cX9_raise 24 = .ok (.aload_n 1, 1) := by decide +kernel
theorem dX9_raise_25 : decode cX9_raise 25 = .ok (.getfield 49, 3) := by decide +kernel
theorem dX9_raise_28 : decode cX9_raise 28 = .ok (.iload_n 2, 1) := by decide +kernel
theorem dX9_raise_29 : decode cX9_raise 29 = .ok (.bipush 6, 2) := by decide +kernel
theorem dX9_raise_31 : decode cX9_raise 31 = .ok (.imul, 1) := by decide +kernel
theorem dX9_raise_32 : decode cX9_raise 32 = .ok (.aload_n 0, 1) := by decide +kernel
theorem dX9_raise_33 : decode cX9_raise 33 = .ok (.getfield 9, 3) := by decide +kernel
theorem dX9_raise_36 : decode cX9_raise 36 = .ok (.iload_n 2, 1) := by decide +kernel
theorem dX9_raise_37 : decode cX9_raise 37 = .ok (.iaload, 1) := by decide +kernel
theorem dX9_raise_38 : decode cX9_raise 38 = .ok (.iadd, 1) := by decide +kernel
theorem dX9_raise_39 : decode cX9_raise 39 = .ok (.iaload, 1) := by decide +kernel
theorem dX9_raise_40 : decode cX9_raise 40 = .ok (.istore 5, 2) := by decide +kernel
theorem dX9_raise_42 : decode cX9_raise 42 = .ok (.aload_n 0, 1) := by decide +kernel
theorem dX9_raise_43 : decode cX9_raise 43 = .ok (.getfield 15, 3) := by decide +kernel
theorem dX9_raise_46 : decode cX9_raise 46 = .ok (.iload 5, 2) := by decide +kernel
theorem dX9_raise_48 : decode cX9_raise 48 = .ok (.bipush 100, 2) := by decide +kernel
theorem dX9_raise_50 : decode cX9_raise 50 = .ok (.idiv, 1) := by decide +kernel
theorem dX9_raise_51 : decode cX9_raise 51 = .ok (.iload 5, 2) := by decide +kernel
theorem dX9_raise_53 : decode cX9_raise 53 = .ok (.bipush 100, 2) := by decide +kernel
theorem dX9_raise_55 : decode cX9_raise 55 = .ok (.irem, 1) := by decide +kernel
theorem dX9_raise_56 : decode cX9_raise 56 = .ok (.iastore, 1) := by decide +kernel
theorem dX9_raise_57 : decode cX9_raise 57 = .ok (.aload_n 0, 1) := by decide +kernel
theorem dX9_raise_58 : decode cX9_raise 58 = .ok (.getfield 9, 3) := by decide +kernel
theorem dX9_raise_61 : decode cX9_raise 61 = .ok (.iload_n 2, 1) := by decide +kernel
theorem dX9_raise_62 : decode cX9_raise 62 = .ok (.dup2, 1) := by decide +kernel
theorem dX9_raise_63 : decode cX9_raise 63 = .ok (.iaload, 1) := by decide +kernel
theorem dX9_raise_64 : decode cX9_raise 64 = .ok (.iconst 1, 1) := by decide +kernel
theorem dX9_raise_65 : decode cX9_raise 65 = .ok (.iadd, 1) := by decide +kernel
theorem dX9_raise_66 : decode cX9_raise 66 = .ok (.iastore, 1) := by decide +kernel
theorem dX9_raise_67 : decode cX9_raise 67 = .ok (.iinc 4 1, 3) := by decide +kernel
theorem dX9_raise_70 : decode cX9_raise 70 = .ok (.goto (-67), 3) := by decide +kernel
theorem dX9_raise_73 : decode cX9_raise 73 = .ok (.return_, 1) := by decide +kernel
theorem dX9_goOn_0 : decode cX9_goOn 0 = .ok (.bipush 15, 2) := by decide +kernel
theorem dX9_goOn_2 : decode cX9_goOn 2 = .ok (.istore_n 2, 1) := by decide +kernel
theorem dX9_goOn_3 : decode cX9_goOn 3 = .ok (.iload_n 2, 1) := by decide +kernel
theorem dX9_goOn_4 : decode cX9_goOn 4 = .ok (.ifCond .lt 66, 3) := by decide +kernel
theorem dX9_goOn_7 : decode cX9_goOn 7 = .ok (.aload_n 0, 1) := by decide +kernel
theorem dX9_goOn_8 : decode cX9_goOn 8 = .ok (.getfield 9, 3) := by decide +kernel
theorem dX9_goOn_11 : decode cX9_goOn 11 = .ok (.iload_n 2, 1) := by decide +kernel
theorem dX9_goOn_12 : decode cX9_goOn 12 = .ok (.iaload, 1) := by decide +kernel
theorem dX9_goOn_13 : decode cX9_goOn 13 = .ok (.aload_n 1, 1) := by decide +kernel
theorem dX9_goOn_14 : decode cX9_goOn 14 = .ok (.getfield 42, 3) := by decide +kernel
theorem dX9_goOn_17 : decode cX9_goOn 17 = .ok (.iload_n 2, 1) := by decide +kernel
theorem dX9_goOn_18 : decode cX9_goOn 18 = .ok (.iaload, 1) := by decide +kernel
theorem dX9_goOn_19 : decode cX9_goOn 19 = .ok (.if_icmp .ge 11, 3) := by decide +kernel
theorem dX9_goOn_22 : decode cX9_goOn 22 = .ok (.aload_n 0, 1) := by decide +kernel
theorem dX9_goOn_23 : decode cX9_goOn 23 = .ok (.aload_n 1, 1) := by decide +kernel
theorem dX9_goOn_24 : decode cX9_goOn 24 = .ok (.iload_n 2, 1) := by decide +kernel
theorem dX9_goOn_25 : decode cX9_goOn 25 = .ok (.iconst 1, 1) := by decide +kernel
theorem dX9_goOn_26 : decode cX9_goOn 26 = .ok (.invokevirtual 45, 3) := by decide +kernel
theorem dX9_goOn_29 : decode cX9_goOn 29 = .ok (.return_, 1) := by decide +kernel
theorem dX9_goOn_30 : decode cX9_goOn 30 = .ok (.aload_n 0, 1) := by decide +kernel
theorem dX9_goOn_31 : decode cX9_goOn 31 = .ok (.getfield 9, 3) := by decide +kernel
theorem dX9_goOn_34 : decode cX9_goOn 34 = .ok (.iload_n 2, 1) := by decide +kernel
theorem dX9_goOn_35 : decode cX9_goOn 35 = .ok (.iaload, 1) := by decide +kernel
theorem dX9_goOn_36 : decode cX9_goOn 36 = .ok (.ifCond .le 28, 3) := by decide +kernel
theorem dX9_goOn_39 : decode cX9_goOn 39 = .ok (.aload_n 0, 1) := by decide +kernel
theorem dX9_goOn_40 : decode cX9_goOn 40 = .ok (.getfield 9, 3) := by decide +kernel
theorem dX9_goOn_43 : decode cX9_goOn 43 = .ok (.iload_n 2, 1) := by decide +kernel
theorem dX9_goOn_44 : decode cX9_goOn 44 = .ok (.iconst 0, 1) := by decide +kernel
theorem dX9_goOn_45 : decode cX9_goOn 45 = .ok (.iastore, 1) := by decide +kernel
theorem dX9_goOn_46 : decode cX9_goOn 46 = .ok (.aload_n 1, 1) := by decide +kernel
theorem dX9_goOn_47 : decode cX9_goOn 47 = .ok (.getfield 27, 3) := by decide +kernel
theorem dX9_goOn_50 : decode cX9_goOn 50 = .ok (.iload_n 2, 1) := by decide +kernel
theorem dX9_goOn_51 : decode cX9_goOn 51 = .ok (.iconst 4, 1) := by decide +kernel
theorem dX9_goOn_52 : decode cX9_goOn 52 = .ok (.imul, 1) := by decide +kernel
theorem dX9_goOn_53 : decode cX9_goOn 53 = .ok (.aload_n 0, 1) := by decide +kernel
theorem dX9_goOn_54 : decode cX9_goOn 54 = .ok (.getfield 15, 3) := by decide +kernel
theorem dX9_goOn_57 : decode cX9_goOn 57 = .ok (.iload_n 2, 1) := by decide +kernel
theorem dX9_goOn_58 : decode cX9_goOn 58 = .ok (.iconst 4, 1) := by decide +kernel
theorem dX9_goOn_59 : decode cX9_goOn 59 = .ok (.imul, 1) := by decide +kernel
theorem dX9_goOn_60 : decode cX9_goOn 60 = .ok (.iconst 4, 1) := by decide +kernel
theorem dX9_goOn_61 : decode cX9_goOn 61 = .ok (.invokestatic 32, 3) := by decide +kernel
theorem dX9_goOn_64 : decode cX9_goOn 64 = .ok (.iinc 2 (-1), 3) := by decide +kernel
theorem dX9_goOn_67 : decode cX9_goOn 67 = .ok (.goto (-64), 3) := by decide +kernel
theorem dX9_goOn_70 : decode cX9_goOn 70 = .ok (.return_, 1) := by decide +kernel
theorem dX9_recoverPicture_0 : decode cX9_recoverPicture 0 = .ok (.aload_n 0, 1) := by decide +kernel
theorem dX9_recoverPicture_1 : decode cX9_recoverPicture 1 = .ok (.getfield 15, 3) := by decide +kernel
theorem dX9_recoverPicture_4 : decode cX9_recoverPicture 4 = .ok (.iconst 0, 1) := by decide +kernel
theorem dX9_recoverPicture_5 : decode cX9_recoverPicture 5 = .ok (.aload_n 0, 1) := by decide +kernel
theorem dX9_recoverPicture_6 : decode cX9_recoverPicture 6 = .ok (.getfield 18, 3) := by decide +kernel
theorem dX9_recoverPicture_9 : decode cX9_recoverPicture 9 = .ok (.iconst 0, 1) := by decide +kernel
theorem dX9_recoverPicture_10 : decode cX9_recoverPicture 10 = .ok (.bipush 64, 2) := by decide +kernel
theorem dX9_recoverPicture_12 : decode cX9_recoverPicture 12 = .ok (.invokestatic 32, 3) := by decide +kernel
theorem dX9_recoverPicture_15 : decode cX9_recoverPicture 15 = .ok (.aload_n 0, 1) := by decide +kernel
theorem dX9_recoverPicture_16 : decode cX9_recoverPicture 16 = .ok (.getfield 18, 3) := by decide +kernel
theorem dX9_recoverPicture_19 : decode cX9_recoverPicture 19 = .ok (.iload_n 1, 1) := by decide +kernel
theorem dX9_recoverPicture_20 : decode cX9_recoverPicture 20 = .ok (.invokestatic 52, 3) := by decide +kernel
theorem dX9_recoverPicture_23 : decode cX9_recoverPicture 23 = .ok (.return_, 1) := by decide +kernel
theorem dX9_fateBy_0 : decode cX9_fateBy 0 = .ok (.aload_n 0, 1) := by decide +kernel
theorem dX9_fateBy_1 : decode cX9_fateBy 1 = .ok (.aload_n 1, 1) := by decide +kernel
theorem dX9_fateBy_2 : decode cX9_fateBy 2 = .ok (.getfield 55, 3) := by decide +kernel
theorem dX9_fateBy_5 : decode cX9_fateBy 5 = .ok (.invokevirtual 61, 3) := by decide +kernel
theorem dX9_fateBy_8 : decode cX9_fateBy 8 = .ok (.iconst 1, 1) := by decide +kernel
theorem dX9_fateBy_9 : decode cX9_fateBy 9 = .ok (.istore_n 2, 1) := by decide +kernel
theorem dX9_fateBy_10 : decode cX9_fateBy 10 = .ok (.iconst 1, 1) := by decide +kernel
theorem dX9_fateBy_11 : decode cX9_fateBy 11 = .ok (.istore_n 3, 1) := by decide +kernel
theorem dX9_fateBy_12 : decode cX9_fateBy 12 = .ok (.iconst 0, 1) := by decide +kernel
theorem dX9_fateBy_13 : decode cX9_fateBy 13 = .ok (.istore 4, 2) := by decide +kernel
theorem dX9_fateBy_15 : decode cX9_fateBy 15 = .ok (.iload 4, 2) := by decide +kernel
theorem dX9_fateBy_17 : decode cX9_fateBy 17 = .ok (.bipush 44, 2) := by decide +kernel
theorem dX9_fateBy_19 : decode cX9_fateBy 19 = .ok (.if_icmp .ge 73, 3) := by decide +kernel
theorem dX9_fateBy_22 : decode cX9_fateBy 22 = .ok (.iload_n 2, 1) := by decide +kernel
theorem dX9_fateBy_23 : decode cX9_fateBy 23 = .ok (.ifCond .ne 7, 3) := by decide +kernel
theorem dX9_fateBy_26 : decode cX9_fateBy 26 = .ok (.iload_n 3, 1) := by decide +kernel
theorem dX9_fateBy_27 : decode cX9_fateBy 27 = .ok (.ifCond .eq 65, 3) := by decide +kernel
theorem dX9_fateBy_30 : decode cX9_fateBy 30 = .ok (.aload_n 0, 1) := by decide +kernel
theorem dX9_fateBy_31 : decode cX9_fateBy 31 = .ok (.getfield 18, 3) := by decide +kernel
theorem dX9_fateBy_34 : decode cX9_fateBy 34 = .ok (.bipush 20, 2) := by decide +kernel
theorem dX9_fateBy_36 : decode cX9_fateBy 36 = .ok (.iload 4, 2) := by decide +kernel
theorem dX9_fateBy_38 : decode cX9_fateBy 38 = .ok (.iadd, 1) := by decide +kernel
theorem dX9_fateBy_39 : decode cX9_fateBy 39 = .ok (.iaload, 1) := by decide +kernel
theorem dX9_fateBy_40 : decode cX9_fateBy 40 = .ok (.istore 5, 2) := by decide +kernel
theorem dX9_fateBy_42 : decode cX9_fateBy 42 = .ok (.iload_n 2, 1) := by decide +kernel
theorem dX9_fateBy_43 : decode cX9_fateBy 43 = .ok (.ifCond .eq 19, 3) := by decide +kernel
theorem dX9_fateBy_46 : decode cX9_fateBy 46 = .ok (.iload 5, 2) := by decide +kernel
theorem dX9_fateBy_48 : decode cX9_fateBy 48 = .ok (.aload_n 1, 1) := by decide +kernel
theorem dX9_fateBy_49 : decode cX9_fateBy 49 = .ok (.getfield 65, 3) := by decide +kernel
theorem dX9_fateBy_52 : decode cX9_fateBy 52 = .ok (.iload 4, 2) := by decide +kernel
theorem dX9_fateBy_54 : decode cX9_fateBy 54 = .ok (.iaload, 1) := by decide +kernel
theorem dX9_fateBy_55 : decode cX9_fateBy 55 = .ok (.if_icmp .ne 7, 3) := by decide +kernel
theorem dX9_fateBy_58 : decode cX9_fateBy 58 = .ok (.iconst 1, 1) := by decide +kernel
theorem dX9_fateBy_59 : decode cX9_fateBy 59 = .ok (.goto 4, 3) := by decide +kernel
theorem dX9_fateBy_62 : decode cX9_fateBy 62 = .ok (.iconst 0, 1) := by decide +kernel
theorem dX9_fateBy_63 : decode cX9_fateBy 63 = .ok (.istore_n 2, 1) := by decide +kernel
theorem dX9_fateBy_64 : decode cX9_fateBy 64 = .ok (.iload_n 3, 1) := by decide +kernel
theorem dX9_fateBy_65 : decode cX9_fateBy 65 = .ok (.ifCond .eq 19, 3) := by decide +kernel
theorem dX9_fateBy_68 : decode cX9_fateBy 68 = .ok (.iload 5, 2) := by decide +kernel
theorem dX9_fateBy_70 : decode cX9_fateBy 70 = .ok (.aload_n 1, 1) := by decide +kernel
theorem dX9_fateBy_71 : decode cX9_fateBy 71 = .ok (.getfield 68, 3) := by decide +kernel
theorem dX9_fateBy_74 : decode cX9_fateBy 74 = .ok (.iload 4, 2) := by decide +kernel
theorem dX9_fateBy_76 : decode cX9_fateBy 76 = .ok (.iaload, 1) := by decide +kernel
theorem dX9_fateBy_77 : decode cX9_fateBy 77 = .ok (.if_icmp .ne 7, 3) := by decide +kernel
theorem dX9_fateBy_80 : decode cX9_fateBy 80 = .ok (.iconst 1, 1) := by decide +kernel
theorem dX9_fateBy_81 : decode cX9_fateBy 81 = .ok (.goto 4, 3) := by decide +kernel
theorem dX9_fateBy_84 : decode cX9_fateBy 84 = .ok (.iconst 0, 1) := by decide +kernel
theorem dX9_fateBy_85 : decode cX9_fateBy 85 = .ok (.istore_n 3, 1) := by decide +kernel
theorem dX9_fateBy_86 : decode cX9_fateBy 86 = .ok (.iinc 4 1, 3) := by decide +kernel
theorem dX9_fateBy_89 : decode cX9_fateBy 89 = .ok (.goto (-74), 3) := by decide +kernel
theorem dX9_fateBy_92 : decode cX9_fateBy 92 = .ok (.iload_n 2, 1) := by decide +kernel
theorem dX9_fateBy_93 : decode cX9_fateBy 93 = .ok (.ifCond .eq 13, 3) := by decide +kernel
theorem dX9_fateBy_96 : decode cX9_fateBy 96 = .ok (.iload_n 3, 1) := by decide +kernel
theorem dX9_fateBy_97 : decode cX9_fateBy 97 = .ok (.ifCond .eq 7, 3) := by decide +kernel
theorem dX9_fateBy_100 : decode cX9_fateBy 100 = .ok (.iconst 2, 1) := by decide +kernel
theorem dX9_fateBy_101 : decode cX9_fateBy 101 = .ok (.goto 4, 3) := by decide +kernel
theorem dX9_fateBy_104 : decode cX9_fateBy 104 = .ok (.iconst 0, 1) := by decide +kernel
theorem dX9_fateBy_105 : decode cX9_fateBy 105 = .ok (.ireturn, 1) := by decide +kernel
theorem dX9_fateBy_106 : decode cX9_fateBy 106 = .ok (.iload_n 3, 1) := by decide +kernel
theorem dX9_fateBy_107 : decode cX9_fateBy 107 = .ok (.ifCond .eq 7, 3) := by decide +kernel
theorem dX9_fateBy_110 : decode cX9_fateBy 110 = .ok (.iconst 1, 1) := by decide +kernel
theorem dX9_fateBy_111 : decode cX9_fateBy 111 = .ok (.goto 4, 3) := by decide +kernel
theorem dX9_fateBy_114 : decode cX9_fateBy 114 = .ok (.iconst 3, 1) := by decide +kernel
theorem dX9_fateBy_115 : decode cX9_fateBy 115 = .ok (.ireturn, 1) := by decide +kernel
theorem dX10_init_0 : decode cX10_init 0 = .ok (.aload_n 0, 1) := by decide +kernel
theorem dX10_init_1 : decode cX10_init 1 = .ok (.invokespecial 3, 3) := by decide +kernel
theorem dX10_init_4 : decode cX10_init 4 = .ok (.aload_n 0, 1) := by decide +kernel
theorem dX10_init_5 : decode cX10_init 5 = .ok (.new 9, 3) := by decide +kernel
theorem dX10_init_8 : decode cX10_init 8 = .ok (.dup, 1) := by decide +kernel
theorem dX10_init_9 : decode cX10_init 9 = .ok (.invokespecial 11, 3) := by decide +kernel
theorem dX10_init_12 : decode cX10_init 12 = .ok (.putfield 12, 3) := by decide +kernel
theorem dX10_init_15 : decode cX10_init 15 = .ok (.aload_n 0, 1) := by decide +kernel
theorem dX10_init_16 : decode cX10_init 16 = .ok (.new 18, 3) := by decide +kernel
theorem dX10_init_19 : decode cX10_init 19 = .ok (.dup, 1) := by decide +kernel
theorem dX10_init_20 : decode cX10_init 20 = .ok (.invokespecial 20, 3) := by decide +kernel
theorem dX10_init_23 : decode cX10_init 23 = .ok (.putfield 21, 3) := by decide +kernel
theorem dX10_init_26 : decode cX10_init 26 = .ok (.aload_n 0, 1) := by decide +kernel
theorem dX10_init_27 : decode cX10_init 27 = .ok (.new 25, 3) := by decide +kernel
theorem dX10_init_30 : decode cX10_init 30 = .ok (.dup, 1) := by decide +kernel
theorem dX10_init_31 : decode cX10_init 31 = .ok (.invokespecial 27, 3) := by decide +kernel
theorem dX10_init_34 : decode cX10_init 34 = .ok (.putfield 28, 3) := by decide +kernel
theorem dX10_init_37 : decode cX10_init 37 = .ok (.aload_n 0, 1) := by decide +kernel
theorem dX10_init_38 : decode cX10_init 38 = .ok (.iconst 0, 1) := by decide +kernel
theorem dX10_init_39 : decode cX10_init 39 = .ok (.putfield 32, 3) := by decide +kernel
theorem dX10_init_42 : decode cX10_init 42 = .ok (.aload_n 0, 1) := by decide +kernel
theorem dX10_init_43 : decode cX10_init 43 = .ok (.iconst 0, 1) := by decide +kernel
theorem dX10_init_44 : decode cX10_init 44 = .ok (.putfield 36, 3) := by decide +kernel
theorem dX10_init_47 : decode cX10_init 47 = .ok (.aload_n 0, 1) := by decide +kernel
theorem dX10_init_48 : decode cX10_init 48 = .ok (.iconst 0, 1) := by decide +kernel
theorem dX10_init_49 : decode cX10_init 49 = .ok (.putfield 39, 3) := by decide +kernel
theorem dX10_init_52 : decode cX10_init 52 = .ok (.return_, 1) := by decide +kernel
theorem dX10_start_0 : decode cX10_start 0 = .ok (.aload_n 0, 1) := by decide +kernel
theorem dX10_start_1 : decode cX10_start 1 = .ok (.getfield 12, 3) := by decide +kernel
theorem dX10_start_4 : decode cX10_start 4 = .ok (.aload_n 1, 1) := by decide +kernel
theorem dX10_start_5 : decode cX10_start 5 = .ok (.invokevirtual 42, 3) := by decide +kernel
theorem dX10_start_8 : decode cX10_start 8 = .ok (.aload_n 0, 1) := by decide +kernel
theorem dX10_start_9 : decode cX10_start 9 = .ok (.iload_n 2, 1) := by decide +kernel
theorem dX10_start_10 : decode cX10_start 10 = .ok (.putfield 32, 3) := by decide +kernel
theorem dX10_start_13 : decode cX10_start 13 = .ok (.aload_n 0, 1) := by decide +kernel
theorem dX10_start_14 : decode cX10_start 14 = .ok (.iconst 0, 1) := by decide +kernel
theorem dX10_start_15 : decode cX10_start 15 = .ok (.putfield 36, 3) := by decide +kernel
theorem dX10_start_18 : decode cX10_start 18 = .ok (.aload_n 0, 1) := by decide +kernel
theorem dX10_start_19 : decode cX10_start 19 = .ok (.iconst 0, 1) := by decide +kernel
theorem dX10_start_20 : decode cX10_start 20 = .ok (.putfield 39, 3) := by decide +kernel
theorem dX10_start_23 : decode cX10_start 23 = .ok (.return_, 1) := by decide +kernel
theorem dX10_passOne_0 : decode cX10_passOne 0 = .ok (.aload_n 0, 1) := by decide +kernel
theorem dX10_passOne_1 : decode cX10_passOne 1 = .ok (.bipush 8, 2) := by decide +kernel
theorem dX10_passOne_3 : decode cX10_passOne 3 = .ok (.invokevirtual 46, 3) := by decide +kernel
theorem dX10_passOne_6 : decode cX10_passOne 6 = .ok (.istore_n 1, 1) := by decide +kernel
theorem dX10_passOne_7 : decode cX10_passOne 7 = .ok (.iload_n 1, 1) := by decide +kernel
theorem dX10_passOne_8 : decode cX10_passOne 8 = .ok (.iconst 4, 1) := by decide +kernel
theorem dX10_passOne_9 : decode cX10_passOne 9 = .ok (.if_icmp .ge 39, 3) := by decide +kernel
theorem dX10_passOne_12 : decode cX10_passOne 12 = .ok (.aload_n 0, 1) := by decide +kernel
theorem dX10_passOne_13 : decode cX10_passOne 13 = .ok (.bipush 6, 2) := by decide +kernel
theorem dX10_passOne_15 : decode cX10_passOne 15 = .ok (.invokevirtual 46, 3) := by decide +kernel
theorem dX10_passOne_18 : decode cX10_passOne 18 = .ok (.iconst 1, 1) := by decide +kernel
theorem dX10_passOne_19 : decode cX10_passOne 19 = .ok (.iadd, 1) := by decide +kernel
theorem dX10_passOne_20 : decode cX10_passOne 20 = .ok (.istore_n 2, 1) := by decide +kernel
theorem dX10_passOne_21 : decode cX10_passOne 21 = .ok (.iload_n 2, 1) := by decide +kernel
theorem dX10_passOne_22 : decode cX10_passOne 22 = .ok (.ifCond .le 23, 3) := by decide +kernel
theorem dX10_passOne_25 : decode cX10_passOne 25 = .ok (.aload_n 0, 1) := by decide +kernel
theorem dX10_passOne_26 : decode cX10_passOne 26 = .ok (.getfield 12, 3) := by decide +kernel
theorem dX10_passOne_29 : decode cX10_passOne 29 = .ok (.aload_n 0, 1) := by decide +kernel
theorem dX10_passOne_30 : decode cX10_passOne 30 = .ok (.getfield 21, 3) := by decide +kernel
theorem dX10_passOne_33 : decode cX10_passOne 33 = .ok (.invokevirtual 50, 3) := by decide +kernel
theorem dX10_passOne_36 : decode cX10_passOne 36 = .ok (.ifCond .eq 9, 3) := by decide +kernel
theorem dX10_passOne_39 : decode cX10_passOne 39 = .ok (.iinc 2 (-1), 3) := by decide +kernel
theorem dX10_passOne_42 : decode cX10_passOne 42 = .ok (.goto (-21), 3) := by decide +kernel
theorem dX10_passOne_45 : decode cX10_passOne 45 = .ok (.goto 107, 3) := by decide +kernel
theorem dX10_passOne_48 : decode cX10_passOne 48 = .ok (.iload_n 1, 1) := by decide +kernel
theorem dX10_passOne_49 : decode cX10_passOne 49 = .ok (.iconst 4, 1) := by decide +kernel
theorem dX10_passOne_50 : decode cX10_passOne 50 = .ok (.if_icmp .ne 40, 3) := by decide +kernel
theorem dX10_passOne_53 : decode cX10_passOne 53 = .ok (.aload_n 0, 1) := by decide +kernel
theorem dX10_passOne_54 : decode cX10_passOne 54 = .ok (.bipush 16, 2) := by decide +kernel
theorem dX10_passOne_56 : decode cX10_passOne 56 = .ok (.invokevirtual 46, 3) := by decide +kernel
theorem dX10_passOne_59 : decode cX10_passOne 59 = .ok (.istore_n 2, 1) := by decide +kernel
theorem dX10_passOne_60 : decode cX10_passOne 60 = .ok (.aload_n 0, 1) := by decide +kernel
theorem dX10_passOne_61 : decode cX10_passOne 61 = .ok (.getfield 12, 3) := by decide +kernel
theorem dX10_passOne_64 : decode cX10_passOne 64 = .ok (.getfield 54, 3) := by decide +kernel
theorem dX10_passOne_67 : decode cX10_passOne 67 = .ok (.iload_n 2, 1) := by decide +kernel
theorem dX10_passOne_68 : decode cX10_passOne 68 = .ok (.iconst 1, 1) := by decide +kernel
theorem dX10_passOne_69 : decode cX10_passOne 69 = .ok (.aload_n 0, 1) := by decide +kernel
theorem dX10_passOne_70 : decode cX10_passOne 70 = .ok (.getfield 12, 3) := by decide +kernel
theorem dX10_passOne_73 : decode cX10_passOne 73 = .ok (.getfield 54, 3) := by decide +kernel
theorem dX10_passOne_76 : decode cX10_passOne 76 = .ok (.getfield 58, 3) := by decide +kernel
theorem dX10_passOne_79 : decode cX10_passOne 79 = .ok (.iload_n 2, 1) := by decide +kernel
theorem dX10_passOne_80 : decode cX10_passOne 80 = .ok (.iaload, 1) := by decide +kernel
theorem dX10_passOne_81 : decode cX10_passOne 81 = .ok (.invokestatic 64, 3) := by decide +kernel
theorem dX10_passOne_84 : decode cX10_passOne 84 = .ok (.invokevirtual 70, 3) := by decide +kernel
theorem dX10_passOne_87 : decode cX10_passOne 87 = .ok (.goto 65, 3) := by decide +kernel
theorem dX10_passOne_90 : decode cX10_passOne 90 = .ok (.iload_n 1, 1) := by decide +kernel
theorem dX10_passOne_91 : decode cX10_passOne 91 = .ok (.iconst 5, 1) := by decide +kernel
theorem dX10_passOne_92 : decode cX10_passOne 92 = .ok (.if_icmp .ne 10, 3) := by decide +kernel
theorem dX10_passOne_95 : decode cX10_passOne 95 = .ok (.aload_n 0, 1) := by decide +kernel
theorem dX10_passOne_96 : decode cX10_passOne 96 = .ok (.invokevirtual 74, 3) := by decide +kernel
theorem dX10_passOne_99 : decode cX10_passOne 99 = .ok (.goto 53, 3) := by decide +kernel
theorem dX10_passOne_102 : decode cX10_passOne 102 = .ok (.iload_n 1, 1) := by decide +kernel
theorem dX10_passOne_103 : decode cX10_passOne 103 = .ok (.bipush 6, 2) := by decide +kernel
theorem dX10_passOne_105 : decode cX10_passOne 105 = .ok (.if_icmp .ne 30, 3) := by decide +kernel
theorem dX10_passOne_108 : decode cX10_passOne 108 = .ok (.aload_n 0, 1) := by decide +kernel
theorem dX10_passOne_109 : decode cX10_passOne 109 = .ok (.iconst 4, 1) := by decide +kernel
theorem dX10_passOne_110 : decode cX10_passOne 110 = .ok (.invokevirtual 46, 3) := by decide +kernel
theorem dX10_passOne_113 : decode cX10_passOne 113 = .ok (.istore_n 2, 1) := by decide +kernel
theorem dX10_passOne_114 : decode cX10_passOne 114 = .ok (.aload_n 0, 1) := by decide +kernel
theorem dX10_passOne_115 : decode cX10_passOne 115 = .ok (.getfield 12, 3) := by decide +kernel
theorem dX10_passOne_118 : decode cX10_passOne 118 = .ok (.iconst 0, 1) := by decide +kernel
theorem dX10_passOne_119 : decode cX10_passOne 119 = .ok (.iload_n 2, 1) := by decide +kernel
theorem dX10_passOne_120 : decode cX10_passOne 120 = .ok (.aload_n 0, 1) := by decide +kernel
theorem dX10_passOne_121 : decode cX10_passOne 121 = .ok (.bipush 10, 2) := by decide +kernel
theorem dX10_passOne_123 : decode cX10_passOne 123 = .ok (.invokevirtual 46, 3) := by decide +kernel
theorem dX10_passOne_126 : decode cX10_passOne 126 = .ok (.invokestatic 77, 3) := by decide +kernel
theorem dX10_passOne_129 : decode cX10_passOne 129 = .ok (.invokevirtual 81, 3) := by decide +kernel
theorem dX10_passOne_132 : decode cX10_passOne 132 = .ok (.goto 20, 3) := by decide +kernel
theorem dX10_passOne_135 : decode cX10_passOne 135 = .ok (.aload_n 0, 1) := by decide +kernel
theorem dX10_passOne_136 : decode cX10_passOne 136 = .ok (.getfield 12, 3) := by decide +kernel
theorem dX10_passOne_139 : decode cX10_passOne 139 = .ok (.iconst 1, 1) := by decide +kernel
theorem dX10_passOne_140 : decode cX10_passOne 140 = .ok (.aload_n 0, 1) := by decide +kernel
theorem dX10_passOne_141 : decode cX10_passOne 141 = .ok (.iconst 4, 1) := by decide +kernel
theorem dX10_passOne_142 : decode cX10_passOne 142 = .ok (.invokevirtual 46, 3) := by decide +kernel
theorem dX10_passOne_145 : decode cX10_passOne 145 = .ok (.iconst 0, 1) := by decide +kernel
theorem dX10_passOne_146 : decode cX10_passOne 146 = .ok (.invokestatic 77, 3) := by decide +kernel
theorem dX10_passOne_149 : decode cX10_passOne 149 = .ok (.invokevirtual 81, 3) := by decide +kernel
theorem dX10_passOne_152 : decode cX10_passOne 152 = .ok (.return_, 1) := by decide +kernel
theorem dX10_fallAndRecover_0 : decode cX10_fallAndRecover 0 = .ok (.aload_n 0, 1) := by decide +kernel
theorem dX10_fallAndRecover_1 : decode cX10_fallAndRecover 1 = .ok (.getfield 12, 3) := by decide +kernel
theorem dX10_fallAndRecover_4 : decode cX10_fallAndRecover 4 = .ok (.getfield 85, 3) := by decide +kernel
theorem dX10_fallAndRecover_7 : decode cX10_fallAndRecover 7 = .ok (.iconst 1, 1) := by decide +kernel
theorem dX10_fallAndRecover_8 : decode cX10_fallAndRecover 8 = .ok (.if_icmp .eq 129, 3) := by decide +kernel
theorem dX10_fallAndRecover_11 : decode cX10_fallAndRecover 11 = .ok (.aload_n 0, 1) := by decide +kernel
theorem dX10_fallAndRecover_12 : decode cX10_fallAndRecover 12 = .ok (.getfield 28, 3) := by decide +kernel
theorem dX10_fallAndRecover_15 : decode cX10_fallAndRecover 15 = .ok (.aload_n 0, 1) := by decide +kernel
theorem dX10_fallAndRecover_16 : decode cX10_fallAndRecover 16 = .ok (.getfield 12, 3) := by decide +kernel
theorem dX10_fallAndRecover_19 : decode cX10_fallAndRecover 19 = .ok (.getfield 54, 3) := by decide +kernel
theorem dX10_fallAndRecover_22 : decode cX10_fallAndRecover 22 = .ok (.invokevirtual 88, 3) := by decide +kernel
theorem dX10_fallAndRecover_25 : decode cX10_fallAndRecover 25 = .ok (.iconst 0, 1) := by decide +kernel
theorem dX10_fallAndRecover_26 : decode cX10_fallAndRecover 26 = .ok (.istore_n 1, 1) := by decide +kernel
theorem dX10_fallAndRecover_27 : decode cX10_fallAndRecover 27 = .ok (.iload_n 1, 1) := by decide +kernel
theorem dX10_fallAndRecover_28 : decode cX10_fallAndRecover 28 = .ok (.bipush 16, 2) := by decide +kernel
theorem dX10_fallAndRecover_30 : decode cX10_fallAndRecover 30 = .ok (.if_icmp .ge 57, 3) := by decide +kernel
theorem dX10_fallAndRecover_33 : decode cX10_fallAndRecover 33 = .ok (.aload_n 0, 1) := by decide +kernel
theorem dX10_fallAndRecover_34 : decode cX10_fallAndRecover 34 = .ok (.getfield 12, 3) := by decide +kernel
theorem dX10_fallAndRecover_37 : decode cX10_fallAndRecover 37 = .ok (.getfield 54, 3) := by decide +kernel
theorem dX10_fallAndRecover_40 : decode cX10_fallAndRecover 40 = .ok (.getfield 58, 3) := by decide +kernel
theorem dX10_fallAndRecover_43 : decode cX10_fallAndRecover 43 = .ok (.iload_n 1, 1) := by decide +kernel
theorem dX10_fallAndRecover_44 : decode cX10_fallAndRecover 44 = .ok (.iaload, 1) := by decide +kernel
theorem dX10_fallAndRecover_45 : decode cX10_fallAndRecover 45 = .ok (.ifCond .le 36, 3) := by decide +kernel
theorem dX10_fallAndRecover_48 : decode cX10_fallAndRecover 48 = .ok (.aload_n 0, 1) := by decide +kernel
theorem dX10_fallAndRecover_49 : decode cX10_fallAndRecover 49 = .ok (.getfield 28, 3) := by decide +kernel
theorem dX10_fallAndRecover_52 : decode cX10_fallAndRecover 52 = .ok (.aload_n 0, 1) := by decide +kernel
theorem dX10_fallAndRecover_53 : decode cX10_fallAndRecover 53 = .ok (.getfield 12, 3) := by decide +kernel
theorem dX10_fallAndRecover_56 : decode cX10_fallAndRecover 56 = .ok (.getfield 54, 3) := by decide +kernel
theorem dX10_fallAndRecover_59 : decode cX10_fallAndRecover 59 = .ok (.iload_n 1, 1) := by decide +kernel
theorem dX10_fallAndRecover_60 : decode cX10_fallAndRecover 60 = .ok (.aload_n 0, 1) := by decide +kernel
theorem dX10_fallAndRecover_61 : decode cX10_fallAndRecover 61 = .ok (.aload_n 0, 1) := by decide +kernel
theorem dX10_fallAndRecover_62 : decode cX10_fallAndRecover 62 = .ok (.getfield 12, 3) := by decide +kernel
theorem dX10_fallAndRecover_65 : decode cX10_fallAndRecover 65 = .ok (.getfield 54, 3) := by decide +kernel
theorem dX10_fallAndRecover_68 : decode cX10_fallAndRecover 68 = .ok (.getfield 58, 3) := by decide +kernel
theorem dX10_fallAndRecover_71 : decode cX10_fallAndRecover 71 = .ok (.iload_n 1, 1) := by decide +kernel
theorem dX10_fallAndRecover_72 : decode cX10_fallAndRecover 72 = .ok (.iaload, 1) := by decide +kernel
theorem dX10_fallAndRecover_73 : decode cX10_fallAndRecover 73 = .ok (.iconst 1, 1) := by decide +kernel
theorem dX10_fallAndRecover_74 : decode cX10_fallAndRecover 74 = .ok (.iadd, 1) := by decide +kernel
theorem dX10_fallAndRecover_75 : decode cX10_fallAndRecover 75 = .ok (.invokevirtual 46, 3) := by decide +kernel
theorem dX10_fallAndRecover_78 : decode cX10_fallAndRecover 78 = .ok (.invokevirtual 92, 3) := by decide +kernel
theorem dX10_fallAndRecover_81 : decode cX10_fallAndRecover 81 = .ok (.iinc 1 1, 3) := by decide +kernel
theorem dX10_fallAndRecover_84 : decode cX10_fallAndRecover 84 = .ok (.goto (-57), 3) := by decide +kernel
theorem dX10_fallAndRecover_87 : decode cX10_fallAndRecover 87 = .ok (.aload_n 0, 1) := by decide +kernel
theorem dX10_fallAndRecover_88 : decode cX10_fallAndRecover 88 = .ok (.dup, 1) := by decide +kernel
theorem dX10_fallAndRecover_89 : decode cX10_fallAndRecover 89 = .ok (.getfield 36, 3) := by decide +kernel
theorem dX10_fallAndRecover_92 : decode cX10_fallAndRecover 92 = .ok (.iconst 1, 1) := by decide +kernel
theorem dX10_fallAndRecover_93 : decode cX10_fallAndRecover 93 = .ok (.iadd, 1) := by decide +kernel
theorem dX10_fallAndRecover_94 : decode cX10_fallAndRecover 94 = .ok (.putfield 36, 3) := by decide +kernel
theorem dX10_fallAndRecover_97 : decode cX10_fallAndRecover 97 = .ok (.aload_n 0, 1) := by decide +kernel
theorem dX10_fallAndRecover_98 : decode cX10_fallAndRecover 98 = .ok (.dup, 1) := by decide +kernel
theorem dX10_fallAndRecover_99 : decode cX10_fallAndRecover 99 = .ok (.getfield 39, 3) := by decide +kernel
theorem dX10_fallAndRecover_102 : decode cX10_fallAndRecover 102 = .ok (.aload_n 0, 1) := by decide +kernel
theorem dX10_fallAndRecover_103 : decode cX10_fallAndRecover 103 = .ok (.getfield 28, 3) := by decide +kernel
theorem dX10_fallAndRecover_106 : decode cX10_fallAndRecover 106 = .ok (.aload_n 0, 1) := by decide +kernel
theorem dX10_fallAndRecover_107 : decode cX10_fallAndRecover 107 = .ok (.getfield 12, 3) := by decide +kernel
theorem dX10_fallAndRecover_110 : decode cX10_fallAndRecover 110 = .ok (.invokevirtual 96, 3) := by decide +kernel
theorem dX10_fallAndRecover_113 : decode cX10_fallAndRecover 113 = .ok (.iconst 3, 1) := by decide +kernel
theorem dX10_fallAndRecover_114 : decode cX10_fallAndRecover 114 = .ok (.if_icmp .ne 7, 3) := by decide +kernel
theorem dX10_fallAndRecover_117 : decode cX10_fallAndRecover 117 = .ok (.iconst 1, 1) := by decide +kernel
theorem dX10_fallAndRecover_118 : decode cX10_fallAndRecover 118 = .ok (.goto 4, 3) := by decide +kernel
theorem dX10_fallAndRecover_121 : decode cX10_fallAndRecover 121 = .ok (.iconst 0, 1) := by decide +kernel
theorem dX10_fallAndRecover_122 : decode cX10_fallAndRecover 122 = .ok (.iadd, 1) := by decide +kernel
theorem dX10_fallAndRecover_123 : decode cX10_fallAndRecover 123 = .ok (.putfield 39, 3) := by decide +kernel
theorem dX10_fallAndRecover_126 : decode cX10_fallAndRecover 126 = .ok (.aload_n 0, 1) := by decide +kernel
theorem dX10_fallAndRecover_127 : decode cX10_fallAndRecover 127 = .ok (.getfield 12, 3) := by decide +kernel
theorem dX10_fallAndRecover_130 : decode cX10_fallAndRecover 130 = .ok (.aload_n 0, 1) := by decide +kernel
theorem dX10_fallAndRecover_131 : decode cX10_fallAndRecover 131 = .ok (.getfield 28, 3) := by decide +kernel
theorem dX10_fallAndRecover_134 : decode cX10_fallAndRecover 134 = .ok (.invokevirtual 100, 3) := by decide +kernel
theorem dX10_fallAndRecover_137 : decode cX10_fallAndRecover 137 = .ok (.aload_n 0, 1) := by decide +kernel
theorem dX10_fallAndRecover_138 : decode cX10_fallAndRecover 138 = .ok (.getfield 12, 3) := by decide +kernel
theorem dX10_fallAndRecover_141 : decode cX10_fallAndRecover 141 = .ok (.invokevirtual 104, 3) := by decide +kernel
theorem dX10_fallAndRecover_144 : decode cX10_fallAndRecover 144 = .ok (.return_, 1) := by decide +kernel
theorem dX10_draw_0 : decode cX10_draw 0 = .ok (.aload_n 0, 1) := by decide +kernel
theorem dX10_draw_1 : decode cX10_draw 1 = .ok (.aload_n 0, 1) := by decide +kernel
theorem dX10_draw_2 : decode cX10_draw 2 = .ok (.getfield 32, 3) := by decide +kernel
theorem dX10_draw_5 : decode cX10_draw 5 = .ok (.ldc 107, 2) := by decide +kernel
theorem dX10_draw_7 : decode cX10_draw 7 = .ok (.imul, 1) := by decide +kernel
theorem dX10_draw_8 : decode cX10_draw 8 = .ok (.sipush 12345, 3) := by decide +kernel
theorem dX10_draw_11 : decode cX10_draw 11 = .ok (.iadd, 1) := by decide +kernel
theorem dX10_draw_12 : decode cX10_draw 12 = .ok (.putfield 32, 3) := by decide +kernel
theorem dX10_draw_15 : decode cX10_draw 15 = .ok (.aload_n 0, 1) := by decide +kernel
theorem dX10_draw_16 : decode cX10_draw 16 = .ok (.getfield 32, 3) := by decide +kernel
theorem dX10_draw_19 : decode cX10_draw 19 = .ok (.bipush 16, 2) := by decide +kernel
theorem dX10_draw_21 : decode cX10_draw 21 = .ok (.iushr, 1) := by decide +kernel
theorem dX10_draw_22 : decode cX10_draw 22 = .ok (.sipush 32767, 3) := by decide +kernel
theorem dX10_draw_25 : decode cX10_draw 25 = .ok (.iand, 1) := by decide +kernel
theorem dX10_draw_26 : decode cX10_draw 26 = .ok (.iload_n 1, 1) := by decide +kernel
theorem dX10_draw_27 : decode cX10_draw 27 = .ok (.iconst 1, 1) := by decide +kernel
theorem dX10_draw_28 : decode cX10_draw 28 = .ok (.invokestatic 108, 3) := by decide +kernel
theorem dX10_draw_31 : decode cX10_draw 31 = .ok (.irem, 1) := by decide +kernel
theorem dX10_draw_32 : decode cX10_draw 32 = .ok (.ireturn, 1) := by decide +kernel
theorem dX11_init_0 : decode cX11_init 0 = .ok (.aload_n 0, 1) := by decide +kernel
theorem dX11_init_1 : decode cX11_init 1 = .ok (.invokespecial 1, 3) := by decide +kernel
theorem dX11_init_4 : decode cX11_init 4 = .ok (.aload_n 0, 1) := by decide +kernel
theorem dX11_init_5 : decode cX11_init 5 = .ok (.sipush 700, 3) := by decide +kernel
theorem dX11_init_8 : decode cX11_init 8 = .ok (.newarray .int, 2) := by decide +kernel
theorem dX11_init_10 : decode cX11_init 10 = .ok (.putfield 9, 3) := by decide +kernel
theorem dX11_init_13 : decode cX11_init 13 = .ok (.aload_n 0, 1) := by decide +kernel
theorem dX11_init_14 : decode cX11_init 14 = .ok (.iconst 0, 1) := by decide +kernel
theorem dX11_init_15 : decode cX11_init 15 = .ok (.putfield 13, 3) := by decide +kernel
theorem dX11_init_18 : decode cX11_init 18 = .ok (.aload_n 0, 1) := by decide +kernel
theorem dX11_init_19 : decode cX11_init 19 = .ok (.iconst (-1), 1) := by decide +kernel
theorem dX11_init_20 : decode cX11_init 20 = .ok (.putfield 17, 3) := by decide +kernel
theorem dX11_init_23 : decode cX11_init 23 = .ok (.aload_n 0, 1) := by decide +kernel
theorem dX11_init_24 : decode cX11_init 24 = .ok (.new 20, 3) := by decide +kernel
theorem dX11_init_27 : decode cX11_init 27 = .ok (.dup, 1) := by decide +kernel
theorem dX11_init_28 : decode cX11_init 28 = .ok (.invokespecial 22, 3) := by decide +kernel
theorem dX11_init_31 : decode cX11_init 31 = .ok (.putfield 23, 3) := by decide +kernel
theorem dX11_init_34 : decode cX11_init 34 = .ok (.aload_n 0, 1) := by decide +kernel
theorem dX11_init_35 : decode cX11_init 35 = .ok (.aconst_null, 1) := by decide +kernel
theorem dX11_init_36 : decode cX11_init 36 = .ok (.putfield 27, 3) := by decide +kernel
theorem dX11_init_39 : decode cX11_init 39 = .ok (.aload_n 0, 1) := by decide +kernel
theorem dX11_init_40 : decode cX11_init 40 = .ok (.iconst 0, 1) := by decide +kernel
theorem dX11_init_41 : decode cX11_init 41 = .ok (.putfield 30, 3) := by decide +kernel
theorem dX11_init_44 : decode cX11_init 44 = .ok (.aload_n 0, 1) := by decide +kernel
theorem dX11_init_45 : decode cX11_init 45 = .ok (.new 34, 3) := by decide +kernel
theorem dX11_init_48 : decode cX11_init 48 = .ok (.dup, 1) := by decide +kernel
theorem dX11_init_49 : decode cX11_init 49 = .ok (.invokespecial 36, 3) := by decide +kernel
theorem dX11_init_52 : decode cX11_init 52 = .ok (.putfield 37, 3) := by decide +kernel
theorem dX11_init_55 : decode cX11_init 55 = .ok (.aload_n 0, 1) := by decide +kernel
theorem dX11_init_56 : decode cX11_init 56 = .ok (.new 41, 3) := by decide +kernel
theorem dX11_init_59 : decode cX11_init 59 = .ok (.dup, 1) := by decide +kernel
theorem dX11_init_60 : decode cX11_init 60 = .ok (.invokespecial 43, 3) := by decide +kernel
theorem dX11_init_63 : decode cX11_init 63 = .ok (.putfield 44, 3) := by decide +kernel
theorem dX11_init_66 : decode cX11_init 66 = .ok (.aload_n 0, 1) := by decide +kernel
theorem dX11_init_67 : decode cX11_init 67 = .ok (.new 48, 3) := by decide +kernel
theorem dX11_init_70 : decode cX11_init 70 = .ok (.dup, 1) := by decide +kernel
theorem dX11_init_71 : decode cX11_init 71 = .ok (.invokespecial 50, 3) := by decide +kernel
theorem dX11_init_74 : decode cX11_init 74 = .ok (.putfield 51, 3) := by decide +kernel
theorem dX11_init_77 : decode cX11_init 77 = .ok (.aload_n 0, 1) := by decide +kernel
theorem dX11_init_78 : decode cX11_init 78 = .ok (.new 55, 3) := by decide +kernel
theorem dX11_init_81 : decode cX11_init 81 = .ok (.dup, 1) := by decide +kernel
theorem dX11_init_82 : decode cX11_init 82 = .ok (.invokespecial 57, 3) := by decide +kernel
theorem dX11_init_85 : decode cX11_init 85 = .ok (.putfield 58, 3) := by decide +kernel
theorem dX11_init_88 : decode cX11_init 88 = .ok (.aload_n 0, 1) := by decide +kernel
theorem dX11_init_89 : decode cX11_init 89 = .ok (.new 62, 3) := by decide +kernel
theorem dX11_init_92 : decode cX11_init 92 = .ok (.dup, 1) := by decide +kernel
theorem dX11_init_93 : decode cX11_init 93 = .ok (.invokespecial 64, 3) := by decide +kernel
theorem dX11_init_96 : decode cX11_init 96 = .ok (.putfield 65, 3) := by decide +kernel
theorem dX11_init_99 : decode cX11_init 99 = .ok (.aload_n 0, 1) := by decide +kernel
theorem dX11_init_100 : decode cX11_init 100 = .ok (.new 69, 3) := by decide +kernel
theorem dX11_init_103 : decode cX11_init 103 = .ok (.dup, 1) := by decide +kernel
theorem dX11_init_104 : decode cX11_init 104 = .ok (.invokespecial 71, 3) := by decide +kernel
theorem dX11_init_107 : decode cX11_init 107 = .ok (.putfield 72, 3) := by decide +kernel
theorem dX11_init_110 : decode cX11_init 110 = .ok (.aload_n 0, 1) := by decide +kernel
theorem dX11_init_111 : decode cX11_init 111 = .ok (.new 76, 3) := by decide +kernel
theorem dX11_init_114 : decode cX11_init 114 = .ok (.dup, 1) := by decide +kernel
theorem dX11_init_115 : decode cX11_init 115 = .ok (.invokespecial 78, 3) := by decide +kernel
theorem dX11_init_118 : decode cX11_init 118 = .ok (.putfield 79, 3) := by decide +kernel
theorem dX11_init_121 : decode cX11_init 121 = .ok (.return_, 1) := by decide +kernel
theorem dX11_feed_0 : decode cX11_feed 0 = .ok (.aload_n 0, 1) := by decide +kernel
theorem dX11_feed_1 : decode cX11_feed 1 = .ok (.getfield 13, 3) := by decide +kernel
theorem dX11_feed_4 : decode cX11_feed 4 = .ok (.bipush 20, 2) := by decide +kernel
theorem dX11_feed_6 : decode cX11_feed 6 = .ok (.iadd, 1) := by decide +kernel
theorem dX11_feed_7 : decode cX11_feed 7 = .ok (.sipush 700, 3) := by decide +kernel
theorem dX11_feed_10 : decode cX11_feed 10 = .ok (.if_icmp .le 5, 3) := by decide +kernel
theorem dX11_feed_13 : decode cX11_feed 13 = .ok (.iconst (-1), 1) := by decide +kernel
theorem dX11_feed_14 : decode cX11_feed 14 = .ok (.ireturn, 1) := by decide +kernel
theorem dX11_feed_15 : decode cX11_feed 15 = .ok (.aload_n 0, 1) := by decide +kernel
theorem dX11_feed_16 : decode cX11_feed 16 = .ok (.iload_n 1, 1) := by decide +kernel
theorem dX11_feed_17 : decode cX11_feed 17 = .ok (.invokevirtual 83, 3) := by decide +kernel
theorem dX11_feed_20 : decode cX11_feed 20 = .ok (.aload_n 0, 1) := by decide +kernel
theorem dX11_feed_21 : decode cX11_feed 21 = .ok (.iload_n 2, 1) := by decide +kernel
theorem dX11_feed_22 : decode cX11_feed 22 = .ok (.invokevirtual 83, 3) := by decide +kernel
theorem dX11_feed_25 : decode cX11_feed 25 = .ok (.aload_n 0, 1) := by decide +kernel
theorem dX11_feed_26 : decode cX11_feed 26 = .ok (.iload_n 3, 1) := by decide +kernel
theorem dX11_feed_27 : decode cX11_feed 27 = .ok (.invokevirtual 83, 3) := by decide +kernel
theorem dX11_feed_30 : decode cX11_feed 30 = .ok (.aload_n 0, 1) := by decide +kernel
theorem dX11_feed_31 : decode cX11_feed 31 = .ok (.iload 4, 2) := by decide +kernel
theorem dX11_feed_33 : decode cX11_feed 33 = .ok (.invokevirtual 83, 3) := by decide +kernel
theorem dX11_feed_36 : decode cX11_feed 36 = .ok (.aload_n 0, 1) := by decide +kernel
theorem dX11_feed_37 : decode cX11_feed 37 = .ok (.iload 5, 2) := by decide +kernel
theorem dX11_feed_39 : decode cX11_feed 39 = .ok (.invokevirtual 83, 3) := by decide +kernel
theorem dX11_feed_42 : decode cX11_feed 42 = .ok (.aload_n 0, 1) := by decide +kernel
theorem dX11_feed_43 : decode cX11_feed 43 = .ok (.getfield 13, 3) := by decide +kernel
theorem dX11_feed_46 : decode cX11_feed 46 = .ok (.ireturn, 1) := by decide +kernel
theorem dX11_putBytes_0 : decode cX11_putBytes 0 = .ok (.bipush 24, 2) := by decide +kernel
theorem dX11_putBytes_2 : decode cX11_putBytes 2 = .ok (.istore_n 2, 1) := by decide +kernel
theorem dX11_putBytes_3 : decode cX11_putBytes 3 = .ok (.iload_n 2, 1) := by decide +kernel
theorem dX11_putBytes_4 : decode cX11_putBytes 4 = .ok (.ifCond .lt 35, 3) := by decide +kernel
theorem dX11_putBytes_7 : decode cX11_putBytes 7 = .ok (.aload_n 0, 1) := by decide +kernel
theorem dX11_putBytes_8 : decode cX11_putBytes 8 = .ok (.getfield 9, 3) := by decide +kernel
theorem dX11_putBytes_11 : decode cX11_putBytes 11 = .ok (.aload_n 0, 1) := by decide +kernel
theorem dX11_putBytes_12 : decode cX11_putBytes 12 = .ok (.getfield 13, 3) := by decide +kernel
theorem dX11_putBytes_15 : decode cX11_putBytes 15 = .ok (.iload_n 1, 1) := by decide +kernel
theorem dX11_putBytes_16 : decode cX11_putBytes 16 = .ok (.iload_n 2, 1) := by decide +kernel
theorem dX11_putBytes_17 : decode cX11_putBytes 17 = .ok (.ishr, 1) := by decide +kernel
theorem dX11_putBytes_18 : decode cX11_putBytes 18 = .ok (.sipush 255, 3) := by decide +kernel
theorem dX11_putBytes_21 : decode cX11_putBytes 21 = .ok (.iand, 1) := by decide +kernel
theorem dX11_putBytes_22 : decode cX11_putBytes 22 = .ok (.iastore, 1) := by decide +kernel
theorem dX11_putBytes_23 : decode cX11_putBytes 23 = .ok (.aload_n 0, 1) := by decide +kernel
theorem dX11_putBytes_24 : decode cX11_putBytes 24 = .ok (.dup, 1) := by decide +kernel
theorem dX11_putBytes_25 : decode cX11_putBytes 25 = .ok (.getfield 13, 3) := by decide +kernel
theorem dX11_putBytes_28 : decode cX11_putBytes 28 = .ok (.iconst 1, 1) := by decide +kernel
theorem dX11_putBytes_29 : decode cX11_putBytes 29 = .ok (.iadd, 1) := by decide +kernel
theorem dX11_putBytes_30 : decode cX11_putBytes 30 = .ok (.putfield 13, 3) := by decide +kernel
theorem dX11_putBytes_33 : decode cX11_putBytes 33 = .ok (.iinc 2 (-8), 3) := by decide +kernel
theorem dX11_putBytes_36 : decode cX11_putBytes 36 = .ok (.goto (-33), 3) := by decide +kernel
theorem dX11_putBytes_39 : decode cX11_putBytes 39 = .ok (.return_, 1) := by decide +kernel
theorem dX11_heap_0 : decode cX11_heap 0 = .ok (.iload_n 1, 1) := by decide +kernel
theorem dX11_heap_1 : decode cX11_heap 1 = .ok (.ifCond .lt 11, 3) := by decide +kernel
theorem dX11_heap_4 : decode cX11_heap 4 = .ok (.iload_n 1, 1) := by decide +kernel
theorem dX11_heap_5 : decode cX11_heap 5 = .ok (.aload_n 0, 1) := by decide +kernel
theorem dX11_heap_6 : decode cX11_heap 6 = .ok (.getfield 13, 3) := by decide +kernel
theorem dX11_heap_9 : decode cX11_heap 9 = .ok (.if_icmp .le 13, 3) := by decide +kernel
theorem dX11_heap_12 : decode cX11_heap 12 = .ok (.new 87, 3) := by decide +kernel
theorem dX11_heap_15 : decode cX11_heap 15 = .ok (.dup, 1) := by decide +kernel
theorem dX11_heap_16 : decode cX11_heap 16 = .ok (.ldc 89, 2) := by decide +kernel
theorem dX11_heap_18 : decode cX11_heap 18 = .ok (.invokespecial 91, 3) := by decide +kernel
theorem dX11_heap_21 : decode cX11_heap 21 = .ok (.athrow, 1) := by decide +kernel
theorem dX11_heap_22 : decode cX11_heap 22 = .ok (.aload_n 0, 1) := by decide +kernel
theorem dX11_heap_23 : decode cX11_heap 23 = .ok (.iconst 0, 1) := by decide +kernel
theorem dX11_heap_24 : decode cX11_heap 24 = .ok (.putfield 13, 3) := by decide +kernel
theorem dX11_heap_27 : decode cX11_heap 27 = .ok (.aload_n 0, 1) := by decide +kernel
theorem dX11_heap_28 : decode cX11_heap 28 = .ok (.getfield 79, 3) := by decide +kernel
theorem dX11_heap_31 : decode cX11_heap 31 = .ok (.aload_n 0, 1) := by decide +kernel
theorem dX11_heap_32 : decode cX11_heap 32 = .ok (.getfield 9, 3) := by decide +kernel
theorem dX11_heap_35 : decode cX11_heap 35 = .ok (.iload_n 1, 1) := by decide +kernel
theorem dX11_heap_36 : decode cX11_heap 36 = .ok (.invokevirtual 94, 3) := by decide +kernel
theorem dX11_heap_39 : decode cX11_heap 39 = .ok (.istore_n 2, 1) := by decide +kernel
theorem dX11_heap_40 : decode cX11_heap 40 = .ok (.iload_n 2, 1) := by decide +kernel
theorem dX11_heap_41 : decode cX11_heap 41 = .ok (.ifCond .eq 29, 3) := by decide +kernel
theorem dX11_heap_44 : decode cX11_heap 44 = .ok (.aload_n 0, 1) := by decide +kernel
theorem dX11_heap_45 : decode cX11_heap 45 = .ok (.aload_n 0, 1) := by decide +kernel
theorem dX11_heap_46 : decode cX11_heap 46 = .ok (.getfield 79, 3) := by decide +kernel
theorem dX11_heap_49 : decode cX11_heap 49 = .ok (.getfield 98, 3) := by decide +kernel
theorem dX11_heap_52 : decode cX11_heap 52 = .ok (.putfield 17, 3) := by decide +kernel
theorem dX11_heap_55 : decode cX11_heap 55 = .ok (.aload_n 0, 1) := by decide +kernel
theorem dX11_heap_56 : decode cX11_heap 56 = .ok (.getfield 23, 3) := by decide +kernel
theorem dX11_heap_59 : decode cX11_heap 59 = .ok (.getfield 101, 3) := by decide +kernel
theorem dX11_heap_62 : decode cX11_heap 62 = .ok (.iconst 0, 1) := by decide +kernel
theorem dX11_heap_63 : decode cX11_heap 63 = .ok (.dup2, 1) := by decide +kernel
theorem dX11_heap_64 : decode cX11_heap 64 = .ok (.iaload, 1) := by decide +kernel
theorem dX11_heap_65 : decode cX11_heap 65 = .ok (.iconst 1, 1) := by decide +kernel
theorem dX11_heap_66 : decode cX11_heap 66 = .ok (.iadd, 1) := by decide +kernel
theorem dX11_heap_67 : decode cX11_heap 67 = .ok (.iastore, 1) := by decide +kernel
theorem dX11_heap_68 : decode cX11_heap 68 = .ok (.iload_n 2, 1) := by decide +kernel
theorem dX11_heap_69 : decode cX11_heap 69 = .ok (.ireturn, 1) := by decide +kernel
theorem dX11_heap_70 : decode cX11_heap 70 = .ok (.aload_n 0, 1) := by decide +kernel
theorem dX11_heap_71 : decode cX11_heap 71 = .ok (.iconst (-1), 1) := by decide +kernel
theorem dX11_heap_72 : decode cX11_heap 72 = .ok (.putfield 17, 3) := by decide +kernel
theorem dX11_heap_75 : decode cX11_heap 75 = .ok (.aload_n 0, 1) := by decide +kernel
theorem dX11_heap_76 : decode cX11_heap 76 = .ok (.iconst 0, 1) := by decide +kernel
theorem dX11_heap_77 : decode cX11_heap 77 = .ok (.putfield 30, 3) := by decide +kernel
theorem dX11_heap_80 : decode cX11_heap 80 = .ok (.aload_n 0, 1) := by decide +kernel
theorem dX11_heap_81 : decode cX11_heap 81 = .ok (.getfield 23, 3) := by decide +kernel
theorem dX11_heap_84 : decode cX11_heap 84 = .ok (.aload_n 0, 1) := by decide +kernel
theorem dX11_heap_85 : decode cX11_heap 85 = .ok (.getfield 79, 3) := by decide +kernel
theorem dX11_heap_88 : decode cX11_heap 88 = .ok (.getfield 104, 3) := by decide +kernel
theorem dX11_heap_91 : decode cX11_heap 91 = .ok (.invokevirtual 108, 3) := by decide +kernel
theorem dX11_heap_94 : decode cX11_heap 94 = .ok (.iconst 0, 1) := by decide +kernel
theorem dX11_heap_95 : decode cX11_heap 95 = .ok (.ireturn, 1) := by decide +kernel
theorem dX11_fault_0 : decode cX11_fault 0 = .ok (.aload_n 0, 1) := by decide +kernel
theorem dX11_fault_1 : decode cX11_fault 1 = .ok (.getfield 17, 3) := by decide +kernel
theorem dX11_fault_4 : decode cX11_fault 4 = .ok (.ireturn, 1) := by decide +kernel
theorem dX11_count_0 : decode cX11_count 0 = .ok (.aload_n 0, 1) := by decide +kernel
theorem dX11_count_1 : decode cX11_count 1 = .ok (.getfield 23, 3) := by decide +kernel
theorem dX11_count_4 : decode cX11_count 4 = .ok (.getfield 112, 3) := by decide +kernel
theorem dX11_count_7 : decode cX11_count 7 = .ok (.astore_n 2, 1) := by decide +kernel
theorem dX11_count_8 : decode cX11_count 8 = .ok (.iload_n 1, 1) := by decide +kernel
theorem dX11_count_9 : decode cX11_count 9 = .ok (.tableswitch 140 0 16 #[83, 88, 93, 98, 103, 140, 140, 140, 140, 140, 140, 140, 140, 108, 116, 127, 135], 83) := by decide +kernel
theorem dX11_count_92 : decode cX11_count 92 = .ok (.aload_n 2, 1) := by decide +kernel
theorem dX11_count_93 : decode cX11_count 93 = .ok (.getfield 113, 3) := by decide +kernel
theorem dX11_count_96 : decode cX11_count 96 = .ok (.ireturn, 1) := by decide +kernel
theorem dX11_count_97 : decode cX11_count 97 = .ok (.aload_n 2, 1) := by decide +kernel
theorem dX11_count_98 : decode cX11_count 98 = .ok (.getfield 118, 3) := by decide +kernel
theorem dX11_count_101 : decode cX11_count 101 = .ok (.ireturn, 1) := by decide +kernel
theorem dX11_count_102 : decode cX11_count 102 = .ok (.aload_n 2, 1) := by decide +kernel
theorem dX11_count_103 : decode cX11_count 103 = .ok (.getfield 121, 3) := by decide +kernel
theorem dX11_count_106 : decode cX11_count 106 = .ok (.ireturn, 1) := by decide +kernel
theorem dX11_count_107 : decode cX11_count 107 = .ok (.aload_n 2, 1) := by decide +kernel
theorem dX11_count_108 : decode cX11_count 108 = .ok (.getfield 124, 3) := by decide +kernel
theorem dX11_count_111 : decode cX11_count 111 = .ok (.ireturn, 1) := by decide +kernel
theorem dX11_count_112 : decode cX11_count 112 = .ok (.aload_n 2, 1) := by decide +kernel
theorem dX11_count_113 : decode cX11_count 113 = .ok (.invokevirtual 127, 3) := by decide +kernel
theorem dX11_count_116 : decode cX11_count 116 = .ok (.ireturn, 1) := by decide +kernel
theorem dX11_count_117 : decode cX11_count 117 = .ok (.aload_n 2, 1) := by decide +kernel
theorem dX11_count_118 : decode cX11_count 118 = .ok (.getfield 131, 3) := by decide +kernel
theorem dX11_count_121 : decode cX11_count 121 = .ok (.invokevirtual 135, 3) := by decide +kernel
theorem dX11_count_124 : decode cX11_count 124 = .ok (.ireturn, 1) := by decide +kernel
theorem dX11_count_125 : decode cX11_count 125 = .ok (.aload_n 0, 1) := by decide +kernel
theorem dX11_count_126 : decode cX11_count 126 = .ok (.getfield 23, 3) := by decide +kernel
theorem dX11_count_129 : decode cX11_count 129 = .ok (.getfield 140, 3) := by decide +kernel
theorem dX11_count_132 : decode cX11_count 132 = .ok (.getfield 144, 3) := by decide +kernel
theorem dX11_count_135 : decode cX11_count 135 = .ok (.ireturn, 1) := by decide +kernel
theorem dX11_count_136 : decode cX11_count 136 = .ok (.aload_n 0, 1) := by decide +kernel
theorem dX11_count_137 : decode cX11_count 137 = .ok (.getfield 23, 3) := by decide +kernel
theorem dX11_count_140 : decode cX11_count 140 = .ok (.getfield 149, 3) := by decide +kernel
theorem dX11_count_143 : decode cX11_count 143 = .ok (.ireturn, 1) := by decide +kernel
theorem dX11_count_144 : decode cX11_count 144 = .ok (.aload_n 0, 1) := by decide +kernel
theorem dX11_count_145 : decode cX11_count 145 = .ok (.getfield 13, 3) := by decide +kernel
theorem dX11_count_148 : decode cX11_count 148 = .ok (.ireturn, 1) := by decide +kernel
theorem dX11_count_149 : decode cX11_count 149 = .ok (.iload_n 1, 1) := by decide +kernel
theorem dX11_count_150 : decode cX11_count 150 = .ok (.iconst 5, 1) := by decide +kernel
theorem dX11_count_151 : decode cX11_count 151 = .ok (.if_icmp .lt 18, 3) := by decide +kernel
theorem dX11_count_154 : decode cX11_count 154 = .ok (.iload_n 1, 1) := by decide +kernel
theorem dX11_count_155 : decode cX11_count 155 = .ok (.bipush 13, 2) := by decide +kernel
theorem dX11_count_157 : decode cX11_count 157 = .ok (.if_icmp .ge 12, 3) := by decide +kernel
theorem dX11_count_160 : decode cX11_count 160 = .ok (.aload_n 2, 1) := by decide +kernel
theorem dX11_count_161 : decode cX11_count 161 = .ok (.getfield 152, 3) := by decide +kernel
theorem dX11_count_164 : decode cX11_count 164 = .ok (.iload_n 1, 1) := by decide +kernel
theorem dX11_count_165 : decode cX11_count 165 = .ok (.iconst 5, 1) := by decide +kernel
theorem dX11_count_166 : decode cX11_count 166 = .ok (.isub, 1) := by decide +kernel
theorem dX11_count_167 : decode cX11_count 167 = .ok (.iaload, 1) := by decide +kernel
theorem dX11_count_168 : decode cX11_count 168 = .ok (.ireturn, 1) := by decide +kernel
theorem dX11_count_169 : decode cX11_count 169 = .ok (.iload_n 1, 1) := by decide +kernel
theorem dX11_count_170 : decode cX11_count 170 = .ok (.bipush 17, 2) := by decide +kernel
theorem dX11_count_172 : decode cX11_count 172 = .ok (.if_icmp .lt 22, 3) := by decide +kernel
theorem dX11_count_175 : decode cX11_count 175 = .ok (.iload_n 1, 1) := by decide +kernel
theorem dX11_count_176 : decode cX11_count 176 = .ok (.bipush 20, 2) := by decide +kernel
theorem dX11_count_178 : decode cX11_count 178 = .ok (.if_icmp .ge 16, 3) := by decide +kernel
theorem dX11_count_181 : decode cX11_count 181 = .ok (.aload_n 0, 1) := by decide +kernel
theorem dX11_count_182 : decode cX11_count 182 = .ok (.getfield 23, 3) := by decide +kernel
theorem dX11_count_185 : decode cX11_count 185 = .ok (.getfield 101, 3) := by decide +kernel
theorem dX11_count_188 : decode cX11_count 188 = .ok (.iload_n 1, 1) := by decide +kernel
theorem dX11_count_189 : decode cX11_count 189 = .ok (.bipush 17, 2) := by decide +kernel
theorem dX11_count_191 : decode cX11_count 191 = .ok (.isub, 1) := by decide +kernel
theorem dX11_count_192 : decode cX11_count 192 = .ok (.iaload, 1) := by decide +kernel
theorem dX11_count_193 : decode cX11_count 193 = .ok (.ireturn, 1) := by decide +kernel
theorem dX11_count_194 : decode cX11_count 194 = .ok (.new 155, 3) := by decide +kernel
theorem dX11_count_197 : decode cX11_count 197 = .ok (.dup, 1) := by decide +kernel
theorem dX11_count_198 : decode cX11_count 198 = .ok (.ldc 157, 2) := by decide +kernel
theorem dX11_count_200 : decode cX11_count 200 = .ok (.invokespecial 159, 3) := by decide +kernel
theorem dX11_count_203 : decode cX11_count 203 = .ok (.athrow, 1) := by decide +kernel
theorem dX11_word_0 : decode cX11_word 0 = .ok (.iload_n 1, 1) := by decide +kernel
theorem dX11_word_1 : decode cX11_word 1 = .ok (.invokestatic 160, 3) := by decide +kernel
theorem dX11_word_4 : decode cX11_word 4 = .ok (.ifCond .ne 13, 3) := by decide +kernel
theorem dX11_word_7 : decode cX11_word 7 = .ok (.new 155, 3) := by decide +kernel
theorem dX11_word_10 : decode cX11_word 10 = .ok (.dup, 1) := by decide +kernel
theorem dX11_word_11 : decode cX11_word 11 = .ok (.ldc 164, 2) := by decide +kernel
theorem dX11_word_13 : decode cX11_word 13 = .ok (.invokespecial 159, 3) := by decide +kernel
theorem dX11_word_16 : decode cX11_word 16 = .ok (.athrow, 1) := by decide +kernel
theorem dX11_word_17 : decode cX11_word 17 = .ok (.aload_n 0, 1) := by decide +kernel
theorem dX11_word_18 : decode cX11_word 18 = .ok (.getfield 23, 3) := by decide +kernel
theorem dX11_word_21 : decode cX11_word 21 = .ok (.getfield 112, 3) := by decide +kernel
theorem dX11_word_24 : decode cX11_word 24 = .ok (.getfield 131, 3) := by decide +kernel
theorem dX11_word_27 : decode cX11_word 27 = .ok (.astore_n 3, 1) := by decide +kernel
theorem dX11_word_28 : decode cX11_word 28 = .ok (.iload_n 2, 1) := by decide +kernel
theorem dX11_word_29 : decode cX11_word 29 = .ok (.ifCond .eq 12, 3) := by decide +kernel
theorem dX11_word_32 : decode cX11_word 32 = .ok (.aload_n 3, 1) := by decide +kernel
theorem dX11_word_33 : decode cX11_word 33 = .ok (.getfield 166, 3) := by decide +kernel
theorem dX11_word_36 : decode cX11_word 36 = .ok (.iload_n 1, 1) := by decide +kernel
theorem dX11_word_37 : decode cX11_word 37 = .ok (.iaload, 1) := by decide +kernel
theorem dX11_word_38 : decode cX11_word 38 = .ok (.goto 8, 3) := by decide +kernel
theorem dX11_word_41 : decode cX11_word 41 = .ok (.aload_n 3, 1) := by decide +kernel
theorem dX11_word_42 : decode cX11_word 42 = .ok (.iload_n 1, 1) := by decide +kernel
theorem dX11_word_43 : decode cX11_word 43 = .ok (.invokevirtual 169, 3) := by decide +kernel
theorem dX11_word_46 : decode cX11_word 46 = .ok (.ireturn, 1) := by decide +kernel
theorem dX11_line_0 : decode cX11_line 0 = .ok (.iload_n 1, 1) := by decide +kernel
theorem dX11_line_1 : decode cX11_line 1 = .ok (.invokestatic 173, 3) := by decide +kernel
theorem dX11_line_4 : decode cX11_line 4 = .ok (.ifCond .ne 13, 3) := by decide +kernel
theorem dX11_line_7 : decode cX11_line 7 = .ok (.new 155, 3) := by decide +kernel
theorem dX11_line_10 : decode cX11_line 10 = .ok (.dup, 1) := by decide +kernel
theorem dX11_line_11 : decode cX11_line 11 = .ok (.ldc 176, 2) := by decide +kernel
theorem dX11_line_13 : decode cX11_line 13 = .ok (.invokespecial 159, 3) := by decide +kernel
theorem dX11_line_16 : decode cX11_line 16 = .ok (.athrow, 1) := by decide +kernel
theorem dX11_line_17 : decode cX11_line 17 = .ok (.aload_n 0, 1) := by decide +kernel
theorem dX11_line_18 : decode cX11_line 18 = .ok (.getfield 23, 3) := by decide +kernel
theorem dX11_line_21 : decode cX11_line 21 = .ok (.getfield 112, 3) := by decide +kernel
theorem dX11_line_24 : decode cX11_line 24 = .ok (.getfield 131, 3) := by decide +kernel
theorem dX11_line_27 : decode cX11_line 27 = .ok (.astore_n 3, 1) := by decide +kernel
theorem dX11_line_28 : decode cX11_line 28 = .ok (.iload_n 2, 1) := by decide +kernel
theorem dX11_line_29 : decode cX11_line 29 = .ok (.iconst (-1), 1) := by decide +kernel
theorem dX11_line_30 : decode cX11_line 30 = .ok (.if_icmp .ne 10, 3) := by decide +kernel
theorem dX11_line_33 : decode cX11_line 33 = .ok (.aload_n 3, 1) := by decide +kernel
theorem dX11_line_34 : decode cX11_line 34 = .ok (.getfield 178, 3) := by decide +kernel
theorem dX11_line_37 : decode cX11_line 37 = .ok (.iload_n 1, 1) := by decide +kernel
theorem dX11_line_38 : decode cX11_line 38 = .ok (.iaload, 1) := by decide +kernel
theorem dX11_line_39 : decode cX11_line 39 = .ok (.ireturn, 1) := by decide +kernel
theorem dX11_line_40 : decode cX11_line 40 = .ok (.iload_n 2, 1) := by decide +kernel
theorem dX11_line_41 : decode cX11_line 41 = .ok (.bipush (-2), 2) := by decide +kernel
theorem dX11_line_43 : decode cX11_line 43 = .ok (.if_icmp .ne 10, 3) := by decide +kernel
theorem dX11_line_46 : decode cX11_line 46 = .ok (.aload_n 3, 1) := by decide +kernel
theorem dX11_line_47 : decode cX11_line 47 = .ok (.getfield 181, 3) := by decide +kernel
theorem dX11_line_50 : decode cX11_line 50 = .ok (.iload_n 1, 1) := by decide +kernel
theorem dX11_line_51 : decode cX11_line 51 = .ok (.iaload, 1) := by decide +kernel
theorem dX11_line_52 : decode cX11_line 52 = .ok (.ireturn, 1) := by decide +kernel
theorem dX11_line_53 : decode cX11_line 53 = .ok (.iload_n 2, 1) := by decide +kernel
theorem dX11_line_54 : decode cX11_line 54 = .ok (.ifCond .lt 13, 3) := by decide +kernel
theorem dX11_line_57 : decode cX11_line 57 = .ok (.iload_n 2, 1) := by decide +kernel
theorem dX11_line_58 : decode cX11_line 58 = .ok (.aload_n 3, 1) := by decide +kernel
theorem dX11_line_59 : decode cX11_line 59 = .ok (.getfield 178, 3) := by decide +kernel
theorem dX11_line_62 : decode cX11_line 62 = .ok (.iload_n 1, 1) := by decide +kernel
theorem dX11_line_63 : decode cX11_line 63 = .ok (.iaload, 1) := by decide +kernel
theorem dX11_line_64 : decode cX11_line 64 = .ok (.if_icmp .lt 13, 3) := by decide +kernel
theorem dX11_line_67 : decode cX11_line 67 = .ok (.new 155, 3) := by decide +kernel
theorem dX11_line_70 : decode cX11_line 70 = .ok (.dup, 1) := by decide +kernel
theorem dX11_line_71 : decode cX11_line 71 = .ok (.ldc 184, 2) := by decide +kernel
theorem dX11_line_73 : decode cX11_line 73 = .ok (.invokespecial 159, 3) := by decide +kernel
theorem dX11_line_76 : decode cX11_line 76 = .ok (.athrow, 1) := by decide +kernel
theorem dX11_line_77 : decode cX11_line 77 = .ok (.aload_n 3, 1) := by decide +kernel
theorem dX11_line_78 : decode cX11_line 78 = .ok (.getfield 186, 3) := by decide +kernel
theorem dX11_line_81 : decode cX11_line 81 = .ok (.iload_n 1, 1) := by decide +kernel
theorem dX11_line_82 : decode cX11_line 82 = .ok (.bipush 6, 2) := by decide +kernel
theorem dX11_line_84 : decode cX11_line 84 = .ok (.imul, 1) := by decide +kernel
theorem dX11_line_85 : decode cX11_line 85 = .ok (.iload_n 2, 1) := by decide +kernel
theorem dX11_line_86 : decode cX11_line 86 = .ok (.iadd, 1) := by decide +kernel
theorem dX11_line_87 : decode cX11_line 87 = .ok (.iaload, 1) := by decide +kernel
theorem dX11_line_88 : decode cX11_line 88 = .ok (.ireturn, 1) := by decide +kernel
theorem dX11_micro_0 : decode cX11_micro 0 = .ok (.aload_n 0, 1) := by decide +kernel
theorem dX11_micro_1 : decode cX11_micro 1 = .ok (.getfield 23, 3) := by decide +kernel
theorem dX11_micro_4 : decode cX11_micro 4 = .ok (.getfield 112, 3) := by decide +kernel
theorem dX11_micro_7 : decode cX11_micro 7 = .ok (.astore_n 3, 1) := by decide +kernel
theorem dX11_micro_8 : decode cX11_micro 8 = .ok (.iload_n 1, 1) := by decide +kernel
theorem dX11_micro_9 : decode cX11_micro 9 = .ok (.ifCond .lt 20, 3) := by decide +kernel
theorem dX11_micro_12 : decode cX11_micro 12 = .ok (.iload_n 1, 1) := by decide +kernel
theorem dX11_micro_13 : decode cX11_micro 13 = .ok (.aload_n 3, 1) := by decide +kernel
theorem dX11_micro_14 : decode cX11_micro 14 = .ok (.invokevirtual 127, 3) := by decide +kernel
theorem dX11_micro_17 : decode cX11_micro 17 = .ok (.if_icmp .ge 12, 3) := by decide +kernel
theorem dX11_micro_20 : decode cX11_micro 20 = .ok (.iload_n 2, 1) := by decide +kernel
theorem dX11_micro_21 : decode cX11_micro 21 = .ok (.ifCond .lt 8, 3) := by decide +kernel
theorem dX11_micro_24 : decode cX11_micro 24 = .ok (.iload_n 2, 1) := by decide +kernel
theorem dX11_micro_25 : decode cX11_micro 25 = .ok (.iconst 2, 1) := by decide +kernel
theorem dX11_micro_26 : decode cX11_micro 26 = .ok (.if_icmp .le 13, 3) := by decide +kernel
theorem dX11_micro_29 : decode cX11_micro 29 = .ok (.new 155, 3) := by decide +kernel
theorem dX11_micro_32 : decode cX11_micro 32 = .ok (.dup, 1) := by decide +kernel
theorem dX11_micro_33 : decode cX11_micro 33 = .ok (.ldc 189, 2) := by decide +kernel
theorem dX11_micro_35 : decode cX11_micro 35 = .ok (.invokespecial 159, 3) := by decide +kernel
theorem dX11_micro_38 : decode cX11_micro 38 = .ok (.athrow, 1) := by decide +kernel
theorem dX11_micro_39 : decode cX11_micro 39 = .ok (.aload_n 3, 1) := by decide +kernel
theorem dX11_micro_40 : decode cX11_micro 40 = .ok (.getfield 191, 3) := by decide +kernel
theorem dX11_micro_43 : decode cX11_micro 43 = .ok (.aload_n 3, 1) := by decide +kernel
theorem dX11_micro_44 : decode cX11_micro 44 = .ok (.getfield 194, 3) := by decide +kernel
theorem dX11_micro_47 : decode cX11_micro 47 = .ok (.iload_n 1, 1) := by decide +kernel
theorem dX11_micro_48 : decode cX11_micro 48 = .ok (.iadd, 1) := by decide +kernel
theorem dX11_micro_49 : decode cX11_micro 49 = .ok (.iaload, 1) := by decide +kernel
theorem dX11_micro_50 : decode cX11_micro 50 = .ok (.istore 4, 2) := by decide +kernel
theorem dX11_micro_52 : decode cX11_micro 52 = .ok (.iload 4, 2) := by decide +kernel
theorem dX11_micro_54 : decode cX11_micro 54 = .ok (.sipush 10000, 3) := by decide +kernel
theorem dX11_micro_57 : decode cX11_micro 57 = .ok (.idiv, 1) := by decide +kernel
theorem dX11_micro_58 : decode cX11_micro 58 = .ok (.istore 5, 2) := by decide +kernel
theorem dX11_micro_60 : decode cX11_micro 60 = .ok (.iload_n 2, 1) := by decide +kernel
theorem dX11_micro_61 : decode cX11_micro 61 = .ok (.ifCond .ne 6, 3) := by decide +kernel
theorem dX11_micro_64 : decode cX11_micro 64 = .ok (.iload 5, 2) := by decide +kernel
theorem dX11_micro_66 : decode cX11_micro 66 = .ok (.ireturn, 1) := by decide +kernel
theorem dX11_micro_67 : decode cX11_micro 67 = .ok (.iload 5, 2) := by decide +kernel
theorem dX11_micro_69 : decode cX11_micro 69 = .ok (.iconst 2, 1) := by decide +kernel
theorem dX11_micro_70 : decode cX11_micro 70 = .ok (.if_icmp .eq 14, 3) := by decide +kernel
theorem dX11_micro_73 : decode cX11_micro 73 = .ok (.iload 5, 2) := by decide +kernel
theorem dX11_micro_75 : decode cX11_micro 75 = .ok (.iconst 1, 1) := by decide +kernel
theorem dX11_micro_76 : decode cX11_micro 76 = .ok (.if_icmp .ne 10, 3) := by decide +kernel
theorem dX11_micro_79 : decode cX11_micro 79 = .ok (.iload_n 2, 1) := by decide +kernel
theorem dX11_micro_80 : decode cX11_micro 80 = .ok (.iconst 2, 1) := by decide +kernel
theorem dX11_micro_81 : decode cX11_micro 81 = .ok (.if_icmp .ne 5, 3) := by decide +kernel
theorem dX11_micro_84 : decode cX11_micro 84 = .ok (.iconst (-1), 1) := by decide +kernel
theorem dX11_micro_85 : decode cX11_micro 85 = .ok (.ireturn, 1) := by decide +kernel
theorem dX11_micro_86 : decode cX11_micro 86 = .ok (.iload 4, 2) := by decide +kernel
theorem dX11_micro_88 : decode cX11_micro 88 = .ok (.sipush 10000, 3) := by decide +kernel
theorem dX11_micro_91 : decode cX11_micro 91 = .ok (.irem, 1) := by decide +kernel
theorem dX11_micro_92 : decode cX11_micro 92 = .ok (.bipush 100, 2) := by decide +kernel
theorem dX11_micro_94 : decode cX11_micro 94 = .ok (.idiv, 1) := by decide +kernel
theorem dX11_micro_95 : decode cX11_micro 95 = .ok (.istore 6, 2) := by decide +kernel
theorem dX11_micro_97 : decode cX11_micro 97 = .ok (.iload_n 2, 1) := by decide +kernel
theorem dX11_micro_98 : decode cX11_micro 98 = .ok (.iconst 1, 1) := by decide +kernel
theorem dX11_micro_99 : decode cX11_micro 99 = .ok (.if_icmp .ne 8, 3) := by decide +kernel
theorem dX11_micro_102 : decode cX11_micro 102 = .ok (.iload 6, 2) := by decide +kernel
theorem dX11_micro_104 : decode cX11_micro 104 = .ok (.goto 8, 3) := by decide +kernel
theorem dX11_micro_107 : decode cX11_micro 107 = .ok (.iload 4, 2) := by decide +kernel
theorem dX11_micro_109 : decode cX11_micro 109 = .ok (.bipush 100, 2) := by decide +kernel
theorem dX11_micro_111 : decode cX11_micro 111 = .ok (.irem, 1) := by decide +kernel
theorem dX11_micro_112 : decode cX11_micro 112 = .ok (.ireturn, 1) := by decide +kernel
theorem dX11_orders_0 : decode cX11_orders 0 = .ok (.aload_n 0, 1) := by decide +kernel
theorem dX11_orders_1 : decode cX11_orders 1 = .ok (.getfield 23, 3) := by decide +kernel
theorem dX11_orders_4 : decode cX11_orders 4 = .ok (.getfield 112, 3) := by decide +kernel
theorem dX11_orders_7 : decode cX11_orders 7 = .ok (.getfield 131, 3) := by decide +kernel
theorem dX11_orders_10 : decode cX11_orders 10 = .ok (.invokevirtual 197, 3) := by decide +kernel
theorem dX11_orders_13 : decode cX11_orders 13 = .ok (.lreturn, 1) := by decide +kernel
theorem dX11_shape_0 : decode cX11_shape 0 = .ok (.iload_n 1, 1) := by decide +kernel
theorem dX11_shape_1 : decode cX11_shape 1 = .ok (.ifCond .lt 17, 3) := by decide +kernel
theorem dX11_shape_4 : decode cX11_shape 4 = .ok (.iload_n 1, 1) := by decide +kernel
theorem dX11_shape_5 : decode cX11_shape 5 = .ok (.iconst 2, 1) := by decide +kernel
theorem dX11_shape_6 : decode cX11_shape 6 = .ok (.if_icmp .gt 12, 3) := by decide +kernel
theorem dX11_shape_9 : decode cX11_shape 9 = .ok (.iload_n 2, 1) := by decide +kernel
theorem dX11_shape_10 : decode cX11_shape 10 = .ok (.ifCond .lt 8, 3) := by decide +kernel
theorem dX11_shape_13 : decode cX11_shape 13 = .ok (.iload_n 2, 1) := by decide +kernel
theorem dX11_shape_14 : decode cX11_shape 14 = .ok (.iconst 4, 1) := by decide +kernel
theorem dX11_shape_15 : decode cX11_shape 15 = .ok (.if_icmp .le 13, 3) := by decide +kernel
theorem dX11_shape_18 : decode cX11_shape 18 = .ok (.new 155, 3) := by decide +kernel
theorem dX11_shape_21 : decode cX11_shape 21 = .ok (.dup, 1) := by decide +kernel
theorem dX11_shape_22 : decode cX11_shape 22 = .ok (.ldc 201, 2) := by decide +kernel
theorem dX11_shape_24 : decode cX11_shape 24 = .ok (.invokespecial 159, 3) := by decide +kernel
theorem dX11_shape_27 : decode cX11_shape 27 = .ok (.athrow, 1) := by decide +kernel
theorem dX11_shape_28 : decode cX11_shape 28 = .ok (.aload_n 0, 1) := by decide +kernel
theorem dX11_shape_29 : decode cX11_shape 29 = .ok (.getfield 23, 3) := by decide +kernel
theorem dX11_shape_32 : decode cX11_shape 32 = .ok (.getfield 112, 3) := by decide +kernel
theorem dX11_shape_35 : decode cX11_shape 35 = .ok (.astore_n 3, 1) := by decide +kernel
theorem dX11_shape_36 : decode cX11_shape 36 = .ok (.iload_n 1, 1) := by decide +kernel
theorem dX11_shape_37 : decode cX11_shape 37 = .ok (.ifCond .ne 34, 3) := by decide +kernel
theorem dX11_shape_40 : decode cX11_shape 40 = .ok (.aload_n 3, 1) := by decide +kernel
theorem dX11_shape_41 : decode cX11_shape 41 = .ok (.getfield 131, 3) := by decide +kernel
theorem dX11_shape_44 : decode cX11_shape 44 = .ok (.aload_n 0, 1) := by decide +kernel
theorem dX11_shape_45 : decode cX11_shape 45 = .ok (.getfield 37, 3) := by decide +kernel
theorem dX11_shape_48 : decode cX11_shape 48 = .ok (.getfield 203, 3) := by decide +kernel
theorem dX11_shape_51 : decode cX11_shape 51 = .ok (.invokevirtual 206, 3) := by decide +kernel
theorem dX11_shape_54 : decode cX11_shape 54 = .ok (.aload_n 0, 1) := by decide +kernel
theorem dX11_shape_55 : decode cX11_shape 55 = .ok (.getfield 51, 3) := by decide +kernel
theorem dX11_shape_58 : decode cX11_shape 58 = .ok (.aload_n 0, 1) := by decide +kernel
theorem dX11_shape_59 : decode cX11_shape 59 = .ok (.getfield 37, 3) := by decide +kernel
theorem dX11_shape_62 : decode cX11_shape 62 = .ok (.getfield 203, 3) := by decide +kernel
theorem dX11_shape_65 : decode cX11_shape 65 = .ok (.invokevirtual 210, 3) := by decide +kernel
theorem dX11_shape_68 : decode cX11_shape 68 = .ok (.goto 54, 3) := by decide +kernel
theorem dX11_shape_71 : decode cX11_shape 71 = .ok (.aload_n 0, 1) := by decide +kernel
theorem dX11_shape_72 : decode cX11_shape 72 = .ok (.getfield 44, 3) := by decide +kernel
theorem dX11_shape_75 : decode cX11_shape 75 = .ok (.aload_n 3, 1) := by decide +kernel
theorem dX11_shape_76 : decode cX11_shape 76 = .ok (.getfield 131, 3) := by decide +kernel
theorem dX11_shape_79 : decode cX11_shape 79 = .ok (.invokevirtual 213, 3) := by decide +kernel
theorem dX11_shape_82 : decode cX11_shape 82 = .ok (.aload_n 0, 1) := by decide +kernel
theorem dX11_shape_83 : decode cX11_shape 83 = .ok (.getfield 44, 3) := by decide +kernel
theorem dX11_shape_86 : decode cX11_shape 86 = .ok (.aload_n 3, 1) := by decide +kernel
theorem dX11_shape_87 : decode cX11_shape 87 = .ok (.getfield 118, 3) := by decide +kernel
theorem dX11_shape_90 : decode cX11_shape 90 = .ok (.invokevirtual 216, 3) := by decide +kernel
theorem dX11_shape_93 : decode cX11_shape 93 = .ok (.aload_n 0, 1) := by decide +kernel
theorem dX11_shape_94 : decode cX11_shape 94 = .ok (.getfield 51, 3) := by decide +kernel
theorem dX11_shape_97 : decode cX11_shape 97 = .ok (.iload_n 1, 1) := by decide +kernel
theorem dX11_shape_98 : decode cX11_shape 98 = .ok (.iconst 1, 1) := by decide +kernel
theorem dX11_shape_99 : decode cX11_shape 99 = .ok (.if_icmp .ne 13, 3) := by decide +kernel
theorem dX11_shape_102 : decode cX11_shape 102 = .ok (.aload_n 0, 1) := by decide +kernel
theorem dX11_shape_103 : decode cX11_shape 103 = .ok (.getfield 44, 3) := by decide +kernel
theorem dX11_shape_106 : decode cX11_shape 106 = .ok (.getfield 219, 3) := by decide +kernel
theorem dX11_shape_109 : decode cX11_shape 109 = .ok (.goto 10, 3) := by decide +kernel
theorem dX11_shape_112 : decode cX11_shape 112 = .ok (.aload_n 0, 1) := by decide +kernel
theorem dX11_shape_113 : decode cX11_shape 113 = .ok (.getfield 44, 3) := by decide +kernel
theorem dX11_shape_116 : decode cX11_shape 116 = .ok (.getfield 222, 3) := by decide +kernel
theorem dX11_shape_119 : decode cX11_shape 119 = .ok (.invokevirtual 210, 3) := by decide +kernel
theorem dX11_shape_122 : decode cX11_shape 122 = .ok (.aload_n 0, 1) := by decide +kernel
theorem dX11_shape_123 : decode cX11_shape 123 = .ok (.getfield 51, 3) := by decide +kernel
theorem dX11_shape_126 : decode cX11_shape 126 = .ok (.iload_n 2, 1) := by decide +kernel
theorem dX11_shape_127 : decode cX11_shape 127 = .ok (.invokevirtual 225, 3) := by decide +kernel
theorem dX11_shape_130 : decode cX11_shape 130 = .ok (.ireturn, 1) := by decide +kernel
theorem dX11_steps_0 : decode cX11_steps 0 = .ok (.aload_n 0, 1) := by decide +kernel
theorem dX11_steps_1 : decode cX11_steps 1 = .ok (.getfield 23, 3) := by decide +kernel
theorem dX11_steps_4 : decode cX11_steps 4 = .ok (.getfield 112, 3) := by decide +kernel
theorem dX11_steps_7 : decode cX11_steps 7 = .ok (.astore_n 2, 1) := by decide +kernel
theorem dX11_steps_8 : decode cX11_steps 8 = .ok (.iload_n 1, 1) := by decide +kernel
theorem dX11_steps_9 : decode cX11_steps 9 = .ok (.iconst 1, 1) := by decide +kernel
theorem dX11_steps_10 : decode cX11_steps 10 = .ok (.if_icmp .lt 20, 3) := by decide +kernel
theorem dX11_steps_13 : decode cX11_steps 13 = .ok (.iload_n 1, 1) := by decide +kernel
theorem dX11_steps_14 : decode cX11_steps 14 = .ok (.bipush 50, 2) := by decide +kernel
theorem dX11_steps_16 : decode cX11_steps 16 = .ok (.if_icmp .gt 14, 3) := by decide +kernel
theorem dX11_steps_19 : decode cX11_steps 19 = .ok (.aload_n 2, 1) := by decide +kernel
theorem dX11_steps_20 : decode cX11_steps 20 = .ok (.aload_n 0, 1) := by decide +kernel
theorem dX11_steps_21 : decode cX11_steps 21 = .ok (.getfield 37, 3) := by decide +kernel
theorem dX11_steps_24 : decode cX11_steps 24 = .ok (.invokevirtual 228, 3) := by decide +kernel
theorem dX11_steps_27 : decode cX11_steps 27 = .ok (.ifCond .ne 8, 3) := by decide +kernel
theorem dX11_steps_30 : decode cX11_steps 30 = .ok (.aload_n 0, 1) := by decide +kernel
theorem dX11_steps_31 : decode cX11_steps 31 = .ok (.invokevirtual 232, 3) := by decide +kernel
theorem dX11_steps_34 : decode cX11_steps 34 = .ok (.ireturn, 1) := by decide +kernel
theorem dX11_steps_35 : decode cX11_steps 35 = .ok (.aload_n 0, 1) := by decide +kernel
theorem dX11_steps_36 : decode cX11_steps 36 = .ok (.getfield 23, 3) := by decide +kernel
theorem dX11_steps_39 : decode cX11_steps 39 = .ok (.getfield 140, 3) := by decide +kernel
theorem dX11_steps_42 : decode cX11_steps 42 = .ok (.aload_n 2, 1) := by decide +kernel
theorem dX11_steps_43 : decode cX11_steps 43 = .ok (.invokevirtual 235, 3) := by decide +kernel
theorem dX11_steps_46 : decode cX11_steps 46 = .ok (.iconst 0, 1) := by decide +kernel
theorem dX11_steps_47 : decode cX11_steps 47 = .ok (.istore_n 3, 1) := by decide +kernel
theorem dX11_steps_48 : decode cX11_steps 48 = .ok (.iload_n 3, 1) := by decide +kernel
theorem dX11_steps_49 : decode cX11_steps 49 = .ok (.iload_n 1, 1) := by decide +kernel
theorem dX11_steps_50 : decode cX11_steps 50 = .ok (.if_icmp .ge 20, 3) := by decide +kernel
theorem dX11_steps_53 : decode cX11_steps 53 = .ok (.aload_n 2, 1) := by decide +kernel
theorem dX11_steps_54 : decode cX11_steps 54 = .ok (.aload_n 0, 1) := by decide +kernel
theorem dX11_steps_55 : decode cX11_steps 55 = .ok (.getfield 37, 3) := by decide +kernel
theorem dX11_steps_58 : decode cX11_steps 58 = .ok (.invokevirtual 238, 3) := by decide +kernel
theorem dX11_steps_61 : decode cX11_steps 61 = .ok (.ifCond .eq 9, 3) := by decide +kernel
theorem dX11_steps_64 : decode cX11_steps 64 = .ok (.iinc 3 1, 3) := by decide +kernel
theorem dX11_steps_67 : decode cX11_steps 67 = .ok (.goto (-19), 3) := by decide +kernel
theorem dX11_steps_70 : decode cX11_steps 70 = .ok (.iload_n 3, 1) := by decide +kernel
theorem dX11_steps_71 : decode cX11_steps 71 = .ok (.ireturn, 1) := by decide +kernel
theorem dX11_refuseAct_0 : decode cX11_refuseAct 0 = .ok (.aload_n 0, 1) := by decide +kernel
theorem dX11_refuseAct_1 : decode cX11_refuseAct 1 = .ok (.getfield 23, 3) := by decide +kernel
theorem dX11_refuseAct_4 : decode cX11_refuseAct 4 = .ok (.getfield 101, 3) := by decide +kernel
theorem dX11_refuseAct_7 : decode cX11_refuseAct 7 = .ok (.iconst 1, 1) := by decide +kernel
theorem dX11_refuseAct_8 : decode cX11_refuseAct 8 = .ok (.dup2, 1) := by decide +kernel
theorem dX11_refuseAct_9 : decode cX11_refuseAct 9 = .ok (.iaload, 1) := by decide +kernel
theorem dX11_refuseAct_10 : decode cX11_refuseAct 10 = .ok (.iconst 1, 1) := by decide +kernel
theorem dX11_refuseAct_11 : decode cX11_refuseAct 11 = .ok (.iadd, 1) := by decide +kernel
theorem dX11_refuseAct_12 : decode cX11_refuseAct 12 = .ok (.iastore, 1) := by decide +kernel
theorem dX11_refuseAct_13 : decode cX11_refuseAct 13 = .ok (.iconst (-1), 1) := by decide +kernel
theorem dX11_refuseAct_14 : decode cX11_refuseAct 14 = .ok (.ireturn, 1) := by decide +kernel
theorem dX11_evict_0 : decode cX11_evict 0 = .ok (.iload_n 1, 1) := by decide +kernel
theorem dX11_evict_1 : decode cX11_evict 1 = .ok (.invokestatic 173, 3) := by decide +kernel
theorem dX11_evict_4 : decode cX11_evict 4 = .ok (.ifCond .ne 13, 3) := by decide +kernel
theorem dX11_evict_7 : decode cX11_evict 7 = .ok (.new 155, 3) := by decide +kernel
theorem dX11_evict_10 : decode cX11_evict 10 = .ok (.dup, 1) := by decide +kernel
theorem dX11_evict_11 : decode cX11_evict 11 = .ok (.ldc 176, 2) := by decide +kernel
theorem dX11_evict_13 : decode cX11_evict 13 = .ok (.invokespecial 159, 3) := by decide +kernel
theorem dX11_evict_16 : decode cX11_evict 16 = .ok (.athrow, 1) := by decide +kernel
theorem dX11_evict_17 : decode cX11_evict 17 = .ok (.aload_n 0, 1) := by decide +kernel
theorem dX11_evict_18 : decode cX11_evict 18 = .ok (.getfield 23, 3) := by decide +kernel
theorem dX11_evict_21 : decode cX11_evict 21 = .ok (.getfield 112, 3) := by decide +kernel
theorem dX11_evict_24 : decode cX11_evict 24 = .ok (.astore_n 3, 1) := by decide +kernel
theorem dX11_evict_25 : decode cX11_evict 25 = .ok (.iload_n 2, 1) := by decide +kernel
theorem dX11_evict_26 : decode cX11_evict 26 = .ok (.iconst 1, 1) := by decide +kernel
theorem dX11_evict_27 : decode cX11_evict 27 = .ok (.if_icmp .lt 16, 3) := by decide +kernel
theorem dX11_evict_30 : decode cX11_evict 30 = .ok (.iload_n 2, 1) := by decide +kernel
theorem dX11_evict_31 : decode cX11_evict 31 = .ok (.aload_n 3, 1) := by decide +kernel
theorem dX11_evict_32 : decode cX11_evict 32 = .ok (.getfield 131, 3) := by decide +kernel
theorem dX11_evict_35 : decode cX11_evict 35 = .ok (.getfield 178, 3) := by decide +kernel
theorem dX11_evict_38 : decode cX11_evict 38 = .ok (.iload_n 1, 1) := by decide +kernel
theorem dX11_evict_39 : decode cX11_evict 39 = .ok (.iaload, 1) := by decide +kernel
theorem dX11_evict_40 : decode cX11_evict 40 = .ok (.if_icmp .le 8, 3) := by decide +kernel
theorem dX11_evict_43 : decode cX11_evict 43 = .ok (.aload_n 0, 1) := by decide +kernel
theorem dX11_evict_44 : decode cX11_evict 44 = .ok (.invokevirtual 232, 3) := by decide +kernel
theorem dX11_evict_47 : decode cX11_evict 47 = .ok (.ireturn, 1) := by decide +kernel
theorem dX11_evict_48 : decode cX11_evict 48 = .ok (.aload_n 0, 1) := by decide +kernel
theorem dX11_evict_49 : decode cX11_evict 49 = .ok (.getfield 23, 3) := by decide +kernel
theorem dX11_evict_52 : decode cX11_evict 52 = .ok (.getfield 140, 3) := by decide +kernel
theorem dX11_evict_55 : decode cX11_evict 55 = .ok (.aload_n 3, 1) := by decide +kernel
theorem dX11_evict_56 : decode cX11_evict 56 = .ok (.invokevirtual 235, 3) := by decide +kernel
theorem dX11_evict_59 : decode cX11_evict 59 = .ok (.aload_n 3, 1) := by decide +kernel
theorem dX11_evict_60 : decode cX11_evict 60 = .ok (.getfield 131, 3) := by decide +kernel
theorem dX11_evict_63 : decode cX11_evict 63 = .ok (.iload_n 1, 1) := by decide +kernel
theorem dX11_evict_64 : decode cX11_evict 64 = .ok (.iload_n 2, 1) := by decide +kernel
theorem dX11_evict_65 : decode cX11_evict 65 = .ok (.invokevirtual 241, 3) := by decide +kernel
theorem dX11_evict_68 : decode cX11_evict 68 = .ok (.aload_n 3, 1) := by decide +kernel
theorem dX11_evict_69 : decode cX11_evict 69 = .ok (.getfield 131, 3) := by decide +kernel
theorem dX11_evict_72 : decode cX11_evict 72 = .ok (.getfield 178, 3) := by decide +kernel
theorem dX11_evict_75 : decode cX11_evict 75 = .ok (.iload_n 1, 1) := by decide +kernel
theorem dX11_evict_76 : decode cX11_evict 76 = .ok (.iaload, 1) := by decide +kernel
theorem dX11_evict_77 : decode cX11_evict 77 = .ok (.ireturn, 1) := by decide +kernel
theorem dX11_crash_0 : decode cX11_crash 0 = .ok (.aload_n 0, 1) := by decide +kernel
theorem dX11_crash_1 : decode cX11_crash 1 = .ok (.getfield 23, 3) := by decide +kernel
theorem dX11_crash_4 : decode cX11_crash 4 = .ok (.getfield 112, 3) := by decide +kernel
theorem dX11_crash_7 : decode cX11_crash 7 = .ok (.astore_n 2, 1) := by decide +kernel
theorem dX11_crash_8 : decode cX11_crash 8 = .ok (.aload_n 2, 1) := by decide +kernel
theorem dX11_crash_9 : decode cX11_crash 9 = .ok (.getfield 113, 3) := by decide +kernel
theorem dX11_crash_12 : decode cX11_crash 12 = .ok (.iconst 1, 1) := by decide +kernel
theorem dX11_crash_13 : decode cX11_crash 13 = .ok (.if_icmp .eq 11, 3) := by decide +kernel
theorem dX11_crash_16 : decode cX11_crash 16 = .ok (.aload_n 0, 1) := by decide +kernel
theorem dX11_crash_17 : decode cX11_crash 17 = .ok (.iload_n 1, 1) := by decide +kernel
theorem dX11_crash_18 : decode cX11_crash 18 = .ok (.invokevirtual 245, 3) := by decide +kernel
theorem dX11_crash_21 : decode cX11_crash 21 = .ok (.ifCond .ne 8, 3) := by decide +kernel
theorem dX11_crash_24 : decode cX11_crash 24 = .ok (.aload_n 0, 1) := by decide +kernel
theorem dX11_crash_25 : decode cX11_crash 25 = .ok (.invokevirtual 232, 3) := by decide +kernel
theorem dX11_crash_28 : decode cX11_crash 28 = .ok (.ireturn, 1) := by decide +kernel
theorem dX11_crash_29 : decode cX11_crash 29 = .ok (.aload_n 0, 1) := by decide +kernel
theorem dX11_crash_30 : decode cX11_crash 30 = .ok (.getfield 23, 3) := by decide +kernel
theorem dX11_crash_33 : decode cX11_crash 33 = .ok (.getfield 140, 3) := by decide +kernel
theorem dX11_crash_36 : decode cX11_crash 36 = .ok (.aload_n 2, 1) := by decide +kernel
theorem dX11_crash_37 : decode cX11_crash 37 = .ok (.invokevirtual 235, 3) := by decide +kernel
theorem dX11_crash_40 : decode cX11_crash 40 = .ok (.aload_n 0, 1) := by decide +kernel
theorem dX11_crash_41 : decode cX11_crash 41 = .ok (.getfield 44, 3) := by decide +kernel
theorem dX11_crash_44 : decode cX11_crash 44 = .ok (.aload_n 2, 1) := by decide +kernel
theorem dX11_crash_45 : decode cX11_crash 45 = .ok (.getfield 131, 3) := by decide +kernel
theorem dX11_crash_48 : decode cX11_crash 48 = .ok (.iload_n 1, 1) := by decide +kernel
theorem dX11_crash_49 : decode cX11_crash 49 = .ok (.invokevirtual 248, 3) := by decide +kernel
theorem dX11_crash_52 : decode cX11_crash 52 = .ok (.aload_n 0, 1) := by decide +kernel
theorem dX11_crash_53 : decode cX11_crash 53 = .ok (.getfield 44, 3) := by decide +kernel
theorem dX11_crash_56 : decode cX11_crash 56 = .ok (.aload_n 2, 1) := by decide +kernel
theorem dX11_crash_57 : decode cX11_crash 57 = .ok (.invokevirtual 252, 3) := by decide +kernel
theorem dX11_crash_60 : decode cX11_crash 60 = .ok (.istore_n 3, 1) := by decide +kernel
theorem dX11_crash_61 : decode cX11_crash 61 = .ok (.aload_n 2, 1) := by decide +kernel
theorem dX11_crash_62 : decode cX11_crash 62 = .ok (.aload_n 0, 1) := by decide +kernel
theorem dX11_crash_63 : decode cX11_crash 63 = .ok (.getfield 44, 3) := by decide +kernel
theorem dX11_crash_66 : decode cX11_crash 66 = .ok (.invokevirtual 256, 3) := by decide +kernel
theorem dX11_crash_69 : decode cX11_crash 69 = .ok (.iload_n 3, 1) := by decide +kernel
theorem dX11_crash_70 : decode cX11_crash 70 = .ok (.ireturn, 1) := by decide +kernel
theorem dX11_recover_0 : decode cX11_recover 0 = .ok (.aload_n 0, 1) := by decide +kernel
theorem dX11_recover_1 : decode cX11_recover 1 = .ok (.getfield 23, 3) := by decide +kernel
theorem dX11_recover_4 : decode cX11_recover 4 = .ok (.getfield 112, 3) := by decide +kernel
theorem dX11_recover_7 : decode cX11_recover 7 = .ok (.astore_n 1, 1) := by decide +kernel
theorem dX11_recover_8 : decode cX11_recover 8 = .ok (.aload_n 1, 1) := by decide +kernel
theorem dX11_recover_9 : decode cX11_recover 9 = .ok (.getfield 113, 3) := by decide +kernel
theorem dX11_recover_12 : decode cX11_recover 12 = .ok (.iconst 1, 1) := by decide +kernel
theorem dX11_recover_13 : decode cX11_recover 13 = .ok (.if_icmp .eq 8, 3) := by decide +kernel
theorem dX11_recover_16 : decode cX11_recover 16 = .ok (.aload_n 0, 1) := by decide +kernel
theorem dX11_recover_17 : decode cX11_recover 17 = .ok (.invokevirtual 232, 3) := by decide +kernel
theorem dX11_recover_20 : decode cX11_recover 20 = .ok (.ireturn, 1) := by decide +kernel
theorem dX11_recover_21 : decode cX11_recover 21 = .ok (.aload_n 0, 1) := by decide +kernel
theorem dX11_recover_22 : decode cX11_recover 22 = .ok (.getfield 23, 3) := by decide +kernel
theorem dX11_recover_25 : decode cX11_recover 25 = .ok (.getfield 140, 3) := by decide +kernel
theorem dX11_recover_28 : decode cX11_recover 28 = .ok (.aload_n 1, 1) := by decide +kernel
theorem dX11_recover_29 : decode cX11_recover 29 = .ok (.invokevirtual 235, 3) := by decide +kernel
theorem dX11_recover_32 : decode cX11_recover 32 = .ok (.aload_n 1, 1) := by decide +kernel
theorem dX11_recover_33 : decode cX11_recover 33 = .ok (.aload_n 0, 1) := by decide +kernel
theorem dX11_recover_34 : decode cX11_recover 34 = .ok (.getfield 37, 3) := by decide +kernel
theorem dX11_recover_37 : decode cX11_recover 37 = .ok (.invokevirtual 260, 3) := by decide +kernel
theorem dX11_recover_40 : decode cX11_recover 40 = .ok (.aload_n 1, 1) := by decide +kernel
theorem dX11_recover_41 : decode cX11_recover 41 = .ok (.invokevirtual 127, 3) := by decide +kernel
theorem dX11_recover_44 : decode cX11_recover 44 = .ok (.ireturn, 1) := by decide +kernel
theorem dX11_later_0 : decode cX11_later 0 = .ok (.iload_n 1, 1) := by decide +kernel
theorem dX11_later_1 : decode cX11_later 1 = .ok (.ifCond .lt 8, 3) := by decide +kernel
theorem dX11_later_4 : decode cX11_later 4 = .ok (.iload_n 1, 1) := by decide +kernel
theorem dX11_later_5 : decode cX11_later 5 = .ok (.iconst 5, 1) := by decide +kernel
theorem dX11_later_6 : decode cX11_later 6 = .ok (.if_icmp .lt 14, 3) := by decide +kernel
theorem dX11_later_9 : decode cX11_later 9 = .ok (.new 155, 3) := by decide +kernel
theorem dX11_later_12 : decode cX11_later 12 = .ok (.dup, 1) := by decide +kernel
theorem dX11_later_13 : decode cX11_later 13 = .ok (.ldc_w 264, 3) := by decide +kernel
theorem dX11_later_16 : decode cX11_later 16 = .ok (.invokespecial 159, 3) := by decide +kernel
theorem dX11_later_19 : decode cX11_later 19 = .ok (.athrow, 1) := by decide +kernel
theorem dX11_later_20 : decode cX11_later 20 = .ok (.aload_n 0, 1) := by decide +kernel
theorem dX11_later_21 : decode cX11_later 21 = .ok (.getfield 23, 3) := by decide +kernel
theorem dX11_later_24 : decode cX11_later 24 = .ok (.getfield 112, 3) := by decide +kernel
theorem dX11_later_27 : decode cX11_later 27 = .ok (.astore 4, 2) := by decide +kernel
theorem dX11_later_29 : decode cX11_later 29 = .ok (.aload 4, 2) := by decide +kernel
theorem dX11_later_31 : decode cX11_later 31 = .ok (.getfield 124, 3) := by decide +kernel
theorem dX11_later_34 : decode cX11_later 34 = .ok (.bipush 12, 2) := by decide +kernel
theorem dX11_later_36 : decode cX11_later 36 = .ok (.if_icmp .ge 12, 3) := by decide +kernel
theorem dX11_later_39 : decode cX11_later 39 = .ok (.iload_n 1, 1) := by decide +kernel
theorem dX11_later_40 : decode cX11_later 40 = .ok (.iload_n 2, 1) := by decide +kernel
theorem dX11_later_41 : decode cX11_later 41 = .ok (.iload_n 3, 1) := by decide +kernel
theorem dX11_later_42 : decode cX11_later 42 = .ok (.invokestatic 266, 3) := by decide +kernel
theorem dX11_later_45 : decode cX11_later 45 = .ok (.ifCond .ne 8, 3) := by decide +kernel
theorem dX11_later_48 : decode cX11_later 48 = .ok (.aload_n 0, 1) := by decide +kernel
theorem dX11_later_49 : decode cX11_later 49 = .ok (.invokevirtual 232, 3) := by decide +kernel
theorem dX11_later_52 : decode cX11_later 52 = .ok (.ireturn, 1) := by decide +kernel
theorem dX11_later_53 : decode cX11_later 53 = .ok (.aload_n 0, 1) := by decide +kernel
theorem dX11_later_54 : decode cX11_later 54 = .ok (.getfield 23, 3) := by decide +kernel
theorem dX11_later_57 : decode cX11_later 57 = .ok (.getfield 140, 3) := by decide +kernel
theorem dX11_later_60 : decode cX11_later 60 = .ok (.aload 4, 2) := by decide +kernel
theorem dX11_later_62 : decode cX11_later 62 = .ok (.invokevirtual 235, 3) := by decide +kernel
theorem dX11_later_65 : decode cX11_later 65 = .ok (.aload 4, 2) := by decide +kernel
theorem dX11_later_67 : decode cX11_later 67 = .ok (.iload_n 1, 1) := by decide +kernel
theorem dX11_later_68 : decode cX11_later 68 = .ok (.iload_n 2, 1) := by decide +kernel
theorem dX11_later_69 : decode cX11_later 69 = .ok (.iload_n 3, 1) := by decide +kernel
theorem dX11_later_70 : decode cX11_later 70 = .ok (.invokestatic 270, 3) := by decide +kernel
theorem dX11_later_73 : decode cX11_later 73 = .ok (.invokevirtual 274, 3) := by decide +kernel
theorem dX11_later_76 : decode cX11_later 76 = .ok (.aload 4, 2) := by decide +kernel
theorem dX11_later_78 : decode cX11_later 78 = .ok (.getfield 124, 3) := by decide +kernel
theorem dX11_later_81 : decode cX11_later 81 = .ok (.ireturn, 1) := by decide +kernel
theorem dX11_isAsTold_0 : decode cX11_isAsTold 0 = .ok (.getstatic 277, 3) := by decide +kernel
theorem dX11_isAsTold_3 : decode cX11_isAsTold 3 = .ok (.iload_n 0, 1) := by decide +kernel
theorem dX11_isAsTold_4 : decode cX11_isAsTold 4 = .ok (.iaload, 1) := by decide +kernel
theorem dX11_isAsTold_5 : decode cX11_isAsTold 5 = .ok (.ifCond .le 23, 3) := by decide +kernel
theorem dX11_isAsTold_8 : decode cX11_isAsTold 8 = .ok (.iload_n 1, 1) := by decide +kernel
theorem dX11_isAsTold_9 : decode cX11_isAsTold 9 = .ok (.getstatic 280, 3) := by decide +kernel
theorem dX11_isAsTold_12 : decode cX11_isAsTold 12 = .ok (.iload_n 0, 1) := by decide +kernel
theorem dX11_isAsTold_13 : decode cX11_isAsTold 13 = .ok (.iaload, 1) := by decide +kernel
theorem dX11_isAsTold_14 : decode cX11_isAsTold 14 = .ok (.if_icmp .lt 12, 3) := by decide +kernel
theorem dX11_isAsTold_17 : decode cX11_isAsTold 17 = .ok (.iload_n 1, 1) := by decide +kernel
theorem dX11_isAsTold_18 : decode cX11_isAsTold 18 = .ok (.getstatic 283, 3) := by decide +kernel
theorem dX11_isAsTold_21 : decode cX11_isAsTold 21 = .ok (.iload_n 0, 1) := by decide +kernel
theorem dX11_isAsTold_22 : decode cX11_isAsTold 22 = .ok (.iaload, 1) := by decide +kernel
theorem dX11_isAsTold_23 : decode cX11_isAsTold 23 = .ok (.if_icmp .le 5, 3) := by decide +kernel
theorem dX11_isAsTold_26 : decode cX11_isAsTold 26 = .ok (.iconst 0, 1) := by decide +kernel
theorem dX11_isAsTold_27 : decode cX11_isAsTold 27 = .ok (.ireturn, 1) := by decide +kernel
theorem dX11_isAsTold_28 : decode cX11_isAsTold 28 = .ok (.getstatic 277, 3) := by decide +kernel
theorem dX11_isAsTold_31 : decode cX11_isAsTold 31 = .ok (.iload_n 0, 1) := by decide +kernel
theorem dX11_isAsTold_32 : decode cX11_isAsTold 32 = .ok (.iaload, 1) := by decide +kernel
theorem dX11_isAsTold_33 : decode cX11_isAsTold 33 = .ok (.iconst 1, 1) := by decide +kernel
theorem dX11_isAsTold_34 : decode cX11_isAsTold 34 = .ok (.if_icmp .le 18, 3) := by decide +kernel
theorem dX11_isAsTold_37 : decode cX11_isAsTold 37 = .ok (.iload_n 2, 1) := by decide +kernel
theorem dX11_isAsTold_38 : decode cX11_isAsTold 38 = .ok (.ifCond .lt 12, 3) := by decide +kernel
theorem dX11_isAsTold_41 : decode cX11_isAsTold 41 = .ok (.iload_n 2, 1) := by decide +kernel
theorem dX11_isAsTold_42 : decode cX11_isAsTold 42 = .ok (.getstatic 286, 3) := by decide +kernel
theorem dX11_isAsTold_45 : decode cX11_isAsTold 45 = .ok (.iload_n 0, 1) := by decide +kernel
theorem dX11_isAsTold_46 : decode cX11_isAsTold 46 = .ok (.iaload, 1) := by decide +kernel
theorem dX11_isAsTold_47 : decode cX11_isAsTold 47 = .ok (.if_icmp .le 5, 3) := by decide +kernel
theorem dX11_isAsTold_50 : decode cX11_isAsTold 50 = .ok (.iconst 0, 1) := by decide +kernel
theorem dX11_isAsTold_51 : decode cX11_isAsTold 51 = .ok (.ireturn, 1) := by decide +kernel
theorem dX11_isAsTold_52 : decode cX11_isAsTold 52 = .ok (.iload_n 0, 1) := by decide +kernel
theorem dX11_isAsTold_53 : decode cX11_isAsTold 53 = .ok (.iconst 2, 1) := by decide +kernel
theorem dX11_isAsTold_54 : decode cX11_isAsTold 54 = .ok (.if_icmp .ne 8, 3) := by decide +kernel
theorem dX11_isAsTold_57 : decode cX11_isAsTold 57 = .ok (.iload_n 1, 1) := by decide +kernel
theorem dX11_isAsTold_58 : decode cX11_isAsTold 58 = .ok (.iload_n 2, 1) := by decide +kernel
theorem dX11_isAsTold_59 : decode cX11_isAsTold 59 = .ok (.if_icmp .eq 7, 3) := by decide +kernel
theorem dX11_isAsTold_62 : decode cX11_isAsTold 62 = .ok (.iconst 1, 1) := by decide +kernel
theorem dX11_isAsTold_63 : decode cX11_isAsTold 63 = .ok (.goto 4, 3) := by decide +kernel
theorem dX11_isAsTold_66 : decode cX11_isAsTold 66 = .ok (.iconst 0, 1) := by decide +kernel
theorem dX11_isAsTold_67 : decode cX11_isAsTold 67 = .ok (.ireturn, 1) := by decide +kernel
theorem dX11_packOp_0 : decode cX11_packOp 0 = .ok (.getstatic 277, 3) := by decide +kernel
theorem dX11_packOp_3 : decode cX11_packOp 3 = .ok (.iload_n 0, 1) := by decide +kernel
theorem dX11_packOp_4 : decode cX11_packOp 4 = .ok (.iaload, 1) := by decide +kernel
theorem dX11_packOp_5 : decode cX11_packOp 5 = .ok (.ifCond .le 7, 3) := by decide +kernel
theorem dX11_packOp_8 : decode cX11_packOp 8 = .ok (.iload_n 1, 1) := by decide +kernel
theorem dX11_packOp_9 : decode cX11_packOp 9 = .ok (.goto 4, 3) := by decide +kernel
theorem dX11_packOp_12 : decode cX11_packOp 12 = .ok (.iconst 0, 1) := by decide +kernel
theorem dX11_packOp_13 : decode cX11_packOp 13 = .ok (.istore_n 3, 1) := by decide +kernel
theorem dX11_packOp_14 : decode cX11_packOp 14 = .ok (.getstatic 277, 3) := by decide +kernel
theorem dX11_packOp_17 : decode cX11_packOp 17 = .ok (.iload_n 0, 1) := by decide +kernel
theorem dX11_packOp_18 : decode cX11_packOp 18 = .ok (.iaload, 1) := by decide +kernel
theorem dX11_packOp_19 : decode cX11_packOp 19 = .ok (.iconst 1, 1) := by decide +kernel
theorem dX11_packOp_20 : decode cX11_packOp 20 = .ok (.if_icmp .le 7, 3) := by decide +kernel
theorem dX11_packOp_23 : decode cX11_packOp 23 = .ok (.iload_n 2, 1) := by decide +kernel
theorem dX11_packOp_24 : decode cX11_packOp 24 = .ok (.goto 4, 3) := by decide +kernel
theorem dX11_packOp_27 : decode cX11_packOp 27 = .ok (.iconst 0, 1) := by decide +kernel
theorem dX11_packOp_28 : decode cX11_packOp 28 = .ok (.istore 4, 2) := by decide +kernel
theorem dX11_packOp_30 : decode cX11_packOp 30 = .ok (.iload_n 0, 1) := by decide +kernel
theorem dX11_packOp_31 : decode cX11_packOp 31 = .ok (.iconst 1, 1) := by decide +kernel
theorem dX11_packOp_32 : decode cX11_packOp 32 = .ok (.iadd, 1) := by decide +kernel
theorem dX11_packOp_33 : decode cX11_packOp 33 = .ok (.sipush 10000, 3) := by decide +kernel
theorem dX11_packOp_36 : decode cX11_packOp 36 = .ok (.imul, 1) := by decide +kernel
theorem dX11_packOp_37 : decode cX11_packOp 37 = .ok (.iload_n 3, 1) := by decide +kernel
theorem dX11_packOp_38 : decode cX11_packOp 38 = .ok (.bipush 100, 2) := by decide +kernel
theorem dX11_packOp_40 : decode cX11_packOp 40 = .ok (.imul, 1) := by decide +kernel
theorem dX11_packOp_41 : decode cX11_packOp 41 = .ok (.iadd, 1) := by decide +kernel
theorem dX11_packOp_42 : decode cX11_packOp 42 = .ok (.iload 4, 2) := by decide +kernel
theorem dX11_packOp_44 : decode cX11_packOp 44 = .ok (.iadd, 1) := by decide +kernel
theorem dX11_packOp_45 : decode cX11_packOp 45 = .ok (.ireturn, 1) := by decide +kernel
theorem dX11_site_0 : decode cX11_site 0 = .ok (.iload_n 1, 1) := by decide +kernel
theorem dX11_site_1 : decode cX11_site 1 = .ok (.ifCond .lt 9, 3) := by decide +kernel
theorem dX11_site_4 : decode cX11_site 4 = .ok (.iload_n 1, 1) := by decide +kernel
theorem dX11_site_5 : decode cX11_site 5 = .ok (.bipush 7, 2) := by decide +kernel
theorem dX11_site_7 : decode cX11_site 7 = .ok (.if_icmp .lt 14, 3) := by decide +kernel
theorem dX11_site_10 : decode cX11_site 10 = .ok (.new 155, 3) := by decide +kernel
theorem dX11_site_13 : decode cX11_site 13 = .ok (.dup, 1) := by decide +kernel
theorem dX11_site_14 : decode cX11_site 14 = .ok (.ldc_w 289, 3) := by decide +kernel
theorem dX11_site_17 : decode cX11_site 17 = .ok (.invokespecial 159, 3) := by decide +kernel
theorem dX11_site_20 : decode cX11_site 20 = .ok (.athrow, 1) := by decide +kernel
theorem dX11_site_21 : decode cX11_site 21 = .ok (.aload_n 0, 1) := by decide +kernel
theorem dX11_site_22 : decode cX11_site 22 = .ok (.getfield 23, 3) := by decide +kernel
theorem dX11_site_25 : decode cX11_site 25 = .ok (.getfield 140, 3) := by decide +kernel
theorem dX11_site_28 : decode cX11_site 28 = .ok (.aload_n 0, 1) := by decide +kernel
theorem dX11_site_29 : decode cX11_site 29 = .ok (.getfield 23, 3) := by decide +kernel
theorem dX11_site_32 : decode cX11_site 32 = .ok (.getfield 112, 3) := by decide +kernel
theorem dX11_site_35 : decode cX11_site 35 = .ok (.invokevirtual 235, 3) := by decide +kernel
theorem dX11_site_38 : decode cX11_site 38 = .ok (.aload_n 0, 1) := by decide +kernel
theorem dX11_site_39 : decode cX11_site 39 = .ok (.getfield 23, 3) := by decide +kernel
theorem dX11_site_42 : decode cX11_site 42 = .ok (.getfield 112, 3) := by decide +kernel
theorem dX11_site_45 : decode cX11_site 45 = .ok (.dup, 1) := by decide +kernel
theorem dX11_site_46 : decode cX11_site 46 = .ok (.getfield 121, 3) := by decide +kernel
theorem dX11_site_49 : decode cX11_site 49 = .ok (.iconst 1, 1) := by decide +kernel
theorem dX11_site_50 : decode cX11_site 50 = .ok (.iload_n 1, 1) := by decide +kernel
theorem dX11_site_51 : decode cX11_site 51 = .ok (.ishl, 1) := by decide +kernel
theorem dX11_site_52 : decode cX11_site 52 = .ok (.ixor, 1) := by decide +kernel
theorem dX11_site_53 : decode cX11_site 53 = .ok (.putfield 121, 3) := by decide +kernel
theorem dX11_site_56 : decode cX11_site 56 = .ok (.aload_n 0, 1) := by decide +kernel
theorem dX11_site_57 : decode cX11_site 57 = .ok (.getfield 23, 3) := by decide +kernel
theorem dX11_site_60 : decode cX11_site 60 = .ok (.getfield 112, 3) := by decide +kernel
theorem dX11_site_63 : decode cX11_site 63 = .ok (.getfield 121, 3) := by decide +kernel
theorem dX11_site_66 : decode cX11_site 66 = .ok (.ireturn, 1) := by decide +kernel
theorem dX11_undo_0 : decode cX11_undo 0 = .ok (.aload_n 0, 1) := by decide +kernel
theorem dX11_undo_1 : decode cX11_undo 1 = .ok (.getfield 23, 3) := by decide +kernel
theorem dX11_undo_4 : decode cX11_undo 4 = .ok (.getfield 140, 3) := by decide +kernel
theorem dX11_undo_7 : decode cX11_undo 7 = .ok (.aload_n 0, 1) := by decide +kernel
theorem dX11_undo_8 : decode cX11_undo 8 = .ok (.getfield 23, 3) := by decide +kernel
theorem dX11_undo_11 : decode cX11_undo 11 = .ok (.getfield 112, 3) := by decide +kernel
theorem dX11_undo_14 : decode cX11_undo 14 = .ok (.invokevirtual 291, 3) := by decide +kernel
theorem dX11_undo_17 : decode cX11_undo 17 = .ok (.ifCond .ne 5, 3) := by decide +kernel
theorem dX11_undo_20 : decode cX11_undo 20 = .ok (.iconst (-1), 1) := by decide +kernel
theorem dX11_undo_21 : decode cX11_undo 21 = .ok (.ireturn, 1) := by decide +kernel
theorem dX11_undo_22 : decode cX11_undo 22 = .ok (.aload_n 0, 1) := by decide +kernel
theorem dX11_undo_23 : decode cX11_undo 23 = .ok (.getfield 23, 3) := by decide +kernel
theorem dX11_undo_26 : decode cX11_undo 26 = .ok (.getfield 140, 3) := by decide +kernel
theorem dX11_undo_29 : decode cX11_undo 29 = .ok (.getfield 144, 3) := by decide +kernel
theorem dX11_undo_32 : decode cX11_undo 32 = .ok (.ireturn, 1) := by decide +kernel
theorem dX11_recovered_0 : decode cX11_recovered 0 = .ok (.iload_n 2, 1) := by decide +kernel
theorem dX11_recovered_1 : decode cX11_recovered 1 = .ok (.invokestatic 160, 3) := by decide +kernel
theorem dX11_recovered_4 : decode cX11_recovered 4 = .ok (.ifCond .ne 13, 3) := by decide +kernel
theorem dX11_recovered_7 : decode cX11_recovered 7 = .ok (.new 155, 3) := by decide +kernel
theorem dX11_recovered_10 : decode cX11_recovered 10 = .ok (.dup, 1) := by decide +kernel
theorem dX11_recovered_11 : decode cX11_recovered 11 = .ok (.ldc 164, 2) := by decide +kernel
theorem dX11_recovered_13 : decode cX11_recovered 13 = .ok (.invokespecial 159, 3) := by decide +kernel
theorem dX11_recovered_16 : decode cX11_recovered 16 = .ok (.athrow, 1) := by decide +kernel
theorem dX11_recovered_17 : decode cX11_recovered 17 = .ok (.aload_n 0, 1) := by decide +kernel
theorem dX11_recovered_18 : decode cX11_recovered 18 = .ok (.iload_n 1, 1) := by decide +kernel
theorem dX11_recovered_19 : decode cX11_recovered 19 = .ok (.invokevirtual 245, 3) := by decide +kernel
theorem dX11_recovered_22 : decode cX11_recovered 22 = .ok (.ifCond .ne 14, 3) := by decide +kernel
theorem dX11_recovered_25 : decode cX11_recovered 25 = .ok (.new 87, 3) := by decide +kernel
theorem dX11_recovered_28 : decode cX11_recovered 28 = .ok (.dup, 1) := by decide +kernel
theorem dX11_recovered_29 : decode cX11_recovered 29 = .ok (.ldc_w 295, 3) := by decide +kernel
theorem dX11_recovered_32 : decode cX11_recovered 32 = .ok (.invokespecial 91, 3) := by decide +kernel
theorem dX11_recovered_35 : decode cX11_recovered 35 = .ok (.athrow, 1) := by decide +kernel
theorem dX11_recovered_36 : decode cX11_recovered 36 = .ok (.aload_n 0, 1) := by decide +kernel
theorem dX11_recovered_37 : decode cX11_recovered 37 = .ok (.getfield 44, 3) := by decide +kernel
theorem dX11_recovered_40 : decode cX11_recovered 40 = .ok (.aload_n 0, 1) := by decide +kernel
theorem dX11_recovered_41 : decode cX11_recovered 41 = .ok (.getfield 23, 3) := by decide +kernel
theorem dX11_recovered_44 : decode cX11_recovered 44 = .ok (.getfield 112, 3) := by decide +kernel
theorem dX11_recovered_47 : decode cX11_recovered 47 = .ok (.getfield 131, 3) := by decide +kernel
theorem dX11_recovered_50 : decode cX11_recovered 50 = .ok (.iload_n 1, 1) := by decide +kernel
theorem dX11_recovered_51 : decode cX11_recovered 51 = .ok (.invokevirtual 248, 3) := by decide +kernel
theorem dX11_recovered_54 : decode cX11_recovered 54 = .ok (.aload_n 0, 1) := by decide +kernel
theorem dX11_recovered_55 : decode cX11_recovered 55 = .ok (.getfield 44, 3) := by decide +kernel
theorem dX11_recovered_58 : decode cX11_recovered 58 = .ok (.aload_n 0, 1) := by decide +kernel
theorem dX11_recovered_59 : decode cX11_recovered 59 = .ok (.getfield 23, 3) := by decide +kernel
theorem dX11_recovered_62 : decode cX11_recovered 62 = .ok (.getfield 112, 3) := by decide +kernel
theorem dX11_recovered_65 : decode cX11_recovered 65 = .ok (.getfield 118, 3) := by decide +kernel
theorem dX11_recovered_68 : decode cX11_recovered 68 = .ok (.invokevirtual 216, 3) := by decide +kernel
theorem dX11_recovered_71 : decode cX11_recovered 71 = .ok (.aload_n 0, 1) := by decide +kernel
theorem dX11_recovered_72 : decode cX11_recovered 72 = .ok (.getfield 44, 3) := by decide +kernel
theorem dX11_recovered_75 : decode cX11_recovered 75 = .ok (.getfield 222, 3) := by decide +kernel
theorem dX11_recovered_78 : decode cX11_recovered 78 = .ok (.iload_n 2, 1) := by decide +kernel
theorem dX11_recovered_79 : decode cX11_recovered 79 = .ok (.iaload, 1) := by decide +kernel
theorem dX11_recovered_80 : decode cX11_recovered 80 = .ok (.ireturn, 1) := by decide +kernel
theorem dX11_fate_0 : decode cX11_fate 0 = .ok (.aload_n 0, 1) := by decide +kernel
theorem dX11_fate_1 : decode cX11_fate 1 = .ok (.iload_n 1, 1) := by decide +kernel
theorem dX11_fate_2 : decode cX11_fate 2 = .ok (.invokevirtual 245, 3) := by decide +kernel
theorem dX11_fate_5 : decode cX11_fate 5 = .ok (.ifCond .ne 14, 3) := by decide +kernel
theorem dX11_fate_8 : decode cX11_fate 8 = .ok (.new 87, 3) := by decide +kernel
theorem dX11_fate_11 : decode cX11_fate 11 = .ok (.dup, 1) := by decide +kernel
theorem dX11_fate_12 : decode cX11_fate 12 = .ok (.ldc_w 295, 3) := by decide +kernel
theorem dX11_fate_15 : decode cX11_fate 15 = .ok (.invokespecial 91, 3) := by decide +kernel
theorem dX11_fate_18 : decode cX11_fate 18 = .ok (.athrow, 1) := by decide +kernel
theorem dX11_fate_19 : decode cX11_fate 19 = .ok (.aload_n 0, 1) := by decide +kernel
theorem dX11_fate_20 : decode cX11_fate 20 = .ok (.getfield 44, 3) := by decide +kernel
theorem dX11_fate_23 : decode cX11_fate 23 = .ok (.aload_n 0, 1) := by decide +kernel
theorem dX11_fate_24 : decode cX11_fate 24 = .ok (.getfield 23, 3) := by decide +kernel
theorem dX11_fate_27 : decode cX11_fate 27 = .ok (.getfield 112, 3) := by decide +kernel
theorem dX11_fate_30 : decode cX11_fate 30 = .ok (.getfield 131, 3) := by decide +kernel
theorem dX11_fate_33 : decode cX11_fate 33 = .ok (.iload_n 1, 1) := by decide +kernel
theorem dX11_fate_34 : decode cX11_fate 34 = .ok (.invokevirtual 248, 3) := by decide +kernel
theorem dX11_fate_37 : decode cX11_fate 37 = .ok (.aload_n 0, 1) := by decide +kernel
theorem dX11_fate_38 : decode cX11_fate 38 = .ok (.getfield 44, 3) := by decide +kernel
theorem dX11_fate_41 : decode cX11_fate 41 = .ok (.aload_n 0, 1) := by decide +kernel
theorem dX11_fate_42 : decode cX11_fate 42 = .ok (.getfield 23, 3) := by decide +kernel
theorem dX11_fate_45 : decode cX11_fate 45 = .ok (.getfield 112, 3) := by decide +kernel
theorem dX11_fate_48 : decode cX11_fate 48 = .ok (.invokevirtual 252, 3) := by decide +kernel
theorem dX11_fate_51 : decode cX11_fate 51 = .ok (.ireturn, 1) := by decide +kernel
theorem dX11_check_0 : decode cX11_check 0 = .ok (.iload_n 1, 1) := by decide +kernel
theorem dX11_check_1 : decode cX11_check 1 = .ok (.ifCond .lt 8, 3) := by decide +kernel
theorem dX11_check_4 : decode cX11_check 4 = .ok (.iload_n 1, 1) := by decide +kernel
theorem dX11_check_5 : decode cX11_check 5 = .ok (.iconst 2, 1) := by decide +kernel
theorem dX11_check_6 : decode cX11_check 6 = .ok (.if_icmp .le 14, 3) := by decide +kernel
theorem dX11_check_9 : decode cX11_check 9 = .ok (.new 155, 3) := by decide +kernel
theorem dX11_check_12 : decode cX11_check 12 = .ok (.dup, 1) := by decide +kernel
theorem dX11_check_13 : decode cX11_check 13 = .ok (.ldc_w 297, 3) := by decide +kernel
theorem dX11_check_16 : decode cX11_check 16 = .ok (.invokespecial 159, 3) := by decide +kernel
theorem dX11_check_19 : decode cX11_check 19 = .ok (.athrow, 1) := by decide +kernel
theorem dX11_check_20 : decode cX11_check 20 = .ok (.aload_n 0, 1) := by decide +kernel
theorem dX11_check_21 : decode cX11_check 21 = .ok (.getfield 65, 3) := by decide +kernel
theorem dX11_check_24 : decode cX11_check 24 = .ok (.aload_n 0, 1) := by decide +kernel
theorem dX11_check_25 : decode cX11_check 25 = .ok (.getfield 23, 3) := by decide +kernel
theorem dX11_check_28 : decode cX11_check 28 = .ok (.getfield 112, 3) := by decide +kernel
theorem dX11_check_31 : decode cX11_check 31 = .ok (.aload_n 0, 1) := by decide +kernel
theorem dX11_check_32 : decode cX11_check 32 = .ok (.getfield 23, 3) := by decide +kernel
theorem dX11_check_35 : decode cX11_check 35 = .ok (.getfield 112, 3) := by decide +kernel
theorem dX11_check_38 : decode cX11_check 38 = .ok (.getfield 121, 3) := by decide +kernel
theorem dX11_check_41 : decode cX11_check 41 = .ok (.iconst 0, 1) := by decide +kernel
theorem dX11_check_42 : decode cX11_check 42 = .ok (.invokevirtual 299, 3) := by decide +kernel
theorem dX11_check_45 : decode cX11_check 45 = .ok (.iload_n 1, 1) := by decide +kernel
theorem dX11_check_46 : decode cX11_check 46 = .ok (.ifCond .ne 26, 3) := by decide +kernel
theorem dX11_check_49 : decode cX11_check 49 = .ok (.aload_n 0, 1) := by decide +kernel
theorem dX11_check_50 : decode cX11_check 50 = .ok (.getfield 65, 3) := by decide +kernel
theorem dX11_check_53 : decode cX11_check 53 = .ok (.getfield 303, 3) := by decide +kernel
theorem dX11_check_56 : decode cX11_check 56 = .ok (.ifCond .eq 8, 3) := by decide +kernel
theorem dX11_check_59 : decode cX11_check 59 = .ok (.bipush (-2), 2) := by decide +kernel
theorem dX11_check_61 : decode cX11_check 61 = .ok (.goto 10, 3) := by decide +kernel
theorem dX11_check_64 : decode cX11_check 64 = .ok (.aload_n 0, 1) := by decide +kernel
theorem dX11_check_65 : decode cX11_check 65 = .ok (.getfield 65, 3) := by decide +kernel
theorem dX11_check_68 : decode cX11_check 68 = .ok (.getfield 306, 3) := by decide +kernel
theorem dX11_check_71 : decode cX11_check 71 = .ok (.ireturn, 1) := by decide +kernel
theorem dX11_check_72 : decode cX11_check 72 = .ok (.aload_n 0, 1) := by decide +kernel
theorem dX11_check_73 : decode cX11_check 73 = .ok (.getfield 65, 3) := by decide +kernel
theorem dX11_check_76 : decode cX11_check 76 = .ok (.getfield 306, 3) := by decide +kernel
theorem dX11_check_79 : decode cX11_check 79 = .ok (.ifCond .ne 20, 3) := by decide +kernel
theorem dX11_check_82 : decode cX11_check 82 = .ok (.aload_n 0, 1) := by decide +kernel
theorem dX11_check_83 : decode cX11_check 83 = .ok (.getfield 65, 3) := by decide +kernel
theorem dX11_check_86 : decode cX11_check 86 = .ok (.getfield 303, 3) := by decide +kernel
theorem dX11_check_89 : decode cX11_check 89 = .ok (.ifCond .eq 8, 3) := by decide +kernel
theorem dX11_check_92 : decode cX11_check 92 = .ok (.bipush (-2), 2) := by decide +kernel
theorem dX11_check_94 : decode cX11_check 94 = .ok (.goto 4, 3) := by decide +kernel
theorem dX11_check_97 : decode cX11_check 97 = .ok (.iconst (-1), 1) := by decide +kernel
theorem dX11_check_98 : decode cX11_check 98 = .ok (.ireturn, 1) := by decide +kernel
theorem dX11_check_99 : decode cX11_check 99 = .ok (.iload_n 1, 1) := by decide +kernel
theorem dX11_check_100 : decode cX11_check 100 = .ok (.iconst 1, 1) := by decide +kernel
theorem dX11_check_101 : decode cX11_check 101 = .ok (.if_icmp .ne 13, 3) := by decide +kernel
theorem dX11_check_104 : decode cX11_check 104 = .ok (.aload_n 0, 1) := by decide +kernel
theorem dX11_check_105 : decode cX11_check 105 = .ok (.getfield 65, 3) := by decide +kernel
theorem dX11_check_108 : decode cX11_check 108 = .ok (.getfield 309, 3) := by decide +kernel
theorem dX11_check_111 : decode cX11_check 111 = .ok (.goto 10, 3) := by decide +kernel
theorem dX11_check_114 : decode cX11_check 114 = .ok (.aload_n 0, 1) := by decide +kernel
theorem dX11_check_115 : decode cX11_check 115 = .ok (.getfield 65, 3) := by decide +kernel
theorem dX11_check_118 : decode cX11_check 118 = .ok (.getfield 312, 3) := by decide +kernel
theorem dX11_check_121 : decode cX11_check 121 = .ok (.ireturn, 1) := by decide +kernel
theorem dX11_needless_0 : decode cX11_needless 0 = .ok (.aload_n 0, 1) := by decide +kernel
theorem dX11_needless_1 : decode cX11_needless 1 = .ok (.getfield 23, 3) := by decide +kernel
theorem dX11_needless_4 : decode cX11_needless 4 = .ok (.getfield 112, 3) := by decide +kernel
theorem dX11_needless_7 : decode cX11_needless 7 = .ok (.astore_n 1, 1) := by decide +kernel
theorem dX11_needless_8 : decode cX11_needless 8 = .ok (.aload_n 1, 1) := by decide +kernel
theorem dX11_needless_9 : decode cX11_needless 9 = .ok (.aload_n 0, 1) := by decide +kernel
theorem dX11_needless_10 : decode cX11_needless 10 = .ok (.getfield 37, 3) := by decide +kernel
theorem dX11_needless_13 : decode cX11_needless 13 = .ok (.invokevirtual 315, 3) := by decide +kernel
theorem dX11_needless_16 : decode cX11_needless 16 = .ok (.ifCond .ne 5, 3) := by decide +kernel
theorem dX11_needless_19 : decode cX11_needless 19 = .ok (.iconst (-1), 1) := by decide +kernel
theorem dX11_needless_20 : decode cX11_needless 20 = .ok (.ireturn, 1) := by decide +kernel
theorem dX11_needless_21 : decode cX11_needless 21 = .ok (.iconst 0, 1) := by decide +kernel
theorem dX11_needless_22 : decode cX11_needless 22 = .ok (.istore_n 2, 1) := by decide +kernel
theorem dX11_needless_23 : decode cX11_needless 23 = .ok (.iconst 0, 1) := by decide +kernel
theorem dX11_needless_24 : decode cX11_needless 24 = .ok (.istore_n 3, 1) := by decide +kernel
theorem dX11_needless_25 : decode cX11_needless 25 = .ok (.iload_n 3, 1) := by decide +kernel
theorem dX11_needless_26 : decode cX11_needless 26 = .ok (.bipush 7, 2) := by decide +kernel
theorem dX11_needless_28 : decode cX11_needless 28 = .ok (.if_icmp .ge 59, 3) := by decide +kernel
theorem dX11_needless_31 : decode cX11_needless 31 = .ok (.aload_n 1, 1) := by decide +kernel
theorem dX11_needless_32 : decode cX11_needless 32 = .ok (.getfield 121, 3) := by decide +kernel
theorem dX11_needless_35 : decode cX11_needless 35 = .ok (.iconst 1, 1) := by decide +kernel
theorem dX11_needless_36 : decode cX11_needless 36 = .ok (.iload_n 3, 1) := by decide +kernel
theorem dX11_needless_37 : decode cX11_needless 37 = .ok (.ishl, 1) := by decide +kernel
theorem dX11_needless_38 : decode cX11_needless 38 = .ok (.ior, 1) := by decide +kernel
theorem dX11_needless_39 : decode cX11_needless 39 = .ok (.istore 4, 2) := by decide +kernel
theorem dX11_needless_41 : decode cX11_needless 41 = .ok (.iload 4, 2) := by decide +kernel
theorem dX11_needless_43 : decode cX11_needless 43 = .ok (.aload_n 1, 1) := by decide +kernel
theorem dX11_needless_44 : decode cX11_needless 44 = .ok (.getfield 121, 3) := by decide +kernel
theorem dX11_needless_47 : decode cX11_needless 47 = .ok (.if_icmp .eq 34, 3) := by decide +kernel
theorem dX11_needless_50 : decode cX11_needless 50 = .ok (.aload_n 0, 1) := by decide +kernel
theorem dX11_needless_51 : decode cX11_needless 51 = .ok (.getfield 65, 3) := by decide +kernel
theorem dX11_needless_54 : decode cX11_needless 54 = .ok (.aload_n 1, 1) := by decide +kernel
theorem dX11_needless_55 : decode cX11_needless 55 = .ok (.iload 4, 2) := by decide +kernel
theorem dX11_needless_57 : decode cX11_needless 57 = .ok (.iconst 1, 1) := by decide +kernel
theorem dX11_needless_58 : decode cX11_needless 58 = .ok (.invokevirtual 299, 3) := by decide +kernel
theorem dX11_needless_61 : decode cX11_needless 61 = .ok (.iload_n 2, 1) := by decide +kernel
theorem dX11_needless_62 : decode cX11_needless 62 = .ok (.aload_n 0, 1) := by decide +kernel
theorem dX11_needless_63 : decode cX11_needless 63 = .ok (.getfield 65, 3) := by decide +kernel
theorem dX11_needless_66 : decode cX11_needless 66 = .ok (.invokevirtual 318, 3) := by decide +kernel
theorem dX11_needless_69 : decode cX11_needless 69 = .ok (.ifCond .eq 9, 3) := by decide +kernel
theorem dX11_needless_72 : decode cX11_needless 72 = .ok (.iconst 1, 1) := by decide +kernel
theorem dX11_needless_73 : decode cX11_needless 73 = .ok (.iload_n 3, 1) := by decide +kernel
theorem dX11_needless_74 : decode cX11_needless 74 = .ok (.ishl, 1) := by decide +kernel
theorem dX11_needless_75 : decode cX11_needless 75 = .ok (.goto 4, 3) := by decide +kernel
theorem dX11_needless_78 : decode cX11_needless 78 = .ok (.iconst 0, 1) := by decide +kernel
theorem dX11_needless_79 : decode cX11_needless 79 = .ok (.ior, 1) := by decide +kernel
theorem dX11_needless_80 : decode cX11_needless 80 = .ok (.istore_n 2, 1) := by decide +kernel
theorem dX11_needless_81 : decode cX11_needless 81 = .ok (.iinc 3 1, 3) := by decide +kernel
theorem dX11_needless_84 : decode cX11_needless 84 = .ok (.goto (-59), 3) := by decide +kernel
theorem dX11_needless_87 : decode cX11_needless 87 = .ok (.iload_n 2, 1) := by decide +kernel
theorem dX11_needless_88 : decode cX11_needless 88 = .ok (.ireturn, 1) := by decide +kernel
theorem dX11_least_0 : decode cX11_least 0 = .ok (.iload_n 1, 1) := by decide +kernel
theorem dX11_least_1 : decode cX11_least 1 = .ok (.ifCond .lt 8, 3) := by decide +kernel
theorem dX11_least_4 : decode cX11_least 4 = .ok (.iload_n 1, 1) := by decide +kernel
theorem dX11_least_5 : decode cX11_least 5 = .ok (.iconst 1, 1) := by decide +kernel
theorem dX11_least_6 : decode cX11_least 6 = .ok (.if_icmp .le 14, 3) := by decide +kernel
theorem dX11_least_9 : decode cX11_least 9 = .ok (.new 155, 3) := by decide +kernel
theorem dX11_least_12 : decode cX11_least 12 = .ok (.dup, 1) := by decide +kernel
theorem dX11_least_13 : decode cX11_least 13 = .ok (.ldc_w 322, 3) := by decide +kernel
theorem dX11_least_16 : decode cX11_least 16 = .ok (.invokespecial 159, 3) := by decide +kernel
theorem dX11_least_19 : decode cX11_least 19 = .ok (.athrow, 1) := by decide +kernel
theorem dX11_least_20 : decode cX11_least 20 = .ok (.aload_n 0, 1) := by decide +kernel
theorem dX11_least_21 : decode cX11_least 21 = .ok (.getfield 23, 3) := by decide +kernel
theorem dX11_least_24 : decode cX11_least 24 = .ok (.getfield 112, 3) := by decide +kernel
theorem dX11_least_27 : decode cX11_least 27 = .ok (.astore_n 2, 1) := by decide +kernel
theorem dX11_least_28 : decode cX11_least 28 = .ok (.aload_n 2, 1) := by decide +kernel
theorem dX11_least_29 : decode cX11_least 29 = .ok (.aload_n 0, 1) := by decide +kernel
theorem dX11_least_30 : decode cX11_least 30 = .ok (.getfield 37, 3) := by decide +kernel
theorem dX11_least_33 : decode cX11_least 33 = .ok (.invokevirtual 315, 3) := by decide +kernel
theorem dX11_least_36 : decode cX11_least 36 = .ok (.ifCond .ne 5, 3) := by decide +kernel
theorem dX11_least_39 : decode cX11_least 39 = .ok (.iconst (-1), 1) := by decide +kernel
theorem dX11_least_40 : decode cX11_least 40 = .ok (.ireturn, 1) := by decide +kernel
theorem dX11_least_41 : decode cX11_least 41 = .ok (.aload_n 2, 1) := by decide +kernel
theorem dX11_least_42 : decode cX11_least 42 = .ok (.getfield 121, 3) := by decide +kernel
theorem dX11_least_45 : decode cX11_least 45 = .ok (.bipush (-16), 2) := by decide +kernel
theorem dX11_least_47 : decode cX11_least 47 = .ok (.iand, 1) := by decide +kernel
theorem dX11_least_48 : decode cX11_least 48 = .ok (.istore_n 3, 1) := by decide +kernel
theorem dX11_least_49 : decode cX11_least 49 = .ok (.iconst 0, 1) := by decide +kernel
theorem dX11_least_50 : decode cX11_least 50 = .ok (.istore 4, 2) := by decide +kernel
theorem dX11_least_52 : decode cX11_least 52 = .ok (.iload 4, 2) := by decide +kernel
theorem dX11_least_54 : decode cX11_least 54 = .ok (.bipush 15, 2) := by decide +kernel
theorem dX11_least_56 : decode cX11_least 56 = .ok (.invokestatic 324, 3) := by decide +kernel
theorem dX11_least_59 : decode cX11_least 59 = .ok (.if_icmp .gt 75, 3) := by decide +kernel
theorem dX11_least_62 : decode cX11_least 62 = .ok (.iconst 0, 1) := by decide +kernel
theorem dX11_least_63 : decode cX11_least 63 = .ok (.istore 5, 2) := by decide +kernel
theorem dX11_least_65 : decode cX11_least 65 = .ok (.iload 5, 2) := by decide +kernel
theorem dX11_least_67 : decode cX11_least 67 = .ok (.bipush 15, 2) := by decide +kernel
theorem dX11_least_69 : decode cX11_least 69 = .ok (.if_icmp .gt 59, 3) := by decide +kernel
theorem dX11_least_72 : decode cX11_least 72 = .ok (.iload 5, 2) := by decide +kernel
theorem dX11_least_74 : decode cX11_least 74 = .ok (.invokestatic 324, 3) := by decide +kernel
theorem dX11_least_77 : decode cX11_least 77 = .ok (.iload 4, 2) := by decide +kernel
theorem dX11_least_79 : decode cX11_least 79 = .ok (.if_icmp .ne 43, 3) := by decide +kernel
theorem dX11_least_82 : decode cX11_least 82 = .ok (.aload_n 0, 1) := by decide +kernel
theorem dX11_least_83 : decode cX11_least 83 = .ok (.getfield 65, 3) := by decide +kernel
theorem dX11_least_86 : decode cX11_least 86 = .ok (.aload_n 2, 1) := by decide +kernel
theorem dX11_least_87 : decode cX11_least 87 = .ok (.iload_n 3, 1) := by decide +kernel
theorem dX11_least_88 : decode cX11_least 88 = .ok (.bipush 15, 2) := by decide +kernel
theorem dX11_least_90 : decode cX11_least 90 = .ok (.iload 5, 2) := by decide +kernel
theorem dX11_least_92 : decode cX11_least 92 = .ok (.iconst (-1), 1) := by decide +kernel
theorem dX11_least_93 : decode cX11_least 93 = .ok (.ixor, 1) := by decide +kernel
theorem dX11_least_94 : decode cX11_least 94 = .ok (.iand, 1) := by decide +kernel
theorem dX11_least_95 : decode cX11_least 95 = .ok (.ior, 1) := by decide +kernel
theorem dX11_least_96 : decode cX11_least 96 = .ok (.iconst 1, 1) := by decide +kernel
theorem dX11_least_97 : decode cX11_least 97 = .ok (.invokevirtual 299, 3) := by decide +kernel
theorem dX11_least_100 : decode cX11_least 100 = .ok (.aload_n 0, 1) := by decide +kernel
theorem dX11_least_101 : decode cX11_least 101 = .ok (.getfield 65, 3) := by decide +kernel
theorem dX11_least_104 : decode cX11_least 104 = .ok (.invokevirtual 318, 3) := by decide +kernel
theorem dX11_least_107 : decode cX11_least 107 = .ok (.ifCond .eq 15, 3) := by decide +kernel
theorem dX11_least_110 : decode cX11_least 110 = .ok (.iload_n 1, 1) := by decide +kernel
theorem dX11_least_111 : decode cX11_least 111 = .ok (.ifCond .ne 8, 3) := by decide +kernel
theorem dX11_least_114 : decode cX11_least 114 = .ok (.iload 5, 2) := by decide +kernel
theorem dX11_least_116 : decode cX11_least 116 = .ok (.goto 5, 3) := by decide +kernel
theorem dX11_least_119 : decode cX11_least 119 = .ok (.iload 4, 2) := by decide +kernel
theorem dX11_least_121 : decode cX11_least 121 = .ok (.ireturn, 1) := by decide +kernel
theorem dX11_least_122 : decode cX11_least 122 = .ok (.iinc 5 1, 3) := by decide +kernel
theorem dX11_least_125 : decode cX11_least 125 = .ok (.goto (-60), 3) := by decide +kernel
theorem dX11_least_128 : decode cX11_least 128 = .ok (.iinc 4 1, 3) := by decide +kernel
theorem dX11_least_131 : decode cX11_least 131 = .ok (.goto (-79), 3) := by decide +kernel
theorem dX11_least_134 : decode cX11_least 134 = .ok (.iconst (-1), 1) := by decide +kernel
theorem dX11_least_135 : decode cX11_least 135 = .ok (.ireturn, 1) := by decide +kernel
theorem dX11_chance_0 : decode cX11_chance 0 = .ok (.iload_n 1, 1) := by decide +kernel
theorem dX11_chance_1 : decode cX11_chance 1 = .ok (.ifCond .lt 8, 3) := by decide +kernel
theorem dX11_chance_4 : decode cX11_chance 4 = .ok (.iload_n 1, 1) := by decide +kernel
theorem dX11_chance_5 : decode cX11_chance 5 = .ok (.iconst 1, 1) := by decide +kernel
theorem dX11_chance_6 : decode cX11_chance 6 = .ok (.if_icmp .le 14, 3) := by decide +kernel
theorem dX11_chance_9 : decode cX11_chance 9 = .ok (.new 155, 3) := by decide +kernel
theorem dX11_chance_12 : decode cX11_chance 12 = .ok (.dup, 1) := by decide +kernel
theorem dX11_chance_13 : decode cX11_chance 13 = .ok (.ldc_w 329, 3) := by decide +kernel
theorem dX11_chance_16 : decode cX11_chance 16 = .ok (.invokespecial 159, 3) := by decide +kernel
theorem dX11_chance_19 : decode cX11_chance 19 = .ok (.athrow, 1) := by decide +kernel
theorem dX11_chance_20 : decode cX11_chance 20 = .ok (.aload_n 0, 1) := by decide +kernel
theorem dX11_chance_21 : decode cX11_chance 21 = .ok (.getfield 23, 3) := by decide +kernel
theorem dX11_chance_24 : decode cX11_chance 24 = .ok (.getfield 112, 3) := by decide +kernel
theorem dX11_chance_27 : decode cX11_chance 27 = .ok (.astore_n 2, 1) := by decide +kernel
theorem dX11_chance_28 : decode cX11_chance 28 = .ok (.aload_n 2, 1) := by decide +kernel
theorem dX11_chance_29 : decode cX11_chance 29 = .ok (.getfield 131, 3) := by decide +kernel
theorem dX11_chance_32 : decode cX11_chance 32 = .ok (.invokevirtual 197, 3) := by decide +kernel
theorem dX11_chance_35 : decode cX11_chance 35 = .ok (.ldc2_w 331, 3) := by decide +kernel
theorem dX11_chance_38 : decode cX11_chance 38 = .ok (.lcmp, 1) := by decide +kernel
theorem dX11_chance_39 : decode cX11_chance 39 = .ok (.ifCond .le 5, 3) := by decide +kernel
theorem dX11_chance_42 : decode cX11_chance 42 = .ok (.iconst (-1), 1) := by decide +kernel
theorem dX11_chance_43 : decode cX11_chance 43 = .ok (.ireturn, 1) := by decide +kernel
theorem dX11_chance_44 : decode cX11_chance 44 = .ok (.aload_n 2, 1) := by decide +kernel
theorem dX11_chance_45 : decode cX11_chance 45 = .ok (.getfield 131, 3) := by decide +kernel
theorem dX11_chance_48 : decode cX11_chance 48 = .ok (.invokevirtual 197, 3) := by decide +kernel
theorem dX11_chance_51 : decode cX11_chance 51 = .ok (.l2i, 1) := by decide +kernel
theorem dX11_chance_52 : decode cX11_chance 52 = .ok (.istore_n 3, 1) := by decide +kernel
theorem dX11_chance_53 : decode cX11_chance 53 = .ok (.iconst 0, 1) := by decide +kernel
theorem dX11_chance_54 : decode cX11_chance 54 = .ok (.istore 4, 2) := by decide +kernel
theorem dX11_chance_56 : decode cX11_chance 56 = .ok (.aload_n 0, 1) := by decide +kernel
theorem dX11_chance_57 : decode cX11_chance 57 = .ok (.getfield 44, 3) := by decide +kernel
theorem dX11_chance_60 : decode cX11_chance 60 = .ok (.aload_n 2, 1) := by decide +kernel
theorem dX11_chance_61 : decode cX11_chance 61 = .ok (.getfield 131, 3) := by decide +kernel
theorem dX11_chance_64 : decode cX11_chance 64 = .ok (.invokevirtual 213, 3) := by decide +kernel
theorem dX11_chance_67 : decode cX11_chance 67 = .ok (.iconst 0, 1) := by decide +kernel
theorem dX11_chance_68 : decode cX11_chance 68 = .ok (.istore 5, 2) := by decide +kernel
theorem dX11_chance_70 : decode cX11_chance 70 = .ok (.iload 5, 2) := by decide +kernel
theorem dX11_chance_72 : decode cX11_chance 72 = .ok (.iload_n 3, 1) := by decide +kernel
theorem dX11_chance_73 : decode cX11_chance 73 = .ok (.if_icmp .ge 52, 3) := by decide +kernel
theorem dX11_chance_76 : decode cX11_chance 76 = .ok (.aload_n 0, 1) := by decide +kernel
theorem dX11_chance_77 : decode cX11_chance 77 = .ok (.getfield 44, 3) := by decide +kernel
theorem dX11_chance_80 : decode cX11_chance 80 = .ok (.aload_n 2, 1) := by decide +kernel
theorem dX11_chance_81 : decode cX11_chance 81 = .ok (.invokevirtual 252, 3) := by decide +kernel
theorem dX11_chance_84 : decode cX11_chance 84 = .ok (.istore 6, 2) := by decide +kernel
theorem dX11_chance_86 : decode cX11_chance 86 = .ok (.iload 4, 2) := by decide +kernel
theorem dX11_chance_88 : decode cX11_chance 88 = .ok (.iload 6, 2) := by decide +kernel
theorem dX11_chance_90 : decode cX11_chance 90 = .ok (.iconst 1, 1) := by decide +kernel
theorem dX11_chance_91 : decode cX11_chance 91 = .ok (.if_icmp .eq 9, 3) := by decide +kernel
theorem dX11_chance_94 : decode cX11_chance 94 = .ok (.iload 6, 2) := by decide +kernel
theorem dX11_chance_96 : decode cX11_chance 96 = .ok (.iconst 2, 1) := by decide +kernel
theorem dX11_chance_97 : decode cX11_chance 97 = .ok (.if_icmp .ne 7, 3) := by decide +kernel
theorem dX11_chance_100 : decode cX11_chance 100 = .ok (.iconst 1, 1) := by decide +kernel
theorem dX11_chance_101 : decode cX11_chance 101 = .ok (.goto 4, 3) := by decide +kernel
theorem dX11_chance_104 : decode cX11_chance 104 = .ok (.iconst 0, 1) := by decide +kernel
theorem dX11_chance_105 : decode cX11_chance 105 = .ok (.iadd, 1) := by decide +kernel
theorem dX11_chance_106 : decode cX11_chance 106 = .ok (.istore 4, 2) := by decide +kernel
theorem dX11_chance_108 : decode cX11_chance 108 = .ok (.aload_n 0, 1) := by decide +kernel
theorem dX11_chance_109 : decode cX11_chance 109 = .ok (.getfield 44, 3) := by decide +kernel
theorem dX11_chance_112 : decode cX11_chance 112 = .ok (.aload_n 2, 1) := by decide +kernel
theorem dX11_chance_113 : decode cX11_chance 113 = .ok (.getfield 131, 3) := by decide +kernel
theorem dX11_chance_116 : decode cX11_chance 116 = .ok (.invokevirtual 333, 3) := by decide +kernel
theorem dX11_chance_119 : decode cX11_chance 119 = .ok (.iinc 5 1, 3) := by decide +kernel
theorem dX11_chance_122 : decode cX11_chance 122 = .ok (.goto (-52), 3) := by decide +kernel
theorem dX11_chance_125 : decode cX11_chance 125 = .ok (.iload_n 3, 1) := by decide +kernel
theorem dX11_chance_126 : decode cX11_chance 126 = .ok (.iload 4, 2) := by decide +kernel
theorem dX11_chance_128 : decode cX11_chance 128 = .ok (.invokestatic 336, 3) := by decide +kernel
theorem dX11_chance_131 : decode cX11_chance 131 = .ok (.istore 5, 2) := by decide +kernel
theorem dX11_chance_133 : decode cX11_chance 133 = .ok (.iload_n 1, 1) := by decide +kernel
theorem dX11_chance_134 : decode cX11_chance 134 = .ok (.ifCond .ne 8, 3) := by decide +kernel
theorem dX11_chance_137 : decode cX11_chance 137 = .ok (.iload 4, 2) := by decide +kernel
theorem dX11_chance_139 : decode cX11_chance 139 = .ok (.goto 4, 3) := by decide +kernel
theorem dX11_chance_142 : decode cX11_chance 142 = .ok (.iload_n 3, 1) := by decide +kernel
theorem dX11_chance_143 : decode cX11_chance 143 = .ok (.iload 5, 2) := by decide +kernel
theorem dX11_chance_145 : decode cX11_chance 145 = .ok (.idiv, 1) := by decide +kernel
theorem dX11_chance_146 : decode cX11_chance 146 = .ok (.ireturn, 1) := by decide +kernel
theorem dX11_commonDivisor_0 : decode cX11_commonDivisor 0 = .ok (.iload_n 0, 1) := by decide +kernel
theorem dX11_commonDivisor_1 : decode cX11_commonDivisor 1 = .ok (.istore_n 2, 1) := by decide +kernel
theorem dX11_commonDivisor_2 : decode cX11_commonDivisor 2 = .ok (.iload_n 1, 1) := by decide +kernel
theorem dX11_commonDivisor_3 : decode cX11_commonDivisor 3 = .ok (.istore_n 3, 1) := by decide +kernel
theorem dX11_commonDivisor_4 : decode cX11_commonDivisor 4 = .ok (.iconst 0, 1) := by decide +kernel
theorem dX11_commonDivisor_5 : decode cX11_commonDivisor 5 = .ok (.istore 4, 2) := by decide +kernel
theorem dX11_commonDivisor_7 : decode cX11_commonDivisor 7 = .ok (.iload 4, 2) := by decide +kernel
theorem dX11_commonDivisor_9 : decode cX11_commonDivisor 9 = .ok (.sipush 2000, 3) := by decide +kernel
theorem dX11_commonDivisor_12 : decode cX11_commonDivisor 12 = .ok (.if_icmp .ge 23, 3) := by decide +kernel
theorem dX11_commonDivisor_15 : decode cX11_commonDivisor 15 = .ok (.iload_n 3, 1) := by decide +kernel
theorem dX11_commonDivisor_16 : decode cX11_commonDivisor 16 = .ok (.ifCond .le 19, 3) := by decide +kernel
theorem dX11_commonDivisor_19 : decode cX11_commonDivisor 19 = .ok (.iload_n 2, 1) := by decide +kernel
theorem dX11_commonDivisor_20 : decode cX11_commonDivisor 20 = .ok (.iload_n 3, 1) := by decide +kernel
theorem dX11_commonDivisor_21 : decode cX11_commonDivisor 21 = .ok (.irem, 1) := by decide +kernel
theorem dX11_commonDivisor_22 : decode cX11_commonDivisor 22 = .ok (.istore 5, 2) := by decide +kernel
theorem dX11_commonDivisor_24 : decode cX11_commonDivisor 24 = .ok (.iload_n 3, 1) := by decide +kernel
theorem dX11_commonDivisor_25 : decode cX11_commonDivisor 25 = .ok (.istore_n 2, 1) := by decide +kernel
theorem dX11_commonDivisor_26 : decode cX11_commonDivisor 26 = .ok (.iload 5, 2) := by decide +kernel
theorem dX11_commonDivisor_28 : decode cX11_commonDivisor 28 = .ok (.istore_n 3, 1) := by decide +kernel
theorem dX11_commonDivisor_29 : decode cX11_commonDivisor 29 = .ok (.iinc 4 1, 3) := by decide +kernel
theorem dX11_commonDivisor_32 : decode cX11_commonDivisor 32 = .ok (.goto (-25), 3) := by decide +kernel
theorem dX11_commonDivisor_35 : decode cX11_commonDivisor 35 = .ok (.iload_n 2, 1) := by decide +kernel
theorem dX11_commonDivisor_36 : decode cX11_commonDivisor 36 = .ok (.iconst 1, 1) := by decide +kernel
theorem dX11_commonDivisor_37 : decode cX11_commonDivisor 37 = .ok (.invokestatic 340, 3) := by decide +kernel
theorem dX11_commonDivisor_40 : decode cX11_commonDivisor 40 = .ok (.ireturn, 1) := by decide +kernel
theorem dX11_see_0 : decode cX11_see 0 = .ok (.aload_n 0, 1) := by decide +kernel
theorem dX11_see_1 : decode cX11_see 1 = .ok (.getfield 23, 3) := by decide +kernel
theorem dX11_see_4 : decode cX11_see 4 = .ok (.getfield 149, 3) := by decide +kernel
theorem dX11_see_7 : decode cX11_see 7 = .ok (.bipush 8, 2) := by decide +kernel
theorem dX11_see_9 : decode cX11_see 9 = .ok (.if_icmp .ge 21, 3) := by decide +kernel
theorem dX11_see_12 : decode cX11_see 12 = .ok (.iload_n 1, 1) := by decide +kernel
theorem dX11_see_13 : decode cX11_see 13 = .ok (.invokestatic 160, 3) := by decide +kernel
theorem dX11_see_16 : decode cX11_see 16 = .ok (.ifCond .eq 14, 3) := by decide +kernel
theorem dX11_see_19 : decode cX11_see 19 = .ok (.iload_n 2, 1) := by decide +kernel
theorem dX11_see_20 : decode cX11_see 20 = .ok (.ifCond .lt 10, 3) := by decide +kernel
theorem dX11_see_23 : decode cX11_see 23 = .ok (.iload_n 2, 1) := by decide +kernel
theorem dX11_see_24 : decode cX11_see 24 = .ok (.sipush 999, 3) := by decide +kernel
theorem dX11_see_27 : decode cX11_see 27 = .ok (.if_icmp .le 18, 3) := by decide +kernel
theorem dX11_see_30 : decode cX11_see 30 = .ok (.aload_n 0, 1) := by decide +kernel
theorem dX11_see_31 : decode cX11_see 31 = .ok (.getfield 23, 3) := by decide +kernel
theorem dX11_see_34 : decode cX11_see 34 = .ok (.getfield 101, 3) := by decide +kernel
theorem dX11_see_37 : decode cX11_see 37 = .ok (.iconst 2, 1) := by decide +kernel
theorem dX11_see_38 : decode cX11_see 38 = .ok (.dup2, 1) := by decide +kernel
theorem dX11_see_39 : decode cX11_see 39 = .ok (.iaload, 1) := by decide +kernel
theorem dX11_see_40 : decode cX11_see 40 = .ok (.iconst 1, 1) := by decide +kernel
theorem dX11_see_41 : decode cX11_see 41 = .ok (.iadd, 1) := by decide +kernel
theorem dX11_see_42 : decode cX11_see 42 = .ok (.iastore, 1) := by decide +kernel
theorem dX11_see_43 : decode cX11_see 43 = .ok (.iconst (-1), 1) := by decide +kernel
theorem dX11_see_44 : decode cX11_see 44 = .ok (.ireturn, 1) := by decide +kernel
theorem dX11_see_45 : decode cX11_see 45 = .ok (.aload_n 0, 1) := by decide +kernel
theorem dX11_see_46 : decode cX11_see 46 = .ok (.getfield 23, 3) := by decide +kernel
theorem dX11_see_49 : decode cX11_see 49 = .ok (.getfield 345, 3) := by decide +kernel
theorem dX11_see_52 : decode cX11_see 52 = .ok (.aload_n 0, 1) := by decide +kernel
theorem dX11_see_53 : decode cX11_see 53 = .ok (.getfield 23, 3) := by decide +kernel
theorem dX11_see_56 : decode cX11_see 56 = .ok (.getfield 149, 3) := by decide +kernel
theorem dX11_see_59 : decode cX11_see 59 = .ok (.iload_n 1, 1) := by decide +kernel
theorem dX11_see_60 : decode cX11_see 60 = .ok (.sipush 1000, 3) := by decide +kernel
theorem dX11_see_63 : decode cX11_see 63 = .ok (.imul, 1) := by decide +kernel
theorem dX11_see_64 : decode cX11_see 64 = .ok (.iload_n 2, 1) := by decide +kernel
theorem dX11_see_65 : decode cX11_see 65 = .ok (.iadd, 1) := by decide +kernel
theorem dX11_see_66 : decode cX11_see 66 = .ok (.iastore, 1) := by decide +kernel
theorem dX11_see_67 : decode cX11_see 67 = .ok (.aload_n 0, 1) := by decide +kernel
theorem dX11_see_68 : decode cX11_see 68 = .ok (.getfield 23, 3) := by decide +kernel
theorem dX11_see_71 : decode cX11_see 71 = .ok (.dup, 1) := by decide +kernel
theorem dX11_see_72 : decode cX11_see 72 = .ok (.getfield 149, 3) := by decide +kernel
theorem dX11_see_75 : decode cX11_see 75 = .ok (.iconst 1, 1) := by decide +kernel
theorem dX11_see_76 : decode cX11_see 76 = .ok (.iadd, 1) := by decide +kernel
theorem dX11_see_77 : decode cX11_see 77 = .ok (.putfield 149, 3) := by decide +kernel
theorem dX11_see_80 : decode cX11_see 80 = .ok (.aload_n 0, 1) := by decide +kernel
theorem dX11_see_81 : decode cX11_see 81 = .ok (.getfield 23, 3) := by decide +kernel
theorem dX11_see_84 : decode cX11_see 84 = .ok (.getfield 149, 3) := by decide +kernel
theorem dX11_see_87 : decode cX11_see 87 = .ok (.ireturn, 1) := by decide +kernel
theorem dX11_explained_0 : decode cX11_explained 0 = .ok (.iload_n 1, 1) := by decide +kernel
theorem dX11_explained_1 : decode cX11_explained 1 = .ok (.ifCond .lt 8, 3) := by decide +kernel
theorem dX11_explained_4 : decode cX11_explained 4 = .ok (.iload_n 1, 1) := by decide +kernel
theorem dX11_explained_5 : decode cX11_explained 5 = .ok (.iconst 1, 1) := by decide +kernel
theorem dX11_explained_6 : decode cX11_explained 6 = .ok (.if_icmp .le 14, 3) := by decide +kernel
theorem dX11_explained_9 : decode cX11_explained 9 = .ok (.new 155, 3) := by decide +kernel
theorem dX11_explained_12 : decode cX11_explained 12 = .ok (.dup, 1) := by decide +kernel
theorem dX11_explained_13 : decode cX11_explained 13 = .ok (.ldc_w 348, 3) := by decide +kernel
theorem dX11_explained_16 : decode cX11_explained 16 = .ok (.invokespecial 159, 3) := by decide +kernel
theorem dX11_explained_19 : decode cX11_explained 19 = .ok (.athrow, 1) := by decide +kernel
theorem dX11_explained_20 : decode cX11_explained 20 = .ok (.aload_n 0, 1) := by decide +kernel
theorem dX11_explained_21 : decode cX11_explained 21 = .ok (.getfield 23, 3) := by decide +kernel
theorem dX11_explained_24 : decode cX11_explained 24 = .ok (.getfield 112, 3) := by decide +kernel
theorem dX11_explained_27 : decode cX11_explained 27 = .ok (.getfield 131, 3) := by decide +kernel
theorem dX11_explained_30 : decode cX11_explained 30 = .ok (.astore_n 2, 1) := by decide +kernel
theorem dX11_explained_31 : decode cX11_explained 31 = .ok (.aload_n 2, 1) := by decide +kernel
theorem dX11_explained_32 : decode cX11_explained 32 = .ok (.invokevirtual 197, 3) := by decide +kernel
theorem dX11_explained_35 : decode cX11_explained 35 = .ok (.ldc2_w 331, 3) := by decide +kernel
theorem dX11_explained_38 : decode cX11_explained 38 = .ok (.lcmp, 1) := by decide +kernel
theorem dX11_explained_39 : decode cX11_explained 39 = .ok (.ifCond .le 6, 3) := by decide +kernel
theorem dX11_explained_42 : decode cX11_explained 42 = .ok (.bipush (-2), 2) := by decide +kernel
theorem dX11_explained_44 : decode cX11_explained 44 = .ok (.ireturn, 1) := by decide +kernel
theorem dX11_explained_45 : decode cX11_explained 45 = .ok (.aload_n 0, 1) := by decide +kernel
theorem dX11_explained_46 : decode cX11_explained 46 = .ok (.getfield 58, 3) := by decide +kernel
theorem dX11_explained_49 : decode cX11_explained 49 = .ok (.aload_n 2, 1) := by decide +kernel
theorem dX11_explained_50 : decode cX11_explained 50 = .ok (.aload_n 0, 1) := by decide +kernel
theorem dX11_explained_51 : decode cX11_explained 51 = .ok (.getfield 23, 3) := by decide +kernel
theorem dX11_explained_54 : decode cX11_explained 54 = .ok (.getfield 345, 3) := by decide +kernel
theorem dX11_explained_57 : decode cX11_explained 57 = .ok (.aload_n 0, 1) := by decide +kernel
theorem dX11_explained_58 : decode cX11_explained 58 = .ok (.getfield 23, 3) := by decide +kernel
theorem dX11_explained_61 : decode cX11_explained 61 = .ok (.getfield 149, 3) := by decide +kernel
theorem dX11_explained_64 : decode cX11_explained 64 = .ok (.invokevirtual 350, 3) := by decide +kernel
theorem dX11_explained_67 : decode cX11_explained 67 = .ok (.aload_n 0, 1) := by decide +kernel
theorem dX11_explained_68 : decode cX11_explained 68 = .ok (.getfield 58, 3) := by decide +kernel
theorem dX11_explained_71 : decode cX11_explained 71 = .ok (.invokevirtual 354, 3) := by decide +kernel
theorem dX11_explained_74 : decode cX11_explained 74 = .ok (.istore_n 3, 1) := by decide +kernel
theorem dX11_explained_75 : decode cX11_explained 75 = .ok (.iload_n 1, 1) := by decide +kernel
theorem dX11_explained_76 : decode cX11_explained 76 = .ok (.ifCond .ne 5, 3) := by decide +kernel
theorem dX11_explained_79 : decode cX11_explained 79 = .ok (.iload_n 3, 1) := by decide +kernel
theorem dX11_explained_80 : decode cX11_explained 80 = .ok (.ireturn, 1) := by decide +kernel
theorem dX11_explained_81 : decode cX11_explained 81 = .ok (.iload_n 3, 1) := by decide +kernel
theorem dX11_explained_82 : decode cX11_explained 82 = .ok (.ifCond .ne 7, 3) := by decide +kernel
theorem dX11_explained_85 : decode cX11_explained 85 = .ok (.iconst (-1), 1) := by decide +kernel
theorem dX11_explained_86 : decode cX11_explained 86 = .ok (.goto 11, 3) := by decide +kernel
theorem dX11_explained_89 : decode cX11_explained 89 = .ok (.aload_n 0, 1) := by decide +kernel
theorem dX11_explained_90 : decode cX11_explained 90 = .ok (.getfield 58, 3) := by decide +kernel
theorem dX11_explained_93 : decode cX11_explained 93 = .ok (.aload_n 2, 1) := by decide +kernel
theorem dX11_explained_94 : decode cX11_explained 94 = .ok (.invokevirtual 357, 3) := by decide +kernel
theorem dX11_explained_97 : decode cX11_explained 97 = .ok (.ireturn, 1) := by decide +kernel
theorem dX11_look_0 : decode cX11_look 0 = .ok (.iload_n 1, 1) := by decide +kernel
theorem dX11_look_1 : decode cX11_look 1 = .ok (.ifCond .lt 8, 3) := by decide +kernel
theorem dX11_look_4 : decode cX11_look 4 = .ok (.iload_n 1, 1) := by decide +kernel
theorem dX11_look_5 : decode cX11_look 5 = .ok (.iconst 1, 1) := by decide +kernel
theorem dX11_look_6 : decode cX11_look 6 = .ok (.if_icmp .le 14, 3) := by decide +kernel
theorem dX11_look_9 : decode cX11_look 9 = .ok (.new 155, 3) := by decide +kernel
theorem dX11_look_12 : decode cX11_look 12 = .ok (.dup, 1) := by decide +kernel
theorem dX11_look_13 : decode cX11_look 13 = .ok (.ldc_w 361, 3) := by decide +kernel
theorem dX11_look_16 : decode cX11_look 16 = .ok (.invokespecial 159, 3) := by decide +kernel
theorem dX11_look_19 : decode cX11_look 19 = .ok (.athrow, 1) := by decide +kernel
theorem dX11_look_20 : decode cX11_look 20 = .ok (.aload_n 0, 1) := by decide +kernel
theorem dX11_look_21 : decode cX11_look 21 = .ok (.getfield 23, 3) := by decide +kernel
theorem dX11_look_24 : decode cX11_look 24 = .ok (.getfield 112, 3) := by decide +kernel
theorem dX11_look_27 : decode cX11_look 27 = .ok (.getfield 131, 3) := by decide +kernel
theorem dX11_look_30 : decode cX11_look 30 = .ok (.astore_n 2, 1) := by decide +kernel
theorem dX11_look_31 : decode cX11_look 31 = .ok (.iconst (-1), 1) := by decide +kernel
theorem dX11_look_32 : decode cX11_look 32 = .ok (.istore_n 3, 1) := by decide +kernel
theorem dX11_look_33 : decode cX11_look 33 = .ok (.iconst 0, 1) := by decide +kernel
theorem dX11_look_34 : decode cX11_look 34 = .ok (.istore 4, 2) := by decide +kernel
theorem dX11_look_36 : decode cX11_look 36 = .ok (.aload_n 2, 1) := by decide +kernel
theorem dX11_look_37 : decode cX11_look 37 = .ok (.invokevirtual 197, 3) := by decide +kernel
theorem dX11_look_40 : decode cX11_look 40 = .ok (.ldc2_w 331, 3) := by decide +kernel
theorem dX11_look_43 : decode cX11_look 43 = .ok (.lcmp, 1) := by decide +kernel
theorem dX11_look_44 : decode cX11_look 44 = .ok (.ifCond .gt 77, 3) := by decide +kernel
theorem dX11_look_47 : decode cX11_look 47 = .ok (.aload_n 0, 1) := by decide +kernel
theorem dX11_look_48 : decode cX11_look 48 = .ok (.getfield 58, 3) := by decide +kernel
theorem dX11_look_51 : decode cX11_look 51 = .ok (.aload_n 2, 1) := by decide +kernel
theorem dX11_look_52 : decode cX11_look 52 = .ok (.aload_n 0, 1) := by decide +kernel
theorem dX11_look_53 : decode cX11_look 53 = .ok (.getfield 23, 3) := by decide +kernel
theorem dX11_look_56 : decode cX11_look 56 = .ok (.getfield 345, 3) := by decide +kernel
theorem dX11_look_59 : decode cX11_look 59 = .ok (.aload_n 0, 1) := by decide +kernel
theorem dX11_look_60 : decode cX11_look 60 = .ok (.getfield 23, 3) := by decide +kernel
theorem dX11_look_63 : decode cX11_look 63 = .ok (.getfield 149, 3) := by decide +kernel
theorem dX11_look_66 : decode cX11_look 66 = .ok (.invokevirtual 350, 3) := by decide +kernel
theorem dX11_look_69 : decode cX11_look 69 = .ok (.iconst 0, 1) := by decide +kernel
theorem dX11_look_70 : decode cX11_look 70 = .ok (.istore 5, 2) := by decide +kernel
theorem dX11_look_72 : decode cX11_look 72 = .ok (.iload 5, 2) := by decide +kernel
theorem dX11_look_74 : decode cX11_look 74 = .ok (.bipush 64, 2) := by decide +kernel
theorem dX11_look_76 : decode cX11_look 76 = .ok (.if_icmp .ge 45, 3) := by decide +kernel
theorem dX11_look_79 : decode cX11_look 79 = .ok (.aload_n 0, 1) := by decide +kernel
theorem dX11_look_80 : decode cX11_look 80 = .ok (.getfield 58, 3) := by decide +kernel
theorem dX11_look_83 : decode cX11_look 83 = .ok (.invokevirtual 354, 3) := by decide +kernel
theorem dX11_look_86 : decode cX11_look 86 = .ok (.ifCond .le 35, 3) := by decide +kernel
theorem dX11_look_89 : decode cX11_look 89 = .ok (.aload_n 0, 1) := by decide +kernel
theorem dX11_look_90 : decode cX11_look 90 = .ok (.getfield 58, 3) := by decide +kernel
theorem dX11_look_93 : decode cX11_look 93 = .ok (.aload_n 2, 1) := by decide +kernel
theorem dX11_look_94 : decode cX11_look 94 = .ok (.iload 5, 2) := by decide +kernel
theorem dX11_look_96 : decode cX11_look 96 = .ok (.invokevirtual 363, 3) := by decide +kernel
theorem dX11_look_99 : decode cX11_look 99 = .ok (.istore 6, 2) := by decide +kernel
theorem dX11_look_101 : decode cX11_look 101 = .ok (.iload 6, 2) := by decide +kernel
theorem dX11_look_103 : decode cX11_look 103 = .ok (.iload 4, 2) := by decide +kernel
theorem dX11_look_105 : decode cX11_look 105 = .ok (.if_icmp .le 10, 3) := by decide +kernel
theorem dX11_look_108 : decode cX11_look 108 = .ok (.iload 6, 2) := by decide +kernel
theorem dX11_look_110 : decode cX11_look 110 = .ok (.istore 4, 2) := by decide +kernel
theorem dX11_look_112 : decode cX11_look 112 = .ok (.iload 5, 2) := by decide +kernel
theorem dX11_look_114 : decode cX11_look 114 = .ok (.istore_n 3, 1) := by decide +kernel
theorem dX11_look_115 : decode cX11_look 115 = .ok (.iinc 5 1, 3) := by decide +kernel
theorem dX11_look_118 : decode cX11_look 118 = .ok (.goto (-46), 3) := by decide +kernel
theorem dX11_look_121 : decode cX11_look 121 = .ok (.iload_n 1, 1) := by decide +kernel
theorem dX11_look_122 : decode cX11_look 122 = .ok (.ifCond .ne 7, 3) := by decide +kernel
theorem dX11_look_125 : decode cX11_look 125 = .ok (.iload_n 3, 1) := by decide +kernel
theorem dX11_look_126 : decode cX11_look 126 = .ok (.goto 5, 3) := by decide +kernel
theorem dX11_look_129 : decode cX11_look 129 = .ok (.iload 4, 2) := by decide +kernel
theorem dX11_look_131 : decode cX11_look 131 = .ok (.ireturn, 1) := by decide +kernel
theorem dX11_forget_0 : decode cX11_forget 0 = .ok (.aload_n 0, 1) := by decide +kernel
theorem dX11_forget_1 : decode cX11_forget 1 = .ok (.getfield 23, 3) := by decide +kernel
theorem dX11_forget_4 : decode cX11_forget 4 = .ok (.iconst 0, 1) := by decide +kernel
theorem dX11_forget_5 : decode cX11_forget 5 = .ok (.putfield 149, 3) := by decide +kernel
theorem dX11_forget_8 : decode cX11_forget 8 = .ok (.return_, 1) := by decide +kernel
theorem dX11_years_0 : decode cX11_years 0 = .ok (.iload_n 3, 1) := by decide +kernel
theorem dX11_years_1 : decode cX11_years 1 = .ok (.ifCond .lt 8, 3) := by decide +kernel
theorem dX11_years_4 : decode cX11_years 4 = .ok (.iload_n 3, 1) := by decide +kernel
theorem dX11_years_5 : decode cX11_years 5 = .ok (.iconst 2, 1) := by decide +kernel
theorem dX11_years_6 : decode cX11_years 6 = .ok (.if_icmp .le 14, 3) := by decide +kernel
theorem dX11_years_9 : decode cX11_years 9 = .ok (.new 155, 3) := by decide +kernel
theorem dX11_years_12 : decode cX11_years 12 = .ok (.dup, 1) := by decide +kernel
theorem dX11_years_13 : decode cX11_years 13 = .ok (.ldc_w 367, 3) := by decide +kernel
theorem dX11_years_16 : decode cX11_years 16 = .ok (.invokespecial 159, 3) := by decide +kernel
theorem dX11_years_19 : decode cX11_years 19 = .ok (.athrow, 1) := by decide +kernel
theorem dX11_years_20 : decode cX11_years 20 = .ok (.iload_n 2, 1) := by decide +kernel
theorem dX11_years_21 : decode cX11_years 21 = .ok (.ifCond .lt 9, 3) := by decide +kernel
theorem dX11_years_24 : decode cX11_years 24 = .ok (.iload_n 2, 1) := by decide +kernel
theorem dX11_years_25 : decode cX11_years 25 = .ok (.bipush 30, 2) := by decide +kernel
theorem dX11_years_27 : decode cX11_years 27 = .ok (.if_icmp .le 14, 3) := by decide +kernel
theorem dX11_years_30 : decode cX11_years 30 = .ok (.new 87, 3) := by decide +kernel
theorem dX11_years_33 : decode cX11_years 33 = .ok (.dup, 1) := by decide +kernel
theorem dX11_years_34 : decode cX11_years 34 = .ok (.ldc_w 369, 3) := by decide +kernel
theorem dX11_years_37 : decode cX11_years 37 = .ok (.invokespecial 91, 3) := by decide +kernel
theorem dX11_years_40 : decode cX11_years 40 = .ok (.athrow, 1) := by decide +kernel
theorem dX11_years_41 : decode cX11_years 41 = .ok (.aload_n 0, 1) := by decide +kernel
theorem dX11_years_42 : decode cX11_years 42 = .ok (.getfield 72, 3) := by decide +kernel
theorem dX11_years_45 : decode cX11_years 45 = .ok (.aload_n 0, 1) := by decide +kernel
theorem dX11_years_46 : decode cX11_years 46 = .ok (.getfield 23, 3) := by decide +kernel
theorem dX11_years_49 : decode cX11_years 49 = .ok (.getfield 112, 3) := by decide +kernel
theorem dX11_years_52 : decode cX11_years 52 = .ok (.iload_n 1, 1) := by decide +kernel
theorem dX11_years_53 : decode cX11_years 53 = .ok (.invokevirtual 371, 3) := by decide +kernel
theorem dX11_years_56 : decode cX11_years 56 = .ok (.iconst 0, 1) := by decide +kernel
theorem dX11_years_57 : decode cX11_years 57 = .ok (.istore 4, 2) := by decide +kernel
theorem dX11_years_59 : decode cX11_years 59 = .ok (.iload 4, 2) := by decide +kernel
theorem dX11_years_61 : decode cX11_years 61 = .ok (.iload_n 2, 1) := by decide +kernel
theorem dX11_years_62 : decode cX11_years 62 = .ok (.if_icmp .ge 16, 3) := by decide +kernel
theorem dX11_years_65 : decode cX11_years 65 = .ok (.aload_n 0, 1) := by decide +kernel
theorem dX11_years_66 : decode cX11_years 66 = .ok (.getfield 72, 3) := by decide +kernel
theorem dX11_years_69 : decode cX11_years 69 = .ok (.invokevirtual 374, 3) := by decide +kernel
theorem dX11_years_72 : decode cX11_years 72 = .ok (.iinc 4 1, 3) := by decide +kernel
theorem dX11_years_75 : decode cX11_years 75 = .ok (.goto (-16), 3) := by decide +kernel
theorem dX11_years_78 : decode cX11_years 78 = .ok (.iload_n 3, 1) := by decide +kernel
theorem dX11_years_79 : decode cX11_years 79 = .ok (.iconst 2, 1) := by decide +kernel
theorem dX11_years_80 : decode cX11_years 80 = .ok (.if_icmp .ne 34, 3) := by decide +kernel
theorem dX11_years_83 : decode cX11_years 83 = .ok (.aload_n 0, 1) := by decide +kernel
theorem dX11_years_84 : decode cX11_years 84 = .ok (.getfield 51, 3) := by decide +kernel
theorem dX11_years_87 : decode cX11_years 87 = .ok (.aload_n 0, 1) := by decide +kernel
theorem dX11_years_88 : decode cX11_years 88 = .ok (.getfield 72, 3) := by decide +kernel
theorem dX11_years_91 : decode cX11_years 91 = .ok (.getfield 377, 3) := by decide +kernel
theorem dX11_years_94 : decode cX11_years 94 = .ok (.getfield 131, 3) := by decide +kernel
theorem dX11_years_97 : decode cX11_years 97 = .ok (.getfield 166, 3) := by decide +kernel
theorem dX11_years_100 : decode cX11_years 100 = .ok (.invokevirtual 210, 3) := by decide +kernel
theorem dX11_years_103 : decode cX11_years 103 = .ok (.aload_n 0, 1) := by decide +kernel
theorem dX11_years_104 : decode cX11_years 104 = .ok (.getfield 51, 3) := by decide +kernel
theorem dX11_years_107 : decode cX11_years 107 = .ok (.getfield 380, 3) := by decide +kernel
theorem dX11_years_110 : decode cX11_years 110 = .ok (.invokestatic 324, 3) := by decide +kernel
theorem dX11_years_113 : decode cX11_years 113 = .ok (.ireturn, 1) := by decide +kernel
theorem dX11_years_114 : decode cX11_years 114 = .ok (.iload_n 3, 1) := by decide +kernel
theorem dX11_years_115 : decode cX11_years 115 = .ok (.ifCond .ne 13, 3) := by decide +kernel
theorem dX11_years_118 : decode cX11_years 118 = .ok (.aload_n 0, 1) := by decide +kernel
theorem dX11_years_119 : decode cX11_years 119 = .ok (.getfield 72, 3) := by decide +kernel
theorem dX11_years_122 : decode cX11_years 122 = .ok (.getfield 383, 3) := by decide +kernel
theorem dX11_years_125 : decode cX11_years 125 = .ok (.goto 10, 3) := by decide +kernel
theorem dX11_years_128 : decode cX11_years 128 = .ok (.aload_n 0, 1) := by decide +kernel
theorem dX11_years_129 : decode cX11_years 129 = .ok (.getfield 72, 3) := by decide +kernel
theorem dX11_years_132 : decode cX11_years 132 = .ok (.getfield 386, 3) := by decide +kernel
theorem dX11_years_135 : decode cX11_years 135 = .ok (.ireturn, 1) := by decide +kernel
theorem dX11_image_0 : decode cX11_image 0 = .ok (.aload_n 0, 1) := by decide +kernel
theorem dX11_image_1 : decode cX11_image 1 = .ok (.getfield 27, 3) := by decide +kernel
theorem dX11_image_4 : decode cX11_image 4 = .ok (.ifnonnull 14, 3) := by decide +kernel
theorem dX11_image_7 : decode cX11_image 7 = .ok (.aload_n 0, 1) := by decide +kernel
theorem dX11_image_8 : decode cX11_image 8 = .ok (.new 20, 3) := by decide +kernel
theorem dX11_image_11 : decode cX11_image 11 = .ok (.dup, 1) := by decide +kernel
theorem dX11_image_12 : decode cX11_image 12 = .ok (.invokespecial 22, 3) := by decide +kernel
theorem dX11_image_15 : decode cX11_image 15 = .ok (.putfield 27, 3) := by decide +kernel
theorem dX11_image_18 : decode cX11_image 18 = .ok (.aload_n 0, 1) := by decide +kernel
theorem dX11_image_19 : decode cX11_image 19 = .ok (.getfield 27, 3) := by decide +kernel
theorem dX11_image_22 : decode cX11_image 22 = .ok (.aload_n 0, 1) := by decide +kernel
theorem dX11_image_23 : decode cX11_image 23 = .ok (.getfield 23, 3) := by decide +kernel
theorem dX11_image_26 : decode cX11_image 26 = .ok (.invokevirtual 387, 3) := by decide +kernel
theorem dX11_image_29 : decode cX11_image 29 = .ok (.aload_n 0, 1) := by decide +kernel
theorem dX11_image_30 : decode cX11_image 30 = .ok (.iconst 1, 1) := by decide +kernel
theorem dX11_image_31 : decode cX11_image 31 = .ok (.putfield 30, 3) := by decide +kernel
theorem dX11_image_34 : decode cX11_image 34 = .ok (.return_, 1) := by decide +kernel
theorem dX11_restore_0 : decode cX11_restore 0 = .ok (.aload_n 0, 1) := by decide +kernel
theorem dX11_restore_1 : decode cX11_restore 1 = .ok (.getfield 30, 3) := by decide +kernel
theorem dX11_restore_4 : decode cX11_restore 4 = .ok (.ifCond .eq 10, 3) := by decide +kernel
theorem dX11_restore_7 : decode cX11_restore 7 = .ok (.aload_n 0, 1) := by decide +kernel
theorem dX11_restore_8 : decode cX11_restore 8 = .ok (.getfield 27, 3) := by decide +kernel
theorem dX11_restore_11 : decode cX11_restore 11 = .ok (.ifnonnull 5, 3) := by decide +kernel
theorem dX11_restore_14 : decode cX11_restore 14 = .ok (.iconst 0, 1) := by decide +kernel
theorem dX11_restore_15 : decode cX11_restore 15 = .ok (.ireturn, 1) := by decide +kernel
theorem dX11_restore_16 : decode cX11_restore 16 = .ok (.aload_n 0, 1) := by decide +kernel
theorem dX11_restore_17 : decode cX11_restore 17 = .ok (.getfield 23, 3) := by decide +kernel
theorem dX11_restore_20 : decode cX11_restore 20 = .ok (.aload_n 0, 1) := by decide +kernel
theorem dX11_restore_21 : decode cX11_restore 21 = .ok (.getfield 27, 3) := by decide +kernel
theorem dX11_restore_24 : decode cX11_restore 24 = .ok (.invokevirtual 387, 3) := by decide +kernel
theorem dX11_restore_27 : decode cX11_restore 27 = .ok (.iconst 1, 1) := by decide +kernel
theorem dX11_restore_28 : decode cX11_restore 28 = .ok (.ireturn, 1) := by decide +kernel
theorem dX11_isWord_0 : decode cX11_isWord 0 = .ok (.iload_n 0, 1) := by decide +kernel
theorem dX11_isWord_1 : decode cX11_isWord 1 = .ok (.ifCond .lt 13, 3) := by decide +kernel
theorem dX11_isWord_4 : decode cX11_isWord 4 = .ok (.iload_n 0, 1) := by decide +kernel
theorem dX11_isWord_5 : decode cX11_isWord 5 = .ok (.bipush 64, 2) := by decide +kernel
theorem dX11_isWord_7 : decode cX11_isWord 7 = .ok (.if_icmp .ge 7, 3) := by decide +kernel
theorem dX11_isWord_10 : decode cX11_isWord 10 = .ok (.iconst 1, 1) := by decide +kernel
theorem dX11_isWord_11 : decode cX11_isWord 11 = .ok (.goto 4, 3) := by decide +kernel
theorem dX11_isWord_14 : decode cX11_isWord 14 = .ok (.iconst 0, 1) := by decide +kernel
theorem dX11_isWord_15 : decode cX11_isWord 15 = .ok (.ireturn, 1) := by decide +kernel
theorem dX11_isLine_0 : decode cX11_isLine 0 = .ok (.iload_n 0, 1) := by decide +kernel
theorem dX11_isLine_1 : decode cX11_isLine 1 = .ok (.ifCond .lt 13, 3) := by decide +kernel
theorem dX11_isLine_4 : decode cX11_isLine 4 = .ok (.iload_n 0, 1) := by decide +kernel
theorem dX11_isLine_5 : decode cX11_isLine 5 = .ok (.bipush 16, 2) := by decide +kernel
theorem dX11_isLine_7 : decode cX11_isLine 7 = .ok (.if_icmp .ge 7, 3) := by decide +kernel
theorem dX11_isLine_10 : decode cX11_isLine 10 = .ok (.iconst 1, 1) := by decide +kernel
theorem dX11_isLine_11 : decode cX11_isLine 11 = .ok (.goto 4, 3) := by decide +kernel
theorem dX11_isLine_14 : decode cX11_isLine 14 = .ok (.iconst 0, 1) := by decide +kernel
theorem dX11_isLine_15 : decode cX11_isLine 15 = .ok (.ireturn, 1) := by decide +kernel
theorem dX11_isOrder_0 : decode cX11_isOrder 0 = .ok (.iload_n 1, 1) := by decide +kernel
theorem dX11_isOrder_1 : decode cX11_isOrder 1 = .ok (.ifCond .lt 26, 3) := by decide +kernel
theorem dX11_isOrder_4 : decode cX11_isOrder 4 = .ok (.iload_n 1, 1) := by decide +kernel
theorem dX11_isOrder_5 : decode cX11_isOrder 5 = .ok (.i2l, 1) := by decide +kernel
theorem dX11_isOrder_6 : decode cX11_isOrder 6 = .ok (.aload_n 0, 1) := by decide +kernel
theorem dX11_isOrder_7 : decode cX11_isOrder 7 = .ok (.getfield 23, 3) := by decide +kernel
theorem dX11_isOrder_10 : decode cX11_isOrder 10 = .ok (.getfield 112, 3) := by decide +kernel
theorem dX11_isOrder_13 : decode cX11_isOrder 13 = .ok (.getfield 131, 3) := by decide +kernel
theorem dX11_isOrder_16 : decode cX11_isOrder 16 = .ok (.invokevirtual 197, 3) := by decide +kernel
theorem dX11_isOrder_19 : decode cX11_isOrder 19 = .ok (.lcmp, 1) := by decide +kernel
theorem dX11_isOrder_20 : decode cX11_isOrder 20 = .ok (.ifCond .ge 7, 3) := by decide +kernel
theorem dX11_isOrder_23 : decode cX11_isOrder 23 = .ok (.iconst 1, 1) := by decide +kernel
theorem dX11_isOrder_24 : decode cX11_isOrder 24 = .ok (.goto 4, 3) := by decide +kernel
theorem dX11_isOrder_27 : decode cX11_isOrder 27 = .ok (.iconst 0, 1) := by decide +kernel
theorem dX11_isOrder_28 : decode cX11_isOrder 28 = .ok (.ireturn, 1) := by decide +kernel
theorem dX11_blockAddress_0 : decode cX11_blockAddress 0 = .ok (.bipush 24, 2) := by decide +kernel
theorem dX11_blockAddress_2 : decode cX11_blockAddress 2 = .ok (.iload_n 0, 1) := by decide +kernel
theorem dX11_blockAddress_3 : decode cX11_blockAddress 3 = .ok (.iconst 4, 1) := by decide +kernel
theorem dX11_blockAddress_4 : decode cX11_blockAddress 4 = .ok (.imul, 1) := by decide +kernel
theorem dX11_blockAddress_5 : decode cX11_blockAddress 5 = .ok (.iadd, 1) := by decide +kernel
theorem dX11_blockAddress_6 : decode cX11_blockAddress 6 = .ok (.ireturn, 1) := by decide +kernel
theorem dX11_isHeapAddress_0 : decode cX11_isHeapAddress 0 = .ok (.iload_n 0, 1) := by decide +kernel
theorem dX11_isHeapAddress_1 : decode cX11_isHeapAddress 1 = .ok (.bipush 20, 2) := by decide +kernel
theorem dX11_isHeapAddress_3 : decode cX11_isHeapAddress 3 = .ok (.if_icmp .lt 13, 3) := by decide +kernel
theorem dX11_isHeapAddress_6 : decode cX11_isHeapAddress 6 = .ok (.iload_n 0, 1) := by decide +kernel
theorem dX11_isHeapAddress_7 : decode cX11_isHeapAddress 7 = .ok (.bipush 64, 2) := by decide +kernel
theorem dX11_isHeapAddress_9 : decode cX11_isHeapAddress 9 = .ok (.if_icmp .ge 7, 3) := by decide +kernel
theorem dX11_isHeapAddress_12 : decode cX11_isHeapAddress 12 = .ok (.iconst 1, 1) := by decide +kernel
theorem dX11_isHeapAddress_13 : decode cX11_isHeapAddress 13 = .ok (.goto 4, 3) := by decide +kernel
theorem dX11_isHeapAddress_16 : decode cX11_isHeapAddress 16 = .ok (.iconst 0, 1) := by decide +kernel
theorem dX11_isHeapAddress_17 : decode cX11_isHeapAddress 17 = .ok (.ireturn, 1) := by decide +kernel
theorem dX11_entryPlace_0 : decode cX11_entryPlace 0 = .ok (.iconst 4, 1) := by decide +kernel
theorem dX11_entryPlace_1 : decode cX11_entryPlace 1 = .ok (.iconst 2, 1) := by decide +kernel
theorem dX11_entryPlace_2 : decode cX11_entryPlace 2 = .ok (.iload_n 2, 1) := by decide +kernel
theorem dX11_entryPlace_3 : decode cX11_entryPlace 3 = .ok (.ifCond .ne 11, 3) := by decide +kernel
theorem dX11_entryPlace_6 : decode cX11_entryPlace 6 = .ok (.iload_n 1, 1) := by decide +kernel
theorem dX11_entryPlace_7 : decode cX11_entryPlace 7 = .ok (.iconst 1, 1) := by decide +kernel
theorem dX11_entryPlace_8 : decode cX11_entryPlace 8 = .ok (.isub, 1) := by decide +kernel
theorem dX11_entryPlace_9 : decode cX11_entryPlace 9 = .ok (.iload_n 0, 1) := by decide +kernel
theorem dX11_entryPlace_10 : decode cX11_entryPlace 10 = .ok (.isub, 1) := by decide +kernel
theorem dX11_entryPlace_11 : decode cX11_entryPlace 11 = .ok (.goto 4, 3) := by decide +kernel
theorem dX11_entryPlace_14 : decode cX11_entryPlace 14 = .ok (.iload_n 0, 1) := by decide +kernel
theorem dX11_entryPlace_15 : decode cX11_entryPlace 15 = .ok (.imul, 1) := by decide +kernel
theorem dX11_entryPlace_16 : decode cX11_entryPlace 16 = .ok (.iadd, 1) := by decide +kernel
theorem dX11_entryPlace_17 : decode cX11_entryPlace 17 = .ok (.ireturn, 1) := by decide +kernel
theorem dX11_recoverWords_0 : decode cX11_recoverWords 0 = .ok (.aload_n 0, 1) := by decide +kernel
theorem dX11_recoverWords_1 : decode cX11_recoverWords 1 = .ok (.iconst 0, 1) := by decide +kernel
theorem dX11_recoverWords_2 : decode cX11_recoverWords 2 = .ok (.iaload, 1) := by decide +kernel
theorem dX11_recoverWords_3 : decode cX11_recoverWords 3 = .ok (.bipush 8, 2) := by decide +kernel
theorem dX11_recoverWords_5 : decode cX11_recoverWords 5 = .ok (.invokestatic 391, 3) := by decide +kernel
theorem dX11_recoverWords_8 : decode cX11_recoverWords 8 = .ok (.istore_n 2, 1) := by decide +kernel
theorem dX11_recoverWords_9 : decode cX11_recoverWords 9 = .ok (.iconst 0, 1) := by decide +kernel
theorem dX11_recoverWords_10 : decode cX11_recoverWords 10 = .ok (.istore_n 3, 1) := by decide +kernel
theorem dX11_recoverWords_11 : decode cX11_recoverWords 11 = .ok (.iload_n 3, 1) := by decide +kernel
theorem dX11_recoverWords_12 : decode cX11_recoverWords 12 = .ok (.iload_n 2, 1) := by decide +kernel
theorem dX11_recoverWords_13 : decode cX11_recoverWords 13 = .ok (.if_icmp .ge 39, 3) := by decide +kernel
theorem dX11_recoverWords_16 : decode cX11_recoverWords 16 = .ok (.iload_n 3, 1) := by decide +kernel
theorem dX11_recoverWords_17 : decode cX11_recoverWords 17 = .ok (.iload_n 2, 1) := by decide +kernel
theorem dX11_recoverWords_18 : decode cX11_recoverWords 18 = .ok (.iload_n 1, 1) := by decide +kernel
theorem dX11_recoverWords_19 : decode cX11_recoverWords 19 = .ok (.invokestatic 394, 3) := by decide +kernel
theorem dX11_recoverWords_22 : decode cX11_recoverWords 22 = .ok (.istore 4, 2) := by decide +kernel
theorem dX11_recoverWords_24 : decode cX11_recoverWords 24 = .ok (.aload_n 0, 1) := by decide +kernel
theorem dX11_recoverWords_25 : decode cX11_recoverWords 25 = .ok (.iload 4, 2) := by decide +kernel
theorem dX11_recoverWords_27 : decode cX11_recoverWords 27 = .ok (.iaload, 1) := by decide +kernel
theorem dX11_recoverWords_28 : decode cX11_recoverWords 28 = .ok (.invokestatic 397, 3) := by decide +kernel
theorem dX11_recoverWords_31 : decode cX11_recoverWords 31 = .ok (.ifCond .eq 15, 3) := by decide +kernel
theorem dX11_recoverWords_34 : decode cX11_recoverWords 34 = .ok (.aload_n 0, 1) := by decide +kernel
theorem dX11_recoverWords_35 : decode cX11_recoverWords 35 = .ok (.aload_n 0, 1) := by decide +kernel
theorem dX11_recoverWords_36 : decode cX11_recoverWords 36 = .ok (.iload 4, 2) := by decide +kernel
theorem dX11_recoverWords_38 : decode cX11_recoverWords 38 = .ok (.iaload, 1) := by decide +kernel
theorem dX11_recoverWords_39 : decode cX11_recoverWords 39 = .ok (.aload_n 0, 1) := by decide +kernel
theorem dX11_recoverWords_40 : decode cX11_recoverWords 40 = .ok (.iload 4, 2) := by decide +kernel
theorem dX11_recoverWords_42 : decode cX11_recoverWords 42 = .ok (.iconst 1, 1) := by decide +kernel
theorem dX11_recoverWords_43 : decode cX11_recoverWords 43 = .ok (.iadd, 1) := by decide +kernel
theorem dX11_recoverWords_44 : decode cX11_recoverWords 44 = .ok (.iaload, 1) := by decide +kernel
theorem dX11_recoverWords_45 : decode cX11_recoverWords 45 = .ok (.iastore, 1) := by decide +kernel
theorem dX11_recoverWords_46 : decode cX11_recoverWords 46 = .ok (.iinc 3 1, 3) := by decide +kernel
theorem dX11_recoverWords_49 : decode cX11_recoverWords 49 = .ok (.goto (-38), 3) := by decide +kernel
theorem dX11_recoverWords_52 : decode cX11_recoverWords 52 = .ok (.aload_n 0, 1) := by decide +kernel
theorem dX11_recoverWords_53 : decode cX11_recoverWords 53 = .ok (.iconst 0, 1) := by decide +kernel
theorem dX11_recoverWords_54 : decode cX11_recoverWords 54 = .ok (.iconst 0, 1) := by decide +kernel
theorem dX11_recoverWords_55 : decode cX11_recoverWords 55 = .ok (.iastore, 1) := by decide +kernel
theorem dX11_recoverWords_56 : decode cX11_recoverWords 56 = .ok (.return_, 1) := by decide +kernel
theorem dX11_isBlockAddress_0 : decode cX11_isBlockAddress 0 = .ok (.iload_n 0, 1) := by decide +kernel
theorem dX11_isBlockAddress_1 : decode cX11_isBlockAddress 1 = .ok (.bipush 24, 2) := by decide +kernel
theorem dX11_isBlockAddress_3 : decode cX11_isBlockAddress 3 = .ok (.if_icmp .lt 19, 3) := by decide +kernel
theorem dX11_isBlockAddress_6 : decode cX11_isBlockAddress 6 = .ok (.iload_n 0, 1) := by decide +kernel
theorem dX11_isBlockAddress_7 : decode cX11_isBlockAddress 7 = .ok (.bipush 64, 2) := by decide +kernel
theorem dX11_isBlockAddress_9 : decode cX11_isBlockAddress 9 = .ok (.if_icmp .ge 13, 3) := by decide +kernel
theorem dX11_isBlockAddress_12 : decode cX11_isBlockAddress 12 = .ok (.iload_n 0, 1) := by decide +kernel
theorem dX11_isBlockAddress_13 : decode cX11_isBlockAddress 13 = .ok (.iconst 4, 1) := by decide +kernel
theorem dX11_isBlockAddress_14 : decode cX11_isBlockAddress 14 = .ok (.irem, 1) := by decide +kernel
theorem dX11_isBlockAddress_15 : decode cX11_isBlockAddress 15 = .ok (.ifCond .ne 7, 3) := by decide +kernel
theorem dX11_isBlockAddress_18 : decode cX11_isBlockAddress 18 = .ok (.iconst 1, 1) := by decide +kernel
theorem dX11_isBlockAddress_19 : decode cX11_isBlockAddress 19 = .ok (.goto 4, 3) := by decide +kernel
theorem dX11_isBlockAddress_22 : decode cX11_isBlockAddress 22 = .ok (.iconst 0, 1) := by decide +kernel
theorem dX11_isBlockAddress_23 : decode cX11_isBlockAddress 23 = .ok (.ireturn, 1) := by decide +kernel
theorem dJ6_numberOfTrailingZeros_0f7a4_0 : decode cJ6_numberOfTrailingZeros_0f7a4 0 = .ok (.iload_n 0, 1) := by decide +kernel
theorem dJ6_numberOfTrailingZeros_0f7a4_1 : decode cJ6_numberOfTrailingZeros_0f7a4 1 = .ok (.iconst (-1), 1) := by decide +kernel
theorem dJ6_numberOfTrailingZeros_0f7a4_2 : decode cJ6_numberOfTrailingZeros_0f7a4 2 = .ok (.ixor, 1) := by decide +kernel
theorem dJ6_numberOfTrailingZeros_0f7a4_3 : decode cJ6_numberOfTrailingZeros_0f7a4 3 = .ok (.iload_n 0, 1) := by decide +kernel
theorem dJ6_numberOfTrailingZeros_0f7a4_4 : decode cJ6_numberOfTrailingZeros_0f7a4 4 = .ok (.iconst 1, 1) := by decide +kernel
theorem dJ6_numberOfTrailingZeros_0f7a4_5 : decode cJ6_numberOfTrailingZeros_0f7a4 5 = .ok (.isub, 1) := by decide +kernel
theorem dJ6_numberOfTrailingZeros_0f7a4_6 : decode cJ6_numberOfTrailingZeros_0f7a4 6 = .ok (.iand, 1) := by decide +kernel
theorem dJ6_numberOfTrailingZeros_0f7a4_7 : decode cJ6_numberOfTrailingZeros_0f7a4 7 = .ok (.istore_n 0, 1) := by decide +kernel
theorem dJ6_numberOfTrailingZeros_0f7a4_8 : decode cJ6_numberOfTrailingZeros_0f7a4 8 = .ok (.iload_n 0, 1) := by decide +kernel
theorem dJ6_numberOfTrailingZeros_0f7a4_9 : decode cJ6_numberOfTrailingZeros_0f7a4 9 = .ok (.ifCond .gt 8, 3) := by decide +kernel
theorem dJ6_numberOfTrailingZeros_0f7a4_12 : decode cJ6_numberOfTrailingZeros_0f7a4 12 = .ok (.iload_n 0, 1) := by decide +kernel
theorem dJ6_numberOfTrailingZeros_0f7a4_13 : decode cJ6_numberOfTrailingZeros_0f7a4 13 = .ok (.bipush 32, 2) := by decide +kernel
theorem dJ6_numberOfTrailingZeros_0f7a4_15 : decode cJ6_numberOfTrailingZeros_0f7a4 15 = .ok (.iand, 1) := by decide +kernel
theorem dJ6_numberOfTrailingZeros_0f7a4_16 : decode cJ6_numberOfTrailingZeros_0f7a4 16 = .ok (.ireturn, 1) := by decide +kernel
theorem dJ6_numberOfTrailingZeros_0f7a4_17 : decode cJ6_numberOfTrailingZeros_0f7a4 17 = .ok (.iconst 1, 1) := by decide +kernel
theorem dJ6_numberOfTrailingZeros_0f7a4_18 : decode cJ6_numberOfTrailingZeros_0f7a4 18 = .ok (.istore_n 1, 1) := by decide +kernel
theorem dJ6_numberOfTrailingZeros_0f7a4_19 : decode cJ6_numberOfTrailingZeros_0f7a4 19 = .ok (.iload_n 0, 1) := by decide +kernel
theorem dJ6_numberOfTrailingZeros_0f7a4_20 : decode cJ6_numberOfTrailingZeros_0f7a4 20 = .ok (.ldc_w 264, 3) := by decide +kernel
theorem dJ6_numberOfTrailingZeros_0f7a4_23 : decode cJ6_numberOfTrailingZeros_0f7a4 23 = .ok (.if_icmp .le 11, 3) := by decide +kernel
theorem dJ6_numberOfTrailingZeros_0f7a4_26 : decode cJ6_numberOfTrailingZeros_0f7a4 26 = .ok (.iinc 1 16, 3) := by decide +kernel
theorem dJ6_numberOfTrailingZeros_0f7a4_29 : decode cJ6_numberOfTrailingZeros_0f7a4 29 = .ok (.iload_n 0, 1) := by decide +kernel
theorem dJ6_numberOfTrailingZeros_0f7a4_30 : decode cJ6_numberOfTrailingZeros_0f7a4 30 = .ok (.bipush 16, 2) := by decide +kernel
theorem dJ6_numberOfTrailingZeros_0f7a4_32 : decode cJ6_numberOfTrailingZeros_0f7a4 32 = .ok (.iushr, 1) := by decide +kernel
theorem dJ6_numberOfTrailingZeros_0f7a4_33 : decode cJ6_numberOfTrailingZeros_0f7a4 33 = .ok (.istore_n 0, 1) := by decide +kernel
theorem dJ6_numberOfTrailingZeros_0f7a4_34 : decode cJ6_numberOfTrailingZeros_0f7a4 34 = .ok (.iload_n 0, 1) := by decide +kernel
theorem dJ6_numberOfTrailingZeros_0f7a4_35 : decode cJ6_numberOfTrailingZeros_0f7a4 35 = .ok (.sipush 256, 3) := by decide +kernel
theorem dJ6_numberOfTrailingZeros_0f7a4_38 : decode cJ6_numberOfTrailingZeros_0f7a4 38 = .ok (.if_icmp .le 11, 3) := by decide +kernel
theorem dJ6_numberOfTrailingZeros_0f7a4_41 : decode cJ6_numberOfTrailingZeros_0f7a4 41 = .ok (.iinc 1 8, 3) := by decide +kernel
theorem dJ6_numberOfTrailingZeros_0f7a4_44 : decode cJ6_numberOfTrailingZeros_0f7a4 44 = .ok (.iload_n 0, 1) := by decide +kernel
theorem dJ6_numberOfTrailingZeros_0f7a4_45 : decode cJ6_numberOfTrailingZeros_0f7a4 45 = .ok (.bipush 8, 2) := by decide +kernel
theorem dJ6_numberOfTrailingZeros_0f7a4_47 : decode cJ6_numberOfTrailingZeros_0f7a4 47 = .ok (.iushr, 1) := by decide +kernel
theorem dJ6_numberOfTrailingZeros_0f7a4_48 : decode cJ6_numberOfTrailingZeros_0f7a4 48 = .ok (.istore_n 0, 1) := by decide +kernel
theorem dJ6_numberOfTrailingZeros_0f7a4_49 : decode cJ6_numberOfTrailingZeros_0f7a4 49 = .ok (.iload_n 0, 1) := by decide +kernel
theorem dJ6_numberOfTrailingZeros_0f7a4_50 : decode cJ6_numberOfTrailingZeros_0f7a4 50 = .ok (.bipush 16, 2) := by decide +kernel
theorem dJ6_numberOfTrailingZeros_0f7a4_52 : decode cJ6_numberOfTrailingZeros_0f7a4 52 = .ok (.if_icmp .le 10, 3) := by decide +kernel
theorem dJ6_numberOfTrailingZeros_0f7a4_55 : decode cJ6_numberOfTrailingZeros_0f7a4 55 = .ok (.iinc 1 4, 3) := by decide +kernel
theorem dJ6_numberOfTrailingZeros_0f7a4_58 : decode cJ6_numberOfTrailingZeros_0f7a4 58 = .ok (.iload_n 0, 1) := by decide +kernel
theorem dJ6_numberOfTrailingZeros_0f7a4_59 : decode cJ6_numberOfTrailingZeros_0f7a4 59 = .ok (.iconst 4, 1) := by decide +kernel
theorem dJ6_numberOfTrailingZeros_0f7a4_60 : decode cJ6_numberOfTrailingZeros_0f7a4 60 = .ok (.iushr, 1) := by decide +kernel
theorem dJ6_numberOfTrailingZeros_0f7a4_61 : decode cJ6_numberOfTrailingZeros_0f7a4 61 = .ok (.istore_n 0, 1) := by decide +kernel
theorem dJ6_numberOfTrailingZeros_0f7a4_62 : decode cJ6_numberOfTrailingZeros_0f7a4 62 = .ok (.iload_n 0, 1) := by decide +kernel
theorem dJ6_numberOfTrailingZeros_0f7a4_63 : decode cJ6_numberOfTrailingZeros_0f7a4 63 = .ok (.iconst 4, 1) := by decide +kernel
theorem dJ6_numberOfTrailingZeros_0f7a4_64 : decode cJ6_numberOfTrailingZeros_0f7a4 64 = .ok (.if_icmp .le 10, 3) := by decide +kernel
theorem dJ6_numberOfTrailingZeros_0f7a4_67 : decode cJ6_numberOfTrailingZeros_0f7a4 67 = .ok (.iinc 1 2, 3) := by decide +kernel
theorem dJ6_numberOfTrailingZeros_0f7a4_70 : decode cJ6_numberOfTrailingZeros_0f7a4 70 = .ok (.iload_n 0, 1) := by decide +kernel
theorem dJ6_numberOfTrailingZeros_0f7a4_71 : decode cJ6_numberOfTrailingZeros_0f7a4 71 = .ok (.iconst 2, 1) := by decide +kernel
theorem dJ6_numberOfTrailingZeros_0f7a4_72 : decode cJ6_numberOfTrailingZeros_0f7a4 72 = .ok (.iushr, 1) := by decide +kernel
theorem dJ6_numberOfTrailingZeros_0f7a4_73 : decode cJ6_numberOfTrailingZeros_0f7a4 73 = .ok (.istore_n 0, 1) := by decide +kernel
theorem dJ6_numberOfTrailingZeros_0f7a4_74 : decode cJ6_numberOfTrailingZeros_0f7a4 74 = .ok (.iload_n 1, 1) := by decide +kernel
theorem dJ6_numberOfTrailingZeros_0f7a4_75 : decode cJ6_numberOfTrailingZeros_0f7a4 75 = .ok (.iload_n 0, 1) := by decide +kernel
theorem dJ6_numberOfTrailingZeros_0f7a4_76 : decode cJ6_numberOfTrailingZeros_0f7a4 76 = .ok (.iconst 1, 1) := by decide +kernel
theorem dJ6_numberOfTrailingZeros_0f7a4_77 : decode cJ6_numberOfTrailingZeros_0f7a4 77 = .ok (.iushr, 1) := by decide +kernel
theorem dJ6_numberOfTrailingZeros_0f7a4_78 : decode cJ6_numberOfTrailingZeros_0f7a4 78 = .ok (.iadd, 1) := by decide +kernel
theorem dJ6_numberOfTrailingZeros_0f7a4_79 : decode cJ6_numberOfTrailingZeros_0f7a4 79 = .ok (.ireturn, 1) := by decide +kernel
theorem dJ6_bitCount_0f7a4_0 : decode cJ6_bitCount_0f7a4 0 = .ok (.iload_n 0, 1) := by decide +kernel
theorem dJ6_bitCount_0f7a4_1 : decode cJ6_bitCount_0f7a4 1 = .ok (.iload_n 0, 1) := by decide +kernel
theorem dJ6_bitCount_0f7a4_2 : decode cJ6_bitCount_0f7a4 2 = .ok (.iconst 1, 1) := by decide +kernel
theorem dJ6_bitCount_0f7a4_3 : decode cJ6_bitCount_0f7a4 3 = .ok (.iushr, 1) := by decide +kernel
theorem dJ6_bitCount_0f7a4_4 : decode cJ6_bitCount_0f7a4 4 = .ok (.ldc_w 265, 3) := by decide +kernel
theorem dJ6_bitCount_0f7a4_7 : decode cJ6_bitCount_0f7a4 7 = .ok (.iand, 1) := by decide +kernel
theorem dJ6_bitCount_0f7a4_8 : decode cJ6_bitCount_0f7a4 8 = .ok (.isub, 1) := by decide +kernel
theorem dJ6_bitCount_0f7a4_9 : decode cJ6_bitCount_0f7a4 9 = .ok (.istore_n 0, 1) := by decide +kernel
theorem dJ6_bitCount_0f7a4_10 : decode cJ6_bitCount_0f7a4 10 = .ok (.iload_n 0, 1) := by decide +kernel
theorem dJ6_bitCount_0f7a4_11 : decode cJ6_bitCount_0f7a4 11 = .ok (.ldc_w 266, 3) := by decide +kernel
theorem dJ6_bitCount_0f7a4_14 : decode cJ6_bitCount_0f7a4 14 = .ok (.iand, 1) := by decide +kernel
theorem dJ6_bitCount_0f7a4_15 : decode cJ6_bitCount_0f7a4 15 = .ok (.iload_n 0, 1) := by decide +kernel
theorem dJ6_bitCount_0f7a4_16 : decode cJ6_bitCount_0f7a4 16 = .ok (.iconst 2, 1) := by decide +kernel
theorem dJ6_bitCount_0f7a4_17 : decode cJ6_bitCount_0f7a4 17 = .ok (.iushr, 1) := by decide +kernel
theorem dJ6_bitCount_0f7a4_18 : decode cJ6_bitCount_0f7a4 18 = .ok (.ldc_w 266, 3) := by decide +kernel
theorem dJ6_bitCount_0f7a4_21 : decode cJ6_bitCount_0f7a4 21 = .ok (.iand, 1) := by decide +kernel
theorem dJ6_bitCount_0f7a4_22 : decode cJ6_bitCount_0f7a4 22 = .ok (.iadd, 1) := by decide +kernel
theorem dJ6_bitCount_0f7a4_23 : decode cJ6_bitCount_0f7a4 23 = .ok (.istore_n 0, 1) := by decide +kernel
theorem dJ6_bitCount_0f7a4_24 : decode cJ6_bitCount_0f7a4 24 = .ok (.iload_n 0, 1) := by decide +kernel
theorem dJ6_bitCount_0f7a4_25 : decode cJ6_bitCount_0f7a4 25 = .ok (.iload_n 0, 1) := by decide +kernel
theorem dJ6_bitCount_0f7a4_26 : decode cJ6_bitCount_0f7a4 26 = .ok (.iconst 4, 1) := by decide +kernel
theorem dJ6_bitCount_0f7a4_27 : decode cJ6_bitCount_0f7a4 27 = .ok (.iushr, 1) := by decide +kernel
theorem dJ6_bitCount_0f7a4_28 : decode cJ6_bitCount_0f7a4 28 = .ok (.iadd, 1) := by decide +kernel
theorem dJ6_bitCount_0f7a4_29 : decode cJ6_bitCount_0f7a4 29 = .ok (.ldc_w 267, 3) := by decide +kernel
theorem dJ6_bitCount_0f7a4_32 : decode cJ6_bitCount_0f7a4 32 = .ok (.iand, 1) := by decide +kernel
theorem dJ6_bitCount_0f7a4_33 : decode cJ6_bitCount_0f7a4 33 = .ok (.istore_n 0, 1) := by decide +kernel
theorem dJ6_bitCount_0f7a4_34 : decode cJ6_bitCount_0f7a4 34 = .ok (.iload_n 0, 1) := by decide +kernel
theorem dJ6_bitCount_0f7a4_35 : decode cJ6_bitCount_0f7a4 35 = .ok (.iload_n 0, 1) := by decide +kernel
theorem dJ6_bitCount_0f7a4_36 : decode cJ6_bitCount_0f7a4 36 = .ok (.bipush 8, 2) := by decide +kernel
theorem dJ6_bitCount_0f7a4_38 : decode cJ6_bitCount_0f7a4 38 = .ok (.iushr, 1) := by decide +kernel
theorem dJ6_bitCount_0f7a4_39 : decode cJ6_bitCount_0f7a4 39 = .ok (.iadd, 1) := by decide +kernel
theorem dJ6_bitCount_0f7a4_40 : decode cJ6_bitCount_0f7a4 40 = .ok (.istore_n 0, 1) := by decide +kernel
theorem dJ6_bitCount_0f7a4_41 : decode cJ6_bitCount_0f7a4 41 = .ok (.iload_n 0, 1) := by decide +kernel
theorem dJ6_bitCount_0f7a4_42 : decode cJ6_bitCount_0f7a4 42 = .ok (.iload_n 0, 1) := by decide +kernel
theorem dJ6_bitCount_0f7a4_43 : decode cJ6_bitCount_0f7a4 43 = .ok (.bipush 16, 2) := by decide +kernel
theorem dJ6_bitCount_0f7a4_45 : decode cJ6_bitCount_0f7a4 45 = .ok (.iushr, 1) := by decide +kernel
theorem dJ6_bitCount_0f7a4_46 : decode cJ6_bitCount_0f7a4 46 = .ok (.iadd, 1) := by decide +kernel
theorem dJ6_bitCount_0f7a4_47 : decode cJ6_bitCount_0f7a4 47 = .ok (.istore_n 0, 1) := by decide +kernel
theorem dJ6_bitCount_0f7a4_48 : decode cJ6_bitCount_0f7a4 48 = .ok (.iload_n 0, 1) := by decide +kernel
theorem dJ6_bitCount_0f7a4_49 : decode cJ6_bitCount_0f7a4 49 = .ok (.bipush 63, 2) := by decide +kernel
theorem dJ6_bitCount_0f7a4_51 : decode cJ6_bitCount_0f7a4 51 = .ok (.iand, 1) := by decide +kernel
theorem dJ6_bitCount_0f7a4_52 : decode cJ6_bitCount_0f7a4 52 = .ok (.ireturn, 1) := by decide +kernel
theorem dJ13_bitCount_95d88_0 : decode cJ13_bitCount_95d88 0 = .ok (.lload_n 0, 1) := by decide +kernel
theorem dJ13_bitCount_95d88_1 : decode cJ13_bitCount_95d88 1 = .ok (.lload_n 0, 1) := by decide +kernel
theorem dJ13_bitCount_95d88_2 : decode cJ13_bitCount_95d88 2 = .ok (.iconst 1, 1) := by decide +kernel
theorem dJ13_bitCount_95d88_3 : decode cJ13_bitCount_95d88 3 = .ok (.lushr, 1) := by decide +kernel
theorem dJ13_bitCount_95d88_4 : decode cJ13_bitCount_95d88 4 = .ok (.ldc2_w 314, 3) := by decide +kernel
theorem dJ13_bitCount_95d88_7 : decode cJ13_bitCount_95d88 7 = .ok (.land, 1) := by decide +kernel
theorem dJ13_bitCount_95d88_8 : decode cJ13_bitCount_95d88 8 = .ok (.lsub, 1) := by decide +kernel
theorem dJ13_bitCount_95d88_9 : decode cJ13_bitCount_95d88 9 = .ok (.lstore_n 0, 1) := by decide +kernel
theorem dJ13_bitCount_95d88_10 : decode cJ13_bitCount_95d88 10 = .ok (.lload_n 0, 1) := by decide +kernel
theorem dJ13_bitCount_95d88_11 : decode cJ13_bitCount_95d88 11 = .ok (.ldc2_w 316, 3) := by decide +kernel
theorem dJ13_bitCount_95d88_14 : decode cJ13_bitCount_95d88 14 = .ok (.land, 1) := by decide +kernel
theorem dJ13_bitCount_95d88_15 : decode cJ13_bitCount_95d88 15 = .ok (.lload_n 0, 1) := by decide +kernel
theorem dJ13_bitCount_95d88_16 : decode cJ13_bitCount_95d88 16 = .ok (.iconst 2, 1) := by decide +kernel
theorem dJ13_bitCount_95d88_17 : decode cJ13_bitCount_95d88 17 = .ok (.lushr, 1) := by decide +kernel
theorem dJ13_bitCount_95d88_18 : decode cJ13_bitCount_95d88 18 = .ok (.ldc2_w 316, 3) := by decide +kernel
theorem dJ13_bitCount_95d88_21 : decode cJ13_bitCount_95d88 21 = .ok (.land, 1) := by decide +kernel
theorem dJ13_bitCount_95d88_22 : decode cJ13_bitCount_95d88 22 = .ok (.ladd, 1) := by decide +kernel
theorem dJ13_bitCount_95d88_23 : decode cJ13_bitCount_95d88 23 = .ok (.lstore_n 0, 1) := by decide +kernel
theorem dJ13_bitCount_95d88_24 : decode cJ13_bitCount_95d88 24 = .ok (.lload_n 0, 1) := by decide +kernel
theorem dJ13_bitCount_95d88_25 : decode cJ13_bitCount_95d88 25 = .ok (.lload_n 0, 1) := by decide +kernel
theorem dJ13_bitCount_95d88_26 : decode cJ13_bitCount_95d88 26 = .ok (.iconst 4, 1) := by decide +kernel
theorem dJ13_bitCount_95d88_27 : decode cJ13_bitCount_95d88 27 = .ok (.lushr, 1) := by decide +kernel
theorem dJ13_bitCount_95d88_28 : decode cJ13_bitCount_95d88 28 = .ok (.ladd, 1) := by decide +kernel
theorem dJ13_bitCount_95d88_29 : decode cJ13_bitCount_95d88 29 = .ok (.ldc2_w 318, 3) := by decide +kernel
theorem dJ13_bitCount_95d88_32 : decode cJ13_bitCount_95d88 32 = .ok (.land, 1) := by decide +kernel
theorem dJ13_bitCount_95d88_33 : decode cJ13_bitCount_95d88 33 = .ok (.lstore_n 0, 1) := by decide +kernel
theorem dJ13_bitCount_95d88_34 : decode cJ13_bitCount_95d88 34 = .ok (.lload_n 0, 1) := by decide +kernel
theorem dJ13_bitCount_95d88_35 : decode cJ13_bitCount_95d88 35 = .ok (.lload_n 0, 1) := by decide +kernel
theorem dJ13_bitCount_95d88_36 : decode cJ13_bitCount_95d88 36 = .ok (.bipush 8, 2) := by decide +kernel
theorem dJ13_bitCount_95d88_38 : decode cJ13_bitCount_95d88 38 = .ok (.lushr, 1) := by decide +kernel
theorem dJ13_bitCount_95d88_39 : decode cJ13_bitCount_95d88 39 = .ok (.ladd, 1) := by decide +kernel
theorem dJ13_bitCount_95d88_40 : decode cJ13_bitCount_95d88 40 = .ok (.lstore_n 0, 1) := by decide +kernel
theorem dJ13_bitCount_95d88_41 : decode cJ13_bitCount_95d88 41 = .ok (.lload_n 0, 1) := by decide +kernel
theorem dJ13_bitCount_95d88_42 : decode cJ13_bitCount_95d88 42 = .ok (.lload_n 0, 1) := by decide +kernel
theorem dJ13_bitCount_95d88_43 : decode cJ13_bitCount_95d88 43 = .ok (.bipush 16, 2) := by decide +kernel
theorem dJ13_bitCount_95d88_45 : decode cJ13_bitCount_95d88 45 = .ok (.lushr, 1) := by decide +kernel
theorem dJ13_bitCount_95d88_46 : decode cJ13_bitCount_95d88 46 = .ok (.ladd, 1) := by decide +kernel
theorem dJ13_bitCount_95d88_47 : decode cJ13_bitCount_95d88 47 = .ok (.lstore_n 0, 1) := by decide +kernel
theorem dJ13_bitCount_95d88_48 : decode cJ13_bitCount_95d88 48 = .ok (.lload_n 0, 1) := by decide +kernel
theorem dJ13_bitCount_95d88_49 : decode cJ13_bitCount_95d88 49 = .ok (.lload_n 0, 1) := by decide +kernel
theorem dJ13_bitCount_95d88_50 : decode cJ13_bitCount_95d88 50 = .ok (.bipush 32, 2) := by decide +kernel
theorem dJ13_bitCount_95d88_52 : decode cJ13_bitCount_95d88 52 = .ok (.lushr, 1) := by decide +kernel
theorem dJ13_bitCount_95d88_53 : decode cJ13_bitCount_95d88 53 = .ok (.ladd, 1) := by decide +kernel
theorem dJ13_bitCount_95d88_54 : decode cJ13_bitCount_95d88 54 = .ok (.lstore_n 0, 1) := by decide +kernel
theorem dJ13_bitCount_95d88_55 : decode cJ13_bitCount_95d88 55 = .ok (.lload_n 0, 1) := by decide +kernel
theorem dJ13_bitCount_95d88_56 : decode cJ13_bitCount_95d88 56 = .ok (.l2i, 1) := by decide +kernel
theorem dJ13_bitCount_95d88_57 : decode cJ13_bitCount_95d88 57 = .ok (.bipush 127, 2) := by decide +kernel
theorem dJ13_bitCount_95d88_59 : decode cJ13_bitCount_95d88 59 = .ok (.iand, 1) := by decide +kernel
theorem dJ13_bitCount_95d88_60 : decode cJ13_bitCount_95d88 60 = .ok (.ireturn, 1) := by decide +kernel
theorem dJ9_max_7cf53_0 : decode cJ9_max_7cf53 0 = .ok (.iload_n 0, 1) := by decide +kernel
theorem dJ9_max_7cf53_1 : decode cJ9_max_7cf53 1 = .ok (.iload_n 1, 1) := by decide +kernel
theorem dJ9_max_7cf53_2 : decode cJ9_max_7cf53 2 = .ok (.if_icmp .lt 7, 3) := by decide +kernel
theorem dJ9_max_7cf53_5 : decode cJ9_max_7cf53 5 = .ok (.iload_n 0, 1) := by decide +kernel
theorem dJ9_max_7cf53_6 : decode cJ9_max_7cf53 6 = .ok (.goto 4, 3) := by decide +kernel
theorem dJ9_max_7cf53_9 : decode cJ9_max_7cf53 9 = .ok (.iload_n 1, 1) := by decide +kernel
theorem dJ9_max_7cf53_10 : decode cJ9_max_7cf53 10 = .ok (.ireturn, 1) := by decide +kernel
theorem dJ9_min_7cf53_0 : decode cJ9_min_7cf53 0 = .ok (.iload_n 0, 1) := by decide +kernel
theorem dJ9_min_7cf53_1 : decode cJ9_min_7cf53 1 = .ok (.iload_n 1, 1) := by decide +kernel
theorem dJ9_min_7cf53_2 : decode cJ9_min_7cf53 2 = .ok (.if_icmp .gt 7, 3) := by decide +kernel
theorem dJ9_min_7cf53_5 : decode cJ9_min_7cf53 5 = .ok (.iload_n 0, 1) := by decide +kernel
theorem dJ9_min_7cf53_6 : decode cJ9_min_7cf53 6 = .ok (.goto 4, 3) := by decide +kernel
theorem dJ9_min_7cf53_9 : decode cJ9_min_7cf53 9 = .ok (.iload_n 1, 1) := by decide +kernel
theorem dJ9_min_7cf53_10 : decode cJ9_min_7cf53 10 = .ok (.ireturn, 1) := by decide +kernel
theorem dJ0_length_8abf5_0 : decode cJ0_length_8abf5 0 = .ok (.aload_n 0, 1) := by decide +kernel
theorem dJ0_length_8abf5_1 : decode cJ0_length_8abf5 1 = .ok (.getfield 9, 3) := by decide +kernel
theorem dJ0_length_8abf5_4 : decode cJ0_length_8abf5 4 = .ok (.arraylength, 1) := by decide +kernel
theorem dJ0_length_8abf5_5 : decode cJ0_length_8abf5 5 = .ok (.aload_n 0, 1) := by decide +kernel
theorem dJ0_length_8abf5_6 : decode cJ0_length_8abf5 6 = .ok (.invokevirtual 335, 3) := by decide +kernel
theorem dJ0_length_8abf5_9 : decode cJ0_length_8abf5 9 = .ok (.ishr, 1) := by decide +kernel
theorem dJ0_length_8abf5_10 : decode cJ0_length_8abf5 10 = .ok (.ireturn, 1) := by decide +kernel
theorem dJ0_charAt_5068e_0 : decode cJ0_charAt_5068e 0 = .ok (.aload_n 0, 1) := by decide +kernel
theorem dJ0_charAt_5068e_1 : decode cJ0_charAt_5068e 1 = .ok (.invokevirtual 492, 3) := by decide +kernel
theorem dJ0_charAt_5068e_4 : decode cJ0_charAt_5068e 4 = .ok (.ifCond .eq 12, 3) := by decide +kernel
theorem dJ0_charAt_5068e_7 : decode cJ0_charAt_5068e 7 = .ok (.aload_n 0, 1) := by decide +kernel
theorem dJ0_charAt_5068e_8 : decode cJ0_charAt_5068e 8 = .ok (.getfield 9, 3) := by decide +kernel
theorem dJ0_charAt_5068e_11 : decode cJ0_charAt_5068e 11 = .ok (.iload_n 1, 1) := by decide +kernel
theorem dJ0_charAt_5068e_12 : decode cJ0_charAt_5068e 12 = .ok (.invokestatic 495, 3) := by decide +kernel
theorem dJ0_charAt_5068e_15 : decode cJ0_charAt_5068e 15 = .ok (.ireturn, 1) := by decide +kernel
theorem dJ0_charAt_5068e_16 : decode cJ0_charAt_5068e 16 = .ok (.aload_n 0, 1) := by decide +kernel
theorem dJ0_charAt_5068e_17 : decode cJ0_charAt_5068e 17 = .ok (.getfield 9, 3) := by decide +kernel
theorem dJ0_charAt_5068e_20 : decode cJ0_charAt_5068e 20 = .ok (.iload_n 1, 1) := by decide +kernel
theorem dJ0_charAt_5068e_21 : decode cJ0_charAt_5068e 21 = .ok (.invokestatic 498, 3) := by decide +kernel
theorem dJ0_charAt_5068e_24 : decode cJ0_charAt_5068e 24 = .ok (.ireturn, 1) := by decide +kernel
theorem dJ0_coder_7d493_0 : decode cJ0_coder_7d493 0 = .ok (.getstatic 38, 3) := by decide +kernel
theorem dJ0_coder_7d493_3 : decode cJ0_coder_7d493 3 = .ok (.ifCond .eq 10, 3) := by decide +kernel
theorem dJ0_coder_7d493_6 : decode cJ0_coder_7d493 6 = .ok (.aload_n 0, 1) := by decide +kernel
theorem dJ0_coder_7d493_7 : decode cJ0_coder_7d493 7 = .ok (.getfield 15, 3) := by decide +kernel
theorem dJ0_coder_7d493_10 : decode cJ0_coder_7d493 10 = .ok (.goto 4, 3) := by decide +kernel
theorem dJ0_coder_7d493_13 : decode cJ0_coder_7d493 13 = .ok (.iconst 1, 1) := by decide +kernel
theorem dJ0_coder_7d493_14 : decode cJ0_coder_7d493 14 = .ok (.ireturn, 1) := by decide +kernel
theorem dJ0_isLatin1_aae02_0 : decode cJ0_isLatin1_aae02 0 = .ok (.getstatic 38, 3) := by decide +kernel
theorem dJ0_isLatin1_aae02_3 : decode cJ0_isLatin1_aae02 3 = .ok (.ifCond .eq 14, 3) := by decide +kernel
theorem dJ0_isLatin1_aae02_6 : decode cJ0_isLatin1_aae02 6 = .ok (.aload_n 0, 1) := by decide +kernel
theorem dJ0_isLatin1_aae02_7 : decode cJ0_isLatin1_aae02 7 = .ok (.getfield 15, 3) := by decide +kernel
theorem dJ0_isLatin1_aae02_10 : decode cJ0_isLatin1_aae02 10 = .ok (.ifCond .ne 7, 3) := by decide +kernel
theorem dJ0_isLatin1_aae02_13 : decode cJ0_isLatin1_aae02 13 = .ok (.iconst 1, 1) := by decide +kernel
theorem dJ0_isLatin1_aae02_14 : decode cJ0_isLatin1_aae02 14 = .ok (.goto 4, 3) := by decide +kernel
theorem dJ0_isLatin1_aae02_17 : decode cJ0_isLatin1_aae02 17 = .ok (.iconst 0, 1) := by decide +kernel
theorem dJ0_isLatin1_aae02_18 : decode cJ0_isLatin1_aae02 18 = .ok (.ireturn, 1) := by decide +kernel
theorem dJ0_checkIndex_df160_0 : decode cJ0_checkIndex_df160 0 = .ok (.iload_n 0, 1) := by decide +kernel
theorem dJ0_checkIndex_df160_1 : decode cJ0_checkIndex_df160 1 = .ok (.iload_n 1, 1) := by decide +kernel
theorem dJ0_checkIndex_df160_2 : decode cJ0_checkIndex_df160 2 = .ok (.getstatic 1053, 3) := by decide +kernel
theorem dJ0_checkIndex_df160_5 : decode cJ0_checkIndex_df160 5 = .ok (.invokestatic 1059, 3) := by decide +kernel
theorem dJ0_checkIndex_df160_8 : decode cJ0_checkIndex_df160 8 = .ok (.pop, 1) := by decide +kernel
theorem dJ0_checkIndex_df160_9 : decode cJ0_checkIndex_df160 9 = .ok (.return_, 1) := by decide +kernel
theorem dJ1_charAt_3b067_0 : decode cJ1_charAt_3b067 0 = .ok (.iload_n 1, 1) := by decide +kernel
theorem dJ1_charAt_3b067_1 : decode cJ1_charAt_3b067 1 = .ok (.aload_n 0, 1) := by decide +kernel
theorem dJ1_charAt_3b067_2 : decode cJ1_charAt_3b067 2 = .ok (.arraylength, 1) := by decide +kernel
theorem dJ1_charAt_3b067_3 : decode cJ1_charAt_3b067 3 = .ok (.invokestatic 9, 3) := by decide +kernel
theorem dJ1_charAt_3b067_6 : decode cJ1_charAt_3b067 6 = .ok (.aload_n 0, 1) := by decide +kernel
theorem dJ1_charAt_3b067_7 : decode cJ1_charAt_3b067 7 = .ok (.iload_n 1, 1) := by decide +kernel
theorem dJ1_charAt_3b067_8 : decode cJ1_charAt_3b067 8 = .ok (.baload, 1) := by decide +kernel
theorem dJ1_charAt_3b067_9 : decode cJ1_charAt_3b067 9 = .ok (.sipush 255, 3) := by decide +kernel
theorem dJ1_charAt_3b067_12 : decode cJ1_charAt_3b067 12 = .ok (.iand, 1) := by decide +kernel
theorem dJ1_charAt_3b067_13 : decode cJ1_charAt_3b067 13 = .ok (.i2c, 1) := by decide +kernel
theorem dJ1_charAt_3b067_14 : decode cJ1_charAt_3b067 14 = .ok (.ireturn, 1) := by decide +kernel
theorem dJ2_getChar_3b067_0 : decode cJ2_getChar_3b067 0 = .ok (.getstatic 44, 3) := by decide +kernel
theorem dJ2_getChar_3b067_3 : decode cJ2_getChar_3b067 3 = .ok (.ifCond .ne 25, 3) := by decide +kernel
theorem dJ2_getChar_3b067_6 : decode cJ2_getChar_3b067 6 = .ok (.iload_n 1, 1) := by decide +kernel
theorem dJ2_getChar_3b067_7 : decode cJ2_getChar_3b067 7 = .ok (.ifCond .lt 11, 3) := by decide +kernel
theorem dJ2_getChar_3b067_10 : decode cJ2_getChar_3b067 10 = .ok (.iload_n 1, 1) := by decide +kernel
theorem dJ2_getChar_3b067_11 : decode cJ2_getChar_3b067 11 = .ok (.aload_n 0, 1) := by decide +kernel
theorem dJ2_getChar_3b067_12 : decode cJ2_getChar_3b067 12 = .ok (.invokestatic 48, 3) := by decide +kernel
theorem dJ2_getChar_3b067_15 : decode cJ2_getChar_3b067 15 = .ok (.if_icmp .lt 13, 3) := by decide +kernel
theorem dJ2_getChar_3b067_18 : decode cJ2_getChar_3b067 18 = .ok (.new 52, 3) := by decide +kernel
theorem dJ2_getChar_3b067_21 : decode cJ2_getChar_3b067 21 = .ok (.dup, 1) := by decide +kernel
theorem dJ2_getChar_3b067_22 : decode cJ2_getChar_3b067 22 = .ok (.ldc 54, 2) := by decide +kernel
theorem dJ2_getChar_3b067_24 : decode cJ2_getChar_3b067 24 = .ok (.invokespecial 56, 3) := by decide +kernel
theorem dJ2_getChar_3b067_27 : decode cJ2_getChar_3b067 27 = .ok (.athrow, 1) := by decide +kernel
theorem dJ2_getChar_3b067_28 : decode cJ2_getChar_3b067 28 = .ok (.iload_n 1, 1) := by decide +kernel
theorem dJ2_getChar_3b067_29 : decode cJ2_getChar_3b067 29 = .ok (.iconst 1, 1) := by decide +kernel
theorem dJ2_getChar_3b067_30 : decode cJ2_getChar_3b067 30 = .ok (.ishl, 1) := by decide +kernel
theorem dJ2_getChar_3b067_31 : decode cJ2_getChar_3b067 31 = .ok (.istore_n 1, 1) := by decide +kernel
theorem dJ2_getChar_3b067_32 : decode cJ2_getChar_3b067 32 = .ok (.aload_n 0, 1) := by decide +kernel
theorem dJ2_getChar_3b067_33 : decode cJ2_getChar_3b067 33 = .ok (.iload_n 1, 1) := by decide +kernel
theorem dJ2_getChar_3b067_34 : decode cJ2_getChar_3b067 34 = .ok (.iinc 1 1, 3) := by decide +kernel
theorem dJ2_getChar_3b067_37 : decode cJ2_getChar_3b067 37 = .ok (.baload, 1) := by decide +kernel
theorem dJ2_getChar_3b067_38 : decode cJ2_getChar_3b067 38 = .ok (.sipush 255, 3) := by decide +kernel
theorem dJ2_getChar_3b067_41 : decode cJ2_getChar_3b067 41 = .ok (.iand, 1) := by decide +kernel
theorem dJ2_getChar_3b067_42 : decode cJ2_getChar_3b067 42 = .ok (.getstatic 59, 3) := by decide +kernel
theorem dJ2_getChar_3b067_45 : decode cJ2_getChar_3b067 45 = .ok (.ishl, 1) := by decide +kernel
theorem dJ2_getChar_3b067_46 : decode cJ2_getChar_3b067 46 = .ok (.aload_n 0, 1) := by decide +kernel
theorem dJ2_getChar_3b067_47 : decode cJ2_getChar_3b067 47 = .ok (.iload_n 1, 1) := by decide +kernel
theorem dJ2_getChar_3b067_48 : decode cJ2_getChar_3b067 48 = .ok (.baload, 1) := by decide +kernel
theorem dJ2_getChar_3b067_49 : decode cJ2_getChar_3b067 49 = .ok (.sipush 255, 3) := by decide +kernel
theorem dJ2_getChar_3b067_52 : decode cJ2_getChar_3b067 52 = .ok (.iand, 1) := by decide +kernel
theorem dJ2_getChar_3b067_53 : decode cJ2_getChar_3b067 53 = .ok (.getstatic 63, 3) := by decide +kernel
theorem dJ2_getChar_3b067_56 : decode cJ2_getChar_3b067 56 = .ok (.ishl, 1) := by decide +kernel
theorem dJ2_getChar_3b067_57 : decode cJ2_getChar_3b067 57 = .ok (.ior, 1) := by decide +kernel
theorem dJ2_getChar_3b067_58 : decode cJ2_getChar_3b067 58 = .ok (.i2c, 1) := by decide +kernel
theorem dJ2_getChar_3b067_59 : decode cJ2_getChar_3b067 59 = .ok (.ireturn, 1) := by decide +kernel
theorem dJ2_length_9d52b_0 : decode cJ2_length_9d52b 0 = .ok (.aload_n 0, 1) := by decide +kernel
theorem dJ2_length_9d52b_1 : decode cJ2_length_9d52b 1 = .ok (.arraylength, 1) := by decide +kernel
theorem dJ2_length_9d52b_2 : decode cJ2_length_9d52b 2 = .ok (.iconst 1, 1) := by decide +kernel
theorem dJ2_length_9d52b_3 : decode cJ2_length_9d52b 3 = .ok (.ishr, 1) := by decide +kernel
theorem dJ2_length_9d52b_4 : decode cJ2_length_9d52b 4 = .ok (.ireturn, 1) := by decide +kernel
theorem dJ2_charAt_3b067_0 : decode cJ2_charAt_3b067 0 = .ok (.iload_n 1, 1) := by decide +kernel
theorem dJ2_charAt_3b067_1 : decode cJ2_charAt_3b067 1 = .ok (.aload_n 0, 1) := by decide +kernel
theorem dJ2_charAt_3b067_2 : decode cJ2_charAt_3b067 2 = .ok (.invokestatic 67, 3) := by decide +kernel
theorem dJ2_charAt_3b067_5 : decode cJ2_charAt_3b067 5 = .ok (.aload_n 0, 1) := by decide +kernel
theorem dJ2_charAt_3b067_6 : decode cJ2_charAt_3b067 6 = .ok (.iload_n 1, 1) := by decide +kernel
theorem dJ2_charAt_3b067_7 : decode cJ2_charAt_3b067 7 = .ok (.invokestatic 71, 3) := by decide +kernel
theorem dJ2_charAt_3b067_10 : decode cJ2_charAt_3b067 10 = .ok (.ireturn, 1) := by decide +kernel
theorem dJ2_checkIndex_2214a_0 : decode cJ2_checkIndex_2214a 0 = .ok (.iload_n 0, 1) := by decide +kernel
theorem dJ2_checkIndex_2214a_1 : decode cJ2_checkIndex_2214a 1 = .ok (.aload_n 1, 1) := by decide +kernel
theorem dJ2_checkIndex_2214a_2 : decode cJ2_checkIndex_2214a 2 = .ok (.invokestatic 48, 3) := by decide +kernel
theorem dJ2_checkIndex_2214a_5 : decode cJ2_checkIndex_2214a 5 = .ok (.invokestatic 414, 3) := by decide +kernel
theorem dJ2_checkIndex_2214a_8 : decode cJ2_checkIndex_2214a 8 = .ok (.return_, 1) := by decide +kernel
theorem dJ7_fill_53178_0 : decode cJ7_fill_53178 0 = .ok (.iconst 0, 1) := by decide +kernel
theorem dJ7_fill_53178_1 : decode cJ7_fill_53178 1 = .ok (.istore_n 2, 1) := by decide +kernel
theorem dJ7_fill_53178_2 : decode cJ7_fill_53178 2 = .ok (.aload_n 0, 1) := by decide +kernel
theorem dJ7_fill_53178_3 : decode cJ7_fill_53178 3 = .ok (.arraylength, 1) := by decide +kernel
theorem dJ7_fill_53178_4 : decode cJ7_fill_53178 4 = .ok (.istore_n 3, 1) := by decide +kernel
theorem dJ7_fill_53178_5 : decode cJ7_fill_53178 5 = .ok (.iload_n 2, 1) := by decide +kernel
theorem dJ7_fill_53178_6 : decode cJ7_fill_53178 6 = .ok (.iload_n 3, 1) := by decide +kernel
theorem dJ7_fill_53178_7 : decode cJ7_fill_53178 7 = .ok (.if_icmp .ge 13, 3) := by decide +kernel
theorem dJ7_fill_53178_10 : decode cJ7_fill_53178 10 = .ok (.aload_n 0, 1) := by decide +kernel
theorem dJ7_fill_53178_11 : decode cJ7_fill_53178 11 = .ok (.iload_n 2, 1) := by decide +kernel
theorem dJ7_fill_53178_12 : decode cJ7_fill_53178 12 = .ok (.iload_n 1, 1) := by decide +kernel
theorem dJ7_fill_53178_13 : decode cJ7_fill_53178 13 = .ok (.iastore, 1) := by decide +kernel
theorem dJ7_fill_53178_14 : decode cJ7_fill_53178 14 = .ok (.iinc 2 1, 3) := by decide +kernel
theorem dJ7_fill_53178_17 : decode cJ7_fill_53178 17 = .ok (.goto (-12), 3) := by decide +kernel
theorem dJ7_fill_53178_20 : decode cJ7_fill_53178 20 = .ok (.return_, 1) := by decide +kernel
theorem dJ3_checkIndex_8e157_0 : decode cJ3_checkIndex_8e157 0 = .ok (.iload_n 0, 1) := by decide +kernel
theorem dJ3_checkIndex_8e157_1 : decode cJ3_checkIndex_8e157 1 = .ok (.ifCond .lt 8, 3) := by decide +kernel
theorem dJ3_checkIndex_8e157_4 : decode cJ3_checkIndex_8e157 4 = .ok (.iload_n 0, 1) := by decide +kernel
theorem dJ3_checkIndex_8e157_5 : decode cJ3_checkIndex_8e157 5 = .ok (.iload_n 1, 1) := by decide +kernel
theorem dJ3_checkIndex_8e157_6 : decode cJ3_checkIndex_8e157 6 = .ok (.if_icmp .lt 10, 3) := by decide +kernel
theorem dJ3_checkIndex_8e157_9 : decode cJ3_checkIndex_8e157 9 = .ok (.aload_n 2, 1) := by decide +kernel
theorem dJ3_checkIndex_8e157_10 : decode cJ3_checkIndex_8e157 10 = .ok (.iload_n 0, 1) := by decide +kernel
theorem dJ3_checkIndex_8e157_11 : decode cJ3_checkIndex_8e157 11 = .ok (.iload_n 1, 1) := by decide +kernel
theorem dJ3_checkIndex_8e157_12 : decode cJ3_checkIndex_8e157 12 = .ok (.invokestatic 95, 3) := by decide +kernel
theorem dJ3_checkIndex_8e157_15 : decode cJ3_checkIndex_8e157 15 = .ok (.athrow, 1) := by decide +kernel
theorem dJ3_checkIndex_8e157_16 : decode cJ3_checkIndex_8e157 16 = .ok (.iload_n 0, 1) := by decide +kernel
theorem dJ3_checkIndex_8e157_17 : decode cJ3_checkIndex_8e157 17 = .ok (.ireturn, 1) := by decide +kernel
