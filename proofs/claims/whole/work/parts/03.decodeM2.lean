theorem dX12_chain1_58 : decode cX12_chain1 58 = .ok (.goto 4, 3) := by decide +kernel
theorem dX12_chain1_61 : decode cX12_chain1 61 = .ok (.iconst 0, 1) := by decide +kernel
theorem dX12_chain1_62 : decode cX12_chain1 62 = .ok (.iconst 4, 1) := by decide +kernel
theorem dX12_chain1_63 : decode cX12_chain1 63 = .ok (.invokevirtual 270, 3) := by decide +kernel
theorem dX12_chain1_66 : decode cX12_chain1 66 = .ok (.ifCond .ne 4, 3) := by decide +kernel
theorem dX12_chain1_69 : decode cX12_chain1 69 = .ok (.return_, 1) := by decide +kernel
theorem dX12_chain1_70 : decode cX12_chain1 70 = .ok (.aload_n 0, 1) := by decide +kernel
theorem dX12_chain1_71 : decode cX12_chain1 71 = .ok (.dup, 1) := by decide +kernel
theorem dX12_chain1_72 : decode cX12_chain1 72 = .ok (.getfield 277, 3) := by decide +kernel
theorem dX12_chain1_75 : decode cX12_chain1 75 = .ok (.iconst 1, 1) := by decide +kernel
theorem dX12_chain1_76 : decode cX12_chain1 76 = .ok (.aload_n 0, 1) := by decide +kernel
theorem dX12_chain1_77 : decode cX12_chain1 77 = .ok (.getfield 255, 3) := by decide +kernel
theorem dX12_chain1_80 : decode cX12_chain1 80 = .ok (.ishl, 1) := by decide +kernel
theorem dX12_chain1_81 : decode cX12_chain1 81 = .ok (.ior, 1) := by decide +kernel
theorem dX12_chain1_82 : decode cX12_chain1 82 = .ok (.putfield 277, 3) := by decide +kernel
theorem dX12_chain1_85 : decode cX12_chain1 85 = .ok (.bipush 20, 2) := by decide +kernel
theorem dX12_chain1_87 : decode cX12_chain1 87 = .ok (.aload_n 0, 1) := by decide +kernel
theorem dX12_chain1_88 : decode cX12_chain1 88 = .ok (.getfield 255, 3) := by decide +kernel
theorem dX12_chain1_91 : decode cX12_chain1 91 = .ok (.iadd, 1) := by decide +kernel
theorem dX12_chain1_92 : decode cX12_chain1 92 = .ok (.istore_n 1, 1) := by decide +kernel
theorem dX12_chain1_93 : decode cX12_chain1 93 = .ok (.aload_n 0, 1) := by decide +kernel
theorem dX12_chain1_94 : decode cX12_chain1 94 = .ok (.invokevirtual 274, 3) := by decide +kernel
theorem dX12_chain1_97 : decode cX12_chain1 97 = .ok (.iconst 1, 1) := by decide +kernel
theorem dX12_chain1_98 : decode cX12_chain1 98 = .ok (.istore_n 2, 1) := by decide +kernel
theorem dX12_chain1_99 : decode cX12_chain1 99 = .ok (.iload_n 2, 1) := by decide +kernel
theorem dX12_chain1_100 : decode cX12_chain1 100 = .ok (.ifCond .eq 57, 3) := by decide +kernel
theorem dX12_chain1_103 : decode cX12_chain1 103 = .ok (.aload_n 0, 1) := by decide +kernel
theorem dX12_chain1_104 : decode cX12_chain1 104 = .ok (.getfield 267, 3) := by decide +kernel
theorem dX12_chain1_107 : decode cX12_chain1 107 = .ok (.ifCond .ne 50, 3) := by decide +kernel
theorem dX12_chain1_110 : decode cX12_chain1 110 = .ok (.aload_n 0, 1) := by decide +kernel
theorem dX12_chain1_111 : decode cX12_chain1 111 = .ok (.invokevirtual 280, 3) := by decide +kernel
theorem dX12_chain1_114 : decode cX12_chain1 114 = .ok (.istore_n 3, 1) := by decide +kernel
theorem dX12_chain1_115 : decode cX12_chain1 115 = .ok (.aload_n 0, 1) := by decide +kernel
theorem dX12_chain1_116 : decode cX12_chain1 116 = .ok (.getfield 267, 3) := by decide +kernel
theorem dX12_chain1_119 : decode cX12_chain1 119 = .ok (.ifCond .eq 4, 3) := by decide +kernel
theorem dX12_chain1_122 : decode cX12_chain1 122 = .ok (.return_, 1) := by decide +kernel
theorem dX12_chain1_123 : decode cX12_chain1 123 = .ok (.aload_n 0, 1) := by decide +kernel
theorem dX12_chain1_124 : decode cX12_chain1 124 = .ok (.getfield 51, 3) := by decide +kernel
theorem dX12_chain1_127 : decode cX12_chain1 127 = .ok (.iload_n 1, 1) := by decide +kernel
theorem dX12_chain1_128 : decode cX12_chain1 128 = .ok (.iload_n 3, 1) := by decide +kernel
theorem dX12_chain1_129 : decode cX12_chain1 129 = .ok (.invokestatic 76, 3) := by decide +kernel
theorem dX12_chain1_132 : decode cX12_chain1 132 = .ok (.iastore, 1) := by decide +kernel
theorem dX12_chain1_133 : decode cX12_chain1 133 = .ok (.iload_n 3, 1) := by decide +kernel
theorem dX12_chain1_134 : decode cX12_chain1 134 = .ok (.invokestatic 76, 3) := by decide +kernel
theorem dX12_chain1_137 : decode cX12_chain1 137 = .ok (.iconst 1, 1) := by decide +kernel
theorem dX12_chain1_138 : decode cX12_chain1 138 = .ok (.iadd, 1) := by decide +kernel
theorem dX12_chain1_139 : decode cX12_chain1 139 = .ok (.istore_n 1, 1) := by decide +kernel
theorem dX12_chain1_140 : decode cX12_chain1 140 = .ok (.aload_n 0, 1) := by decide +kernel
theorem dX12_chain1_141 : decode cX12_chain1 141 = .ok (.getfield 258, 3) := by decide +kernel
theorem dX12_chain1_144 : decode cX12_chain1 144 = .ok (.iconst 2, 1) := by decide +kernel
theorem dX12_chain1_145 : decode cX12_chain1 145 = .ok (.if_icmp .ne 7, 3) := by decide +kernel
theorem dX12_chain1_148 : decode cX12_chain1 148 = .ok (.iconst 1, 1) := by decide +kernel
theorem dX12_chain1_149 : decode cX12_chain1 149 = .ok (.goto 4, 3) := by decide +kernel
theorem dX12_chain1_152 : decode cX12_chain1 152 = .ok (.iconst 0, 1) := by decide +kernel
theorem dX12_chain1_153 : decode cX12_chain1 153 = .ok (.istore_n 2, 1) := by decide +kernel
theorem dX12_chain1_154 : decode cX12_chain1 154 = .ok (.goto (-55), 3) := by decide +kernel
theorem dX12_chain1_157 : decode cX12_chain1 157 = .ok (.return_, 1) := by decide +kernel
theorem dX12_without1_0 : decode cX12_without1 0 = .ok (.aload_n 0, 1) := by decide +kernel
theorem dX12_without1_1 : decode cX12_without1 1 = .ok (.invokevirtual 274, 3) := by decide +kernel
theorem dX12_without1_4 : decode cX12_without1 4 = .ok (.iconst 1, 1) := by decide +kernel
theorem dX12_without1_5 : decode cX12_without1 5 = .ok (.istore_n 1, 1) := by decide +kernel
theorem dX12_without1_6 : decode cX12_without1 6 = .ok (.iload_n 1, 1) := by decide +kernel
theorem dX12_without1_7 : decode cX12_without1 7 = .ok (.ifCond .eq 110, 3) := by decide +kernel
theorem dX12_without1_10 : decode cX12_without1 10 = .ok (.aload_n 0, 1) := by decide +kernel
theorem dX12_without1_11 : decode cX12_without1 11 = .ok (.getfield 267, 3) := by decide +kernel
theorem dX12_without1_14 : decode cX12_without1 14 = .ok (.ifCond .ne 103, 3) := by decide +kernel
theorem dX12_without1_17 : decode cX12_without1 17 = .ok (.aload_n 0, 1) := by decide +kernel
theorem dX12_without1_18 : decode cX12_without1 18 = .ok (.aload_n 0, 1) := by decide +kernel
theorem dX12_without1_19 : decode cX12_without1 19 = .ok (.getfield 258, 3) := by decide +kernel
theorem dX12_without1_22 : decode cX12_without1 22 = .ok (.iconst 1, 1) := by decide +kernel
theorem dX12_without1_23 : decode cX12_without1 23 = .ok (.if_icmp .ne 16, 3) := by decide +kernel
theorem dX12_without1_26 : decode cX12_without1 26 = .ok (.aload_n 0, 1) := by decide +kernel
theorem dX12_without1_27 : decode cX12_without1 27 = .ok (.getfield 252, 3) := by decide +kernel
theorem dX12_without1_30 : decode cX12_without1 30 = .ok (.bipush 12, 2) := by decide +kernel
theorem dX12_without1_32 : decode cX12_without1 32 = .ok (.if_icmp .lt 7, 3) := by decide +kernel
theorem dX12_without1_35 : decode cX12_without1 35 = .ok (.iconst 1, 1) := by decide +kernel
theorem dX12_without1_36 : decode cX12_without1 36 = .ok (.goto 4, 3) := by decide +kernel
theorem dX12_without1_39 : decode cX12_without1 39 = .ok (.iconst 0, 1) := by decide +kernel
theorem dX12_without1_40 : decode cX12_without1 40 = .ok (.iconst 1, 1) := by decide +kernel
theorem dX12_without1_41 : decode cX12_without1 41 = .ok (.invokevirtual 270, 3) := by decide +kernel
theorem dX12_without1_44 : decode cX12_without1 44 = .ok (.ifCond .eq 33, 3) := by decide +kernel
theorem dX12_without1_47 : decode cX12_without1 47 = .ok (.aload_n 0, 1) := by decide +kernel
theorem dX12_without1_48 : decode cX12_without1 48 = .ok (.aload_n 0, 1) := by decide +kernel
theorem dX12_without1_49 : decode cX12_without1 49 = .ok (.getfield 283, 3) := by decide +kernel
theorem dX12_without1_52 : decode cX12_without1 52 = .ok (.aload_n 0, 1) := by decide +kernel
theorem dX12_without1_53 : decode cX12_without1 53 = .ok (.getfield 252, 3) := by decide +kernel
theorem dX12_without1_56 : decode cX12_without1 56 = .ok (.bipush 12, 2) := by decide +kernel
theorem dX12_without1_58 : decode cX12_without1 58 = .ok (.isub, 1) := by decide +kernel
theorem dX12_without1_59 : decode cX12_without1 59 = .ok (.ishr, 1) := by decide +kernel
theorem dX12_without1_60 : decode cX12_without1 60 = .ok (.iconst 1, 1) := by decide +kernel
theorem dX12_without1_61 : decode cX12_without1 61 = .ok (.iand, 1) := by decide +kernel
theorem dX12_without1_62 : decode cX12_without1 62 = .ok (.ifCond .ne 7, 3) := by decide +kernel
theorem dX12_without1_65 : decode cX12_without1 65 = .ok (.iconst 1, 1) := by decide +kernel
theorem dX12_without1_66 : decode cX12_without1 66 = .ok (.goto 4, 3) := by decide +kernel
theorem dX12_without1_69 : decode cX12_without1 69 = .ok (.iconst 0, 1) := by decide +kernel
theorem dX12_without1_70 : decode cX12_without1 70 = .ok (.iconst 4, 1) := by decide +kernel
theorem dX12_without1_71 : decode cX12_without1 71 = .ok (.invokevirtual 270, 3) := by decide +kernel
theorem dX12_without1_74 : decode cX12_without1 74 = .ok (.ifCond .ne 4, 3) := by decide +kernel
theorem dX12_without1_77 : decode cX12_without1 77 = .ok (.return_, 1) := by decide +kernel
theorem dX12_without1_78 : decode cX12_without1 78 = .ok (.aload_n 0, 1) := by decide +kernel
theorem dX12_without1_79 : decode cX12_without1 79 = .ok (.dup, 1) := by decide +kernel
theorem dX12_without1_80 : decode cX12_without1 80 = .ok (.getfield 283, 3) := by decide +kernel
theorem dX12_without1_83 : decode cX12_without1 83 = .ok (.iconst 1, 1) := by decide +kernel
theorem dX12_without1_84 : decode cX12_without1 84 = .ok (.aload_n 0, 1) := by decide +kernel
theorem dX12_without1_85 : decode cX12_without1 85 = .ok (.getfield 252, 3) := by decide +kernel
theorem dX12_without1_88 : decode cX12_without1 88 = .ok (.bipush 12, 2) := by decide +kernel
theorem dX12_without1_90 : decode cX12_without1 90 = .ok (.isub, 1) := by decide +kernel
theorem dX12_without1_91 : decode cX12_without1 91 = .ok (.ishl, 1) := by decide +kernel
theorem dX12_without1_92 : decode cX12_without1 92 = .ok (.ior, 1) := by decide +kernel
theorem dX12_without1_93 : decode cX12_without1 93 = .ok (.putfield 283, 3) := by decide +kernel
theorem dX12_without1_96 : decode cX12_without1 96 = .ok (.aload_n 0, 1) := by decide +kernel
theorem dX12_without1_97 : decode cX12_without1 97 = .ok (.invokevirtual 274, 3) := by decide +kernel
theorem dX12_without1_100 : decode cX12_without1 100 = .ok (.aload_n 0, 1) := by decide +kernel
theorem dX12_without1_101 : decode cX12_without1 101 = .ok (.getfield 258, 3) := by decide +kernel
theorem dX12_without1_104 : decode cX12_without1 104 = .ok (.iconst 1, 1) := by decide +kernel
theorem dX12_without1_105 : decode cX12_without1 105 = .ok (.if_icmp .ne 7, 3) := by decide +kernel
theorem dX12_without1_108 : decode cX12_without1 108 = .ok (.iconst 1, 1) := by decide +kernel
theorem dX12_without1_109 : decode cX12_without1 109 = .ok (.goto 4, 3) := by decide +kernel
theorem dX12_without1_112 : decode cX12_without1 112 = .ok (.iconst 0, 1) := by decide +kernel
theorem dX12_without1_113 : decode cX12_without1 113 = .ok (.istore_n 1, 1) := by decide +kernel
theorem dX12_without1_114 : decode cX12_without1 114 = .ok (.goto (-108), 3) := by decide +kernel
theorem dX12_without1_117 : decode cX12_without1 117 = .ok (.return_, 1) := by decide +kernel
theorem dX12_data1_0 : decode cX12_data1 0 = .ok (.aload_n 0, 1) := by decide +kernel
theorem dX12_data1_1 : decode cX12_data1 1 = .ok (.invokevirtual 274, 3) := by decide +kernel
theorem dX12_data1_4 : decode cX12_data1 4 = .ok (.aload_n 0, 1) := by decide +kernel
theorem dX12_data1_5 : decode cX12_data1 5 = .ok (.aload_n 0, 1) := by decide +kernel
theorem dX12_data1_6 : decode cX12_data1 6 = .ok (.getfield 258, 3) := by decide +kernel
theorem dX12_data1_9 : decode cX12_data1 9 = .ok (.iconst 2, 1) := by decide +kernel
theorem dX12_data1_10 : decode cX12_data1 10 = .ok (.if_icmp .ne 7, 3) := by decide +kernel
theorem dX12_data1_13 : decode cX12_data1 13 = .ok (.iconst 1, 1) := by decide +kernel
theorem dX12_data1_14 : decode cX12_data1 14 = .ok (.goto 4, 3) := by decide +kernel
theorem dX12_data1_17 : decode cX12_data1 17 = .ok (.iconst 0, 1) := by decide +kernel
theorem dX12_data1_18 : decode cX12_data1 18 = .ok (.iconst 1, 1) := by decide +kernel
theorem dX12_data1_19 : decode cX12_data1 19 = .ok (.invokevirtual 270, 3) := by decide +kernel
theorem dX12_data1_22 : decode cX12_data1 22 = .ok (.ifCond .eq 48, 3) := by decide +kernel
theorem dX12_data1_25 : decode cX12_data1 25 = .ok (.aload_n 0, 1) := by decide +kernel
theorem dX12_data1_26 : decode cX12_data1 26 = .ok (.aload_n 0, 1) := by decide +kernel
theorem dX12_data1_27 : decode cX12_data1 27 = .ok (.getfield 255, 3) := by decide +kernel
theorem dX12_data1_30 : decode cX12_data1 30 = .ok (.iconst 0, 1) := by decide +kernel
theorem dX12_data1_31 : decode cX12_data1 31 = .ok (.bipush 9, 2) := by decide +kernel
theorem dX12_data1_33 : decode cX12_data1 33 = .ok (.invokestatic 172, 3) := by decide +kernel
theorem dX12_data1_36 : decode cX12_data1 36 = .ok (.iconst 2, 1) := by decide +kernel
theorem dX12_data1_37 : decode cX12_data1 37 = .ok (.invokevirtual 270, 3) := by decide +kernel
theorem dX12_data1_40 : decode cX12_data1 40 = .ok (.ifCond .eq 30, 3) := by decide +kernel
theorem dX12_data1_43 : decode cX12_data1 43 = .ok (.aload_n 0, 1) := by decide +kernel
theorem dX12_data1_44 : decode cX12_data1 44 = .ok (.aload_n 0, 1) := by decide +kernel
theorem dX12_data1_45 : decode cX12_data1 45 = .ok (.getfield 286, 3) := by decide +kernel
theorem dX12_data1_48 : decode cX12_data1 48 = .ok (.aload_n 0, 1) := by decide +kernel
theorem dX12_data1_49 : decode cX12_data1 49 = .ok (.getfield 255, 3) := by decide +kernel
theorem dX12_data1_52 : decode cX12_data1 52 = .ok (.ishr, 1) := by decide +kernel
theorem dX12_data1_53 : decode cX12_data1 53 = .ok (.iconst 1, 1) := by decide +kernel
theorem dX12_data1_54 : decode cX12_data1 54 = .ok (.iand, 1) := by decide +kernel
theorem dX12_data1_55 : decode cX12_data1 55 = .ok (.ifCond .ne 7, 3) := by decide +kernel
theorem dX12_data1_58 : decode cX12_data1 58 = .ok (.iconst 1, 1) := by decide +kernel
theorem dX12_data1_59 : decode cX12_data1 59 = .ok (.goto 4, 3) := by decide +kernel
theorem dX12_data1_62 : decode cX12_data1 62 = .ok (.iconst 0, 1) := by decide +kernel
theorem dX12_data1_63 : decode cX12_data1 63 = .ok (.iconst 3, 1) := by decide +kernel
theorem dX12_data1_64 : decode cX12_data1 64 = .ok (.invokevirtual 270, 3) := by decide +kernel
theorem dX12_data1_67 : decode cX12_data1 67 = .ok (.ifCond .ne 4, 3) := by decide +kernel
theorem dX12_data1_70 : decode cX12_data1 70 = .ok (.return_, 1) := by decide +kernel
theorem dX12_data1_71 : decode cX12_data1 71 = .ok (.aload_n 0, 1) := by decide +kernel
theorem dX12_data1_72 : decode cX12_data1 72 = .ok (.dup, 1) := by decide +kernel
theorem dX12_data1_73 : decode cX12_data1 73 = .ok (.getfield 286, 3) := by decide +kernel
theorem dX12_data1_76 : decode cX12_data1 76 = .ok (.iconst 1, 1) := by decide +kernel
theorem dX12_data1_77 : decode cX12_data1 77 = .ok (.aload_n 0, 1) := by decide +kernel
theorem dX12_data1_78 : decode cX12_data1 78 = .ok (.getfield 255, 3) := by decide +kernel
theorem dX12_data1_81 : decode cX12_data1 81 = .ok (.ishl, 1) := by decide +kernel
theorem dX12_data1_82 : decode cX12_data1 82 = .ok (.ior, 1) := by decide +kernel
theorem dX12_data1_83 : decode cX12_data1 83 = .ok (.putfield 286, 3) := by decide +kernel
theorem dX12_data1_86 : decode cX12_data1 86 = .ok (.aload_n 0, 1) := by decide +kernel
theorem dX12_data1_87 : decode cX12_data1 87 = .ok (.getfield 255, 3) := by decide +kernel
theorem dX12_data1_90 : decode cX12_data1 90 = .ok (.invokestatic 76, 3) := by decide +kernel
theorem dX12_data1_93 : decode cX12_data1 93 = .ok (.istore_n 1, 1) := by decide +kernel
theorem dX12_data1_94 : decode cX12_data1 94 = .ok (.aload_n 0, 1) := by decide +kernel
theorem dX12_data1_95 : decode cX12_data1 95 = .ok (.invokevirtual 274, 3) := by decide +kernel
theorem dX12_data1_98 : decode cX12_data1 98 = .ok (.aload_n 0, 1) := by decide +kernel
theorem dX12_data1_99 : decode cX12_data1 99 = .ok (.getfield 51, 3) := by decide +kernel
theorem dX12_data1_102 : decode cX12_data1 102 = .ok (.iload_n 1, 1) := by decide +kernel
theorem dX12_data1_103 : decode cX12_data1 103 = .ok (.iconst 2, 1) := by decide +kernel
theorem dX12_data1_104 : decode cX12_data1 104 = .ok (.iadd, 1) := by decide +kernel
theorem dX12_data1_105 : decode cX12_data1 105 = .ok (.aload_n 0, 1) := by decide +kernel
theorem dX12_data1_106 : decode cX12_data1 106 = .ok (.iconst 0, 1) := by decide +kernel
theorem dX12_data1_107 : decode cX12_data1 107 = .ok (.bipush 99, 2) := by decide +kernel
theorem dX12_data1_109 : decode cX12_data1 109 = .ok (.invokevirtual 289, 3) := by decide +kernel
theorem dX12_data1_112 : decode cX12_data1 112 = .ok (.iastore, 1) := by decide +kernel
theorem dX12_data1_113 : decode cX12_data1 113 = .ok (.aload_n 0, 1) := by decide +kernel
theorem dX12_data1_114 : decode cX12_data1 114 = .ok (.getfield 267, 3) := by decide +kernel
theorem dX12_data1_117 : decode cX12_data1 117 = .ok (.ifCond .ne 18, 3) := by decide +kernel
theorem dX12_data1_120 : decode cX12_data1 120 = .ok (.aload_n 0, 1) := by decide +kernel
theorem dX12_data1_121 : decode cX12_data1 121 = .ok (.getfield 51, 3) := by decide +kernel
theorem dX12_data1_124 : decode cX12_data1 124 = .ok (.iload_n 1, 1) := by decide +kernel
theorem dX12_data1_125 : decode cX12_data1 125 = .ok (.iconst 3, 1) := by decide +kernel
theorem dX12_data1_126 : decode cX12_data1 126 = .ok (.iadd, 1) := by decide +kernel
theorem dX12_data1_127 : decode cX12_data1 127 = .ok (.aload_n 0, 1) := by decide +kernel
theorem dX12_data1_128 : decode cX12_data1 128 = .ok (.iconst 0, 1) := by decide +kernel
theorem dX12_data1_129 : decode cX12_data1 129 = .ok (.bipush 99, 2) := by decide +kernel
theorem dX12_data1_131 : decode cX12_data1 131 = .ok (.invokevirtual 289, 3) := by decide +kernel
theorem dX12_data1_134 : decode cX12_data1 134 = .ok (.iastore, 1) := by decide +kernel
theorem dX12_data1_135 : decode cX12_data1 135 = .ok (.return_, 1) := by decide +kernel
theorem dX12_op1_0 : decode cX12_op1 0 = .ok (.aload_n 0, 1) := by decide +kernel
theorem dX12_op1_1 : decode cX12_op1 1 = .ok (.getfield 252, 3) := by decide +kernel
theorem dX12_op1_4 : decode cX12_op1 4 = .ok (.bipush 7, 2) := by decide +kernel
theorem dX12_op1_6 : decode cX12_op1 6 = .ok (.isub, 1) := by decide +kernel
theorem dX12_op1_7 : decode cX12_op1 7 = .ok (.istore_n 2, 1) := by decide +kernel
theorem dX12_op1_8 : decode cX12_op1 8 = .ok (.iconst 0, 1) := by decide +kernel
theorem dX12_op1_9 : decode cX12_op1 9 = .ok (.istore_n 3, 1) := by decide +kernel
theorem dX12_op1_10 : decode cX12_op1 10 = .ok (.iconst 0, 1) := by decide +kernel
theorem dX12_op1_11 : decode cX12_op1 11 = .ok (.istore 4, 2) := by decide +kernel
theorem dX12_op1_13 : decode cX12_op1 13 = .ok (.aload_n 0, 1) := by decide +kernel
theorem dX12_op1_14 : decode cX12_op1 14 = .ok (.invokevirtual 274, 3) := by decide +kernel
theorem dX12_op1_17 : decode cX12_op1 17 = .ok (.iload_n 2, 1) := by decide +kernel
theorem dX12_op1_18 : decode cX12_op1 18 = .ok (.iconst 3, 1) := by decide +kernel
theorem dX12_op1_19 : decode cX12_op1 19 = .ok (.if_icmp .ge 10, 3) := by decide +kernel
theorem dX12_op1_22 : decode cX12_op1 22 = .ok (.aload_n 0, 1) := by decide +kernel
theorem dX12_op1_23 : decode cX12_op1 23 = .ok (.iconst 0, 1) := by decide +kernel
theorem dX12_op1_24 : decode cX12_op1 24 = .ok (.iconst 3, 1) := by decide +kernel
theorem dX12_op1_25 : decode cX12_op1 25 = .ok (.invokevirtual 289, 3) := by decide +kernel
theorem dX12_op1_28 : decode cX12_op1 28 = .ok (.istore_n 3, 1) := by decide +kernel
theorem dX12_op1_29 : decode cX12_op1 29 = .ok (.iload_n 2, 1) := by decide +kernel
theorem dX12_op1_30 : decode cX12_op1 30 = .ok (.iconst 3, 1) := by decide +kernel
theorem dX12_op1_31 : decode cX12_op1 31 = .ok (.if_icmp .ne 12, 3) := by decide +kernel
theorem dX12_op1_34 : decode cX12_op1 34 = .ok (.aload_n 0, 1) := by decide +kernel
theorem dX12_op1_35 : decode cX12_op1 35 = .ok (.bipush 20, 2) := by decide +kernel
theorem dX12_op1_37 : decode cX12_op1 37 = .ok (.bipush 63, 2) := by decide +kernel
theorem dX12_op1_39 : decode cX12_op1 39 = .ok (.invokevirtual 289, 3) := by decide +kernel
theorem dX12_op1_42 : decode cX12_op1 42 = .ok (.istore_n 3, 1) := by decide +kernel
theorem dX12_op1_43 : decode cX12_op1 43 = .ok (.aload_n 0, 1) := by decide +kernel
theorem dX12_op1_44 : decode cX12_op1 44 = .ok (.getfield 267, 3) := by decide +kernel
theorem dX12_op1_47 : decode cX12_op1 47 = .ok (.ifCond .ne 65, 3) := by decide +kernel
theorem dX12_op1_50 : decode cX12_op1 50 = .ok (.iload_n 2, 1) := by decide +kernel
theorem dX12_op1_51 : decode cX12_op1 51 = .ok (.iconst 2, 1) := by decide +kernel
theorem dX12_op1_52 : decode cX12_op1 52 = .ok (.if_icmp .ne 60, 3) := by decide +kernel
theorem dX12_op1_55 : decode cX12_op1 55 = .ok (.aload_n 0, 1) := by decide +kernel
theorem dX12_op1_56 : decode cX12_op1 56 = .ok (.aload_n 0, 1) := by decide +kernel
theorem dX12_op1_57 : decode cX12_op1 57 = .ok (.getfield 258, 3) := by decide +kernel
theorem dX12_op1_60 : decode cX12_op1 60 = .ok (.iconst 2, 1) := by decide +kernel
theorem dX12_op1_61 : decode cX12_op1 61 = .ok (.if_icmp .ne 23, 3) := by decide +kernel
theorem dX12_op1_64 : decode cX12_op1 64 = .ok (.aload_n 0, 1) := by decide +kernel
theorem dX12_op1_65 : decode cX12_op1 65 = .ok (.getfield 255, 3) := by decide +kernel
theorem dX12_op1_68 : decode cX12_op1 68 = .ok (.iconst 0, 1) := by decide +kernel
theorem dX12_op1_69 : decode cX12_op1 69 = .ok (.iconst 3, 1) := by decide +kernel
theorem dX12_op1_70 : decode cX12_op1 70 = .ok (.invokestatic 172, 3) := by decide +kernel
theorem dX12_op1_73 : decode cX12_op1 73 = .ok (.ifCond .eq 11, 3) := by decide +kernel
theorem dX12_op1_76 : decode cX12_op1 76 = .ok (.aload_n 0, 1) := by decide +kernel
theorem dX12_op1_77 : decode cX12_op1 77 = .ok (.getfield 255, 3) := by decide +kernel
theorem dX12_op1_80 : decode cX12_op1 80 = .ok (.iload_n 3, 1) := by decide +kernel
theorem dX12_op1_81 : decode cX12_op1 81 = .ok (.if_icmp .eq 7, 3) := by decide +kernel
theorem dX12_op1_84 : decode cX12_op1 84 = .ok (.iconst 1, 1) := by decide +kernel
theorem dX12_op1_85 : decode cX12_op1 85 = .ok (.goto 4, 3) := by decide +kernel
theorem dX12_op1_88 : decode cX12_op1 88 = .ok (.iconst 0, 1) := by decide +kernel
theorem dX12_op1_89 : decode cX12_op1 89 = .ok (.iconst 3, 1) := by decide +kernel
theorem dX12_op1_90 : decode cX12_op1 90 = .ok (.invokevirtual 270, 3) := by decide +kernel
theorem dX12_op1_93 : decode cX12_op1 93 = .ok (.pop, 1) := by decide +kernel
theorem dX12_op1_94 : decode cX12_op1 94 = .ok (.aload_n 0, 1) := by decide +kernel
theorem dX12_op1_95 : decode cX12_op1 95 = .ok (.getfield 267, 3) := by decide +kernel
theorem dX12_op1_98 : decode cX12_op1 98 = .ok (.ifCond .ne 39, 3) := by decide +kernel
theorem dX12_op1_101 : decode cX12_op1 101 = .ok (.aload_n 0, 1) := by decide +kernel
theorem dX12_op1_102 : decode cX12_op1 102 = .ok (.iconst 0, 1) := by decide +kernel
theorem dX12_op1_103 : decode cX12_op1 103 = .ok (.iconst 3, 1) := by decide +kernel
theorem dX12_op1_104 : decode cX12_op1 104 = .ok (.invokevirtual 289, 3) := by decide +kernel
theorem dX12_op1_107 : decode cX12_op1 107 = .ok (.istore 4, 2) := by decide +kernel
theorem dX12_op1_109 : decode cX12_op1 109 = .ok (.goto 28, 3) := by decide +kernel
theorem dX12_op1_112 : decode cX12_op1 112 = .ok (.aload_n 0, 1) := by decide +kernel
theorem dX12_op1_113 : decode cX12_op1 113 = .ok (.getfield 267, 3) := by decide +kernel
theorem dX12_op1_116 : decode cX12_op1 116 = .ok (.ifCond .ne 21, 3) := by decide +kernel
theorem dX12_op1_119 : decode cX12_op1 119 = .ok (.iload_n 2, 1) := by decide +kernel
theorem dX12_op1_120 : decode cX12_op1 120 = .ok (.ifCond .eq 8, 3) := by decide +kernel
theorem dX12_op1_123 : decode cX12_op1 123 = .ok (.iload_n 2, 1) := by decide +kernel
theorem dX12_op1_124 : decode cX12_op1 124 = .ok (.iconst 3, 1) := by decide +kernel
theorem dX12_op1_125 : decode cX12_op1 125 = .ok (.if_icmp .ne 12, 3) := by decide +kernel
theorem dX12_op1_128 : decode cX12_op1 128 = .ok (.aload_n 0, 1) := by decide +kernel
theorem dX12_op1_129 : decode cX12_op1 129 = .ok (.iconst 0, 1) := by decide +kernel
theorem dX12_op1_130 : decode cX12_op1 130 = .ok (.bipush 99, 2) := by decide +kernel
theorem dX12_op1_132 : decode cX12_op1 132 = .ok (.invokevirtual 289, 3) := by decide +kernel
theorem dX12_op1_135 : decode cX12_op1 135 = .ok (.istore 4, 2) := by decide +kernel
theorem dX12_op1_137 : decode cX12_op1 137 = .ok (.aload_n 0, 1) := by decide +kernel
theorem dX12_op1_138 : decode cX12_op1 138 = .ok (.getfield 54, 3) := by decide +kernel
theorem dX12_op1_141 : decode cX12_op1 141 = .ok (.iload_n 1, 1) := by decide +kernel
theorem dX12_op1_142 : decode cX12_op1 142 = .ok (.iconst 3, 1) := by decide +kernel
theorem dX12_op1_143 : decode cX12_op1 143 = .ok (.aload_n 0, 1) := by decide +kernel
theorem dX12_op1_144 : decode cX12_op1 144 = .ok (.getfield 54, 3) := by decide +kernel
theorem dX12_op1_147 : decode cX12_op1 147 = .ok (.iload_n 1, 1) := by decide +kernel
theorem dX12_op1_148 : decode cX12_op1 148 = .ok (.iaload, 1) := by decide +kernel
theorem dX12_op1_149 : decode cX12_op1 149 = .ok (.imul, 1) := by decide +kernel
theorem dX12_op1_150 : decode cX12_op1 150 = .ok (.iadd, 1) := by decide +kernel
theorem dX12_op1_151 : decode cX12_op1 151 = .ok (.iconst 1, 1) := by decide +kernel
theorem dX12_op1_152 : decode cX12_op1 152 = .ok (.iadd, 1) := by decide +kernel
theorem dX12_op1_153 : decode cX12_op1 153 = .ok (.iload_n 2, 1) := by decide +kernel
theorem dX12_op1_154 : decode cX12_op1 154 = .ok (.iastore, 1) := by decide +kernel
theorem dX12_op1_155 : decode cX12_op1 155 = .ok (.aload_n 0, 1) := by decide +kernel
theorem dX12_op1_156 : decode cX12_op1 156 = .ok (.getfield 54, 3) := by decide +kernel
theorem dX12_op1_159 : decode cX12_op1 159 = .ok (.iload_n 1, 1) := by decide +kernel
theorem dX12_op1_160 : decode cX12_op1 160 = .ok (.iconst 3, 1) := by decide +kernel
theorem dX12_op1_161 : decode cX12_op1 161 = .ok (.aload_n 0, 1) := by decide +kernel
theorem dX12_op1_162 : decode cX12_op1 162 = .ok (.getfield 54, 3) := by decide +kernel
theorem dX12_op1_165 : decode cX12_op1 165 = .ok (.iload_n 1, 1) := by decide +kernel
theorem dX12_op1_166 : decode cX12_op1 166 = .ok (.iaload, 1) := by decide +kernel
theorem dX12_op1_167 : decode cX12_op1 167 = .ok (.imul, 1) := by decide +kernel
theorem dX12_op1_168 : decode cX12_op1 168 = .ok (.iadd, 1) := by decide +kernel
theorem dX12_op1_169 : decode cX12_op1 169 = .ok (.iconst 2, 1) := by decide +kernel
theorem dX12_op1_170 : decode cX12_op1 170 = .ok (.iadd, 1) := by decide +kernel
theorem dX12_op1_171 : decode cX12_op1 171 = .ok (.iload_n 3, 1) := by decide +kernel
theorem dX12_op1_172 : decode cX12_op1 172 = .ok (.iastore, 1) := by decide +kernel
theorem dX12_op1_173 : decode cX12_op1 173 = .ok (.aload_n 0, 1) := by decide +kernel
theorem dX12_op1_174 : decode cX12_op1 174 = .ok (.getfield 54, 3) := by decide +kernel
theorem dX12_op1_177 : decode cX12_op1 177 = .ok (.iload_n 1, 1) := by decide +kernel
theorem dX12_op1_178 : decode cX12_op1 178 = .ok (.iconst 3, 1) := by decide +kernel
theorem dX12_op1_179 : decode cX12_op1 179 = .ok (.aload_n 0, 1) := by decide +kernel
theorem dX12_op1_180 : decode cX12_op1 180 = .ok (.getfield 54, 3) := by decide +kernel
theorem dX12_op1_183 : decode cX12_op1 183 = .ok (.iload_n 1, 1) := by decide +kernel
theorem dX12_op1_184 : decode cX12_op1 184 = .ok (.iaload, 1) := by decide +kernel
theorem dX12_op1_185 : decode cX12_op1 185 = .ok (.imul, 1) := by decide +kernel
theorem dX12_op1_186 : decode cX12_op1 186 = .ok (.iadd, 1) := by decide +kernel
theorem dX12_op1_187 : decode cX12_op1 187 = .ok (.iconst 3, 1) := by decide +kernel
theorem dX12_op1_188 : decode cX12_op1 188 = .ok (.iadd, 1) := by decide +kernel
theorem dX12_op1_189 : decode cX12_op1 189 = .ok (.iload 4, 2) := by decide +kernel
theorem dX12_op1_191 : decode cX12_op1 191 = .ok (.iastore, 1) := by decide +kernel
theorem dX12_op1_192 : decode cX12_op1 192 = .ok (.aload_n 0, 1) := by decide +kernel
theorem dX12_op1_193 : decode cX12_op1 193 = .ok (.getfield 54, 3) := by decide +kernel
theorem dX12_op1_196 : decode cX12_op1 196 = .ok (.iload_n 1, 1) := by decide +kernel
theorem dX12_op1_197 : decode cX12_op1 197 = .ok (.dup2, 1) := by decide +kernel
theorem dX12_op1_198 : decode cX12_op1 198 = .ok (.iaload, 1) := by decide +kernel
theorem dX12_op1_199 : decode cX12_op1 199 = .ok (.iconst 1, 1) := by decide +kernel
theorem dX12_op1_200 : decode cX12_op1 200 = .ok (.iadd, 1) := by decide +kernel
theorem dX12_op1_201 : decode cX12_op1 201 = .ok (.iastore, 1) := by decide +kernel
theorem dX12_op1_202 : decode cX12_op1 202 = .ok (.return_, 1) := by decide +kernel
theorem dX12_do1_0 : decode cX12_do1 0 = .ok (.aload_n 0, 1) := by decide +kernel
theorem dX12_do1_1 : decode cX12_do1 1 = .ok (.aload_n 0, 1) := by decide +kernel
theorem dX12_do1_2 : decode cX12_do1 2 = .ok (.getfield 292, 3) := by decide +kernel
theorem dX12_do1_5 : decode cX12_do1 5 = .ok (.bipush 12, 2) := by decide +kernel
theorem dX12_do1_7 : decode cX12_do1 7 = .ok (.if_icmp .ge 7, 3) := by decide +kernel
theorem dX12_do1_10 : decode cX12_do1 10 = .ok (.iconst 1, 1) := by decide +kernel
theorem dX12_do1_11 : decode cX12_do1 11 = .ok (.goto 4, 3) := by decide +kernel
theorem dX12_do1_14 : decode cX12_do1 14 = .ok (.iconst 0, 1) := by decide +kernel
theorem dX12_do1_15 : decode cX12_do1 15 = .ok (.iconst 2, 1) := by decide +kernel
theorem dX12_do1_16 : decode cX12_do1 16 = .ok (.invokevirtual 270, 3) := by decide +kernel
theorem dX12_do1_19 : decode cX12_do1 19 = .ok (.ifCond .ne 4, 3) := by decide +kernel
theorem dX12_do1_22 : decode cX12_do1 22 = .ok (.return_, 1) := by decide +kernel
theorem dX12_do1_23 : decode cX12_do1 23 = .ok (.bipush 13, 2) := by decide +kernel
theorem dX12_do1_25 : decode cX12_do1 25 = .ok (.aload_n 0, 1) := by decide +kernel
theorem dX12_do1_26 : decode cX12_do1 26 = .ok (.getfield 292, 3) := by decide +kernel
theorem dX12_do1_29 : decode cX12_do1 29 = .ok (.imul, 1) := by decide +kernel
theorem dX12_do1_30 : decode cX12_do1 30 = .ok (.istore_n 1, 1) := by decide +kernel
theorem dX12_do1_31 : decode cX12_do1 31 = .ok (.iconst 0, 1) := by decide +kernel
theorem dX12_do1_32 : decode cX12_do1 32 = .ok (.istore_n 2, 1) := by decide +kernel
theorem dX12_do1_33 : decode cX12_do1 33 = .ok (.iload_n 2, 1) := by decide +kernel
theorem dX12_do1_34 : decode cX12_do1 34 = .ok (.bipush 13, 2) := by decide +kernel
theorem dX12_do1_36 : decode cX12_do1 36 = .ok (.if_icmp .ge 18, 3) := by decide +kernel
theorem dX12_do1_39 : decode cX12_do1 39 = .ok (.aload_n 0, 1) := by decide +kernel
theorem dX12_do1_40 : decode cX12_do1 40 = .ok (.getfield 54, 3) := by decide +kernel
theorem dX12_do1_43 : decode cX12_do1 43 = .ok (.iload_n 1, 1) := by decide +kernel
theorem dX12_do1_44 : decode cX12_do1 44 = .ok (.iload_n 2, 1) := by decide +kernel
theorem dX12_do1_45 : decode cX12_do1 45 = .ok (.iadd, 1) := by decide +kernel
theorem dX12_do1_46 : decode cX12_do1 46 = .ok (.iconst 0, 1) := by decide +kernel
theorem dX12_do1_47 : decode cX12_do1 47 = .ok (.iastore, 1) := by decide +kernel
theorem dX12_do1_48 : decode cX12_do1 48 = .ok (.iinc 2 1, 3) := by decide +kernel
theorem dX12_do1_51 : decode cX12_do1 51 = .ok (.goto (-18), 3) := by decide +kernel
theorem dX12_do1_54 : decode cX12_do1 54 = .ok (.aload_n 0, 1) := by decide +kernel
theorem dX12_do1_55 : decode cX12_do1 55 = .ok (.dup, 1) := by decide +kernel
theorem dX12_do1_56 : decode cX12_do1 56 = .ok (.getfield 292, 3) := by decide +kernel
theorem dX12_do1_59 : decode cX12_do1 59 = .ok (.iconst 1, 1) := by decide +kernel
theorem dX12_do1_60 : decode cX12_do1 60 = .ok (.iadd, 1) := by decide +kernel
theorem dX12_do1_61 : decode cX12_do1 61 = .ok (.putfield 292, 3) := by decide +kernel
theorem dX12_do1_64 : decode cX12_do1 64 = .ok (.iconst 1, 1) := by decide +kernel
theorem dX12_do1_65 : decode cX12_do1 65 = .ok (.istore_n 2, 1) := by decide +kernel
theorem dX12_do1_66 : decode cX12_do1 66 = .ok (.iload_n 2, 1) := by decide +kernel
theorem dX12_do1_67 : decode cX12_do1 67 = .ok (.ifCond .eq 88, 3) := by decide +kernel
theorem dX12_do1_70 : decode cX12_do1 70 = .ok (.aload_n 0, 1) := by decide +kernel
theorem dX12_do1_71 : decode cX12_do1 71 = .ok (.getfield 267, 3) := by decide +kernel
theorem dX12_do1_74 : decode cX12_do1 74 = .ok (.ifCond .ne 81, 3) := by decide +kernel
theorem dX12_do1_77 : decode cX12_do1 77 = .ok (.aload_n 0, 1) := by decide +kernel
theorem dX12_do1_78 : decode cX12_do1 78 = .ok (.invokevirtual 274, 3) := by decide +kernel
theorem dX12_do1_81 : decode cX12_do1 81 = .ok (.aload_n 0, 1) := by decide +kernel
theorem dX12_do1_82 : decode cX12_do1 82 = .ok (.aload_n 0, 1) := by decide +kernel
theorem dX12_do1_83 : decode cX12_do1 83 = .ok (.getfield 258, 3) := by decide +kernel
theorem dX12_do1_86 : decode cX12_do1 86 = .ok (.iconst 1, 1) := by decide +kernel
theorem dX12_do1_87 : decode cX12_do1 87 = .ok (.if_icmp .ne 21, 3) := by decide +kernel
theorem dX12_do1_90 : decode cX12_do1 90 = .ok (.aload_n 0, 1) := by decide +kernel
theorem dX12_do1_91 : decode cX12_do1 91 = .ok (.getfield 252, 3) := by decide +kernel
theorem dX12_do1_94 : decode cX12_do1 94 = .ok (.bipush 7, 2) := by decide +kernel
theorem dX12_do1_96 : decode cX12_do1 96 = .ok (.bipush 11, 2) := by decide +kernel
theorem dX12_do1_98 : decode cX12_do1 98 = .ok (.invokestatic 172, 3) := by decide +kernel
theorem dX12_do1_101 : decode cX12_do1 101 = .ok (.ifCond .eq 7, 3) := by decide +kernel
theorem dX12_do1_104 : decode cX12_do1 104 = .ok (.iconst 1, 1) := by decide +kernel
theorem dX12_do1_105 : decode cX12_do1 105 = .ok (.goto 4, 3) := by decide +kernel
theorem dX12_do1_108 : decode cX12_do1 108 = .ok (.iconst 0, 1) := by decide +kernel
theorem dX12_do1_109 : decode cX12_do1 109 = .ok (.iconst 1, 1) := by decide +kernel
theorem dX12_do1_110 : decode cX12_do1 110 = .ok (.invokevirtual 270, 3) := by decide +kernel
theorem dX12_do1_113 : decode cX12_do1 113 = .ok (.ifCond .eq 26, 3) := by decide +kernel
theorem dX12_do1_116 : decode cX12_do1 116 = .ok (.aload_n 0, 1) := by decide +kernel
theorem dX12_do1_117 : decode cX12_do1 117 = .ok (.aload_n 0, 1) := by decide +kernel
theorem dX12_do1_118 : decode cX12_do1 118 = .ok (.getfield 54, 3) := by decide +kernel
theorem dX12_do1_121 : decode cX12_do1 121 = .ok (.iload_n 1, 1) := by decide +kernel
theorem dX12_do1_122 : decode cX12_do1 122 = .ok (.iaload, 1) := by decide +kernel
theorem dX12_do1_123 : decode cX12_do1 123 = .ok (.iconst 4, 1) := by decide +kernel
theorem dX12_do1_124 : decode cX12_do1 124 = .ok (.if_icmp .ge 7, 3) := by decide +kernel
theorem dX12_do1_127 : decode cX12_do1 127 = .ok (.iconst 1, 1) := by decide +kernel
theorem dX12_do1_128 : decode cX12_do1 128 = .ok (.goto 4, 3) := by decide +kernel
theorem dX12_do1_131 : decode cX12_do1 131 = .ok (.iconst 0, 1) := by decide +kernel
theorem dX12_do1_132 : decode cX12_do1 132 = .ok (.iconst 2, 1) := by decide +kernel
theorem dX12_do1_133 : decode cX12_do1 133 = .ok (.invokevirtual 270, 3) := by decide +kernel
theorem dX12_do1_136 : decode cX12_do1 136 = .ok (.ifCond .ne 4, 3) := by decide +kernel
theorem dX12_do1_139 : decode cX12_do1 139 = .ok (.return_, 1) := by decide +kernel
theorem dX12_do1_140 : decode cX12_do1 140 = .ok (.aload_n 0, 1) := by decide +kernel
theorem dX12_do1_141 : decode cX12_do1 141 = .ok (.iload_n 1, 1) := by decide +kernel
theorem dX12_do1_142 : decode cX12_do1 142 = .ok (.invokevirtual 295, 3) := by decide +kernel
theorem dX12_do1_145 : decode cX12_do1 145 = .ok (.aload_n 0, 1) := by decide +kernel
theorem dX12_do1_146 : decode cX12_do1 146 = .ok (.bipush 44, 2) := by decide +kernel
theorem dX12_do1_148 : decode cX12_do1 148 = .ok (.invokevirtual 298, 3) := by decide +kernel
theorem dX12_do1_151 : decode cX12_do1 151 = .ok (.istore_n 2, 1) := by decide +kernel
theorem dX12_do1_152 : decode cX12_do1 152 = .ok (.goto (-86), 3) := by decide +kernel
theorem dX12_do1_155 : decode cX12_do1 155 = .ok (.return_, 1) := by decide +kernel
theorem dX12_clause1_0 : decode cX12_clause1 0 = .ok (.aload_n 0, 1) := by decide +kernel
theorem dX12_clause1_1 : decode cX12_clause1 1 = .ok (.getfield 258, 3) := by decide +kernel
theorem dX12_clause1_4 : decode cX12_clause1 4 = .ok (.iconst 1, 1) := by decide +kernel
theorem dX12_clause1_5 : decode cX12_clause1 5 = .ok (.if_icmp .ne 10, 3) := by decide +kernel
theorem dX12_clause1_8 : decode cX12_clause1 8 = .ok (.aload_n 0, 1) := by decide +kernel
theorem dX12_clause1_9 : decode cX12_clause1 9 = .ok (.getfield 252, 3) := by decide +kernel
theorem dX12_clause1_12 : decode cX12_clause1 12 = .ok (.goto 4, 3) := by decide +kernel
theorem dX12_clause1_15 : decode cX12_clause1 15 = .ok (.iconst (-1), 1) := by decide +kernel
theorem dX12_clause1_16 : decode cX12_clause1 16 = .ok (.tableswitch 136 0 6 #[44, 44, 96, 103, 110, 122, 129], 44) := by decide +kernel
theorem dX12_clause1_60 : decode cX12_clause1 60 = .ok (.aload_n 0, 1) := by decide +kernel
theorem dX12_clause1_61 : decode cX12_clause1 61 = .ok (.aload_n 0, 1) := by decide +kernel
theorem dX12_clause1_62 : decode cX12_clause1 62 = .ok (.getfield 301, 3) := by decide +kernel
theorem dX12_clause1_65 : decode cX12_clause1 65 = .ok (.ifCond .ne 7, 3) := by decide +kernel
theorem dX12_clause1_68 : decode cX12_clause1 68 = .ok (.iconst 1, 1) := by decide +kernel
theorem dX12_clause1_69 : decode cX12_clause1 69 = .ok (.goto 4, 3) := by decide +kernel
theorem dX12_clause1_72 : decode cX12_clause1 72 = .ok (.iconst 0, 1) := by decide +kernel
theorem dX12_clause1_73 : decode cX12_clause1 73 = .ok (.iconst 4, 1) := by decide +kernel
theorem dX12_clause1_74 : decode cX12_clause1 74 = .ok (.invokevirtual 270, 3) := by decide +kernel
theorem dX12_clause1_77 : decode cX12_clause1 77 = .ok (.ifCond .ne 6, 3) := by decide +kernel
theorem dX12_clause1_80 : decode cX12_clause1 80 = .ok (.goto 79, 3) := by decide +kernel
theorem dX12_clause1_83 : decode cX12_clause1 83 = .ok (.aload_n 0, 1) := by decide +kernel
theorem dX12_clause1_84 : decode cX12_clause1 84 = .ok (.iconst 1, 1) := by decide +kernel
theorem dX12_clause1_85 : decode cX12_clause1 85 = .ok (.putfield 301, 3) := by decide +kernel
theorem dX12_clause1_88 : decode cX12_clause1 88 = .ok (.aload_n 0, 1) := by decide +kernel
theorem dX12_clause1_89 : decode cX12_clause1 89 = .ok (.aload_n 0, 1) := by decide +kernel
theorem dX12_clause1_90 : decode cX12_clause1 90 = .ok (.getfield 252, 3) := by decide +kernel
theorem dX12_clause1_93 : decode cX12_clause1 93 = .ok (.iconst 1, 1) := by decide +kernel
theorem dX12_clause1_94 : decode cX12_clause1 94 = .ok (.if_icmp .ne 7, 3) := by decide +kernel
theorem dX12_clause1_97 : decode cX12_clause1 97 = .ok (.iconst 1, 1) := by decide +kernel
theorem dX12_clause1_98 : decode cX12_clause1 98 = .ok (.goto 4, 3) := by decide +kernel
theorem dX12_clause1_101 : decode cX12_clause1 101 = .ok (.iconst 0, 1) := by decide +kernel
theorem dX12_clause1_102 : decode cX12_clause1 102 = .ok (.putfield 304, 3) := by decide +kernel
theorem dX12_clause1_105 : decode cX12_clause1 105 = .ok (.aload_n 0, 1) := by decide +kernel
theorem dX12_clause1_106 : decode cX12_clause1 106 = .ok (.invokevirtual 274, 3) := by decide +kernel
theorem dX12_clause1_109 : decode cX12_clause1 109 = .ok (.goto 50, 3) := by decide +kernel
theorem dX12_clause1_112 : decode cX12_clause1 112 = .ok (.aload_n 0, 1) := by decide +kernel
theorem dX12_clause1_113 : decode cX12_clause1 113 = .ok (.invokevirtual 307, 3) := by decide +kernel
theorem dX12_clause1_116 : decode cX12_clause1 116 = .ok (.goto 43, 3) := by decide +kernel
theorem dX12_clause1_119 : decode cX12_clause1 119 = .ok (.aload_n 0, 1) := by decide +kernel
theorem dX12_clause1_120 : decode cX12_clause1 120 = .ok (.invokevirtual 310, 3) := by decide +kernel
theorem dX12_clause1_123 : decode cX12_clause1 123 = .ok (.goto 36, 3) := by decide +kernel
theorem dX12_clause1_126 : decode cX12_clause1 126 = .ok (.aload_n 0, 1) := by decide +kernel
theorem dX12_clause1_127 : decode cX12_clause1 127 = .ok (.invokevirtual 274, 3) := by decide +kernel
theorem dX12_clause1_130 : decode cX12_clause1 130 = .ok (.aload_n 0, 1) := by decide +kernel
theorem dX12_clause1_131 : decode cX12_clause1 131 = .ok (.invokevirtual 280, 3) := by decide +kernel
theorem dX12_clause1_134 : decode cX12_clause1 134 = .ok (.pop, 1) := by decide +kernel
theorem dX12_clause1_135 : decode cX12_clause1 135 = .ok (.goto 24, 3) := by decide +kernel
theorem dX12_clause1_138 : decode cX12_clause1 138 = .ok (.aload_n 0, 1) := by decide +kernel
theorem dX12_clause1_139 : decode cX12_clause1 139 = .ok (.invokevirtual 313, 3) := by decide +kernel
theorem dX12_clause1_142 : decode cX12_clause1 142 = .ok (.goto 17, 3) := by decide +kernel
theorem dX12_clause1_145 : decode cX12_clause1 145 = .ok (.aload_n 0, 1) := by decide +kernel
theorem dX12_clause1_146 : decode cX12_clause1 146 = .ok (.invokevirtual 315, 3) := by decide +kernel
theorem dX12_clause1_149 : decode cX12_clause1 149 = .ok (.goto 10, 3) := by decide +kernel
theorem dX12_clause1_152 : decode cX12_clause1 152 = .ok (.aload_n 0, 1) := by decide +kernel
theorem dX12_clause1_153 : decode cX12_clause1 153 = .ok (.iconst 0, 1) := by decide +kernel
theorem dX12_clause1_154 : decode cX12_clause1 154 = .ok (.iconst 1, 1) := by decide +kernel
theorem dX12_clause1_155 : decode cX12_clause1 155 = .ok (.invokevirtual 270, 3) := by decide +kernel
theorem dX12_clause1_158 : decode cX12_clause1 158 = .ok (.pop, 1) := by decide +kernel
theorem dX12_clause1_159 : decode cX12_clause1 159 = .ok (.return_, 1) := by decide +kernel
theorem dX12_feed_0 : decode cX12_feed 0 = .ok (.aload_n 0, 1) := by decide +kernel
theorem dX12_feed_1 : decode cX12_feed 1 = .ok (.iconst 0, 1) := by decide +kernel
theorem dX12_feed_2 : decode cX12_feed 2 = .ok (.putfield 63, 3) := by decide +kernel
theorem dX12_feed_5 : decode cX12_feed 5 = .ok (.aload_n 0, 1) := by decide +kernel
theorem dX12_feed_6 : decode cX12_feed 6 = .ok (.getfield 318, 3) := by decide +kernel
theorem dX12_feed_9 : decode cX12_feed 9 = .ok (.bipush 20, 2) := by decide +kernel
theorem dX12_feed_11 : decode cX12_feed 11 = .ok (.iadd, 1) := by decide +kernel
theorem dX12_feed_12 : decode cX12_feed 12 = .ok (.sipush 700, 3) := by decide +kernel
theorem dX12_feed_15 : decode cX12_feed 15 = .ok (.if_icmp .le 5, 3) := by decide +kernel
theorem dX12_feed_18 : decode cX12_feed 18 = .ok (.iconst (-1), 1) := by decide +kernel
theorem dX12_feed_19 : decode cX12_feed 19 = .ok (.ireturn, 1) := by decide +kernel
theorem dX12_feed_20 : decode cX12_feed 20 = .ok (.iconst 0, 1) := by decide +kernel
theorem dX12_feed_21 : decode cX12_feed 21 = .ok (.istore 6, 2) := by decide +kernel
theorem dX12_feed_23 : decode cX12_feed 23 = .ok (.iload 6, 2) := by decide +kernel
theorem dX12_feed_25 : decode cX12_feed 25 = .ok (.bipush 20, 2) := by decide +kernel
theorem dX12_feed_27 : decode cX12_feed 27 = .ok (.if_icmp .ge 86, 3) := by decide +kernel
theorem dX12_feed_30 : decode cX12_feed 30 = .ok (.iload 6, 2) := by decide +kernel
theorem dX12_feed_32 : decode cX12_feed 32 = .ok (.iconst 4, 1) := by decide +kernel
theorem dX12_feed_33 : decode cX12_feed 33 = .ok (.if_icmp .ge 7, 3) := by decide +kernel
theorem dX12_feed_36 : decode cX12_feed 36 = .ok (.iload_n 1, 1) := by decide +kernel
theorem dX12_feed_37 : decode cX12_feed 37 = .ok (.goto 39, 3) := by decide +kernel
theorem dX12_feed_40 : decode cX12_feed 40 = .ok (.iload 6, 2) := by decide +kernel
theorem dX12_feed_42 : decode cX12_feed 42 = .ok (.bipush 8, 2) := by decide +kernel
theorem dX12_feed_44 : decode cX12_feed 44 = .ok (.if_icmp .ge 7, 3) := by decide +kernel
theorem dX12_feed_47 : decode cX12_feed 47 = .ok (.iload_n 2, 1) := by decide +kernel
theorem dX12_feed_48 : decode cX12_feed 48 = .ok (.goto 28, 3) := by decide +kernel
theorem dX12_feed_51 : decode cX12_feed 51 = .ok (.iload 6, 2) := by decide +kernel
theorem dX12_feed_53 : decode cX12_feed 53 = .ok (.bipush 12, 2) := by decide +kernel
theorem dX12_feed_55 : decode cX12_feed 55 = .ok (.if_icmp .ge 7, 3) := by decide +kernel
theorem dX12_feed_58 : decode cX12_feed 58 = .ok (.iload_n 3, 1) := by decide +kernel
theorem dX12_feed_59 : decode cX12_feed 59 = .ok (.goto 17, 3) := by decide +kernel
theorem dX12_feed_62 : decode cX12_feed 62 = .ok (.iload 6, 2) := by decide +kernel
theorem dX12_feed_64 : decode cX12_feed 64 = .ok (.bipush 16, 2) := by decide +kernel
theorem dX12_feed_66 : decode cX12_feed 66 = .ok (.if_icmp .ge 8, 3) := by decide +kernel
theorem dX12_feed_69 : decode cX12_feed 69 = .ok (.iload 4, 2) := by decide +kernel
theorem dX12_feed_71 : decode cX12_feed 71 = .ok (.goto 5, 3) := by decide +kernel
theorem dX12_feed_74 : decode cX12_feed 74 = .ok (.iload 5, 2) := by decide +kernel
theorem dX12_feed_76 : decode cX12_feed 76 = .ok (.istore 7, 2) := by decide +kernel
theorem dX12_feed_78 : decode cX12_feed 78 = .ok (.aload_n 0, 1) := by decide +kernel
theorem dX12_feed_79 : decode cX12_feed 79 = .ok (.getfield 23, 3) := by decide +kernel
theorem dX12_feed_82 : decode cX12_feed 82 = .ok (.aload_n 0, 1) := by decide +kernel
theorem dX12_feed_83 : decode cX12_feed 83 = .ok (.getfield 318, 3) := by decide +kernel
theorem dX12_feed_86 : decode cX12_feed 86 = .ok (.iload 6, 2) := by decide +kernel
theorem dX12_feed_88 : decode cX12_feed 88 = .ok (.iadd, 1) := by decide +kernel
theorem dX12_feed_89 : decode cX12_feed 89 = .ok (.iload 7, 2) := by decide +kernel
theorem dX12_feed_91 : decode cX12_feed 91 = .ok (.bipush 24, 2) := by decide +kernel
theorem dX12_feed_93 : decode cX12_feed 93 = .ok (.bipush 8, 2) := by decide +kernel
theorem dX12_feed_95 : decode cX12_feed 95 = .ok (.iload 6, 2) := by decide +kernel
theorem dX12_feed_97 : decode cX12_feed 97 = .ok (.iconst 4, 1) := by decide +kernel
theorem dX12_feed_98 : decode cX12_feed 98 = .ok (.irem, 1) := by decide +kernel
theorem dX12_feed_99 : decode cX12_feed 99 = .ok (.imul, 1) := by decide +kernel
theorem dX12_feed_100 : decode cX12_feed 100 = .ok (.isub, 1) := by decide +kernel
theorem dX12_feed_101 : decode cX12_feed 101 = .ok (.ishr, 1) := by decide +kernel
theorem dX12_feed_102 : decode cX12_feed 102 = .ok (.sipush 255, 3) := by decide +kernel
theorem dX12_feed_105 : decode cX12_feed 105 = .ok (.iand, 1) := by decide +kernel
theorem dX12_feed_106 : decode cX12_feed 106 = .ok (.iastore, 1) := by decide +kernel
theorem dX12_feed_107 : decode cX12_feed 107 = .ok (.iinc 6 1, 3) := by decide +kernel
theorem dX12_feed_110 : decode cX12_feed 110 = .ok (.goto (-87), 3) := by decide +kernel
theorem dX12_feed_113 : decode cX12_feed 113 = .ok (.aload_n 0, 1) := by decide +kernel
theorem dX12_feed_114 : decode cX12_feed 114 = .ok (.dup, 1) := by decide +kernel
theorem dX12_feed_115 : decode cX12_feed 115 = .ok (.getfield 318, 3) := by decide +kernel
theorem dX12_feed_118 : decode cX12_feed 118 = .ok (.bipush 20, 2) := by decide +kernel
theorem dX12_feed_120 : decode cX12_feed 120 = .ok (.iadd, 1) := by decide +kernel
theorem dX12_feed_121 : decode cX12_feed 121 = .ok (.putfield 318, 3) := by decide +kernel
theorem dX12_feed_124 : decode cX12_feed 124 = .ok (.aload_n 0, 1) := by decide +kernel
theorem dX12_feed_125 : decode cX12_feed 125 = .ok (.getfield 318, 3) := by decide +kernel
theorem dX12_feed_128 : decode cX12_feed 128 = .ok (.ireturn, 1) := by decide +kernel
theorem dX12_heap_0 : decode cX12_heap 0 = .ok (.aload_n 0, 1) := by decide +kernel
theorem dX12_heap_1 : decode cX12_heap 1 = .ok (.iconst 0, 1) := by decide +kernel
theorem dX12_heap_2 : decode cX12_heap 2 = .ok (.putfield 63, 3) := by decide +kernel
theorem dX12_heap_5 : decode cX12_heap 5 = .ok (.aload_n 0, 1) := by decide +kernel
theorem dX12_heap_6 : decode cX12_heap 6 = .ok (.iload_n 1, 1) := by decide +kernel
theorem dX12_heap_7 : decode cX12_heap 7 = .ok (.ifCond .lt 15, 3) := by decide +kernel
theorem dX12_heap_10 : decode cX12_heap 10 = .ok (.iload_n 1, 1) := by decide +kernel
theorem dX12_heap_11 : decode cX12_heap 11 = .ok (.aload_n 0, 1) := by decide +kernel
theorem dX12_heap_12 : decode cX12_heap 12 = .ok (.getfield 318, 3) := by decide +kernel
theorem dX12_heap_15 : decode cX12_heap 15 = .ok (.if_icmp .gt 7, 3) := by decide +kernel
theorem dX12_heap_18 : decode cX12_heap 18 = .ok (.iconst 1, 1) := by decide +kernel
theorem dX12_heap_19 : decode cX12_heap 19 = .ok (.goto 4, 3) := by decide +kernel
theorem dX12_heap_22 : decode cX12_heap 22 = .ok (.iconst 0, 1) := by decide +kernel
theorem dX12_heap_23 : decode cX12_heap 23 = .ok (.iconst 1, 1) := by decide +kernel
theorem dX12_heap_24 : decode cX12_heap 24 = .ok (.invokevirtual 321, 3) := by decide +kernel
theorem dX12_heap_27 : decode cX12_heap 27 = .ok (.ifCond .ne 5, 3) := by decide +kernel
theorem dX12_heap_30 : decode cX12_heap 30 = .ok (.iconst 0, 1) := by decide +kernel
theorem dX12_heap_31 : decode cX12_heap 31 = .ok (.ireturn, 1) := by decide +kernel
theorem dX12_heap_32 : decode cX12_heap 32 = .ok (.aload_n 0, 1) := by decide +kernel
theorem dX12_heap_33 : decode cX12_heap 33 = .ok (.iconst 0, 1) := by decide +kernel
theorem dX12_heap_34 : decode cX12_heap 34 = .ok (.putfield 318, 3) := by decide +kernel
theorem dX12_heap_37 : decode cX12_heap 37 = .ok (.iconst 0, 1) := by decide +kernel
theorem dX12_heap_38 : decode cX12_heap 38 = .ok (.istore_n 2, 1) := by decide +kernel
theorem dX12_heap_39 : decode cX12_heap 39 = .ok (.iload_n 2, 1) := by decide +kernel
theorem dX12_heap_40 : decode cX12_heap 40 = .ok (.bipush 64, 2) := by decide +kernel
theorem dX12_heap_42 : decode cX12_heap 42 = .ok (.if_icmp .ge 16, 3) := by decide +kernel
theorem dX12_heap_45 : decode cX12_heap 45 = .ok (.aload_n 0, 1) := by decide +kernel
theorem dX12_heap_46 : decode cX12_heap 46 = .ok (.getfield 51, 3) := by decide +kernel
theorem dX12_heap_49 : decode cX12_heap 49 = .ok (.iload_n 2, 1) := by decide +kernel
theorem dX12_heap_50 : decode cX12_heap 50 = .ok (.iconst 0, 1) := by decide +kernel
theorem dX12_heap_51 : decode cX12_heap 51 = .ok (.iastore, 1) := by decide +kernel
theorem dX12_heap_52 : decode cX12_heap 52 = .ok (.iinc 2 1, 3) := by decide +kernel
theorem dX12_heap_55 : decode cX12_heap 55 = .ok (.goto (-16), 3) := by decide +kernel
theorem dX12_heap_58 : decode cX12_heap 58 = .ok (.aload_n 0, 1) := by decide +kernel
theorem dX12_heap_59 : decode cX12_heap 59 = .ok (.aload_n 0, 1) := by decide +kernel
theorem dX12_heap_60 : decode cX12_heap 60 = .ok (.aload_n 0, 1) := by decide +kernel
theorem dX12_heap_61 : decode cX12_heap 61 = .ok (.aload_n 0, 1) := by decide +kernel
theorem dX12_heap_62 : decode cX12_heap 62 = .ok (.aload_n 0, 1) := by decide +kernel
theorem dX12_heap_63 : decode cX12_heap 63 = .ok (.aload_n 0, 1) := by decide +kernel
theorem dX12_heap_64 : decode cX12_heap 64 = .ok (.iconst 0, 1) := by decide +kernel
theorem dX12_heap_65 : decode cX12_heap 65 = .ok (.dup_x1, 1) := by decide +kernel
theorem dX12_heap_66 : decode cX12_heap 66 = .ok (.putfield 286, 3) := by decide +kernel
theorem dX12_heap_69 : decode cX12_heap 69 = .ok (.dup_x1, 1) := by decide +kernel
theorem dX12_heap_70 : decode cX12_heap 70 = .ok (.putfield 277, 3) := by decide +kernel
theorem dX12_heap_73 : decode cX12_heap 73 = .ok (.dup_x1, 1) := by decide +kernel
theorem dX12_heap_74 : decode cX12_heap 74 = .ok (.putfield 301, 3) := by decide +kernel
theorem dX12_heap_77 : decode cX12_heap 77 = .ok (.dup_x1, 1) := by decide +kernel
theorem dX12_heap_78 : decode cX12_heap 78 = .ok (.putfield 304, 3) := by decide +kernel
theorem dX12_heap_81 : decode cX12_heap 81 = .ok (.dup_x1, 1) := by decide +kernel
theorem dX12_heap_82 : decode cX12_heap 82 = .ok (.putfield 292, 3) := by decide +kernel
theorem dX12_heap_85 : decode cX12_heap 85 = .ok (.putfield 283, 3) := by decide +kernel
theorem dX12_heap_88 : decode cX12_heap 88 = .ok (.aload_n 0, 1) := by decide +kernel
theorem dX12_heap_89 : decode cX12_heap 89 = .ok (.iload_n 1, 1) := by decide +kernel
theorem dX12_heap_90 : decode cX12_heap 90 = .ok (.putfield 236, 3) := by decide +kernel
theorem dX12_heap_93 : decode cX12_heap 93 = .ok (.aload_n 0, 1) := by decide +kernel
theorem dX12_heap_94 : decode cX12_heap 94 = .ok (.iconst 0, 1) := by decide +kernel
theorem dX12_heap_95 : decode cX12_heap 95 = .ok (.putfield 246, 3) := by decide +kernel
theorem dX12_heap_98 : decode cX12_heap 98 = .ok (.aload_n 0, 1) := by decide +kernel
theorem dX12_heap_99 : decode cX12_heap 99 = .ok (.iconst 0, 1) := by decide +kernel
theorem dX12_heap_100 : decode cX12_heap 100 = .ok (.putfield 267, 3) := by decide +kernel
theorem dX12_heap_103 : decode cX12_heap 103 = .ok (.aload_n 0, 1) := by decide +kernel
theorem dX12_heap_104 : decode cX12_heap 104 = .ok (.iconst (-1), 1) := by decide +kernel
theorem dX12_heap_105 : decode cX12_heap 105 = .ok (.putfield 26, 3) := by decide +kernel
theorem dX12_heap_108 : decode cX12_heap 108 = .ok (.aload_n 0, 1) := by decide +kernel
theorem dX12_heap_109 : decode cX12_heap 109 = .ok (.invokevirtual 274, 3) := by decide +kernel
theorem dX12_heap_112 : decode cX12_heap 112 = .ok (.aload_n 0, 1) := by decide +kernel
theorem dX12_heap_113 : decode cX12_heap 113 = .ok (.getfield 267, 3) := by decide +kernel
theorem dX12_heap_116 : decode cX12_heap 116 = .ok (.ifCond .ne 42, 3) := by decide +kernel
theorem dX12_heap_119 : decode cX12_heap 119 = .ok (.aload_n 0, 1) := by decide +kernel
theorem dX12_heap_120 : decode cX12_heap 120 = .ok (.getfield 258, 3) := by decide +kernel
theorem dX12_heap_123 : decode cX12_heap 123 = .ok (.ifCond .eq 35, 3) := by decide +kernel
theorem dX12_heap_126 : decode cX12_heap 126 = .ok (.aload_n 0, 1) := by decide +kernel
theorem dX12_heap_127 : decode cX12_heap 127 = .ok (.invokevirtual 324, 3) := by decide +kernel
theorem dX12_heap_130 : decode cX12_heap 130 = .ok (.aload_n 0, 1) := by decide +kernel
theorem dX12_heap_131 : decode cX12_heap 131 = .ok (.getfield 267, 3) := by decide +kernel
theorem dX12_heap_134 : decode cX12_heap 134 = .ok (.ifCond .ne (-22), 3) := by decide +kernel
theorem dX12_heap_137 : decode cX12_heap 137 = .ok (.aload_n 0, 1) := by decide +kernel
theorem dX12_heap_138 : decode cX12_heap 138 = .ok (.aload_n 0, 1) := by decide +kernel
theorem dX12_heap_139 : decode cX12_heap 139 = .ok (.bipush 59, 2) := by decide +kernel
theorem dX12_heap_141 : decode cX12_heap 141 = .ok (.invokevirtual 298, 3) := by decide +kernel
theorem dX12_heap_144 : decode cX12_heap 144 = .ok (.iconst 1, 1) := by decide +kernel
theorem dX12_heap_145 : decode cX12_heap 145 = .ok (.invokevirtual 270, 3) := by decide +kernel
theorem dX12_heap_148 : decode cX12_heap 148 = .ok (.ifCond .eq (-36), 3) := by decide +kernel
theorem dX12_heap_151 : decode cX12_heap 151 = .ok (.aload_n 0, 1) := by decide +kernel
theorem dX12_heap_152 : decode cX12_heap 152 = .ok (.invokevirtual 274, 3) := by decide +kernel
theorem dX12_heap_155 : decode cX12_heap 155 = .ok (.goto (-43), 3) := by decide +kernel
theorem dX12_heap_158 : decode cX12_heap 158 = .ok (.aload_n 0, 1) := by decide +kernel
theorem dX12_heap_159 : decode cX12_heap 159 = .ok (.getfield 267, 3) := by decide +kernel
theorem dX12_heap_162 : decode cX12_heap 162 = .ok (.ifCond .eq 18, 3) := by decide +kernel
theorem dX12_heap_165 : decode cX12_heap 165 = .ok (.aload_n 0, 1) := by decide +kernel
theorem dX12_heap_166 : decode cX12_heap 166 = .ok (.getfield 20, 3) := by decide +kernel
theorem dX12_heap_169 : decode cX12_heap 169 = .ok (.iconst 0, 1) := by decide +kernel
theorem dX12_heap_170 : decode cX12_heap 170 = .ok (.dup2, 1) := by decide +kernel
theorem dX12_heap_171 : decode cX12_heap 171 = .ok (.iaload, 1) := by decide +kernel
theorem dX12_heap_172 : decode cX12_heap 172 = .ok (.iconst 1, 1) := by decide +kernel
theorem dX12_heap_173 : decode cX12_heap 173 = .ok (.iadd, 1) := by decide +kernel
theorem dX12_heap_174 : decode cX12_heap 174 = .ok (.iastore, 1) := by decide +kernel
theorem dX12_heap_175 : decode cX12_heap 175 = .ok (.aload_n 0, 1) := by decide +kernel
theorem dX12_heap_176 : decode cX12_heap 176 = .ok (.getfield 267, 3) := by decide +kernel
theorem dX12_heap_179 : decode cX12_heap 179 = .ok (.ireturn, 1) := by decide +kernel
theorem dX12_heap_180 : decode cX12_heap 180 = .ok (.aload_n 0, 1) := by decide +kernel
theorem dX12_heap_181 : decode cX12_heap 181 = .ok (.invokevirtual 60, 3) := by decide +kernel
theorem dX12_heap_184 : decode cX12_heap 184 = .ok (.aload_n 0, 1) := by decide +kernel
theorem dX12_heap_185 : decode cX12_heap 185 = .ok (.aload_n 0, 1) := by decide +kernel
theorem dX12_heap_186 : decode cX12_heap 186 = .ok (.getfield 304, 3) := by decide +kernel
theorem dX12_heap_189 : decode cX12_heap 189 = .ok (.putfield 147, 3) := by decide +kernel
theorem dX12_heap_192 : decode cX12_heap 192 = .ok (.iconst 0, 1) := by decide +kernel
theorem dX12_heap_193 : decode cX12_heap 193 = .ok (.istore_n 2, 1) := by decide +kernel
theorem dX12_heap_194 : decode cX12_heap 194 = .ok (.iload_n 2, 1) := by decide +kernel
theorem dX12_heap_195 : decode cX12_heap 195 = .ok (.bipush 64, 2) := by decide +kernel
theorem dX12_heap_197 : decode cX12_heap 197 = .ok (.if_icmp .ge 21, 3) := by decide +kernel
theorem dX12_heap_200 : decode cX12_heap 200 = .ok (.aload_n 0, 1) := by decide +kernel
theorem dX12_heap_201 : decode cX12_heap 201 = .ok (.getfield 10, 3) := by decide +kernel
theorem dX12_heap_204 : decode cX12_heap 204 = .ok (.iload_n 2, 1) := by decide +kernel
theorem dX12_heap_205 : decode cX12_heap 205 = .ok (.aload_n 0, 1) := by decide +kernel
theorem dX12_heap_206 : decode cX12_heap 206 = .ok (.getfield 51, 3) := by decide +kernel
theorem dX12_heap_209 : decode cX12_heap 209 = .ok (.iload_n 2, 1) := by decide +kernel
theorem dX12_heap_210 : decode cX12_heap 210 = .ok (.iaload, 1) := by decide +kernel
theorem dX12_heap_211 : decode cX12_heap 211 = .ok (.iastore, 1) := by decide +kernel
theorem dX12_heap_212 : decode cX12_heap 212 = .ok (.iinc 2 1, 3) := by decide +kernel
theorem dX12_heap_215 : decode cX12_heap 215 = .ok (.goto (-21), 3) := by decide +kernel
theorem dX12_heap_218 : decode cX12_heap 218 = .ok (.aload_n 0, 1) := by decide +kernel
theorem dX12_heap_219 : decode cX12_heap 219 = .ok (.getfield 10, 3) := by decide +kernel
theorem dX12_heap_222 : decode cX12_heap 222 = .ok (.sipush 773, 3) := by decide +kernel
theorem dX12_heap_225 : decode cX12_heap 225 = .ok (.aload_n 0, 1) := by decide +kernel
theorem dX12_heap_226 : decode cX12_heap 226 = .ok (.getfield 283, 3) := by decide +kernel
theorem dX12_heap_229 : decode cX12_heap 229 = .ok (.iastore, 1) := by decide +kernel
theorem dX12_heap_230 : decode cX12_heap 230 = .ok (.aload_n 0, 1) := by decide +kernel
theorem dX12_heap_231 : decode cX12_heap 231 = .ok (.getfield 10, 3) := by decide +kernel
theorem dX12_heap_234 : decode cX12_heap 234 = .ok (.sipush 777, 3) := by decide +kernel
theorem dX12_heap_237 : decode cX12_heap 237 = .ok (.aload_n 0, 1) := by decide +kernel
theorem dX12_heap_238 : decode cX12_heap 238 = .ok (.getfield 292, 3) := by decide +kernel
theorem dX12_heap_241 : decode cX12_heap 241 = .ok (.iastore, 1) := by decide +kernel
theorem dX12_heap_242 : decode cX12_heap 242 = .ok (.iconst 0, 1) := by decide +kernel
theorem dX12_heap_243 : decode cX12_heap 243 = .ok (.istore_n 2, 1) := by decide +kernel
theorem dX12_heap_244 : decode cX12_heap 244 = .ok (.iload_n 2, 1) := by decide +kernel
theorem dX12_heap_245 : decode cX12_heap 245 = .ok (.bipush 13, 2) := by decide +kernel
theorem dX12_heap_247 : decode cX12_heap 247 = .ok (.aload_n 0, 1) := by decide +kernel
theorem dX12_heap_248 : decode cX12_heap 248 = .ok (.getfield 292, 3) := by decide +kernel
theorem dX12_heap_251 : decode cX12_heap 251 = .ok (.imul, 1) := by decide +kernel
theorem dX12_heap_252 : decode cX12_heap 252 = .ok (.if_icmp .ge 25, 3) := by decide +kernel
theorem dX12_heap_255 : decode cX12_heap 255 = .ok (.aload_n 0, 1) := by decide +kernel
theorem dX12_heap_256 : decode cX12_heap 256 = .ok (.getfield 10, 3) := by decide +kernel
theorem dX12_heap_259 : decode cX12_heap 259 = .ok (.sipush 616, 3) := by decide +kernel
theorem dX12_heap_262 : decode cX12_heap 262 = .ok (.iload_n 2, 1) := by decide +kernel
theorem dX12_heap_263 : decode cX12_heap 263 = .ok (.iadd, 1) := by decide +kernel
theorem dX12_heap_264 : decode cX12_heap 264 = .ok (.aload_n 0, 1) := by decide +kernel
theorem dX12_heap_265 : decode cX12_heap 265 = .ok (.getfield 54, 3) := by decide +kernel
theorem dX12_heap_268 : decode cX12_heap 268 = .ok (.iload_n 2, 1) := by decide +kernel
theorem dX12_heap_269 : decode cX12_heap 269 = .ok (.iaload, 1) := by decide +kernel
theorem dX12_heap_270 : decode cX12_heap 270 = .ok (.iastore, 1) := by decide +kernel
theorem dX12_heap_271 : decode cX12_heap 271 = .ok (.iinc 2 1, 3) := by decide +kernel
theorem dX12_heap_274 : decode cX12_heap 274 = .ok (.goto (-30), 3) := by decide +kernel
theorem dX12_heap_277 : decode cX12_heap 277 = .ok (.aload_n 0, 1) := by decide +kernel
theorem dX12_heap_278 : decode cX12_heap 278 = .ok (.aload_n 0, 1) := by decide +kernel
theorem dX12_heap_279 : decode cX12_heap 279 = .ok (.aload_n 0, 1) := by decide +kernel
theorem dX12_heap_280 : decode cX12_heap 280 = .ok (.aload_n 0, 1) := by decide +kernel
theorem dX12_heap_281 : decode cX12_heap 281 = .ok (.iconst 0, 1) := by decide +kernel
theorem dX12_heap_282 : decode cX12_heap 282 = .ok (.dup_x1, 1) := by decide +kernel
theorem dX12_heap_283 : decode cX12_heap 283 = .ok (.putfield 327, 3) := by decide +kernel
theorem dX12_heap_286 : decode cX12_heap 286 = .ok (.dup_x1, 1) := by decide +kernel
theorem dX12_heap_287 : decode cX12_heap 287 = .ok (.putfield 330, 3) := by decide +kernel
theorem dX12_heap_290 : decode cX12_heap 290 = .ok (.dup_x1, 1) := by decide +kernel
theorem dX12_heap_291 : decode cX12_heap 291 = .ok (.putfield 333, 3) := by decide +kernel
theorem dX12_heap_294 : decode cX12_heap 294 = .ok (.putfield 336, 3) := by decide +kernel
theorem dX12_heap_297 : decode cX12_heap 297 = .ok (.iconst 0, 1) := by decide +kernel
theorem dX12_heap_298 : decode cX12_heap 298 = .ok (.ireturn, 1) := by decide +kernel
theorem dX12_fault_0 : decode cX12_fault 0 = .ok (.aload_n 0, 1) := by decide +kernel
theorem dX12_fault_1 : decode cX12_fault 1 = .ok (.iconst 0, 1) := by decide +kernel
theorem dX12_fault_2 : decode cX12_fault 2 = .ok (.putfield 63, 3) := by decide +kernel
theorem dX12_fault_5 : decode cX12_fault 5 = .ok (.aload_n 0, 1) := by decide +kernel
theorem dX12_fault_6 : decode cX12_fault 6 = .ok (.getfield 26, 3) := by decide +kernel
theorem dX12_fault_9 : decode cX12_fault 9 = .ok (.ireturn, 1) := by decide +kernel
theorem dX12_pending_0 : decode cX12_pending 0 = .ok (.iconst 0, 1) := by decide +kernel
theorem dX12_pending_1 : decode cX12_pending 1 = .ok (.istore_n 1, 1) := by decide +kernel
theorem dX12_pending_2 : decode cX12_pending 2 = .ok (.iconst 0, 1) := by decide +kernel
theorem dX12_pending_3 : decode cX12_pending 3 = .ok (.istore_n 2, 1) := by decide +kernel
theorem dX12_pending_4 : decode cX12_pending 4 = .ok (.iload_n 2, 1) := by decide +kernel
theorem dX12_pending_5 : decode cX12_pending 5 = .ok (.bipush 16, 2) := by decide +kernel
theorem dX12_pending_7 : decode cX12_pending 7 = .ok (.if_icmp .ge 21, 3) := by decide +kernel
theorem dX12_pending_10 : decode cX12_pending 10 = .ok (.iload_n 1, 1) := by decide +kernel
theorem dX12_pending_11 : decode cX12_pending 11 = .ok (.aload_n 0, 1) := by decide +kernel
theorem dX12_pending_12 : decode cX12_pending 12 = .ok (.getfield 10, 3) := by decide +kernel
theorem dX12_pending_15 : decode cX12_pending 15 = .ok (.bipush 64, 2) := by decide +kernel
theorem dX12_pending_17 : decode cX12_pending 17 = .ok (.iload_n 2, 1) := by decide +kernel
theorem dX12_pending_18 : decode cX12_pending 18 = .ok (.iadd, 1) := by decide +kernel
theorem dX12_pending_19 : decode cX12_pending 19 = .ok (.iaload, 1) := by decide +kernel
theorem dX12_pending_20 : decode cX12_pending 20 = .ok (.iadd, 1) := by decide +kernel
theorem dX12_pending_21 : decode cX12_pending 21 = .ok (.istore_n 1, 1) := by decide +kernel
theorem dX12_pending_22 : decode cX12_pending 22 = .ok (.iinc 2 1, 3) := by decide +kernel
theorem dX12_pending_25 : decode cX12_pending 25 = .ok (.goto (-21), 3) := by decide +kernel
theorem dX12_pending_28 : decode cX12_pending 28 = .ok (.iload_n 1, 1) := by decide +kernel
theorem dX12_pending_29 : decode cX12_pending 29 = .ok (.ireturn, 1) := by decide +kernel
theorem dX12_count_0 : decode cX12_count 0 = .ok (.aload_n 0, 1) := by decide +kernel
theorem dX12_count_1 : decode cX12_count 1 = .ok (.iconst 0, 1) := by decide +kernel
theorem dX12_count_2 : decode cX12_count 2 = .ok (.putfield 63, 3) := by decide +kernel
theorem dX12_count_5 : decode cX12_count 5 = .ok (.aload_n 0, 1) := by decide +kernel
theorem dX12_count_6 : decode cX12_count 6 = .ok (.iload_n 1, 1) := by decide +kernel
theorem dX12_count_7 : decode cX12_count 7 = .ok (.iconst 0, 1) := by decide +kernel
theorem dX12_count_8 : decode cX12_count 8 = .ok (.bipush 19, 2) := by decide +kernel
theorem dX12_count_10 : decode cX12_count 10 = .ok (.invokestatic 172, 3) := by decide +kernel
theorem dX12_count_13 : decode cX12_count 13 = .ok (.iconst 1, 1) := by decide +kernel
theorem dX12_count_14 : decode cX12_count 14 = .ok (.invokevirtual 321, 3) := by decide +kernel
theorem dX12_count_17 : decode cX12_count 17 = .ok (.ifCond .ne 5, 3) := by decide +kernel
theorem dX12_count_20 : decode cX12_count 20 = .ok (.iconst 0, 1) := by decide +kernel
theorem dX12_count_21 : decode cX12_count 21 = .ok (.ireturn, 1) := by decide +kernel
theorem dX12_count_22 : decode cX12_count 22 = .ok (.iload_n 1, 1) := by decide +kernel
theorem dX12_count_23 : decode cX12_count 23 = .ok (.tableswitch 151 0 16 #[81, 90, 95, 104, 113, 151, 151, 151, 151, 151, 151, 151, 151, 131, 136, 141, 146], 81) := by decide +kernel
theorem dX12_count_104 : decode cX12_count 104 = .ok (.aload_n 0, 1) := by decide +kernel
theorem dX12_count_105 : decode cX12_count 105 = .ok (.getfield 10, 3) := by decide +kernel
theorem dX12_count_108 : decode cX12_count 108 = .ok (.sipush 772, 3) := by decide +kernel
theorem dX12_count_111 : decode cX12_count 111 = .ok (.iaload, 1) := by decide +kernel
theorem dX12_count_112 : decode cX12_count 112 = .ok (.ireturn, 1) := by decide +kernel
theorem dX12_count_113 : decode cX12_count 113 = .ok (.aload_n 0, 1) := by decide +kernel
theorem dX12_count_114 : decode cX12_count 114 = .ok (.getfield 147, 3) := by decide +kernel
theorem dX12_count_117 : decode cX12_count 117 = .ok (.ireturn, 1) := by decide +kernel
theorem dX12_count_118 : decode cX12_count 118 = .ok (.aload_n 0, 1) := by decide +kernel
theorem dX12_count_119 : decode cX12_count 119 = .ok (.getfield 10, 3) := by decide +kernel
theorem dX12_count_122 : decode cX12_count 122 = .ok (.sipush 773, 3) := by decide +kernel
theorem dX12_count_125 : decode cX12_count 125 = .ok (.iaload, 1) := by decide +kernel
theorem dX12_count_126 : decode cX12_count 126 = .ok (.ireturn, 1) := by decide +kernel
theorem dX12_count_127 : decode cX12_count 127 = .ok (.aload_n 0, 1) := by decide +kernel
theorem dX12_count_128 : decode cX12_count 128 = .ok (.getfield 10, 3) := by decide +kernel
theorem dX12_count_131 : decode cX12_count 131 = .ok (.sipush 777, 3) := by decide +kernel
theorem dX12_count_134 : decode cX12_count 134 = .ok (.iaload, 1) := by decide +kernel
theorem dX12_count_135 : decode cX12_count 135 = .ok (.ireturn, 1) := by decide +kernel
theorem dX12_count_136 : decode cX12_count 136 = .ok (.aload_n 0, 1) := by decide +kernel
theorem dX12_count_137 : decode cX12_count 137 = .ok (.getfield 10, 3) := by decide +kernel
theorem dX12_count_140 : decode cX12_count 140 = .ok (.sipush 774, 3) := by decide +kernel
theorem dX12_count_143 : decode cX12_count 143 = .ok (.iaload, 1) := by decide +kernel
theorem dX12_count_144 : decode cX12_count 144 = .ok (.aload_n 0, 1) := by decide +kernel
theorem dX12_count_145 : decode cX12_count 145 = .ok (.getfield 10, 3) := by decide +kernel
theorem dX12_count_148 : decode cX12_count 148 = .ok (.sipush 775, 3) := by decide +kernel
theorem dX12_count_151 : decode cX12_count 151 = .ok (.iaload, 1) := by decide +kernel
theorem dX12_count_152 : decode cX12_count 152 = .ok (.isub, 1) := by decide +kernel
theorem dX12_count_153 : decode cX12_count 153 = .ok (.ireturn, 1) := by decide +kernel
theorem dX12_count_154 : decode cX12_count 154 = .ok (.aload_n 0, 1) := by decide +kernel
theorem dX12_count_155 : decode cX12_count 155 = .ok (.invokevirtual 339, 3) := by decide +kernel
theorem dX12_count_158 : decode cX12_count 158 = .ok (.ireturn, 1) := by decide +kernel
theorem dX12_count_159 : decode cX12_count 159 = .ok (.aload_n 0, 1) := by decide +kernel
theorem dX12_count_160 : decode cX12_count 160 = .ok (.getfield 336, 3) := by decide +kernel
theorem dX12_count_163 : decode cX12_count 163 = .ok (.ireturn, 1) := by decide +kernel
theorem dX12_count_164 : decode cX12_count 164 = .ok (.aload_n 0, 1) := by decide +kernel
theorem dX12_count_165 : decode cX12_count 165 = .ok (.getfield 330, 3) := by decide +kernel
theorem dX12_count_168 : decode cX12_count 168 = .ok (.ireturn, 1) := by decide +kernel
theorem dX12_count_169 : decode cX12_count 169 = .ok (.aload_n 0, 1) := by decide +kernel
theorem dX12_count_170 : decode cX12_count 170 = .ok (.getfield 318, 3) := by decide +kernel
theorem dX12_count_173 : decode cX12_count 173 = .ok (.ireturn, 1) := by decide +kernel
theorem dX12_count_174 : decode cX12_count 174 = .ok (.iload_n 1, 1) := by decide +kernel
theorem dX12_count_175 : decode cX12_count 175 = .ok (.bipush 16, 2) := by decide +kernel
theorem dX12_count_177 : decode cX12_count 177 = .ok (.if_icmp .le 15, 3) := by decide +kernel
theorem dX12_count_180 : decode cX12_count 180 = .ok (.aload_n 0, 1) := by decide +kernel
theorem dX12_count_181 : decode cX12_count 181 = .ok (.getfield 20, 3) := by decide +kernel
theorem dX12_count_184 : decode cX12_count 184 = .ok (.iload_n 1, 1) := by decide +kernel
theorem dX12_count_185 : decode cX12_count 185 = .ok (.bipush 17, 2) := by decide +kernel
theorem dX12_count_187 : decode cX12_count 187 = .ok (.isub, 1) := by decide +kernel
theorem dX12_count_188 : decode cX12_count 188 = .ok (.iaload, 1) := by decide +kernel
theorem dX12_count_189 : decode cX12_count 189 = .ok (.goto 15, 3) := by decide +kernel
theorem dX12_count_192 : decode cX12_count 192 = .ok (.aload_n 0, 1) := by decide +kernel
theorem dX12_count_193 : decode cX12_count 193 = .ok (.getfield 10, 3) := by decide +kernel
theorem dX12_count_196 : decode cX12_count 196 = .ok (.sipush 778, 3) := by decide +kernel
theorem dX12_count_199 : decode cX12_count 199 = .ok (.iload_n 1, 1) := by decide +kernel
theorem dX12_count_200 : decode cX12_count 200 = .ok (.iadd, 1) := by decide +kernel
theorem dX12_count_201 : decode cX12_count 201 = .ok (.iconst 5, 1) := by decide +kernel
theorem dX12_count_202 : decode cX12_count 202 = .ok (.isub, 1) := by decide +kernel
theorem dX12_count_203 : decode cX12_count 203 = .ok (.iaload, 1) := by decide +kernel
theorem dX12_count_204 : decode cX12_count 204 = .ok (.ireturn, 1) := by decide +kernel
theorem dX12_isWord_0 : decode cX12_isWord 0 = .ok (.aload_n 0, 1) := by decide +kernel
theorem dX12_isWord_1 : decode cX12_isWord 1 = .ok (.iload_n 1, 1) := by decide +kernel
theorem dX12_isWord_2 : decode cX12_isWord 2 = .ok (.iconst 0, 1) := by decide +kernel
theorem dX12_isWord_3 : decode cX12_isWord 3 = .ok (.bipush 63, 2) := by decide +kernel
theorem dX12_isWord_5 : decode cX12_isWord 5 = .ok (.invokestatic 172, 3) := by decide +kernel
theorem dX12_isWord_8 : decode cX12_isWord 8 = .ok (.iconst 1, 1) := by decide +kernel
theorem dX12_isWord_9 : decode cX12_isWord 9 = .ok (.invokevirtual 321, 3) := by decide +kernel
theorem dX12_isWord_12 : decode cX12_isWord 12 = .ok (.ireturn, 1) := by decide +kernel
theorem dX12_word_0 : decode cX12_word 0 = .ok (.aload_n 0, 1) := by decide +kernel
theorem dX12_word_1 : decode cX12_word 1 = .ok (.iconst 0, 1) := by decide +kernel
theorem dX12_word_2 : decode cX12_word 2 = .ok (.putfield 63, 3) := by decide +kernel
theorem dX12_word_5 : decode cX12_word 5 = .ok (.aload_n 0, 1) := by decide +kernel
theorem dX12_word_6 : decode cX12_word 6 = .ok (.iload_n 1, 1) := by decide +kernel
theorem dX12_word_7 : decode cX12_word 7 = .ok (.invokevirtual 342, 3) := by decide +kernel
theorem dX12_word_10 : decode cX12_word 10 = .ok (.ifCond .ne 7, 3) := by decide +kernel
theorem dX12_word_13 : decode cX12_word 13 = .ok (.iconst 0, 1) := by decide +kernel
theorem dX12_word_14 : decode cX12_word 14 = .ok (.goto 22, 3) := by decide +kernel
theorem dX12_word_17 : decode cX12_word 17 = .ok (.iload_n 2, 1) := by decide +kernel
theorem dX12_word_18 : decode cX12_word 18 = .ok (.ifCond .eq 12, 3) := by decide +kernel
theorem dX12_word_21 : decode cX12_word 21 = .ok (.aload_n 0, 1) := by decide +kernel
theorem dX12_word_22 : decode cX12_word 22 = .ok (.getfield 10, 3) := by decide +kernel
theorem dX12_word_25 : decode cX12_word 25 = .ok (.iload_n 1, 1) := by decide +kernel
theorem dX12_word_26 : decode cX12_word 26 = .ok (.iaload, 1) := by decide +kernel
theorem dX12_word_27 : decode cX12_word 27 = .ok (.goto 9, 3) := by decide +kernel
theorem dX12_word_30 : decode cX12_word 30 = .ok (.aload_n 0, 1) := by decide +kernel
theorem dX12_word_31 : decode cX12_word 31 = .ok (.iconst 0, 1) := by decide +kernel
theorem dX12_word_32 : decode cX12_word 32 = .ok (.iload_n 1, 1) := by decide +kernel
theorem dX12_word_33 : decode cX12_word 33 = .ok (.invokevirtual 118, 3) := by decide +kernel
theorem dX12_word_36 : decode cX12_word 36 = .ok (.ireturn, 1) := by decide +kernel
theorem dX12_line_0 : decode cX12_line 0 = .ok (.aload_n 0, 1) := by decide +kernel
theorem dX12_line_1 : decode cX12_line 1 = .ok (.iconst 0, 1) := by decide +kernel
theorem dX12_line_2 : decode cX12_line 2 = .ok (.putfield 63, 3) := by decide +kernel
theorem dX12_line_5 : decode cX12_line 5 = .ok (.aload_n 0, 1) := by decide +kernel
theorem dX12_line_6 : decode cX12_line 6 = .ok (.iload_n 1, 1) := by decide +kernel
theorem dX12_line_7 : decode cX12_line 7 = .ok (.iconst 0, 1) := by decide +kernel
theorem dX12_line_8 : decode cX12_line 8 = .ok (.bipush 15, 2) := by decide +kernel
theorem dX12_line_10 : decode cX12_line 10 = .ok (.invokestatic 172, 3) := by decide +kernel
theorem dX12_line_13 : decode cX12_line 13 = .ok (.iconst 1, 1) := by decide +kernel
theorem dX12_line_14 : decode cX12_line 14 = .ok (.invokevirtual 321, 3) := by decide +kernel
theorem dX12_line_17 : decode cX12_line 17 = .ok (.ifCond .ne 5, 3) := by decide +kernel
theorem dX12_line_20 : decode cX12_line 20 = .ok (.iconst 0, 1) := by decide +kernel
theorem dX12_line_21 : decode cX12_line 21 = .ok (.ireturn, 1) := by decide +kernel
theorem dX12_line_22 : decode cX12_line 22 = .ok (.iload_n 2, 1) := by decide +kernel
theorem dX12_line_23 : decode cX12_line 23 = .ok (.iconst (-1), 1) := by decide +kernel
theorem dX12_line_24 : decode cX12_line 24 = .ok (.if_icmp .ne 13, 3) := by decide +kernel
theorem dX12_line_27 : decode cX12_line 27 = .ok (.aload_n 0, 1) := by decide +kernel
theorem dX12_line_28 : decode cX12_line 28 = .ok (.getfield 10, 3) := by decide +kernel
theorem dX12_line_31 : decode cX12_line 31 = .ok (.bipush 64, 2) := by decide +kernel
theorem dX12_line_33 : decode cX12_line 33 = .ok (.iload_n 1, 1) := by decide +kernel
theorem dX12_line_34 : decode cX12_line 34 = .ok (.iadd, 1) := by decide +kernel
theorem dX12_line_35 : decode cX12_line 35 = .ok (.iaload, 1) := by decide +kernel
theorem dX12_line_36 : decode cX12_line 36 = .ok (.ireturn, 1) := by decide +kernel
theorem dX12_line_37 : decode cX12_line 37 = .ok (.iload_n 2, 1) := by decide +kernel
theorem dX12_line_38 : decode cX12_line 38 = .ok (.bipush (-2), 2) := by decide +kernel
theorem dX12_line_40 : decode cX12_line 40 = .ok (.if_icmp .ne 13, 3) := by decide +kernel
theorem dX12_line_43 : decode cX12_line 43 = .ok (.aload_n 0, 1) := by decide +kernel
theorem dX12_line_44 : decode cX12_line 44 = .ok (.getfield 10, 3) := by decide +kernel
theorem dX12_line_47 : decode cX12_line 47 = .ok (.bipush 80, 2) := by decide +kernel
theorem dX12_line_49 : decode cX12_line 49 = .ok (.iload_n 1, 1) := by decide +kernel
theorem dX12_line_50 : decode cX12_line 50 = .ok (.iadd, 1) := by decide +kernel
theorem dX12_line_51 : decode cX12_line 51 = .ok (.iaload, 1) := by decide +kernel
theorem dX12_line_52 : decode cX12_line 52 = .ok (.ireturn, 1) := by decide +kernel
theorem dX12_line_53 : decode cX12_line 53 = .ok (.aload_n 0, 1) := by decide +kernel
theorem dX12_line_54 : decode cX12_line 54 = .ok (.iload_n 2, 1) := by decide +kernel
theorem dX12_line_55 : decode cX12_line 55 = .ok (.ifCond .lt 20, 3) := by decide +kernel
theorem dX12_line_58 : decode cX12_line 58 = .ok (.iload_n 2, 1) := by decide +kernel
theorem dX12_line_59 : decode cX12_line 59 = .ok (.aload_n 0, 1) := by decide +kernel
theorem dX12_line_60 : decode cX12_line 60 = .ok (.getfield 10, 3) := by decide +kernel
theorem dX12_line_63 : decode cX12_line 63 = .ok (.bipush 64, 2) := by decide +kernel
theorem dX12_line_65 : decode cX12_line 65 = .ok (.iload_n 1, 1) := by decide +kernel
theorem dX12_line_66 : decode cX12_line 66 = .ok (.iadd, 1) := by decide +kernel
theorem dX12_line_67 : decode cX12_line 67 = .ok (.iaload, 1) := by decide +kernel
theorem dX12_line_68 : decode cX12_line 68 = .ok (.if_icmp .ge 7, 3) := by decide +kernel
theorem dX12_line_71 : decode cX12_line 71 = .ok (.iconst 1, 1) := by decide +kernel
theorem dX12_line_72 : decode cX12_line 72 = .ok (.goto 4, 3) := by decide +kernel
theorem dX12_line_75 : decode cX12_line 75 = .ok (.iconst 0, 1) := by decide +kernel
theorem dX12_line_76 : decode cX12_line 76 = .ok (.iconst 1, 1) := by decide +kernel
theorem dX12_line_77 : decode cX12_line 77 = .ok (.invokevirtual 321, 3) := by decide +kernel
theorem dX12_line_80 : decode cX12_line 80 = .ok (.ifCond .ne 5, 3) := by decide +kernel
theorem dX12_line_83 : decode cX12_line 83 = .ok (.iconst 0, 1) := by decide +kernel
theorem dX12_line_84 : decode cX12_line 84 = .ok (.ireturn, 1) := by decide +kernel
theorem dX12_line_85 : decode cX12_line 85 = .ok (.bipush 100, 2) := by decide +kernel
theorem dX12_line_87 : decode cX12_line 87 = .ok (.aload_n 0, 1) := by decide +kernel
theorem dX12_line_88 : decode cX12_line 88 = .ok (.getfield 10, 3) := by decide +kernel
theorem dX12_line_91 : decode cX12_line 91 = .ok (.bipush 96, 2) := by decide +kernel
theorem dX12_line_93 : decode cX12_line 93 = .ok (.bipush 12, 2) := by decide +kernel
theorem dX12_line_95 : decode cX12_line 95 = .ok (.iload_n 1, 1) := by decide +kernel
theorem dX12_line_96 : decode cX12_line 96 = .ok (.imul, 1) := by decide +kernel
theorem dX12_line_97 : decode cX12_line 97 = .ok (.iadd, 1) := by decide +kernel
theorem dX12_line_98 : decode cX12_line 98 = .ok (.iconst 2, 1) := by decide +kernel
theorem dX12_line_99 : decode cX12_line 99 = .ok (.iload_n 2, 1) := by decide +kernel
theorem dX12_line_100 : decode cX12_line 100 = .ok (.imul, 1) := by decide +kernel
theorem dX12_line_101 : decode cX12_line 101 = .ok (.iadd, 1) := by decide +kernel
theorem dX12_line_102 : decode cX12_line 102 = .ok (.iaload, 1) := by decide +kernel
theorem dX12_line_103 : decode cX12_line 103 = .ok (.imul, 1) := by decide +kernel
theorem dX12_line_104 : decode cX12_line 104 = .ok (.aload_n 0, 1) := by decide +kernel
theorem dX12_line_105 : decode cX12_line 105 = .ok (.getfield 10, 3) := by decide +kernel
theorem dX12_line_108 : decode cX12_line 108 = .ok (.bipush 96, 2) := by decide +kernel
theorem dX12_line_110 : decode cX12_line 110 = .ok (.bipush 12, 2) := by decide +kernel
theorem dX12_line_112 : decode cX12_line 112 = .ok (.iload_n 1, 1) := by decide +kernel
theorem dX12_line_113 : decode cX12_line 113 = .ok (.imul, 1) := by decide +kernel
theorem dX12_line_114 : decode cX12_line 114 = .ok (.iadd, 1) := by decide +kernel
theorem dX12_line_115 : decode cX12_line 115 = .ok (.iconst 2, 1) := by decide +kernel
theorem dX12_line_116 : decode cX12_line 116 = .ok (.iload_n 2, 1) := by decide +kernel
theorem dX12_line_117 : decode cX12_line 117 = .ok (.imul, 1) := by decide +kernel
theorem dX12_line_118 : decode cX12_line 118 = .ok (.iadd, 1) := by decide +kernel
theorem dX12_line_119 : decode cX12_line 119 = .ok (.iconst 1, 1) := by decide +kernel
theorem dX12_line_120 : decode cX12_line 120 = .ok (.iadd, 1) := by decide +kernel
theorem dX12_line_121 : decode cX12_line 121 = .ok (.iaload, 1) := by decide +kernel
theorem dX12_line_122 : decode cX12_line 122 = .ok (.iadd, 1) := by decide +kernel
theorem dX12_line_123 : decode cX12_line 123 = .ok (.ireturn, 1) := by decide +kernel
theorem dX12_micro_0 : decode cX12_micro 0 = .ok (.aload_n 0, 1) := by decide +kernel
theorem dX12_micro_1 : decode cX12_micro 1 = .ok (.iconst 0, 1) := by decide +kernel
theorem dX12_micro_2 : decode cX12_micro 2 = .ok (.putfield 63, 3) := by decide +kernel
theorem dX12_micro_5 : decode cX12_micro 5 = .ok (.aload_n 0, 1) := by decide +kernel
theorem dX12_micro_6 : decode cX12_micro 6 = .ok (.iload_n 1, 1) := by decide +kernel
theorem dX12_micro_7 : decode cX12_micro 7 = .ok (.ifCond .lt 37, 3) := by decide +kernel
theorem dX12_micro_10 : decode cX12_micro 10 = .ok (.iload_n 1, 1) := by decide +kernel
theorem dX12_micro_11 : decode cX12_micro 11 = .ok (.aload_n 0, 1) := by decide +kernel
theorem dX12_micro_12 : decode cX12_micro 12 = .ok (.getfield 10, 3) := by decide +kernel
theorem dX12_micro_15 : decode cX12_micro 15 = .ok (.sipush 774, 3) := by decide +kernel
theorem dX12_micro_18 : decode cX12_micro 18 = .ok (.iaload, 1) := by decide +kernel
theorem dX12_micro_19 : decode cX12_micro 19 = .ok (.aload_n 0, 1) := by decide +kernel
theorem dX12_micro_20 : decode cX12_micro 20 = .ok (.getfield 10, 3) := by decide +kernel
theorem dX12_micro_23 : decode cX12_micro 23 = .ok (.sipush 775, 3) := by decide +kernel
theorem dX12_micro_26 : decode cX12_micro 26 = .ok (.iaload, 1) := by decide +kernel
theorem dX12_micro_27 : decode cX12_micro 27 = .ok (.isub, 1) := by decide +kernel
theorem dX12_micro_28 : decode cX12_micro 28 = .ok (.if_icmp .ge 16, 3) := by decide +kernel
theorem dX12_micro_31 : decode cX12_micro 31 = .ok (.iload_n 2, 1) := by decide +kernel
theorem dX12_micro_32 : decode cX12_micro 32 = .ok (.iconst 0, 1) := by decide +kernel
theorem dX12_micro_33 : decode cX12_micro 33 = .ok (.iconst 2, 1) := by decide +kernel
theorem dX12_micro_34 : decode cX12_micro 34 = .ok (.invokestatic 172, 3) := by decide +kernel
theorem dX12_micro_37 : decode cX12_micro 37 = .ok (.ifCond .eq 7, 3) := by decide +kernel
theorem dX12_micro_40 : decode cX12_micro 40 = .ok (.iconst 1, 1) := by decide +kernel
theorem dX12_micro_41 : decode cX12_micro 41 = .ok (.goto 4, 3) := by decide +kernel
theorem dX12_micro_44 : decode cX12_micro 44 = .ok (.iconst 0, 1) := by decide +kernel
theorem dX12_micro_45 : decode cX12_micro 45 = .ok (.iconst 1, 1) := by decide +kernel
theorem dX12_micro_46 : decode cX12_micro 46 = .ok (.invokevirtual 321, 3) := by decide +kernel
theorem dX12_micro_49 : decode cX12_micro 49 = .ok (.ifCond .ne 5, 3) := by decide +kernel
theorem dX12_micro_52 : decode cX12_micro 52 = .ok (.iconst 0, 1) := by decide +kernel
theorem dX12_micro_53 : decode cX12_micro 53 = .ok (.ireturn, 1) := by decide +kernel
theorem dX12_micro_54 : decode cX12_micro 54 = .ok (.aload_n 0, 1) := by decide +kernel
theorem dX12_micro_55 : decode cX12_micro 55 = .ok (.getfield 10, 3) := by decide +kernel
theorem dX12_micro_58 : decode cX12_micro 58 = .ok (.sipush 288, 3) := by decide +kernel
theorem dX12_micro_61 : decode cX12_micro 61 = .ok (.iconst 3, 1) := by decide +kernel
theorem dX12_micro_62 : decode cX12_micro 62 = .ok (.aload_n 0, 1) := by decide +kernel
theorem dX12_micro_63 : decode cX12_micro 63 = .ok (.getfield 10, 3) := by decide +kernel
theorem dX12_micro_66 : decode cX12_micro 66 = .ok (.sipush 775, 3) := by decide +kernel
theorem dX12_micro_69 : decode cX12_micro 69 = .ok (.iaload, 1) := by decide +kernel
theorem dX12_micro_70 : decode cX12_micro 70 = .ok (.iload_n 1, 1) := by decide +kernel
theorem dX12_micro_71 : decode cX12_micro 71 = .ok (.iadd, 1) := by decide +kernel
theorem dX12_micro_72 : decode cX12_micro 72 = .ok (.imul, 1) := by decide +kernel
theorem dX12_micro_73 : decode cX12_micro 73 = .ok (.iadd, 1) := by decide +kernel
theorem dX12_micro_74 : decode cX12_micro 74 = .ok (.iload_n 2, 1) := by decide +kernel
theorem dX12_micro_75 : decode cX12_micro 75 = .ok (.iadd, 1) := by decide +kernel
theorem dX12_micro_76 : decode cX12_micro 76 = .ok (.iaload, 1) := by decide +kernel
theorem dX12_micro_77 : decode cX12_micro 77 = .ok (.ireturn, 1) := by decide +kernel
theorem dX12_orders_0 : decode cX12_orders 0 = .ok (.aload_n 0, 1) := by decide +kernel
theorem dX12_orders_1 : decode cX12_orders 1 = .ok (.iconst 0, 1) := by decide +kernel
theorem dX12_orders_2 : decode cX12_orders 2 = .ok (.putfield 63, 3) := by decide +kernel
theorem dX12_orders_5 : decode cX12_orders 5 = .ok (.aload_n 0, 1) := by decide +kernel
theorem dX12_orders_6 : decode cX12_orders 6 = .ok (.iconst 0, 1) := by decide +kernel
theorem dX12_orders_7 : decode cX12_orders 7 = .ok (.invokevirtual 188, 3) := by decide +kernel
theorem dX12_orders_10 : decode cX12_orders 10 = .ok (.lreturn, 1) := by decide +kernel
theorem dX12_shape_0 : decode cX12_shape 0 = .ok (.aload_n 0, 1) := by decide +kernel
theorem dX12_shape_1 : decode cX12_shape 1 = .ok (.iconst 0, 1) := by decide +kernel
theorem dX12_shape_2 : decode cX12_shape 2 = .ok (.putfield 63, 3) := by decide +kernel
theorem dX12_shape_5 : decode cX12_shape 5 = .ok (.aload_n 0, 1) := by decide +kernel
theorem dX12_shape_6 : decode cX12_shape 6 = .ok (.iload_n 1, 1) := by decide +kernel
theorem dX12_shape_7 : decode cX12_shape 7 = .ok (.iconst 0, 1) := by decide +kernel
theorem dX12_shape_8 : decode cX12_shape 8 = .ok (.iconst 2, 1) := by decide +kernel
theorem dX12_shape_9 : decode cX12_shape 9 = .ok (.invokestatic 172, 3) := by decide +kernel
theorem dX12_shape_12 : decode cX12_shape 12 = .ok (.ifCond .eq 16, 3) := by decide +kernel
theorem dX12_shape_15 : decode cX12_shape 15 = .ok (.iload_n 2, 1) := by decide +kernel
theorem dX12_shape_16 : decode cX12_shape 16 = .ok (.iconst 0, 1) := by decide +kernel
theorem dX12_shape_17 : decode cX12_shape 17 = .ok (.iconst 4, 1) := by decide +kernel
theorem dX12_shape_18 : decode cX12_shape 18 = .ok (.invokestatic 172, 3) := by decide +kernel
theorem dX12_shape_21 : decode cX12_shape 21 = .ok (.ifCond .eq 7, 3) := by decide +kernel
theorem dX12_shape_24 : decode cX12_shape 24 = .ok (.iconst 1, 1) := by decide +kernel
theorem dX12_shape_25 : decode cX12_shape 25 = .ok (.goto 4, 3) := by decide +kernel
theorem dX12_shape_28 : decode cX12_shape 28 = .ok (.iconst 0, 1) := by decide +kernel
theorem dX12_shape_29 : decode cX12_shape 29 = .ok (.iconst 1, 1) := by decide +kernel
theorem dX12_shape_30 : decode cX12_shape 30 = .ok (.invokevirtual 321, 3) := by decide +kernel
theorem dX12_shape_33 : decode cX12_shape 33 = .ok (.ifCond .ne 5, 3) := by decide +kernel
theorem dX12_shape_36 : decode cX12_shape 36 = .ok (.iconst 0, 1) := by decide +kernel
theorem dX12_shape_37 : decode cX12_shape 37 = .ok (.ireturn, 1) := by decide +kernel
theorem dX12_shape_38 : decode cX12_shape 38 = .ok (.aload_n 0, 1) := by decide +kernel
theorem dX12_shape_39 : decode cX12_shape 39 = .ok (.iconst 0, 1) := by decide +kernel
theorem dX12_shape_40 : decode cX12_shape 40 = .ok (.invokevirtual 175, 3) := by decide +kernel
theorem dX12_shape_43 : decode cX12_shape 43 = .ok (.iload_n 1, 1) := by decide +kernel
theorem dX12_shape_44 : decode cX12_shape 44 = .ok (.ifCond .ne 29, 3) := by decide +kernel
theorem dX12_shape_47 : decode cX12_shape 47 = .ok (.iconst 0, 1) := by decide +kernel
theorem dX12_shape_48 : decode cX12_shape 48 = .ok (.istore_n 3, 1) := by decide +kernel
theorem dX12_shape_49 : decode cX12_shape 49 = .ok (.iload_n 3, 1) := by decide +kernel
theorem dX12_shape_50 : decode cX12_shape 50 = .ok (.bipush 64, 2) := by decide +kernel
theorem dX12_shape_52 : decode cX12_shape 52 = .ok (.if_icmp .ge 21, 3) := by decide +kernel
theorem dX12_shape_55 : decode cX12_shape 55 = .ok (.aload_n 0, 1) := by decide +kernel
theorem dX12_shape_56 : decode cX12_shape 56 = .ok (.getfield 39, 3) := by decide +kernel
theorem dX12_shape_59 : decode cX12_shape 59 = .ok (.iload_n 3, 1) := by decide +kernel
theorem dX12_shape_60 : decode cX12_shape 60 = .ok (.aload_n 0, 1) := by decide +kernel
theorem dX12_shape_61 : decode cX12_shape 61 = .ok (.iconst 0, 1) := by decide +kernel
theorem dX12_shape_62 : decode cX12_shape 62 = .ok (.iload_n 3, 1) := by decide +kernel
theorem dX12_shape_63 : decode cX12_shape 63 = .ok (.invokevirtual 118, 3) := by decide +kernel
theorem dX12_shape_66 : decode cX12_shape 66 = .ok (.iastore, 1) := by decide +kernel
theorem dX12_shape_67 : decode cX12_shape 67 = .ok (.iinc 3 1, 3) := by decide +kernel
theorem dX12_shape_70 : decode cX12_shape 70 = .ok (.goto (-21), 3) := by decide +kernel
theorem dX12_shape_73 : decode cX12_shape 73 = .ok (.iload_n 1, 1) := by decide +kernel
theorem dX12_shape_74 : decode cX12_shape 74 = .ok (.iconst 2, 1) := by decide +kernel
theorem dX12_shape_75 : decode cX12_shape 75 = .ok (.if_icmp .ne 11, 3) := by decide +kernel
theorem dX12_shape_78 : decode cX12_shape 78 = .ok (.aload_n 0, 1) := by decide +kernel
theorem dX12_shape_79 : decode cX12_shape 79 = .ok (.aload_n 0, 1) := by decide +kernel
theorem dX12_shape_80 : decode cX12_shape 80 = .ok (.getfield 39, 3) := by decide +kernel
theorem dX12_shape_83 : decode cX12_shape 83 = .ok (.invokevirtual 178, 3) := by decide +kernel
theorem dX12_shape_86 : decode cX12_shape 86 = .ok (.aload_n 0, 1) := by decide +kernel
theorem dX12_shape_87 : decode cX12_shape 87 = .ok (.aload_n 0, 1) := by decide +kernel
theorem dX12_shape_88 : decode cX12_shape 88 = .ok (.getfield 39, 3) := by decide +kernel
theorem dX12_shape_91 : decode cX12_shape 91 = .ok (.invokevirtual 100, 3) := by decide +kernel
theorem dX12_shape_94 : decode cX12_shape 94 = .ok (.aload_n 0, 1) := by decide +kernel
theorem dX12_shape_95 : decode cX12_shape 95 = .ok (.getfield 39, 3) := by decide +kernel
theorem dX12_shape_98 : decode cX12_shape 98 = .ok (.invokestatic 104, 3) := by decide +kernel
theorem dX12_shape_101 : decode cX12_shape 101 = .ok (.istore_n 3, 1) := by decide +kernel
theorem dX12_shape_102 : decode cX12_shape 102 = .ok (.iload_n 2, 1) := by decide +kernel
theorem dX12_shape_103 : decode cX12_shape 103 = .ok (.ifCond .ne 10, 3) := by decide +kernel
theorem dX12_shape_106 : decode cX12_shape 106 = .ok (.aload_n 0, 1) := by decide +kernel
theorem dX12_shape_107 : decode cX12_shape 107 = .ok (.getfield 93, 3) := by decide +kernel
theorem dX12_shape_110 : decode cX12_shape 110 = .ok (.goto 44, 3) := by decide +kernel
theorem dX12_shape_113 : decode cX12_shape 113 = .ok (.iload_n 2, 1) := by decide +kernel
theorem dX12_shape_114 : decode cX12_shape 114 = .ok (.iconst 1, 1) := by decide +kernel
theorem dX12_shape_115 : decode cX12_shape 115 = .ok (.if_icmp .ne 14, 3) := by decide +kernel
theorem dX12_shape_118 : decode cX12_shape 118 = .ok (.iload_n 3, 1) := by decide +kernel
theorem dX12_shape_119 : decode cX12_shape 119 = .ok (.aload_n 0, 1) := by decide +kernel
theorem dX12_shape_120 : decode cX12_shape 120 = .ok (.getfield 93, 3) := by decide +kernel
theorem dX12_shape_123 : decode cX12_shape 123 = .ok (.iconst (-1), 1) := by decide +kernel
theorem dX12_shape_124 : decode cX12_shape 124 = .ok (.ixor, 1) := by decide +kernel
theorem dX12_shape_125 : decode cX12_shape 125 = .ok (.iand, 1) := by decide +kernel
theorem dX12_shape_126 : decode cX12_shape 126 = .ok (.goto 28, 3) := by decide +kernel
theorem dX12_shape_129 : decode cX12_shape 129 = .ok (.iload_n 2, 1) := by decide +kernel
theorem dX12_shape_130 : decode cX12_shape 130 = .ok (.iconst 2, 1) := by decide +kernel
theorem dX12_shape_131 : decode cX12_shape 131 = .ok (.if_icmp .ne 7, 3) := by decide +kernel
theorem dX12_shape_134 : decode cX12_shape 134 = .ok (.iload_n 3, 1) := by decide +kernel
theorem dX12_shape_135 : decode cX12_shape 135 = .ok (.goto 19, 3) := by decide +kernel
theorem dX12_shape_138 : decode cX12_shape 138 = .ok (.iload_n 2, 1) := by decide +kernel
theorem dX12_shape_139 : decode cX12_shape 139 = .ok (.iconst 3, 1) := by decide +kernel
theorem dX12_shape_140 : decode cX12_shape 140 = .ok (.if_icmp .ne 10, 3) := by decide +kernel
theorem dX12_shape_143 : decode cX12_shape 143 = .ok (.aload_n 0, 1) := by decide +kernel
theorem dX12_shape_144 : decode cX12_shape 144 = .ok (.getfield 90, 3) := by decide +kernel
theorem dX12_shape_147 : decode cX12_shape 147 = .ok (.goto 7, 3) := by decide +kernel
theorem dX12_shape_150 : decode cX12_shape 150 = .ok (.aload_n 0, 1) := by decide +kernel
theorem dX12_shape_151 : decode cX12_shape 151 = .ok (.getfield 87, 3) := by decide +kernel
theorem dX12_shape_154 : decode cX12_shape 154 = .ok (.ireturn, 1) := by decide +kernel
theorem dX12_keptAt_0 : decode cX12_keptAt 0 = .ok (.sipush 2358, 3) := by decide +kernel
theorem dX12_keptAt_3 : decode cX12_keptAt 3 = .ok (.sipush 786, 3) := by decide +kernel
theorem dX12_keptAt_6 : decode cX12_keptAt 6 = .ok (.iload_n 0, 1) := by decide +kernel
theorem dX12_keptAt_7 : decode cX12_keptAt 7 = .ok (.iload_n 1, 1) := by decide +kernel
theorem dX12_keptAt_8 : decode cX12_keptAt 8 = .ok (.iadd, 1) := by decide +kernel
theorem dX12_keptAt_9 : decode cX12_keptAt 9 = .ok (.bipush 40, 2) := by decide +kernel
theorem dX12_keptAt_11 : decode cX12_keptAt 11 = .ok (.irem, 1) := by decide +kernel
theorem dX12_keptAt_12 : decode cX12_keptAt 12 = .ok (.imul, 1) := by decide +kernel
theorem dX12_keptAt_13 : decode cX12_keptAt 13 = .ok (.iadd, 1) := by decide +kernel
theorem dX12_keptAt_14 : decode cX12_keptAt 14 = .ok (.ireturn, 1) := by decide +kernel
theorem dX12_refuses_0 : decode cX12_refuses 0 = .ok (.aload_n 0, 1) := by decide +kernel
theorem dX12_refuses_1 : decode cX12_refuses 1 = .ok (.getfield 20, 3) := by decide +kernel
theorem dX12_refuses_4 : decode cX12_refuses 4 = .ok (.iload_n 1, 1) := by decide +kernel
theorem dX12_refuses_5 : decode cX12_refuses 5 = .ok (.dup2, 1) := by decide +kernel
theorem dX12_refuses_6 : decode cX12_refuses 6 = .ok (.iaload, 1) := by decide +kernel
theorem dX12_refuses_7 : decode cX12_refuses 7 = .ok (.iconst 1, 1) := by decide +kernel
theorem dX12_refuses_8 : decode cX12_refuses 8 = .ok (.iadd, 1) := by decide +kernel
theorem dX12_refuses_9 : decode cX12_refuses 9 = .ok (.iastore, 1) := by decide +kernel
theorem dX12_refuses_10 : decode cX12_refuses 10 = .ok (.iconst (-1), 1) := by decide +kernel
theorem dX12_refuses_11 : decode cX12_refuses 11 = .ok (.ireturn, 1) := by decide +kernel
theorem dX12_tries_0 : decode cX12_tries 0 = .ok (.aload_n 0, 1) := by decide +kernel
theorem dX12_tries_1 : decode cX12_tries 1 = .ok (.iconst 0, 1) := by decide +kernel
theorem dX12_tries_2 : decode cX12_tries 2 = .ok (.sipush 786, 3) := by decide +kernel
theorem dX12_tries_5 : decode cX12_tries 5 = .ok (.sipush 786, 3) := by decide +kernel
theorem dX12_tries_8 : decode cX12_tries 8 = .ok (.invokevirtual 224, 3) := by decide +kernel
theorem dX12_tries_11 : decode cX12_tries 11 = .ok (.return_, 1) := by decide +kernel
theorem dX12_isDone_0 : decode cX12_isDone 0 = .ok (.iload_n 1, 1) := by decide +kernel
theorem dX12_isDone_1 : decode cX12_isDone 1 = .ok (.iconst (-1), 1) := by decide +kernel
theorem dX12_isDone_2 : decode cX12_isDone 2 = .ok (.if_icmp .ne 9, 3) := by decide +kernel
theorem dX12_isDone_5 : decode cX12_isDone 5 = .ok (.aload_n 0, 1) := by decide +kernel
theorem dX12_isDone_6 : decode cX12_isDone 6 = .ok (.iconst 1, 1) := by decide +kernel
theorem dX12_isDone_7 : decode cX12_isDone 7 = .ok (.invokevirtual 345, 3) := by decide +kernel
theorem dX12_isDone_10 : decode cX12_isDone 10 = .ok (.ireturn, 1) := by decide +kernel
theorem dX12_isDone_11 : decode cX12_isDone 11 = .ok (.aload_n 0, 1) := by decide +kernel
theorem dX12_isDone_12 : decode cX12_isDone 12 = .ok (.getfield 336, 3) := by decide +kernel
theorem dX12_isDone_15 : decode cX12_isDone 15 = .ok (.bipush 40, 2) := by decide +kernel
theorem dX12_isDone_17 : decode cX12_isDone 17 = .ok (.if_icmp .ne 26, 3) := by decide +kernel
theorem dX12_isDone_20 : decode cX12_isDone 20 = .ok (.aload_n 0, 1) := by decide +kernel
theorem dX12_isDone_21 : decode cX12_isDone 21 = .ok (.aload_n 0, 1) := by decide +kernel
theorem dX12_isDone_22 : decode cX12_isDone 22 = .ok (.getfield 333, 3) := by decide +kernel
theorem dX12_isDone_25 : decode cX12_isDone 25 = .ok (.iconst 1, 1) := by decide +kernel
theorem dX12_isDone_26 : decode cX12_isDone 26 = .ok (.iadd, 1) := by decide +kernel
theorem dX12_isDone_27 : decode cX12_isDone 27 = .ok (.bipush 40, 2) := by decide +kernel
theorem dX12_isDone_29 : decode cX12_isDone 29 = .ok (.irem, 1) := by decide +kernel
theorem dX12_isDone_30 : decode cX12_isDone 30 = .ok (.putfield 333, 3) := by decide +kernel
theorem dX12_isDone_33 : decode cX12_isDone 33 = .ok (.aload_n 0, 1) := by decide +kernel
theorem dX12_isDone_34 : decode cX12_isDone 34 = .ok (.dup, 1) := by decide +kernel
theorem dX12_isDone_35 : decode cX12_isDone 35 = .ok (.getfield 336, 3) := by decide +kernel
theorem dX12_isDone_38 : decode cX12_isDone 38 = .ok (.iconst 1, 1) := by decide +kernel
theorem dX12_isDone_39 : decode cX12_isDone 39 = .ok (.isub, 1) := by decide +kernel
theorem dX12_isDone_40 : decode cX12_isDone 40 = .ok (.putfield 336, 3) := by decide +kernel
theorem dX12_isDone_43 : decode cX12_isDone 43 = .ok (.aload_n 0, 1) := by decide +kernel
theorem dX12_isDone_44 : decode cX12_isDone 44 = .ok (.iconst 0, 1) := by decide +kernel
theorem dX12_isDone_45 : decode cX12_isDone 45 = .ok (.aload_n 0, 1) := by decide +kernel
theorem dX12_isDone_46 : decode cX12_isDone 46 = .ok (.getfield 333, 3) := by decide +kernel
theorem dX12_isDone_49 : decode cX12_isDone 49 = .ok (.aload_n 0, 1) := by decide +kernel
theorem dX12_isDone_50 : decode cX12_isDone 50 = .ok (.getfield 336, 3) := by decide +kernel
theorem dX12_isDone_53 : decode cX12_isDone 53 = .ok (.invokestatic 348, 3) := by decide +kernel
theorem dX12_isDone_56 : decode cX12_isDone 56 = .ok (.sipush 786, 3) := by decide +kernel
theorem dX12_isDone_59 : decode cX12_isDone 59 = .ok (.invokevirtual 224, 3) := by decide +kernel
theorem dX12_isDone_62 : decode cX12_isDone 62 = .ok (.aload_n 0, 1) := by decide +kernel
theorem dX12_isDone_63 : decode cX12_isDone 63 = .ok (.dup, 1) := by decide +kernel
theorem dX12_isDone_64 : decode cX12_isDone 64 = .ok (.getfield 336, 3) := by decide +kernel
theorem dX12_isDone_67 : decode cX12_isDone 67 = .ok (.iconst 1, 1) := by decide +kernel
theorem dX12_isDone_68 : decode cX12_isDone 68 = .ok (.iadd, 1) := by decide +kernel
theorem dX12_isDone_69 : decode cX12_isDone 69 = .ok (.putfield 336, 3) := by decide +kernel
theorem dX12_isDone_72 : decode cX12_isDone 72 = .ok (.aload_n 0, 1) := by decide +kernel
theorem dX12_isDone_73 : decode cX12_isDone 73 = .ok (.sipush 786, 3) := by decide +kernel
theorem dX12_isDone_76 : decode cX12_isDone 76 = .ok (.iconst 0, 1) := by decide +kernel
theorem dX12_isDone_77 : decode cX12_isDone 77 = .ok (.sipush 786, 3) := by decide +kernel
theorem dX12_isDone_80 : decode cX12_isDone 80 = .ok (.invokevirtual 224, 3) := by decide +kernel
theorem dX12_isDone_83 : decode cX12_isDone 83 = .ok (.iload_n 1, 1) := by decide +kernel
theorem dX12_isDone_84 : decode cX12_isDone 84 = .ok (.ireturn, 1) := by decide +kernel
theorem dX12_goes_0 : decode cX12_goes 0 = .ok (.iconst 0, 1) := by decide +kernel
theorem dX12_goes_1 : decode cX12_goes 1 = .ok (.istore_n 3, 1) := by decide +kernel
theorem dX12_goes_2 : decode cX12_goes 2 = .ok (.iload_n 3, 1) := by decide +kernel
theorem dX12_goes_3 : decode cX12_goes 3 = .ok (.iload_n 2, 1) := by decide +kernel
theorem dX12_goes_4 : decode cX12_goes 4 = .ok (.if_icmp .ge 17, 3) := by decide +kernel
theorem dX12_goes_7 : decode cX12_goes 7 = .ok (.aload_n 0, 1) := by decide +kernel
theorem dX12_goes_8 : decode cX12_goes 8 = .ok (.iload_n 1, 1) := by decide +kernel
theorem dX12_goes_9 : decode cX12_goes 9 = .ok (.invokevirtual 230, 3) := by decide +kernel
theorem dX12_goes_12 : decode cX12_goes 12 = .ok (.ifCond .eq 9, 3) := by decide +kernel
theorem dX12_goes_15 : decode cX12_goes 15 = .ok (.iinc 3 1, 3) := by decide +kernel
theorem dX12_goes_18 : decode cX12_goes 18 = .ok (.goto (-16), 3) := by decide +kernel
theorem dX12_goes_21 : decode cX12_goes 21 = .ok (.iload_n 3, 1) := by decide +kernel
theorem dX12_goes_22 : decode cX12_goes 22 = .ok (.ireturn, 1) := by decide +kernel
theorem dX12_steps_0 : decode cX12_steps 0 = .ok (.aload_n 0, 1) := by decide +kernel
theorem dX12_steps_1 : decode cX12_steps 1 = .ok (.iconst 0, 1) := by decide +kernel
theorem dX12_steps_2 : decode cX12_steps 2 = .ok (.putfield 63, 3) := by decide +kernel
theorem dX12_steps_5 : decode cX12_steps 5 = .ok (.iload_n 1, 1) := by decide +kernel
theorem dX12_steps_6 : decode cX12_steps 6 = .ok (.iconst 1, 1) := by decide +kernel
theorem dX12_steps_7 : decode cX12_steps 7 = .ok (.bipush 50, 2) := by decide +kernel
theorem dX12_steps_9 : decode cX12_steps 9 = .ok (.invokestatic 172, 3) := by decide +kernel
theorem dX12_steps_12 : decode cX12_steps 12 = .ok (.ifCond .ne 9, 3) := by decide +kernel
theorem dX12_steps_15 : decode cX12_steps 15 = .ok (.aload_n 0, 1) := by decide +kernel
theorem dX12_steps_16 : decode cX12_steps 16 = .ok (.iconst 1, 1) := by decide +kernel
theorem dX12_steps_17 : decode cX12_steps 17 = .ok (.invokevirtual 345, 3) := by decide +kernel
theorem dX12_steps_20 : decode cX12_steps 20 = .ok (.ireturn, 1) := by decide +kernel
theorem dX12_steps_21 : decode cX12_steps 21 = .ok (.aload_n 0, 1) := by decide +kernel
theorem dX12_steps_22 : decode cX12_steps 22 = .ok (.invokevirtual 218, 3) := by decide +kernel
theorem dX12_steps_25 : decode cX12_steps 25 = .ok (.aload_n 0, 1) := by decide +kernel
theorem dX12_steps_26 : decode cX12_steps 26 = .ok (.sipush 786, 3) := by decide +kernel
theorem dX12_steps_29 : decode cX12_steps 29 = .ok (.iload_n 1, 1) := by decide +kernel
theorem dX12_steps_30 : decode cX12_steps 30 = .ok (.invokevirtual 351, 3) := by decide +kernel
theorem dX12_steps_33 : decode cX12_steps 33 = .ok (.istore_n 2, 1) := by decide +kernel
theorem dX12_steps_34 : decode cX12_steps 34 = .ok (.aload_n 0, 1) := by decide +kernel
theorem dX12_steps_35 : decode cX12_steps 35 = .ok (.iload_n 2, 1) := by decide +kernel
theorem dX12_steps_36 : decode cX12_steps 36 = .ok (.ifCond .ne 7, 3) := by decide +kernel
theorem dX12_steps_39 : decode cX12_steps 39 = .ok (.iconst (-1), 1) := by decide +kernel
theorem dX12_steps_40 : decode cX12_steps 40 = .ok (.goto 4, 3) := by decide +kernel
theorem dX12_steps_43 : decode cX12_steps 43 = .ok (.iload_n 2, 1) := by decide +kernel
theorem dX12_steps_44 : decode cX12_steps 44 = .ok (.invokevirtual 354, 3) := by decide +kernel
theorem dX12_steps_47 : decode cX12_steps 47 = .ok (.ireturn, 1) := by decide +kernel
theorem dX12_evict_0 : decode cX12_evict 0 = .ok (.aload_n 0, 1) := by decide +kernel
theorem dX12_evict_1 : decode cX12_evict 1 = .ok (.iconst 0, 1) := by decide +kernel
theorem dX12_evict_2 : decode cX12_evict 2 = .ok (.putfield 63, 3) := by decide +kernel
theorem dX12_evict_5 : decode cX12_evict 5 = .ok (.aload_n 0, 1) := by decide +kernel
theorem dX12_evict_6 : decode cX12_evict 6 = .ok (.iload_n 1, 1) := by decide +kernel
theorem dX12_evict_7 : decode cX12_evict 7 = .ok (.iconst 0, 1) := by decide +kernel
theorem dX12_evict_8 : decode cX12_evict 8 = .ok (.bipush 15, 2) := by decide +kernel
theorem dX12_evict_10 : decode cX12_evict 10 = .ok (.invokestatic 172, 3) := by decide +kernel
theorem dX12_evict_13 : decode cX12_evict 13 = .ok (.iconst 1, 1) := by decide +kernel
theorem dX12_evict_14 : decode cX12_evict 14 = .ok (.invokevirtual 321, 3) := by decide +kernel
theorem dX12_evict_17 : decode cX12_evict 17 = .ok (.ifCond .ne 5, 3) := by decide +kernel
theorem dX12_evict_20 : decode cX12_evict 20 = .ok (.iconst 0, 1) := by decide +kernel
theorem dX12_evict_21 : decode cX12_evict 21 = .ok (.ireturn, 1) := by decide +kernel
theorem dX12_evict_22 : decode cX12_evict 22 = .ok (.iload_n 2, 1) := by decide +kernel
theorem dX12_evict_23 : decode cX12_evict 23 = .ok (.iconst 1, 1) := by decide +kernel
theorem dX12_evict_24 : decode cX12_evict 24 = .ok (.aload_n 0, 1) := by decide +kernel
theorem dX12_evict_25 : decode cX12_evict 25 = .ok (.getfield 10, 3) := by decide +kernel
theorem dX12_evict_28 : decode cX12_evict 28 = .ok (.bipush 64, 2) := by decide +kernel
theorem dX12_evict_30 : decode cX12_evict 30 = .ok (.iload_n 1, 1) := by decide +kernel
theorem dX12_evict_31 : decode cX12_evict 31 = .ok (.iadd, 1) := by decide +kernel
theorem dX12_evict_32 : decode cX12_evict 32 = .ok (.iaload, 1) := by decide +kernel
theorem dX12_evict_33 : decode cX12_evict 33 = .ok (.invokestatic 172, 3) := by decide +kernel
theorem dX12_evict_36 : decode cX12_evict 36 = .ok (.ifCond .ne 9, 3) := by decide +kernel
theorem dX12_evict_39 : decode cX12_evict 39 = .ok (.aload_n 0, 1) := by decide +kernel
theorem dX12_evict_40 : decode cX12_evict 40 = .ok (.iconst 1, 1) := by decide +kernel
theorem dX12_evict_41 : decode cX12_evict 41 = .ok (.invokevirtual 345, 3) := by decide +kernel
theorem dX12_evict_44 : decode cX12_evict 44 = .ok (.ireturn, 1) := by decide +kernel
theorem dX12_evict_45 : decode cX12_evict 45 = .ok (.aload_n 0, 1) := by decide +kernel
theorem dX12_evict_46 : decode cX12_evict 46 = .ok (.invokevirtual 218, 3) := by decide +kernel
theorem dX12_evict_49 : decode cX12_evict 49 = .ok (.aload_n 0, 1) := by decide +kernel
theorem dX12_evict_50 : decode cX12_evict 50 = .ok (.sipush 786, 3) := by decide +kernel
theorem dX12_evict_53 : decode cX12_evict 53 = .ok (.iload_n 1, 1) := by decide +kernel
theorem dX12_evict_54 : decode cX12_evict 54 = .ok (.iload_n 2, 1) := by decide +kernel
theorem dX12_evict_55 : decode cX12_evict 55 = .ok (.invokevirtual 66, 3) := by decide +kernel
theorem dX12_evict_58 : decode cX12_evict 58 = .ok (.aload_n 0, 1) := by decide +kernel
theorem dX12_evict_59 : decode cX12_evict 59 = .ok (.aload_n 0, 1) := by decide +kernel
theorem dX12_evict_60 : decode cX12_evict 60 = .ok (.getfield 10, 3) := by decide +kernel
theorem dX12_evict_63 : decode cX12_evict 63 = .ok (.sipush 850, 3) := by decide +kernel
theorem dX12_evict_66 : decode cX12_evict 66 = .ok (.iload_n 1, 1) := by decide +kernel
theorem dX12_evict_67 : decode cX12_evict 67 = .ok (.iadd, 1) := by decide +kernel
theorem dX12_evict_68 : decode cX12_evict 68 = .ok (.iaload, 1) := by decide +kernel
theorem dX12_evict_69 : decode cX12_evict 69 = .ok (.invokevirtual 354, 3) := by decide +kernel
theorem dX12_evict_72 : decode cX12_evict 72 = .ok (.ireturn, 1) := by decide +kernel
theorem dX12_crashes_0 : decode cX12_crashes 0 = .ok (.aload_n 0, 1) := by decide +kernel
theorem dX12_crashes_1 : decode cX12_crashes 1 = .ok (.iload_n 1, 1) := by decide +kernel
theorem dX12_crashes_2 : decode cX12_crashes 2 = .ok (.invokevirtual 197, 3) := by decide +kernel
theorem dX12_crashes_5 : decode cX12_crashes 5 = .ok (.aload_n 0, 1) := by decide +kernel
theorem dX12_crashes_6 : decode cX12_crashes 6 = .ok (.iload_n 1, 1) := by decide +kernel
theorem dX12_crashes_7 : decode cX12_crashes 7 = .ok (.invokevirtual 203, 3) := by decide +kernel
theorem dX12_crashes_10 : decode cX12_crashes 10 = .ok (.istore_n 2, 1) := by decide +kernel
theorem dX12_crashes_11 : decode cX12_crashes 11 = .ok (.aload_n 0, 1) := by decide +kernel
theorem dX12_crashes_12 : decode cX12_crashes 12 = .ok (.iload_n 1, 1) := by decide +kernel
theorem dX12_crashes_13 : decode cX12_crashes 13 = .ok (.invokevirtual 185, 3) := by decide +kernel
theorem dX12_crashes_16 : decode cX12_crashes 16 = .ok (.iconst 0, 1) := by decide +kernel
theorem dX12_crashes_17 : decode cX12_crashes 17 = .ok (.istore_n 3, 1) := by decide +kernel
theorem dX12_crashes_18 : decode cX12_crashes 18 = .ok (.iload_n 3, 1) := by decide +kernel
theorem dX12_crashes_19 : decode cX12_crashes 19 = .ok (.bipush 64, 2) := by decide +kernel
theorem dX12_crashes_21 : decode cX12_crashes 21 = .ok (.if_icmp .ge 23, 3) := by decide +kernel
theorem dX12_crashes_24 : decode cX12_crashes 24 = .ok (.aload_n 0, 1) := by decide +kernel
theorem dX12_crashes_25 : decode cX12_crashes 25 = .ok (.getfield 10, 3) := by decide +kernel
theorem dX12_crashes_28 : decode cX12_crashes 28 = .ok (.iload_n 1, 1) := by decide +kernel
theorem dX12_crashes_29 : decode cX12_crashes 29 = .ok (.iload_n 3, 1) := by decide +kernel
theorem dX12_crashes_30 : decode cX12_crashes 30 = .ok (.iadd, 1) := by decide +kernel
theorem dX12_crashes_31 : decode cX12_crashes 31 = .ok (.aload_n 0, 1) := by decide +kernel
theorem dX12_crashes_32 : decode cX12_crashes 32 = .ok (.getfield 45, 3) := by decide +kernel
theorem dX12_crashes_35 : decode cX12_crashes 35 = .ok (.iload_n 3, 1) := by decide +kernel
theorem dX12_crashes_36 : decode cX12_crashes 36 = .ok (.iaload, 1) := by decide +kernel
theorem dX12_crashes_37 : decode cX12_crashes 37 = .ok (.iastore, 1) := by decide +kernel
theorem dX12_crashes_38 : decode cX12_crashes 38 = .ok (.iinc 3 1, 3) := by decide +kernel
theorem dX12_crashes_41 : decode cX12_crashes 41 = .ok (.goto (-23), 3) := by decide +kernel
theorem dX12_crashes_44 : decode cX12_crashes 44 = .ok (.iconst 0, 1) := by decide +kernel
theorem dX12_crashes_45 : decode cX12_crashes 45 = .ok (.istore_n 3, 1) := by decide +kernel
theorem dX12_crashes_46 : decode cX12_crashes 46 = .ok (.iload_n 3, 1) := by decide +kernel
theorem dX12_crashes_47 : decode cX12_crashes 47 = .ok (.bipush 16, 2) := by decide +kernel
theorem dX12_crashes_49 : decode cX12_crashes 49 = .ok (.if_icmp .ge 33, 3) := by decide +kernel
theorem dX12_crashes_52 : decode cX12_crashes 52 = .ok (.aload_n 0, 1) := by decide +kernel
theorem dX12_crashes_53 : decode cX12_crashes 53 = .ok (.getfield 10, 3) := by decide +kernel
theorem dX12_crashes_56 : decode cX12_crashes 56 = .ok (.iload_n 1, 1) := by decide +kernel
theorem dX12_crashes_57 : decode cX12_crashes 57 = .ok (.bipush 64, 2) := by decide +kernel
theorem dX12_crashes_59 : decode cX12_crashes 59 = .ok (.iadd, 1) := by decide +kernel
theorem dX12_crashes_60 : decode cX12_crashes 60 = .ok (.iload_n 3, 1) := by decide +kernel
theorem dX12_crashes_61 : decode cX12_crashes 61 = .ok (.iadd, 1) := by decide +kernel
theorem dX12_crashes_62 : decode cX12_crashes 62 = .ok (.iconst 0, 1) := by decide +kernel
theorem dX12_crashes_63 : decode cX12_crashes 63 = .ok (.iastore, 1) := by decide +kernel
theorem dX12_crashes_64 : decode cX12_crashes 64 = .ok (.aload_n 0, 1) := by decide +kernel
theorem dX12_crashes_65 : decode cX12_crashes 65 = .ok (.getfield 10, 3) := by decide +kernel
theorem dX12_crashes_68 : decode cX12_crashes 68 = .ok (.iload_n 1, 1) := by decide +kernel
theorem dX12_crashes_69 : decode cX12_crashes 69 = .ok (.bipush 80, 2) := by decide +kernel
theorem dX12_crashes_71 : decode cX12_crashes 71 = .ok (.iadd, 1) := by decide +kernel
theorem dX12_crashes_72 : decode cX12_crashes 72 = .ok (.iload_n 3, 1) := by decide +kernel
theorem dX12_crashes_73 : decode cX12_crashes 73 = .ok (.iadd, 1) := by decide +kernel
theorem dX12_crashes_74 : decode cX12_crashes 74 = .ok (.iconst 0, 1) := by decide +kernel
theorem dX12_crashes_75 : decode cX12_crashes 75 = .ok (.iastore, 1) := by decide +kernel
theorem dX12_crashes_76 : decode cX12_crashes 76 = .ok (.iinc 3 1, 3) := by decide +kernel
theorem dX12_crashes_79 : decode cX12_crashes 79 = .ok (.goto (-33), 3) := by decide +kernel
theorem dX12_crashes_82 : decode cX12_crashes 82 = .ok (.aload_n 0, 1) := by decide +kernel
theorem dX12_crashes_83 : decode cX12_crashes 83 = .ok (.getfield 10, 3) := by decide +kernel
theorem dX12_crashes_86 : decode cX12_crashes 86 = .ok (.iload_n 1, 1) := by decide +kernel
theorem dX12_crashes_87 : decode cX12_crashes 87 = .ok (.sipush 776, 3) := by decide +kernel
theorem dX12_crashes_90 : decode cX12_crashes 90 = .ok (.iadd, 1) := by decide +kernel
theorem dX12_crashes_91 : decode cX12_crashes 91 = .ok (.iconst 0, 1) := by decide +kernel
theorem dX12_crashes_92 : decode cX12_crashes 92 = .ok (.iastore, 1) := by decide +kernel
theorem dX12_crashes_93 : decode cX12_crashes 93 = .ok (.aload_n 0, 1) := by decide +kernel
theorem dX12_crashes_94 : decode cX12_crashes 94 = .ok (.getfield 10, 3) := by decide +kernel
theorem dX12_crashes_97 : decode cX12_crashes 97 = .ok (.iload_n 1, 1) := by decide +kernel
theorem dX12_crashes_98 : decode cX12_crashes 98 = .ok (.sipush 774, 3) := by decide +kernel
theorem dX12_crashes_101 : decode cX12_crashes 101 = .ok (.iadd, 1) := by decide +kernel
theorem dX12_crashes_102 : decode cX12_crashes 102 = .ok (.iconst 0, 1) := by decide +kernel
theorem dX12_crashes_103 : decode cX12_crashes 103 = .ok (.iastore, 1) := by decide +kernel
theorem dX12_crashes_104 : decode cX12_crashes 104 = .ok (.aload_n 0, 1) := by decide +kernel
theorem dX12_crashes_105 : decode cX12_crashes 105 = .ok (.getfield 10, 3) := by decide +kernel
theorem dX12_crashes_108 : decode cX12_crashes 108 = .ok (.iload_n 1, 1) := by decide +kernel
theorem dX12_crashes_109 : decode cX12_crashes 109 = .ok (.sipush 775, 3) := by decide +kernel
theorem dX12_crashes_112 : decode cX12_crashes 112 = .ok (.iadd, 1) := by decide +kernel
theorem dX12_crashes_113 : decode cX12_crashes 113 = .ok (.iconst 0, 1) := by decide +kernel
theorem dX12_crashes_114 : decode cX12_crashes 114 = .ok (.iastore, 1) := by decide +kernel
theorem dX12_crashes_115 : decode cX12_crashes 115 = .ok (.aload_n 0, 1) := by decide +kernel
theorem dX12_crashes_116 : decode cX12_crashes 116 = .ok (.getfield 10, 3) := by decide +kernel
theorem dX12_crashes_119 : decode cX12_crashes 119 = .ok (.iload_n 1, 1) := by decide +kernel
theorem dX12_crashes_120 : decode cX12_crashes 120 = .ok (.sipush 772, 3) := by decide +kernel
theorem dX12_crashes_123 : decode cX12_crashes 123 = .ok (.iadd, 1) := by decide +kernel
theorem dX12_crashes_124 : decode cX12_crashes 124 = .ok (.iconst 1, 1) := by decide +kernel
theorem dX12_crashes_125 : decode cX12_crashes 125 = .ok (.iastore, 1) := by decide +kernel
theorem dX12_crashes_126 : decode cX12_crashes 126 = .ok (.aload_n 0, 1) := by decide +kernel
theorem dX12_crashes_127 : decode cX12_crashes 127 = .ok (.getfield 10, 3) := by decide +kernel
theorem dX12_crashes_130 : decode cX12_crashes 130 = .ok (.iload_n 1, 1) := by decide +kernel
theorem dX12_crashes_131 : decode cX12_crashes 131 = .ok (.sipush 780, 3) := by decide +kernel
theorem dX12_crashes_134 : decode cX12_crashes 134 = .ok (.iadd, 1) := by decide +kernel
theorem dX12_crashes_135 : decode cX12_crashes 135 = .ok (.dup2, 1) := by decide +kernel
theorem dX12_crashes_136 : decode cX12_crashes 136 = .ok (.iaload, 1) := by decide +kernel
theorem dX12_crashes_137 : decode cX12_crashes 137 = .ok (.iconst 1, 1) := by decide +kernel
theorem dX12_crashes_138 : decode cX12_crashes 138 = .ok (.iadd, 1) := by decide +kernel
theorem dX12_crashes_139 : decode cX12_crashes 139 = .ok (.iastore, 1) := by decide +kernel
theorem dX12_crashes_140 : decode cX12_crashes 140 = .ok (.iload_n 2, 1) := by decide +kernel
theorem dX12_crashes_141 : decode cX12_crashes 141 = .ok (.ireturn, 1) := by decide +kernel
theorem dX12_isOrder_0 : decode cX12_isOrder 0 = .ok (.iload_n 1, 1) := by decide +kernel
theorem dX12_isOrder_1 : decode cX12_isOrder 1 = .ok (.ifCond .lt 18, 3) := by decide +kernel
theorem dX12_isOrder_4 : decode cX12_isOrder 4 = .ok (.iload_n 1, 1) := by decide +kernel
theorem dX12_isOrder_5 : decode cX12_isOrder 5 = .ok (.i2l, 1) := by decide +kernel
theorem dX12_isOrder_6 : decode cX12_isOrder 6 = .ok (.aload_n 0, 1) := by decide +kernel
theorem dX12_isOrder_7 : decode cX12_isOrder 7 = .ok (.iconst 0, 1) := by decide +kernel
theorem dX12_isOrder_8 : decode cX12_isOrder 8 = .ok (.invokevirtual 188, 3) := by decide +kernel
theorem dX12_isOrder_11 : decode cX12_isOrder 11 = .ok (.lcmp, 1) := by decide +kernel
theorem dX12_isOrder_12 : decode cX12_isOrder 12 = .ok (.ifCond .ge 7, 3) := by decide +kernel
theorem dX12_isOrder_15 : decode cX12_isOrder 15 = .ok (.iconst 1, 1) := by decide +kernel
theorem dX12_isOrder_16 : decode cX12_isOrder 16 = .ok (.goto 4, 3) := by decide +kernel
theorem dX12_isOrder_19 : decode cX12_isOrder 19 = .ok (.iconst 0, 1) := by decide +kernel
theorem dX12_isOrder_20 : decode cX12_isOrder 20 = .ok (.ireturn, 1) := by decide +kernel
theorem dX12_crash_0 : decode cX12_crash 0 = .ok (.aload_n 0, 1) := by decide +kernel
theorem dX12_crash_1 : decode cX12_crash 1 = .ok (.iconst 0, 1) := by decide +kernel
theorem dX12_crash_2 : decode cX12_crash 2 = .ok (.putfield 63, 3) := by decide +kernel
theorem dX12_crash_5 : decode cX12_crash 5 = .ok (.aload_n 0, 1) := by decide +kernel
theorem dX12_crash_6 : decode cX12_crash 6 = .ok (.getfield 10, 3) := by decide +kernel
theorem dX12_crash_9 : decode cX12_crash 9 = .ok (.sipush 772, 3) := by decide +kernel
theorem dX12_crash_12 : decode cX12_crash 12 = .ok (.iaload, 1) := by decide +kernel
theorem dX12_crash_13 : decode cX12_crash 13 = .ok (.iconst 1, 1) := by decide +kernel
theorem dX12_crash_14 : decode cX12_crash 14 = .ok (.if_icmp .eq 11, 3) := by decide +kernel
theorem dX12_crash_17 : decode cX12_crash 17 = .ok (.aload_n 0, 1) := by decide +kernel
theorem dX12_crash_18 : decode cX12_crash 18 = .ok (.iload_n 1, 1) := by decide +kernel
theorem dX12_crash_19 : decode cX12_crash 19 = .ok (.invokevirtual 357, 3) := by decide +kernel
theorem dX12_crash_22 : decode cX12_crash 22 = .ok (.ifCond .ne 9, 3) := by decide +kernel
theorem dX12_crash_25 : decode cX12_crash 25 = .ok (.aload_n 0, 1) := by decide +kernel
theorem dX12_crash_26 : decode cX12_crash 26 = .ok (.iconst 1, 1) := by decide +kernel
theorem dX12_crash_27 : decode cX12_crash 27 = .ok (.invokevirtual 345, 3) := by decide +kernel
theorem dX12_crash_30 : decode cX12_crash 30 = .ok (.ireturn, 1) := by decide +kernel
theorem dX12_crash_31 : decode cX12_crash 31 = .ok (.aload_n 0, 1) := by decide +kernel
theorem dX12_crash_32 : decode cX12_crash 32 = .ok (.invokevirtual 218, 3) := by decide +kernel
theorem dX12_crash_35 : decode cX12_crash 35 = .ok (.aload_n 0, 1) := by decide +kernel
theorem dX12_crash_36 : decode cX12_crash 36 = .ok (.sipush 786, 3) := by decide +kernel
theorem dX12_crash_39 : decode cX12_crash 39 = .ok (.iload_n 1, 1) := by decide +kernel
theorem dX12_crash_40 : decode cX12_crash 40 = .ok (.invokevirtual 360, 3) := by decide +kernel
theorem dX12_crash_43 : decode cX12_crash 43 = .ok (.aload_n 0, 1) := by decide +kernel
theorem dX12_crash_44 : decode cX12_crash 44 = .ok (.aload_n 0, 1) := by decide +kernel
theorem dX12_crash_45 : decode cX12_crash 45 = .ok (.sipush 786, 3) := by decide +kernel
theorem dX12_crash_48 : decode cX12_crash 48 = .ok (.invokevirtual 363, 3) := by decide +kernel
theorem dX12_crash_51 : decode cX12_crash 51 = .ok (.invokevirtual 354, 3) := by decide +kernel
theorem dX12_crash_54 : decode cX12_crash 54 = .ok (.ireturn, 1) := by decide +kernel
theorem dX12_recover_0 : decode cX12_recover 0 = .ok (.aload_n 0, 1) := by decide +kernel
theorem dX12_recover_1 : decode cX12_recover 1 = .ok (.iconst 0, 1) := by decide +kernel
theorem dX12_recover_2 : decode cX12_recover 2 = .ok (.putfield 63, 3) := by decide +kernel
theorem dX12_recover_5 : decode cX12_recover 5 = .ok (.aload_n 0, 1) := by decide +kernel
theorem dX12_recover_6 : decode cX12_recover 6 = .ok (.getfield 10, 3) := by decide +kernel
theorem dX12_recover_9 : decode cX12_recover 9 = .ok (.sipush 772, 3) := by decide +kernel
theorem dX12_recover_12 : decode cX12_recover 12 = .ok (.iaload, 1) := by decide +kernel
theorem dX12_recover_13 : decode cX12_recover 13 = .ok (.iconst 1, 1) := by decide +kernel
theorem dX12_recover_14 : decode cX12_recover 14 = .ok (.if_icmp .eq 9, 3) := by decide +kernel
theorem dX12_recover_17 : decode cX12_recover 17 = .ok (.aload_n 0, 1) := by decide +kernel
theorem dX12_recover_18 : decode cX12_recover 18 = .ok (.iconst 1, 1) := by decide +kernel
theorem dX12_recover_19 : decode cX12_recover 19 = .ok (.invokevirtual 345, 3) := by decide +kernel
theorem dX12_recover_22 : decode cX12_recover 22 = .ok (.ireturn, 1) := by decide +kernel
theorem dX12_recover_23 : decode cX12_recover 23 = .ok (.aload_n 0, 1) := by decide +kernel
theorem dX12_recover_24 : decode cX12_recover 24 = .ok (.invokevirtual 218, 3) := by decide +kernel
theorem dX12_recover_27 : decode cX12_recover 27 = .ok (.aload_n 0, 1) := by decide +kernel
theorem dX12_recover_28 : decode cX12_recover 28 = .ok (.sipush 786, 3) := by decide +kernel
theorem dX12_recover_31 : decode cX12_recover 31 = .ok (.invokevirtual 221, 3) := by decide +kernel
theorem dX12_recover_34 : decode cX12_recover 34 = .ok (.aload_n 0, 1) := by decide +kernel
theorem dX12_recover_35 : decode cX12_recover 35 = .ok (.aload_n 0, 1) := by decide +kernel
theorem dX12_recover_36 : decode cX12_recover 36 = .ok (.getfield 10, 3) := by decide +kernel
theorem dX12_recover_39 : decode cX12_recover 39 = .ok (.sipush 1560, 3) := by decide +kernel
theorem dX12_recover_42 : decode cX12_recover 42 = .ok (.iaload, 1) := by decide +kernel
theorem dX12_recover_43 : decode cX12_recover 43 = .ok (.invokevirtual 354, 3) := by decide +kernel
theorem dX12_recover_46 : decode cX12_recover 46 = .ok (.ireturn, 1) := by decide +kernel
theorem dX12_waits_0 : decode cX12_waits 0 = .ok (.iload_n 1, 1) := by decide +kernel
theorem dX12_waits_1 : decode cX12_waits 1 = .ok (.sipush 616, 3) := by decide +kernel
theorem dX12_waits_4 : decode cX12_waits 4 = .ok (.iadd, 1) := by decide +kernel
theorem dX12_waits_5 : decode cX12_waits 5 = .ok (.bipush 13, 2) := by decide +kernel
theorem dX12_waits_7 : decode cX12_waits 7 = .ok (.aload_n 0, 1) := by decide +kernel
theorem dX12_waits_8 : decode cX12_waits 8 = .ok (.getfield 10, 3) := by decide +kernel
theorem dX12_waits_11 : decode cX12_waits 11 = .ok (.iload_n 1, 1) := by decide +kernel
theorem dX12_waits_12 : decode cX12_waits 12 = .ok (.sipush 777, 3) := by decide +kernel
theorem dX12_waits_15 : decode cX12_waits 15 = .ok (.iadd, 1) := by decide +kernel
theorem dX12_waits_16 : decode cX12_waits 16 = .ok (.iaload, 1) := by decide +kernel
theorem dX12_waits_17 : decode cX12_waits 17 = .ok (.imul, 1) := by decide +kernel
theorem dX12_waits_18 : decode cX12_waits 18 = .ok (.iadd, 1) := by decide +kernel
theorem dX12_waits_19 : decode cX12_waits 19 = .ok (.istore 5, 2) := by decide +kernel
theorem dX12_waits_21 : decode cX12_waits 21 = .ok (.iconst 0, 1) := by decide +kernel
theorem dX12_waits_22 : decode cX12_waits 22 = .ok (.istore 6, 2) := by decide +kernel
theorem dX12_waits_24 : decode cX12_waits 24 = .ok (.iload 6, 2) := by decide +kernel
theorem dX12_waits_26 : decode cX12_waits 26 = .ok (.bipush 13, 2) := by decide +kernel
theorem dX12_waits_28 : decode cX12_waits 28 = .ok (.if_icmp .ge 20, 3) := by decide +kernel
theorem dX12_waits_31 : decode cX12_waits 31 = .ok (.aload_n 0, 1) := by decide +kernel
theorem dX12_waits_32 : decode cX12_waits 32 = .ok (.getfield 10, 3) := by decide +kernel
theorem dX12_waits_35 : decode cX12_waits 35 = .ok (.iload 5, 2) := by decide +kernel
theorem dX12_waits_37 : decode cX12_waits 37 = .ok (.iload 6, 2) := by decide +kernel
theorem dX12_waits_39 : decode cX12_waits 39 = .ok (.iadd, 1) := by decide +kernel
theorem dX12_waits_40 : decode cX12_waits 40 = .ok (.iconst 0, 1) := by decide +kernel
theorem dX12_waits_41 : decode cX12_waits 41 = .ok (.iastore, 1) := by decide +kernel
theorem dX12_waits_42 : decode cX12_waits 42 = .ok (.iinc 6 1, 3) := by decide +kernel
theorem dX12_waits_45 : decode cX12_waits 45 = .ok (.goto (-21), 3) := by decide +kernel
theorem dX12_waits_48 : decode cX12_waits 48 = .ok (.aload_n 0, 1) := by decide +kernel
theorem dX12_waits_49 : decode cX12_waits 49 = .ok (.getfield 10, 3) := by decide +kernel
theorem dX12_waits_52 : decode cX12_waits 52 = .ok (.iload 5, 2) := by decide +kernel
theorem dX12_waits_54 : decode cX12_waits 54 = .ok (.iconst 1, 1) := by decide +kernel
theorem dX12_waits_55 : decode cX12_waits 55 = .ok (.iastore, 1) := by decide +kernel
theorem dX12_waits_56 : decode cX12_waits 56 = .ok (.aload_n 0, 1) := by decide +kernel
theorem dX12_waits_57 : decode cX12_waits 57 = .ok (.getfield 10, 3) := by decide +kernel
theorem dX12_waits_60 : decode cX12_waits 60 = .ok (.iload 5, 2) := by decide +kernel
theorem dX12_waits_62 : decode cX12_waits 62 = .ok (.iconst 1, 1) := by decide +kernel
theorem dX12_waits_63 : decode cX12_waits 63 = .ok (.iadd, 1) := by decide +kernel
theorem dX12_waits_64 : decode cX12_waits 64 = .ok (.iload_n 2, 1) := by decide +kernel
theorem dX12_waits_65 : decode cX12_waits 65 = .ok (.iastore, 1) := by decide +kernel
theorem dX12_waits_66 : decode cX12_waits 66 = .ok (.aload_n 0, 1) := by decide +kernel
theorem dX12_waits_67 : decode cX12_waits 67 = .ok (.getfield 10, 3) := by decide +kernel
theorem dX12_waits_70 : decode cX12_waits 70 = .ok (.iload 5, 2) := by decide +kernel
theorem dX12_waits_72 : decode cX12_waits 72 = .ok (.iconst 2, 1) := by decide +kernel
theorem dX12_waits_73 : decode cX12_waits 73 = .ok (.iadd, 1) := by decide +kernel
theorem dX12_waits_74 : decode cX12_waits 74 = .ok (.iload_n 3, 1) := by decide +kernel
theorem dX12_waits_75 : decode cX12_waits 75 = .ok (.iastore, 1) := by decide +kernel
theorem dX12_waits_76 : decode cX12_waits 76 = .ok (.aload_n 0, 1) := by decide +kernel
theorem dX12_waits_77 : decode cX12_waits 77 = .ok (.getfield 10, 3) := by decide +kernel
theorem dX12_waits_80 : decode cX12_waits 80 = .ok (.iload 5, 2) := by decide +kernel
theorem dX12_waits_82 : decode cX12_waits 82 = .ok (.iconst 3, 1) := by decide +kernel
theorem dX12_waits_83 : decode cX12_waits 83 = .ok (.iadd, 1) := by decide +kernel
theorem dX12_waits_84 : decode cX12_waits 84 = .ok (.iload 4, 2) := by decide +kernel
theorem dX12_waits_86 : decode cX12_waits 86 = .ok (.iastore, 1) := by decide +kernel
theorem dX12_waits_87 : decode cX12_waits 87 = .ok (.aload_n 0, 1) := by decide +kernel
theorem dX12_waits_88 : decode cX12_waits 88 = .ok (.getfield 10, 3) := by decide +kernel
theorem dX12_waits_91 : decode cX12_waits 91 = .ok (.iload_n 1, 1) := by decide +kernel
theorem dX12_waits_92 : decode cX12_waits 92 = .ok (.sipush 777, 3) := by decide +kernel
theorem dX12_waits_95 : decode cX12_waits 95 = .ok (.iadd, 1) := by decide +kernel
theorem dX12_waits_96 : decode cX12_waits 96 = .ok (.dup2, 1) := by decide +kernel
theorem dX12_waits_97 : decode cX12_waits 97 = .ok (.iaload, 1) := by decide +kernel
theorem dX12_waits_98 : decode cX12_waits 98 = .ok (.iconst 1, 1) := by decide +kernel
theorem dX12_waits_99 : decode cX12_waits 99 = .ok (.iadd, 1) := by decide +kernel
theorem dX12_waits_100 : decode cX12_waits 100 = .ok (.iastore, 1) := by decide +kernel
theorem dX12_waits_101 : decode cX12_waits 101 = .ok (.return_, 1) := by decide +kernel
theorem dX12_isTold_0 : decode cX12_isTold 0 = .ok (.iload_n 0, 1) := by decide +kernel
theorem dX12_isTold_1 : decode cX12_isTold 1 = .ok (.iconst 4, 1) := by decide +kernel
theorem dX12_isTold_2 : decode cX12_isTold 2 = .ok (.if_icmp .ne 5, 3) := by decide +kernel
theorem dX12_isTold_5 : decode cX12_isTold 5 = .ok (.iconst 1, 1) := by decide +kernel
theorem dX12_isTold_6 : decode cX12_isTold 6 = .ok (.ireturn, 1) := by decide +kernel
theorem dX12_isTold_7 : decode cX12_isTold 7 = .ok (.iload_n 0, 1) := by decide +kernel
theorem dX12_isTold_8 : decode cX12_isTold 8 = .ok (.iconst 3, 1) := by decide +kernel
theorem dX12_isTold_9 : decode cX12_isTold 9 = .ok (.if_icmp .ne 30, 3) := by decide +kernel
theorem dX12_isTold_12 : decode cX12_isTold 12 = .ok (.iload_n 1, 1) := by decide +kernel
theorem dX12_isTold_13 : decode cX12_isTold 13 = .ok (.bipush 20, 2) := by decide +kernel
theorem dX12_isTold_15 : decode cX12_isTold 15 = .ok (.bipush 63, 2) := by decide +kernel
theorem dX12_isTold_17 : decode cX12_isTold 17 = .ok (.invokestatic 172, 3) := by decide +kernel
theorem dX12_isTold_20 : decode cX12_isTold 20 = .ok (.ifCond .eq 17, 3) := by decide +kernel
theorem dX12_isTold_23 : decode cX12_isTold 23 = .ok (.iload_n 2, 1) := by decide +kernel
theorem dX12_isTold_24 : decode cX12_isTold 24 = .ok (.iconst 0, 1) := by decide +kernel
theorem dX12_isTold_25 : decode cX12_isTold 25 = .ok (.bipush 99, 2) := by decide +kernel
theorem dX12_isTold_27 : decode cX12_isTold 27 = .ok (.invokestatic 172, 3) := by decide +kernel
theorem dX12_isTold_30 : decode cX12_isTold 30 = .ok (.ifCond .eq 7, 3) := by decide +kernel
theorem dX12_isTold_33 : decode cX12_isTold 33 = .ok (.iconst 1, 1) := by decide +kernel
theorem dX12_isTold_34 : decode cX12_isTold 34 = .ok (.goto 4, 3) := by decide +kernel
theorem dX12_isTold_37 : decode cX12_isTold 37 = .ok (.iconst 0, 1) := by decide +kernel
theorem dX12_isTold_38 : decode cX12_isTold 38 = .ok (.ireturn, 1) := by decide +kernel
theorem dX12_isTold_39 : decode cX12_isTold 39 = .ok (.iload_n 1, 1) := by decide +kernel
theorem dX12_isTold_40 : decode cX12_isTold 40 = .ok (.iconst 0, 1) := by decide +kernel
theorem dX12_isTold_41 : decode cX12_isTold 41 = .ok (.iconst 3, 1) := by decide +kernel
theorem dX12_isTold_42 : decode cX12_isTold 42 = .ok (.invokestatic 172, 3) := by decide +kernel
theorem dX12_isTold_45 : decode cX12_isTold 45 = .ok (.ifCond .ne 5, 3) := by decide +kernel
theorem dX12_isTold_48 : decode cX12_isTold 48 = .ok (.iconst 0, 1) := by decide +kernel
theorem dX12_isTold_49 : decode cX12_isTold 49 = .ok (.ireturn, 1) := by decide +kernel
theorem dX12_isTold_50 : decode cX12_isTold 50 = .ok (.iload_n 0, 1) := by decide +kernel
theorem dX12_isTold_51 : decode cX12_isTold 51 = .ok (.iconst 1, 1) := by decide +kernel
theorem dX12_isTold_52 : decode cX12_isTold 52 = .ok (.if_icmp .eq 34, 3) := by decide +kernel
theorem dX12_isTold_55 : decode cX12_isTold 55 = .ok (.iload_n 0, 1) := by decide +kernel
theorem dX12_isTold_56 : decode cX12_isTold 56 = .ok (.ifCond .ne 16, 3) := by decide +kernel
theorem dX12_isTold_59 : decode cX12_isTold 59 = .ok (.iload_n 2, 1) := by decide +kernel
theorem dX12_isTold_60 : decode cX12_isTold 60 = .ok (.iconst 0, 1) := by decide +kernel
theorem dX12_isTold_61 : decode cX12_isTold 61 = .ok (.bipush 99, 2) := by decide +kernel
theorem dX12_isTold_63 : decode cX12_isTold 63 = .ok (.invokestatic 172, 3) := by decide +kernel
theorem dX12_isTold_66 : decode cX12_isTold 66 = .ok (.ifCond .eq 24, 3) := by decide +kernel
theorem dX12_isTold_69 : decode cX12_isTold 69 = .ok (.goto 17, 3) := by decide +kernel
theorem dX12_isTold_72 : decode cX12_isTold 72 = .ok (.iload_n 2, 1) := by decide +kernel
theorem dX12_isTold_73 : decode cX12_isTold 73 = .ok (.iconst 0, 1) := by decide +kernel
theorem dX12_isTold_74 : decode cX12_isTold 74 = .ok (.iconst 3, 1) := by decide +kernel
theorem dX12_isTold_75 : decode cX12_isTold 75 = .ok (.invokestatic 172, 3) := by decide +kernel
theorem dX12_isTold_78 : decode cX12_isTold 78 = .ok (.ifCond .eq 12, 3) := by decide +kernel
theorem dX12_isTold_81 : decode cX12_isTold 81 = .ok (.iload_n 1, 1) := by decide +kernel
theorem dX12_isTold_82 : decode cX12_isTold 82 = .ok (.iload_n 2, 1) := by decide +kernel
theorem dX12_isTold_83 : decode cX12_isTold 83 = .ok (.if_icmp .eq 7, 3) := by decide +kernel
theorem dX12_isTold_86 : decode cX12_isTold 86 = .ok (.iconst 1, 1) := by decide +kernel
theorem dX12_isTold_87 : decode cX12_isTold 87 = .ok (.goto 4, 3) := by decide +kernel
theorem dX12_isTold_90 : decode cX12_isTold 90 = .ok (.iconst 0, 1) := by decide +kernel
theorem dX12_isTold_91 : decode cX12_isTold 91 = .ok (.ireturn, 1) := by decide +kernel
theorem dX12_later_0 : decode cX12_later 0 = .ok (.aload_n 0, 1) := by decide +kernel
theorem dX12_later_1 : decode cX12_later 1 = .ok (.iconst 0, 1) := by decide +kernel
theorem dX12_later_2 : decode cX12_later 2 = .ok (.putfield 63, 3) := by decide +kernel
theorem dX12_later_5 : decode cX12_later 5 = .ok (.aload_n 0, 1) := by decide +kernel
theorem dX12_later_6 : decode cX12_later 6 = .ok (.iload_n 1, 1) := by decide +kernel
theorem dX12_later_7 : decode cX12_later 7 = .ok (.iconst 0, 1) := by decide +kernel
theorem dX12_later_8 : decode cX12_later 8 = .ok (.iconst 4, 1) := by decide +kernel
theorem dX12_later_9 : decode cX12_later 9 = .ok (.invokestatic 172, 3) := by decide +kernel
theorem dX12_later_12 : decode cX12_later 12 = .ok (.iconst 1, 1) := by decide +kernel
theorem dX12_later_13 : decode cX12_later 13 = .ok (.invokevirtual 321, 3) := by decide +kernel
theorem dX12_later_16 : decode cX12_later 16 = .ok (.ifCond .ne 5, 3) := by decide +kernel
theorem dX12_later_19 : decode cX12_later 19 = .ok (.iconst 0, 1) := by decide +kernel
theorem dX12_later_20 : decode cX12_later 20 = .ok (.ireturn, 1) := by decide +kernel
theorem dX12_later_21 : decode cX12_later 21 = .ok (.aload_n 0, 1) := by decide +kernel
theorem dX12_later_22 : decode cX12_later 22 = .ok (.getfield 10, 3) := by decide +kernel
theorem dX12_later_25 : decode cX12_later 25 = .ok (.sipush 777, 3) := by decide +kernel
theorem dX12_later_28 : decode cX12_later 28 = .ok (.iaload, 1) := by decide +kernel
theorem dX12_later_29 : decode cX12_later 29 = .ok (.bipush 12, 2) := by decide +kernel
theorem dX12_later_31 : decode cX12_later 31 = .ok (.if_icmp .eq 12, 3) := by decide +kernel
theorem dX12_later_34 : decode cX12_later 34 = .ok (.iload_n 1, 1) := by decide +kernel
theorem dX12_later_35 : decode cX12_later 35 = .ok (.iload_n 2, 1) := by decide +kernel
theorem dX12_later_36 : decode cX12_later 36 = .ok (.iload_n 3, 1) := by decide +kernel
theorem dX12_later_37 : decode cX12_later 37 = .ok (.invokestatic 366, 3) := by decide +kernel
theorem dX12_later_40 : decode cX12_later 40 = .ok (.ifCond .ne 9, 3) := by decide +kernel
theorem dX12_later_43 : decode cX12_later 43 = .ok (.aload_n 0, 1) := by decide +kernel
theorem dX12_later_44 : decode cX12_later 44 = .ok (.iconst 1, 1) := by decide +kernel
theorem dX12_later_45 : decode cX12_later 45 = .ok (.invokevirtual 345, 3) := by decide +kernel
theorem dX12_later_48 : decode cX12_later 48 = .ok (.ireturn, 1) := by decide +kernel
theorem dX12_later_49 : decode cX12_later 49 = .ok (.aload_n 0, 1) := by decide +kernel
theorem dX12_later_50 : decode cX12_later 50 = .ok (.invokevirtual 218, 3) := by decide +kernel
theorem dX12_later_53 : decode cX12_later 53 = .ok (.aload_n 0, 1) := by decide +kernel
theorem dX12_later_54 : decode cX12_later 54 = .ok (.sipush 786, 3) := by decide +kernel
theorem dX12_later_57 : decode cX12_later 57 = .ok (.iload_n 1, 1) := by decide +kernel
theorem dX12_later_58 : decode cX12_later 58 = .ok (.iload_n 2, 1) := by decide +kernel
theorem dX12_later_59 : decode cX12_later 59 = .ok (.iload_n 3, 1) := by decide +kernel
theorem dX12_later_60 : decode cX12_later 60 = .ok (.invokevirtual 369, 3) := by decide +kernel
theorem dX12_later_63 : decode cX12_later 63 = .ok (.aload_n 0, 1) := by decide +kernel
theorem dX12_later_64 : decode cX12_later 64 = .ok (.aload_n 0, 1) := by decide +kernel
theorem dX12_later_65 : decode cX12_later 65 = .ok (.getfield 10, 3) := by decide +kernel
theorem dX12_later_68 : decode cX12_later 68 = .ok (.sipush 1563, 3) := by decide +kernel
theorem dX12_later_71 : decode cX12_later 71 = .ok (.iaload, 1) := by decide +kernel
theorem dX12_later_72 : decode cX12_later 72 = .ok (.invokevirtual 354, 3) := by decide +kernel
theorem dX12_later_75 : decode cX12_later 75 = .ok (.ireturn, 1) := by decide +kernel
theorem dX12_site_0 : decode cX12_site 0 = .ok (.aload_n 0, 1) := by decide +kernel
theorem dX12_site_1 : decode cX12_site 1 = .ok (.iconst 0, 1) := by decide +kernel
theorem dX12_site_2 : decode cX12_site 2 = .ok (.putfield 63, 3) := by decide +kernel
theorem dX12_site_5 : decode cX12_site 5 = .ok (.aload_n 0, 1) := by decide +kernel
theorem dX12_site_6 : decode cX12_site 6 = .ok (.iload_n 1, 1) := by decide +kernel
theorem dX12_site_7 : decode cX12_site 7 = .ok (.iconst 0, 1) := by decide +kernel
theorem dX12_site_8 : decode cX12_site 8 = .ok (.bipush 6, 2) := by decide +kernel
theorem dX12_site_10 : decode cX12_site 10 = .ok (.invokestatic 172, 3) := by decide +kernel
theorem dX12_site_13 : decode cX12_site 13 = .ok (.iconst 1, 1) := by decide +kernel
theorem dX12_site_14 : decode cX12_site 14 = .ok (.invokevirtual 321, 3) := by decide +kernel
theorem dX12_site_17 : decode cX12_site 17 = .ok (.ifCond .ne 5, 3) := by decide +kernel
theorem dX12_site_20 : decode cX12_site 20 = .ok (.iconst 0, 1) := by decide +kernel
theorem dX12_site_21 : decode cX12_site 21 = .ok (.ireturn, 1) := by decide +kernel
theorem dX12_site_22 : decode cX12_site 22 = .ok (.aload_n 0, 1) := by decide +kernel
theorem dX12_site_23 : decode cX12_site 23 = .ok (.invokevirtual 218, 3) := by decide +kernel
theorem dX12_site_26 : decode cX12_site 26 = .ok (.aload_n 0, 1) := by decide +kernel
theorem dX12_site_27 : decode cX12_site 27 = .ok (.getfield 10, 3) := by decide +kernel
theorem dX12_site_30 : decode cX12_site 30 = .ok (.sipush 1559, 3) := by decide +kernel
theorem dX12_site_33 : decode cX12_site 33 = .ok (.dup2, 1) := by decide +kernel
theorem dX12_site_34 : decode cX12_site 34 = .ok (.iaload, 1) := by decide +kernel
theorem dX12_site_35 : decode cX12_site 35 = .ok (.iconst 1, 1) := by decide +kernel
theorem dX12_site_36 : decode cX12_site 36 = .ok (.iload_n 1, 1) := by decide +kernel
theorem dX12_site_37 : decode cX12_site 37 = .ok (.ishl, 1) := by decide +kernel
theorem dX12_site_38 : decode cX12_site 38 = .ok (.ixor, 1) := by decide +kernel
theorem dX12_site_39 : decode cX12_site 39 = .ok (.iastore, 1) := by decide +kernel
theorem dX12_site_40 : decode cX12_site 40 = .ok (.aload_n 0, 1) := by decide +kernel
theorem dX12_site_41 : decode cX12_site 41 = .ok (.aload_n 0, 1) := by decide +kernel
theorem dX12_site_42 : decode cX12_site 42 = .ok (.getfield 10, 3) := by decide +kernel
theorem dX12_site_45 : decode cX12_site 45 = .ok (.sipush 1559, 3) := by decide +kernel
theorem dX12_site_48 : decode cX12_site 48 = .ok (.iaload, 1) := by decide +kernel
theorem dX12_site_49 : decode cX12_site 49 = .ok (.invokevirtual 354, 3) := by decide +kernel
theorem dX12_site_52 : decode cX12_site 52 = .ok (.ireturn, 1) := by decide +kernel
theorem dX12_undo_0 : decode cX12_undo 0 = .ok (.aload_n 0, 1) := by decide +kernel
theorem dX12_undo_1 : decode cX12_undo 1 = .ok (.iconst 0, 1) := by decide +kernel
theorem dX12_undo_2 : decode cX12_undo 2 = .ok (.putfield 63, 3) := by decide +kernel
theorem dX12_undo_5 : decode cX12_undo 5 = .ok (.aload_n 0, 1) := by decide +kernel
theorem dX12_undo_6 : decode cX12_undo 6 = .ok (.getfield 336, 3) := by decide +kernel
theorem dX12_undo_9 : decode cX12_undo 9 = .ok (.ifCond .ne 5, 3) := by decide +kernel
theorem dX12_undo_12 : decode cX12_undo 12 = .ok (.iconst (-1), 1) := by decide +kernel
theorem dX12_undo_13 : decode cX12_undo 13 = .ok (.ireturn, 1) := by decide +kernel
theorem dX12_undo_14 : decode cX12_undo 14 = .ok (.aload_n 0, 1) := by decide +kernel
theorem dX12_undo_15 : decode cX12_undo 15 = .ok (.dup, 1) := by decide +kernel
theorem dX12_undo_16 : decode cX12_undo 16 = .ok (.getfield 336, 3) := by decide +kernel
theorem dX12_undo_19 : decode cX12_undo 19 = .ok (.iconst 1, 1) := by decide +kernel
theorem dX12_undo_20 : decode cX12_undo 20 = .ok (.isub, 1) := by decide +kernel
theorem dX12_undo_21 : decode cX12_undo 21 = .ok (.putfield 336, 3) := by decide +kernel
theorem dX12_undo_24 : decode cX12_undo 24 = .ok (.aload_n 0, 1) := by decide +kernel
theorem dX12_undo_25 : decode cX12_undo 25 = .ok (.aload_n 0, 1) := by decide +kernel
theorem dX12_undo_26 : decode cX12_undo 26 = .ok (.getfield 333, 3) := by decide +kernel
theorem dX12_undo_29 : decode cX12_undo 29 = .ok (.aload_n 0, 1) := by decide +kernel
theorem dX12_undo_30 : decode cX12_undo 30 = .ok (.getfield 336, 3) := by decide +kernel
theorem dX12_undo_33 : decode cX12_undo 33 = .ok (.invokestatic 348, 3) := by decide +kernel
theorem dX12_undo_36 : decode cX12_undo 36 = .ok (.iconst 0, 1) := by decide +kernel
theorem dX12_undo_37 : decode cX12_undo 37 = .ok (.sipush 786, 3) := by decide +kernel
theorem dX12_undo_40 : decode cX12_undo 40 = .ok (.invokevirtual 224, 3) := by decide +kernel
theorem dX12_undo_43 : decode cX12_undo 43 = .ok (.aload_n 0, 1) := by decide +kernel
theorem dX12_undo_44 : decode cX12_undo 44 = .ok (.getfield 336, 3) := by decide +kernel
theorem dX12_undo_47 : decode cX12_undo 47 = .ok (.ireturn, 1) := by decide +kernel
theorem dX12_recovered_0 : decode cX12_recovered 0 = .ok (.aload_n 0, 1) := by decide +kernel
theorem dX12_recovered_1 : decode cX12_recovered 1 = .ok (.iconst 0, 1) := by decide +kernel
theorem dX12_recovered_2 : decode cX12_recovered 2 = .ok (.putfield 63, 3) := by decide +kernel
theorem dX12_recovered_5 : decode cX12_recovered 5 = .ok (.aload_n 0, 1) := by decide +kernel
theorem dX12_recovered_6 : decode cX12_recovered 6 = .ok (.iload_n 2, 1) := by decide +kernel
theorem dX12_recovered_7 : decode cX12_recovered 7 = .ok (.invokevirtual 342, 3) := by decide +kernel
theorem dX12_recovered_10 : decode cX12_recovered 10 = .ok (.ifCond .eq 16, 3) := by decide +kernel
theorem dX12_recovered_13 : decode cX12_recovered 13 = .ok (.aload_n 0, 1) := by decide +kernel
theorem dX12_recovered_14 : decode cX12_recovered 14 = .ok (.aload_n 0, 1) := by decide +kernel
theorem dX12_recovered_15 : decode cX12_recovered 15 = .ok (.iload_n 1, 1) := by decide +kernel
theorem dX12_recovered_16 : decode cX12_recovered 16 = .ok (.invokevirtual 357, 3) := by decide +kernel
theorem dX12_recovered_19 : decode cX12_recovered 19 = .ok (.iconst 2, 1) := by decide +kernel
theorem dX12_recovered_20 : decode cX12_recovered 20 = .ok (.invokevirtual 321, 3) := by decide +kernel
theorem dX12_recovered_23 : decode cX12_recovered 23 = .ok (.ifCond .ne 5, 3) := by decide +kernel
theorem dX12_recovered_26 : decode cX12_recovered 26 = .ok (.iconst 0, 1) := by decide +kernel
theorem dX12_recovered_27 : decode cX12_recovered 27 = .ok (.ireturn, 1) := by decide +kernel
theorem dX12_recovered_28 : decode cX12_recovered 28 = .ok (.aload_n 0, 1) := by decide +kernel
theorem dX12_recovered_29 : decode cX12_recovered 29 = .ok (.iconst 0, 1) := by decide +kernel
theorem dX12_recovered_30 : decode cX12_recovered 30 = .ok (.iload_n 1, 1) := by decide +kernel
theorem dX12_recovered_31 : decode cX12_recovered 31 = .ok (.invokevirtual 360, 3) := by decide +kernel
theorem dX12_recovered_34 : decode cX12_recovered 34 = .ok (.aload_n 0, 1) := by decide +kernel
theorem dX12_recovered_35 : decode cX12_recovered 35 = .ok (.iconst 0, 1) := by decide +kernel
theorem dX12_recovered_36 : decode cX12_recovered 36 = .ok (.invokevirtual 185, 3) := by decide +kernel
theorem dX12_recovered_39 : decode cX12_recovered 39 = .ok (.aload_n 0, 1) := by decide +kernel
theorem dX12_recovered_40 : decode cX12_recovered 40 = .ok (.aload_n 0, 1) := by decide +kernel
theorem dX12_recovered_41 : decode cX12_recovered 41 = .ok (.getfield 45, 3) := by decide +kernel
theorem dX12_recovered_44 : decode cX12_recovered 44 = .ok (.invokevirtual 178, 3) := by decide +kernel
theorem dX12_recovered_47 : decode cX12_recovered 47 = .ok (.aload_n 0, 1) := by decide +kernel
theorem dX12_recovered_48 : decode cX12_recovered 48 = .ok (.getfield 45, 3) := by decide +kernel
theorem dX12_recovered_51 : decode cX12_recovered 51 = .ok (.iload_n 2, 1) := by decide +kernel
theorem dX12_recovered_52 : decode cX12_recovered 52 = .ok (.iaload, 1) := by decide +kernel
theorem dX12_recovered_53 : decode cX12_recovered 53 = .ok (.ireturn, 1) := by decide +kernel
theorem dX12_fate_0 : decode cX12_fate 0 = .ok (.aload_n 0, 1) := by decide +kernel
theorem dX12_fate_1 : decode cX12_fate 1 = .ok (.iconst 0, 1) := by decide +kernel
theorem dX12_fate_2 : decode cX12_fate 2 = .ok (.putfield 63, 3) := by decide +kernel
theorem dX12_fate_5 : decode cX12_fate 5 = .ok (.aload_n 0, 1) := by decide +kernel
theorem dX12_fate_6 : decode cX12_fate 6 = .ok (.aload_n 0, 1) := by decide +kernel
theorem dX12_fate_7 : decode cX12_fate 7 = .ok (.iload_n 1, 1) := by decide +kernel
theorem dX12_fate_8 : decode cX12_fate 8 = .ok (.invokevirtual 357, 3) := by decide +kernel
theorem dX12_fate_11 : decode cX12_fate 11 = .ok (.iconst 1, 1) := by decide +kernel
theorem dX12_fate_12 : decode cX12_fate 12 = .ok (.invokevirtual 321, 3) := by decide +kernel
theorem dX12_fate_15 : decode cX12_fate 15 = .ok (.ifCond .ne 5, 3) := by decide +kernel
theorem dX12_fate_18 : decode cX12_fate 18 = .ok (.iconst 0, 1) := by decide +kernel
theorem dX12_fate_19 : decode cX12_fate 19 = .ok (.ireturn, 1) := by decide +kernel
theorem dX12_fate_20 : decode cX12_fate 20 = .ok (.aload_n 0, 1) := by decide +kernel
theorem dX12_fate_21 : decode cX12_fate 21 = .ok (.iconst 0, 1) := by decide +kernel
theorem dX12_fate_22 : decode cX12_fate 22 = .ok (.iload_n 1, 1) := by decide +kernel
theorem dX12_fate_23 : decode cX12_fate 23 = .ok (.invokevirtual 360, 3) := by decide +kernel
theorem dX12_fate_26 : decode cX12_fate 26 = .ok (.aload_n 0, 1) := by decide +kernel
theorem dX12_fate_27 : decode cX12_fate 27 = .ok (.iconst 0, 1) := by decide +kernel
theorem dX12_fate_28 : decode cX12_fate 28 = .ok (.invokevirtual 197, 3) := by decide +kernel
theorem dX12_fate_31 : decode cX12_fate 31 = .ok (.aload_n 0, 1) := by decide +kernel
theorem dX12_fate_32 : decode cX12_fate 32 = .ok (.iconst 0, 1) := by decide +kernel
theorem dX12_fate_33 : decode cX12_fate 33 = .ok (.invokevirtual 203, 3) := by decide +kernel
theorem dX12_fate_36 : decode cX12_fate 36 = .ok (.ireturn, 1) := by decide +kernel
theorem dX12_check_0 : decode cX12_check 0 = .ok (.aload_n 0, 1) := by decide +kernel
theorem dX12_check_1 : decode cX12_check 1 = .ok (.iconst 0, 1) := by decide +kernel
theorem dX12_check_2 : decode cX12_check 2 = .ok (.putfield 63, 3) := by decide +kernel
theorem dX12_check_5 : decode cX12_check 5 = .ok (.aload_n 0, 1) := by decide +kernel
theorem dX12_check_6 : decode cX12_check 6 = .ok (.iload_n 1, 1) := by decide +kernel
theorem dX12_check_7 : decode cX12_check 7 = .ok (.iconst 0, 1) := by decide +kernel
theorem dX12_check_8 : decode cX12_check 8 = .ok (.iconst 2, 1) := by decide +kernel
theorem dX12_check_9 : decode cX12_check 9 = .ok (.invokestatic 172, 3) := by decide +kernel
theorem dX12_check_12 : decode cX12_check 12 = .ok (.iconst 1, 1) := by decide +kernel
theorem dX12_check_13 : decode cX12_check 13 = .ok (.invokevirtual 321, 3) := by decide +kernel
theorem dX12_check_16 : decode cX12_check 16 = .ok (.ifCond .ne 5, 3) := by decide +kernel
theorem dX12_check_19 : decode cX12_check 19 = .ok (.iconst 0, 1) := by decide +kernel
theorem dX12_check_20 : decode cX12_check 20 = .ok (.ireturn, 1) := by decide +kernel
theorem dX12_check_21 : decode cX12_check 21 = .ok (.aload_n 0, 1) := by decide +kernel
theorem dX12_check_22 : decode cX12_check 22 = .ok (.aload_n 0, 1) := by decide +kernel
theorem dX12_check_23 : decode cX12_check 23 = .ok (.getfield 10, 3) := by decide +kernel
theorem dX12_check_26 : decode cX12_check 26 = .ok (.sipush 773, 3) := by decide +kernel
theorem dX12_check_29 : decode cX12_check 29 = .ok (.iaload, 1) := by decide +kernel
theorem dX12_check_30 : decode cX12_check 30 = .ok (.invokevirtual 233, 3) := by decide +kernel
theorem dX12_check_33 : decode cX12_check 33 = .ok (.aload_n 0, 1) := by decide +kernel
theorem dX12_check_34 : decode cX12_check 34 = .ok (.getfield 194, 3) := by decide +kernel
theorem dX12_check_37 : decode cX12_check 37 = .ok (.ifCond .eq 18, 3) := by decide +kernel
theorem dX12_check_40 : decode cX12_check 40 = .ok (.iload_n 1, 1) := by decide +kernel
theorem dX12_check_41 : decode cX12_check 41 = .ok (.ifCond .eq 11, 3) := by decide +kernel
theorem dX12_check_44 : decode cX12_check 44 = .ok (.aload_n 0, 1) := by decide +kernel
theorem dX12_check_45 : decode cX12_check 45 = .ok (.getfield 209, 3) := by decide +kernel
theorem dX12_check_48 : decode cX12_check 48 = .ok (.iconst (-1), 1) := by decide +kernel
theorem dX12_check_49 : decode cX12_check 49 = .ok (.if_icmp .ne 6, 3) := by decide +kernel
theorem dX12_check_52 : decode cX12_check 52 = .ok (.bipush (-2), 2) := by decide +kernel
theorem dX12_check_54 : decode cX12_check 54 = .ok (.ireturn, 1) := by decide +kernel
theorem dX12_check_55 : decode cX12_check 55 = .ok (.iload_n 1, 1) := by decide +kernel
theorem dX12_check_56 : decode cX12_check 56 = .ok (.ifCond .ne 10, 3) := by decide +kernel
theorem dX12_check_59 : decode cX12_check 59 = .ok (.aload_n 0, 1) := by decide +kernel
theorem dX12_check_60 : decode cX12_check 60 = .ok (.getfield 206, 3) := by decide +kernel
theorem dX12_check_63 : decode cX12_check 63 = .ok (.goto 19, 3) := by decide +kernel
theorem dX12_check_66 : decode cX12_check 66 = .ok (.iload_n 1, 1) := by decide +kernel
theorem dX12_check_67 : decode cX12_check 67 = .ok (.iconst 1, 1) := by decide +kernel
theorem dX12_check_68 : decode cX12_check 68 = .ok (.if_icmp .ne 10, 3) := by decide +kernel
theorem dX12_check_71 : decode cX12_check 71 = .ok (.aload_n 0, 1) := by decide +kernel
theorem dX12_check_72 : decode cX12_check 72 = .ok (.getfield 209, 3) := by decide +kernel
theorem dX12_check_75 : decode cX12_check 75 = .ok (.goto 7, 3) := by decide +kernel
theorem dX12_check_78 : decode cX12_check 78 = .ok (.aload_n 0, 1) := by decide +kernel
theorem dX12_check_79 : decode cX12_check 79 = .ok (.getfield 212, 3) := by decide +kernel
theorem dX12_check_82 : decode cX12_check 82 = .ok (.ireturn, 1) := by decide +kernel
theorem dX12_isReady_0 : decode cX12_isReady 0 = .ok (.aload_n 0, 1) := by decide +kernel
theorem dX12_isReady_1 : decode cX12_isReady 1 = .ok (.getfield 10, 3) := by decide +kernel
theorem dX12_isReady_4 : decode cX12_isReady 4 = .ok (.sipush 772, 3) := by decide +kernel
theorem dX12_isReady_7 : decode cX12_isReady 7 = .ok (.iaload, 1) := by decide +kernel
theorem dX12_isReady_8 : decode cX12_isReady 8 = .ok (.ifCond .ne 14, 3) := by decide +kernel
theorem dX12_isReady_11 : decode cX12_isReady 11 = .ok (.aload_n 0, 1) := by decide +kernel
theorem dX12_isReady_12 : decode cX12_isReady 12 = .ok (.getfield 10, 3) := by decide +kernel
theorem dX12_isReady_15 : decode cX12_isReady 15 = .ok (.sipush 776, 3) := by decide +kernel
theorem dX12_isReady_18 : decode cX12_isReady 18 = .ok (.iaload, 1) := by decide +kernel
theorem dX12_isReady_19 : decode cX12_isReady 19 = .ok (.ifCond .eq 5, 3) := by decide +kernel
theorem dX12_isReady_22 : decode cX12_isReady 22 = .ok (.iconst 0, 1) := by decide +kernel
theorem dX12_isReady_23 : decode cX12_isReady 23 = .ok (.ireturn, 1) := by decide +kernel
theorem dX12_isReady_24 : decode cX12_isReady 24 = .ok (.aload_n 0, 1) := by decide +kernel
theorem dX12_isReady_25 : decode cX12_isReady 25 = .ok (.iconst 0, 1) := by decide +kernel
theorem dX12_isReady_26 : decode cX12_isReady 26 = .ok (.sipush 1572, 3) := by decide +kernel
theorem dX12_isReady_29 : decode cX12_isReady 29 = .ok (.sipush 786, 3) := by decide +kernel
theorem dX12_isReady_32 : decode cX12_isReady 32 = .ok (.invokevirtual 224, 3) := by decide +kernel
theorem dX12_isReady_35 : decode cX12_isReady 35 = .ok (.aload_n 0, 1) := by decide +kernel
theorem dX12_isReady_36 : decode cX12_isReady 36 = .ok (.sipush 1572, 3) := by decide +kernel
theorem dX12_isReady_39 : decode cX12_isReady 39 = .ok (.invokevirtual 160, 3) := by decide +kernel
theorem dX12_isReady_42 : decode cX12_isReady 42 = .ok (.ireturn, 1) := by decide +kernel
theorem dX12_needless_0 : decode cX12_needless 0 = .ok (.aload_n 0, 1) := by decide +kernel
theorem dX12_needless_1 : decode cX12_needless 1 = .ok (.iconst 0, 1) := by decide +kernel
theorem dX12_needless_2 : decode cX12_needless 2 = .ok (.putfield 63, 3) := by decide +kernel
theorem dX12_needless_5 : decode cX12_needless 5 = .ok (.aload_n 0, 1) := by decide +kernel
theorem dX12_needless_6 : decode cX12_needless 6 = .ok (.invokevirtual 372, 3) := by decide +kernel
theorem dX12_needless_9 : decode cX12_needless 9 = .ok (.ifCond .ne 5, 3) := by decide +kernel
theorem dX12_needless_12 : decode cX12_needless 12 = .ok (.iconst (-1), 1) := by decide +kernel
theorem dX12_needless_13 : decode cX12_needless 13 = .ok (.ireturn, 1) := by decide +kernel
theorem dX12_needless_14 : decode cX12_needless 14 = .ok (.iconst 0, 1) := by decide +kernel
theorem dX12_needless_15 : decode cX12_needless 15 = .ok (.istore_n 1, 1) := by decide +kernel
theorem dX12_needless_16 : decode cX12_needless 16 = .ok (.iconst 0, 1) := by decide +kernel
theorem dX12_needless_17 : decode cX12_needless 17 = .ok (.istore_n 2, 1) := by decide +kernel
theorem dX12_needless_18 : decode cX12_needless 18 = .ok (.iload_n 2, 1) := by decide +kernel
theorem dX12_needless_19 : decode cX12_needless 19 = .ok (.bipush 7, 2) := by decide +kernel
theorem dX12_needless_21 : decode cX12_needless 21 = .ok (.if_icmp .ge 49, 3) := by decide +kernel
theorem dX12_needless_24 : decode cX12_needless 24 = .ok (.aload_n 0, 1) := by decide +kernel
theorem dX12_needless_25 : decode cX12_needless 25 = .ok (.getfield 10, 3) := by decide +kernel
theorem dX12_needless_28 : decode cX12_needless 28 = .ok (.sipush 773, 3) := by decide +kernel
theorem dX12_needless_31 : decode cX12_needless 31 = .ok (.iaload, 1) := by decide +kernel
theorem dX12_needless_32 : decode cX12_needless 32 = .ok (.iload_n 2, 1) := by decide +kernel
theorem dX12_needless_33 : decode cX12_needless 33 = .ok (.ishr, 1) := by decide +kernel
theorem dX12_needless_34 : decode cX12_needless 34 = .ok (.iconst 1, 1) := by decide +kernel
theorem dX12_needless_35 : decode cX12_needless 35 = .ok (.iand, 1) := by decide +kernel
theorem dX12_needless_36 : decode cX12_needless 36 = .ok (.ifCond .ne 28, 3) := by decide +kernel
theorem dX12_needless_39 : decode cX12_needless 39 = .ok (.aload_n 0, 1) := by decide +kernel
theorem dX12_needless_40 : decode cX12_needless 40 = .ok (.aload_n 0, 1) := by decide +kernel
theorem dX12_needless_41 : decode cX12_needless 41 = .ok (.getfield 10, 3) := by decide +kernel
theorem dX12_needless_44 : decode cX12_needless 44 = .ok (.sipush 773, 3) := by decide +kernel
theorem dX12_needless_47 : decode cX12_needless 47 = .ok (.iaload, 1) := by decide +kernel
theorem dX12_needless_48 : decode cX12_needless 48 = .ok (.iconst 1, 1) := by decide +kernel
theorem dX12_needless_49 : decode cX12_needless 49 = .ok (.iload_n 2, 1) := by decide +kernel
theorem dX12_needless_50 : decode cX12_needless 50 = .ok (.ishl, 1) := by decide +kernel
theorem dX12_needless_51 : decode cX12_needless 51 = .ok (.ior, 1) := by decide +kernel
theorem dX12_needless_52 : decode cX12_needless 52 = .ok (.invokevirtual 376, 3) := by decide +kernel
theorem dX12_needless_55 : decode cX12_needless 55 = .ok (.ifCond .eq 9, 3) := by decide +kernel
theorem dX12_needless_58 : decode cX12_needless 58 = .ok (.iload_n 1, 1) := by decide +kernel
theorem dX12_needless_59 : decode cX12_needless 59 = .ok (.iconst 1, 1) := by decide +kernel
theorem dX12_needless_60 : decode cX12_needless 60 = .ok (.iload_n 2, 1) := by decide +kernel
theorem dX12_needless_61 : decode cX12_needless 61 = .ok (.ishl, 1) := by decide +kernel
theorem dX12_needless_62 : decode cX12_needless 62 = .ok (.ior, 1) := by decide +kernel
theorem dX12_needless_63 : decode cX12_needless 63 = .ok (.istore_n 1, 1) := by decide +kernel
theorem dX12_needless_64 : decode cX12_needless 64 = .ok (.iinc 2 1, 3) := by decide +kernel
theorem dX12_needless_67 : decode cX12_needless 67 = .ok (.goto (-49), 3) := by decide +kernel
theorem dX12_needless_70 : decode cX12_needless 70 = .ok (.iload_n 1, 1) := by decide +kernel
theorem dX12_needless_71 : decode cX12_needless 71 = .ok (.ireturn, 1) := by decide +kernel
theorem dX12_least_0 : decode cX12_least 0 = .ok (.aload_n 0, 1) := by decide +kernel
theorem dX12_least_1 : decode cX12_least 1 = .ok (.iconst 0, 1) := by decide +kernel
theorem dX12_least_2 : decode cX12_least 2 = .ok (.putfield 63, 3) := by decide +kernel
theorem dX12_least_5 : decode cX12_least 5 = .ok (.aload_n 0, 1) := by decide +kernel
theorem dX12_least_6 : decode cX12_least 6 = .ok (.iload_n 1, 1) := by decide +kernel
theorem dX12_least_7 : decode cX12_least 7 = .ok (.iconst 0, 1) := by decide +kernel
theorem dX12_least_8 : decode cX12_least 8 = .ok (.iconst 1, 1) := by decide +kernel
theorem dX12_least_9 : decode cX12_least 9 = .ok (.invokestatic 172, 3) := by decide +kernel
theorem dX12_least_12 : decode cX12_least 12 = .ok (.iconst 1, 1) := by decide +kernel
theorem dX12_least_13 : decode cX12_least 13 = .ok (.invokevirtual 321, 3) := by decide +kernel
theorem dX12_least_16 : decode cX12_least 16 = .ok (.ifCond .ne 5, 3) := by decide +kernel
theorem dX12_least_19 : decode cX12_least 19 = .ok (.iconst 0, 1) := by decide +kernel
theorem dX12_least_20 : decode cX12_least 20 = .ok (.ireturn, 1) := by decide +kernel
theorem dX12_least_21 : decode cX12_least 21 = .ok (.aload_n 0, 1) := by decide +kernel
theorem dX12_least_22 : decode cX12_least 22 = .ok (.invokevirtual 372, 3) := by decide +kernel
theorem dX12_least_25 : decode cX12_least 25 = .ok (.ifCond .ne 5, 3) := by decide +kernel
theorem dX12_least_28 : decode cX12_least 28 = .ok (.iconst (-1), 1) := by decide +kernel
theorem dX12_least_29 : decode cX12_least 29 = .ok (.ireturn, 1) := by decide +kernel
theorem dX12_least_30 : decode cX12_least 30 = .ok (.iconst (-1), 1) := by decide +kernel
theorem dX12_least_31 : decode cX12_least 31 = .ok (.istore_n 2, 1) := by decide +kernel
theorem dX12_least_32 : decode cX12_least 32 = .ok (.iconst 0, 1) := by decide +kernel
theorem dX12_least_33 : decode cX12_least 33 = .ok (.istore_n 3, 1) := by decide +kernel
theorem dX12_least_34 : decode cX12_least 34 = .ok (.iload_n 3, 1) := by decide +kernel
theorem dX12_least_35 : decode cX12_least 35 = .ok (.bipush 16, 2) := by decide +kernel
theorem dX12_least_37 : decode cX12_least 37 = .ok (.if_icmp .ge 55, 3) := by decide +kernel
theorem dX12_least_40 : decode cX12_least 40 = .ok (.iload_n 2, 1) := by decide +kernel
theorem dX12_least_41 : decode cX12_least 41 = .ok (.iconst (-1), 1) := by decide +kernel
theorem dX12_least_42 : decode cX12_least 42 = .ok (.if_icmp .eq 17, 3) := by decide +kernel
theorem dX12_least_45 : decode cX12_least 45 = .ok (.iload_n 3, 1) := by decide +kernel
theorem dX12_least_46 : decode cX12_least 46 = .ok (.invokestatic 379, 3) := by decide +kernel
theorem dX12_least_49 : decode cX12_least 49 = .ok (.iload_n 2, 1) := by decide +kernel
theorem dX12_least_50 : decode cX12_least 50 = .ok (.invokestatic 379, 3) := by decide +kernel
theorem dX12_least_53 : decode cX12_least 53 = .ok (.if_icmp .lt 6, 3) := by decide +kernel
theorem dX12_least_56 : decode cX12_least 56 = .ok (.goto 30, 3) := by decide +kernel
theorem dX12_least_59 : decode cX12_least 59 = .ok (.aload_n 0, 1) := by decide +kernel
theorem dX12_least_60 : decode cX12_least 60 = .ok (.aload_n 0, 1) := by decide +kernel
theorem dX12_least_61 : decode cX12_least 61 = .ok (.getfield 10, 3) := by decide +kernel
theorem dX12_least_64 : decode cX12_least 64 = .ok (.sipush 773, 3) := by decide +kernel
theorem dX12_least_67 : decode cX12_least 67 = .ok (.iaload, 1) := by decide +kernel
theorem dX12_least_68 : decode cX12_least 68 = .ok (.bipush (-16), 2) := by decide +kernel
theorem dX12_least_70 : decode cX12_least 70 = .ok (.iand, 1) := by decide +kernel
theorem dX12_least_71 : decode cX12_least 71 = .ok (.bipush 15, 2) := by decide +kernel
theorem dX12_least_73 : decode cX12_least 73 = .ok (.iload_n 3, 1) := by decide +kernel
theorem dX12_least_74 : decode cX12_least 74 = .ok (.iconst (-1), 1) := by decide +kernel
theorem dX12_least_75 : decode cX12_least 75 = .ok (.ixor, 1) := by decide +kernel
theorem dX12_least_76 : decode cX12_least 76 = .ok (.iand, 1) := by decide +kernel
theorem dX12_least_77 : decode cX12_least 77 = .ok (.ior, 1) := by decide +kernel
theorem dX12_least_78 : decode cX12_least 78 = .ok (.invokevirtual 376, 3) := by decide +kernel
theorem dX12_least_81 : decode cX12_least 81 = .ok (.ifCond .eq 5, 3) := by decide +kernel
theorem dX12_least_84 : decode cX12_least 84 = .ok (.iload_n 3, 1) := by decide +kernel
theorem dX12_least_85 : decode cX12_least 85 = .ok (.istore_n 2, 1) := by decide +kernel
theorem dX12_least_86 : decode cX12_least 86 = .ok (.iinc 3 1, 3) := by decide +kernel
theorem dX12_least_89 : decode cX12_least 89 = .ok (.goto (-55), 3) := by decide +kernel
theorem dX12_least_92 : decode cX12_least 92 = .ok (.iload_n 1, 1) := by decide +kernel
theorem dX12_least_93 : decode cX12_least 93 = .ok (.ifCond .eq 8, 3) := by decide +kernel
theorem dX12_least_96 : decode cX12_least 96 = .ok (.iload_n 2, 1) := by decide +kernel
theorem dX12_least_97 : decode cX12_least 97 = .ok (.iconst (-1), 1) := by decide +kernel
theorem dX12_least_98 : decode cX12_least 98 = .ok (.if_icmp .ne 7, 3) := by decide +kernel
theorem dX12_least_101 : decode cX12_least 101 = .ok (.iload_n 2, 1) := by decide +kernel
theorem dX12_least_102 : decode cX12_least 102 = .ok (.goto 7, 3) := by decide +kernel
theorem dX12_least_105 : decode cX12_least 105 = .ok (.iload_n 2, 1) := by decide +kernel
theorem dX12_least_106 : decode cX12_least 106 = .ok (.invokestatic 379, 3) := by decide +kernel
theorem dX12_least_109 : decode cX12_least 109 = .ok (.ireturn, 1) := by decide +kernel
theorem dX12_divisor_0 : decode cX12_divisor 0 = .ok (.iload_n 0, 1) := by decide +kernel
theorem dX12_divisor_1 : decode cX12_divisor 1 = .ok (.istore_n 2, 1) := by decide +kernel
theorem dX12_divisor_2 : decode cX12_divisor 2 = .ok (.iload_n 1, 1) := by decide +kernel
theorem dX12_divisor_3 : decode cX12_divisor 3 = .ok (.istore_n 3, 1) := by decide +kernel
theorem dX12_divisor_4 : decode cX12_divisor 4 = .ok (.iload_n 3, 1) := by decide +kernel
theorem dX12_divisor_5 : decode cX12_divisor 5 = .ok (.ifCond .eq 16, 3) := by decide +kernel
theorem dX12_divisor_8 : decode cX12_divisor 8 = .ok (.iload_n 2, 1) := by decide +kernel
theorem dX12_divisor_9 : decode cX12_divisor 9 = .ok (.iload_n 3, 1) := by decide +kernel
theorem dX12_divisor_10 : decode cX12_divisor 10 = .ok (.irem, 1) := by decide +kernel
theorem dX12_divisor_11 : decode cX12_divisor 11 = .ok (.istore 4, 2) := by decide +kernel
theorem dX12_divisor_13 : decode cX12_divisor 13 = .ok (.iload_n 3, 1) := by decide +kernel
theorem dX12_divisor_14 : decode cX12_divisor 14 = .ok (.istore_n 2, 1) := by decide +kernel
theorem dX12_divisor_15 : decode cX12_divisor 15 = .ok (.iload 4, 2) := by decide +kernel
theorem dX12_divisor_17 : decode cX12_divisor 17 = .ok (.istore_n 3, 1) := by decide +kernel
theorem dX12_divisor_18 : decode cX12_divisor 18 = .ok (.goto (-14), 3) := by decide +kernel
theorem dX12_divisor_21 : decode cX12_divisor 21 = .ok (.iload_n 2, 1) := by decide +kernel
theorem dX12_divisor_22 : decode cX12_divisor 22 = .ok (.ireturn, 1) := by decide +kernel
theorem dX12_chance_0 : decode cX12_chance 0 = .ok (.aload_n 0, 1) := by decide +kernel
theorem dX12_chance_1 : decode cX12_chance 1 = .ok (.iconst 0, 1) := by decide +kernel
theorem dX12_chance_2 : decode cX12_chance 2 = .ok (.putfield 63, 3) := by decide +kernel
theorem dX12_chance_5 : decode cX12_chance 5 = .ok (.aload_n 0, 1) := by decide +kernel
theorem dX12_chance_6 : decode cX12_chance 6 = .ok (.iload_n 1, 1) := by decide +kernel
theorem dX12_chance_7 : decode cX12_chance 7 = .ok (.iconst 0, 1) := by decide +kernel
theorem dX12_chance_8 : decode cX12_chance 8 = .ok (.iconst 1, 1) := by decide +kernel
theorem dX12_chance_9 : decode cX12_chance 9 = .ok (.invokestatic 172, 3) := by decide +kernel
theorem dX12_chance_12 : decode cX12_chance 12 = .ok (.iconst 1, 1) := by decide +kernel
theorem dX12_chance_13 : decode cX12_chance 13 = .ok (.invokevirtual 321, 3) := by decide +kernel
theorem dX12_chance_16 : decode cX12_chance 16 = .ok (.ifCond .ne 5, 3) := by decide +kernel
theorem dX12_chance_19 : decode cX12_chance 19 = .ok (.iconst 0, 1) := by decide +kernel
theorem dX12_chance_20 : decode cX12_chance 20 = .ok (.ireturn, 1) := by decide +kernel
theorem dX12_chance_21 : decode cX12_chance 21 = .ok (.aload_n 0, 1) := by decide +kernel
theorem dX12_chance_22 : decode cX12_chance 22 = .ok (.iconst 0, 1) := by decide +kernel
theorem dX12_chance_23 : decode cX12_chance 23 = .ok (.invokevirtual 188, 3) := by decide +kernel
theorem dX12_chance_26 : decode cX12_chance 26 = .ok (.lstore_n 2, 1) := by decide +kernel
theorem dX12_chance_27 : decode cX12_chance 27 = .ok (.lload_n 2, 1) := by decide +kernel
theorem dX12_chance_28 : decode cX12_chance 28 = .ok (.ldc2_w 192, 3) := by decide +kernel
theorem dX12_chance_31 : decode cX12_chance 31 = .ok (.lcmp, 1) := by decide +kernel
theorem dX12_chance_32 : decode cX12_chance 32 = .ok (.ifCond .le 5, 3) := by decide +kernel
theorem dX12_chance_35 : decode cX12_chance 35 = .ok (.iconst (-1), 1) := by decide +kernel
theorem dX12_chance_36 : decode cX12_chance 36 = .ok (.ireturn, 1) := by decide +kernel
theorem dX12_chance_37 : decode cX12_chance 37 = .ok (.iconst 0, 1) := by decide +kernel
theorem dX12_chance_38 : decode cX12_chance 38 = .ok (.istore 4, 2) := by decide +kernel
theorem dX12_chance_40 : decode cX12_chance 40 = .ok (.aload_n 0, 1) := by decide +kernel
theorem dX12_chance_41 : decode cX12_chance 41 = .ok (.iconst 0, 1) := by decide +kernel
theorem dX12_chance_42 : decode cX12_chance 42 = .ok (.invokevirtual 197, 3) := by decide +kernel
theorem dX12_chance_45 : decode cX12_chance 45 = .ok (.aload_n 0, 1) := by decide +kernel
theorem dX12_chance_46 : decode cX12_chance 46 = .ok (.invokevirtual 200, 3) := by decide +kernel
theorem dX12_chance_49 : decode cX12_chance 49 = .ok (.iconst 0, 1) := by decide +kernel
theorem dX12_chance_50 : decode cX12_chance 50 = .ok (.istore 5, 2) := by decide +kernel
theorem dX12_chance_52 : decode cX12_chance 52 = .ok (.iload 5, 2) := by decide +kernel
theorem dX12_chance_54 : decode cX12_chance 54 = .ok (.i2l, 1) := by decide +kernel
theorem dX12_chance_55 : decode cX12_chance 55 = .ok (.lload_n 2, 1) := by decide +kernel
theorem dX12_chance_56 : decode cX12_chance 56 = .ok (.lcmp, 1) := by decide +kernel
theorem dX12_chance_57 : decode cX12_chance 57 = .ok (.ifCond .ge 36, 3) := by decide +kernel
theorem dX12_chance_60 : decode cX12_chance 60 = .ok (.aload_n 0, 1) := by decide +kernel
theorem dX12_chance_61 : decode cX12_chance 61 = .ok (.iconst 0, 1) := by decide +kernel
theorem dX12_chance_62 : decode cX12_chance 62 = .ok (.invokevirtual 203, 3) := by decide +kernel
theorem dX12_chance_65 : decode cX12_chance 65 = .ok (.istore 6, 2) := by decide +kernel
theorem dX12_chance_67 : decode cX12_chance 67 = .ok (.iload 6, 2) := by decide +kernel
theorem dX12_chance_69 : decode cX12_chance 69 = .ok (.iconst 1, 1) := by decide +kernel
theorem dX12_chance_70 : decode cX12_chance 70 = .ok (.if_icmp .eq 9, 3) := by decide +kernel
theorem dX12_chance_73 : decode cX12_chance 73 = .ok (.iload 6, 2) := by decide +kernel
theorem dX12_chance_75 : decode cX12_chance 75 = .ok (.iconst 2, 1) := by decide +kernel
theorem dX12_chance_76 : decode cX12_chance 76 = .ok (.if_icmp .ne 6, 3) := by decide +kernel
theorem dX12_chance_79 : decode cX12_chance 79 = .ok (.iinc 4 1, 3) := by decide +kernel
theorem dX12_chance_82 : decode cX12_chance 82 = .ok (.aload_n 0, 1) := by decide +kernel
theorem dX12_chance_83 : decode cX12_chance 83 = .ok (.iconst 0, 1) := by decide +kernel
theorem dX12_chance_84 : decode cX12_chance 84 = .ok (.invokevirtual 215, 3) := by decide +kernel
theorem dX12_chance_87 : decode cX12_chance 87 = .ok (.iinc 5 1, 3) := by decide +kernel
theorem dX12_chance_90 : decode cX12_chance 90 = .ok (.goto (-38), 3) := by decide +kernel
theorem dX12_chance_93 : decode cX12_chance 93 = .ok (.iload_n 1, 1) := by decide +kernel
theorem dX12_chance_94 : decode cX12_chance 94 = .ok (.ifCond .ne 8, 3) := by decide +kernel
theorem dX12_chance_97 : decode cX12_chance 97 = .ok (.iload 4, 2) := by decide +kernel
theorem dX12_chance_99 : decode cX12_chance 99 = .ok (.goto 5, 3) := by decide +kernel
theorem dX12_chance_102 : decode cX12_chance 102 = .ok (.lload_n 2, 1) := by decide +kernel
theorem dX12_chance_103 : decode cX12_chance 103 = .ok (.l2i, 1) := by decide +kernel
theorem dX12_chance_104 : decode cX12_chance 104 = .ok (.iload 4, 2) := by decide +kernel
theorem dX12_chance_106 : decode cX12_chance 106 = .ok (.lload_n 2, 1) := by decide +kernel
theorem dX12_chance_107 : decode cX12_chance 107 = .ok (.l2i, 1) := by decide +kernel
theorem dX12_chance_108 : decode cX12_chance 108 = .ok (.invokestatic 382, 3) := by decide +kernel
theorem dX12_chance_111 : decode cX12_chance 111 = .ok (.idiv, 1) := by decide +kernel
theorem dX12_chance_112 : decode cX12_chance 112 = .ok (.ireturn, 1) := by decide +kernel
theorem dX12_see_0 : decode cX12_see 0 = .ok (.aload_n 0, 1) := by decide +kernel
theorem dX12_see_1 : decode cX12_see 1 = .ok (.iconst 0, 1) := by decide +kernel
theorem dX12_see_2 : decode cX12_see 2 = .ok (.putfield 63, 3) := by decide +kernel
theorem dX12_see_5 : decode cX12_see 5 = .ok (.aload_n 0, 1) := by decide +kernel
theorem dX12_see_6 : decode cX12_see 6 = .ok (.getfield 330, 3) := by decide +kernel
theorem dX12_see_9 : decode cX12_see 9 = .ok (.bipush 8, 2) := by decide +kernel
theorem dX12_see_11 : decode cX12_see 11 = .ok (.if_icmp .eq 24, 3) := by decide +kernel
theorem dX12_see_14 : decode cX12_see 14 = .ok (.iload_n 1, 1) := by decide +kernel
theorem dX12_see_15 : decode cX12_see 15 = .ok (.iconst 0, 1) := by decide +kernel
theorem dX12_see_16 : decode cX12_see 16 = .ok (.bipush 63, 2) := by decide +kernel
theorem dX12_see_18 : decode cX12_see 18 = .ok (.invokestatic 172, 3) := by decide +kernel
theorem dX12_see_21 : decode cX12_see 21 = .ok (.ifCond .eq 14, 3) := by decide +kernel
theorem dX12_see_24 : decode cX12_see 24 = .ok (.iload_n 2, 1) := by decide +kernel
theorem dX12_see_25 : decode cX12_see 25 = .ok (.iconst 0, 1) := by decide +kernel
theorem dX12_see_26 : decode cX12_see 26 = .ok (.sipush 999, 3) := by decide +kernel
theorem dX12_see_29 : decode cX12_see 29 = .ok (.invokestatic 172, 3) := by decide +kernel
theorem dX12_see_32 : decode cX12_see 32 = .ok (.ifCond .ne 9, 3) := by decide +kernel
theorem dX12_see_35 : decode cX12_see 35 = .ok (.aload_n 0, 1) := by decide +kernel
theorem dX12_see_36 : decode cX12_see 36 = .ok (.iconst 2, 1) := by decide +kernel
theorem dX12_see_37 : decode cX12_see 37 = .ok (.invokevirtual 345, 3) := by decide +kernel
theorem dX12_see_40 : decode cX12_see 40 = .ok (.ireturn, 1) := by decide +kernel
theorem dX12_see_41 : decode cX12_see 41 = .ok (.aload_n 0, 1) := by decide +kernel
theorem dX12_see_42 : decode cX12_see 42 = .ok (.getfield 14, 3) := by decide +kernel
theorem dX12_see_45 : decode cX12_see 45 = .ok (.aload_n 0, 1) := by decide +kernel
theorem dX12_see_46 : decode cX12_see 46 = .ok (.getfield 330, 3) := by decide +kernel
theorem dX12_see_49 : decode cX12_see 49 = .ok (.iload_n 1, 1) := by decide +kernel
theorem dX12_see_50 : decode cX12_see 50 = .ok (.iastore, 1) := by decide +kernel
theorem dX12_see_51 : decode cX12_see 51 = .ok (.aload_n 0, 1) := by decide +kernel
theorem dX12_see_52 : decode cX12_see 52 = .ok (.getfield 17, 3) := by decide +kernel
theorem dX12_see_55 : decode cX12_see 55 = .ok (.aload_n 0, 1) := by decide +kernel
theorem dX12_see_56 : decode cX12_see 56 = .ok (.getfield 330, 3) := by decide +kernel
theorem dX12_see_59 : decode cX12_see 59 = .ok (.iload_n 2, 1) := by decide +kernel
theorem dX12_see_60 : decode cX12_see 60 = .ok (.iastore, 1) := by decide +kernel
theorem dX12_see_61 : decode cX12_see 61 = .ok (.aload_n 0, 1) := by decide +kernel
theorem dX12_see_62 : decode cX12_see 62 = .ok (.dup, 1) := by decide +kernel
theorem dX12_see_63 : decode cX12_see 63 = .ok (.getfield 330, 3) := by decide +kernel
theorem dX12_see_66 : decode cX12_see 66 = .ok (.iconst 1, 1) := by decide +kernel
theorem dX12_see_67 : decode cX12_see 67 = .ok (.iadd, 1) := by decide +kernel
theorem dX12_see_68 : decode cX12_see 68 = .ok (.putfield 330, 3) := by decide +kernel
theorem dX12_see_71 : decode cX12_see 71 = .ok (.aload_n 0, 1) := by decide +kernel
theorem dX12_see_72 : decode cX12_see 72 = .ok (.getfield 330, 3) := by decide +kernel
theorem dX12_see_75 : decode cX12_see 75 = .ok (.ireturn, 1) := by decide +kernel
theorem dX12_isSeen_0 : decode cX12_isSeen 0 = .ok (.aload_n 0, 1) := by decide +kernel
theorem dX12_isSeen_1 : decode cX12_isSeen 1 = .ok (.iconst 0, 1) := by decide +kernel
theorem dX12_isSeen_2 : decode cX12_isSeen 2 = .ok (.invokevirtual 185, 3) := by decide +kernel
theorem dX12_isSeen_5 : decode cX12_isSeen 5 = .ok (.iconst 0, 1) := by decide +kernel
theorem dX12_isSeen_6 : decode cX12_isSeen 6 = .ok (.istore_n 1, 1) := by decide +kernel
theorem dX12_isSeen_7 : decode cX12_isSeen 7 = .ok (.iload_n 1, 1) := by decide +kernel
theorem dX12_isSeen_8 : decode cX12_isSeen 8 = .ok (.aload_n 0, 1) := by decide +kernel
theorem dX12_isSeen_9 : decode cX12_isSeen 9 = .ok (.getfield 330, 3) := by decide +kernel
theorem dX12_isSeen_12 : decode cX12_isSeen 12 = .ok (.if_icmp .ge 31, 3) := by decide +kernel
theorem dX12_isSeen_15 : decode cX12_isSeen 15 = .ok (.aload_n 0, 1) := by decide +kernel
theorem dX12_isSeen_16 : decode cX12_isSeen 16 = .ok (.getfield 45, 3) := by decide +kernel
theorem dX12_isSeen_19 : decode cX12_isSeen 19 = .ok (.aload_n 0, 1) := by decide +kernel
theorem dX12_isSeen_20 : decode cX12_isSeen 20 = .ok (.getfield 14, 3) := by decide +kernel
theorem dX12_isSeen_23 : decode cX12_isSeen 23 = .ok (.iload_n 1, 1) := by decide +kernel
theorem dX12_isSeen_24 : decode cX12_isSeen 24 = .ok (.iaload, 1) := by decide +kernel
theorem dX12_isSeen_25 : decode cX12_isSeen 25 = .ok (.iaload, 1) := by decide +kernel
theorem dX12_isSeen_26 : decode cX12_isSeen 26 = .ok (.aload_n 0, 1) := by decide +kernel
theorem dX12_isSeen_27 : decode cX12_isSeen 27 = .ok (.getfield 17, 3) := by decide +kernel
theorem dX12_isSeen_30 : decode cX12_isSeen 30 = .ok (.iload_n 1, 1) := by decide +kernel
theorem dX12_isSeen_31 : decode cX12_isSeen 31 = .ok (.iaload, 1) := by decide +kernel
theorem dX12_isSeen_32 : decode cX12_isSeen 32 = .ok (.if_icmp .eq 5, 3) := by decide +kernel
theorem dX12_isSeen_35 : decode cX12_isSeen 35 = .ok (.iconst 0, 1) := by decide +kernel
theorem dX12_isSeen_36 : decode cX12_isSeen 36 = .ok (.ireturn, 1) := by decide +kernel
theorem dX12_isSeen_37 : decode cX12_isSeen 37 = .ok (.iinc 1 1, 3) := by decide +kernel
theorem dX12_isSeen_40 : decode cX12_isSeen 40 = .ok (.goto (-33), 3) := by decide +kernel
theorem dX12_isSeen_43 : decode cX12_isSeen 43 = .ok (.iconst 1, 1) := by decide +kernel
theorem dX12_isSeen_44 : decode cX12_isSeen 44 = .ok (.ireturn, 1) := by decide +kernel
theorem dX12_fits_0 : decode cX12_fits 0 = .ok (.aload_n 0, 1) := by decide +kernel
theorem dX12_fits_1 : decode cX12_fits 1 = .ok (.iconst 0, 1) := by decide +kernel
theorem dX12_fits_2 : decode cX12_fits 2 = .ok (.invokevirtual 188, 3) := by decide +kernel
theorem dX12_fits_5 : decode cX12_fits 5 = .ok (.lstore_n 2, 1) := by decide +kernel
theorem dX12_fits_6 : decode cX12_fits 6 = .ok (.iconst 0, 1) := by decide +kernel
theorem dX12_fits_7 : decode cX12_fits 7 = .ok (.istore 4, 2) := by decide +kernel
theorem dX12_fits_9 : decode cX12_fits 9 = .ok (.aload_n 0, 1) := by decide +kernel
theorem dX12_fits_10 : decode cX12_fits 10 = .ok (.iconst (-1), 1) := by decide +kernel
theorem dX12_fits_11 : decode cX12_fits 11 = .ok (.putfield 385, 3) := by decide +kernel
theorem dX12_fits_14 : decode cX12_fits 14 = .ok (.aload_n 0, 1) := by decide +kernel
theorem dX12_fits_15 : decode cX12_fits 15 = .ok (.invokevirtual 200, 3) := by decide +kernel
theorem dX12_fits_18 : decode cX12_fits 18 = .ok (.iconst 0, 1) := by decide +kernel
theorem dX12_fits_19 : decode cX12_fits 19 = .ok (.istore 5, 2) := by decide +kernel
theorem dX12_fits_21 : decode cX12_fits 21 = .ok (.iload 5, 2) := by decide +kernel
theorem dX12_fits_23 : decode cX12_fits 23 = .ok (.i2l, 1) := by decide +kernel
theorem dX12_fits_24 : decode cX12_fits 24 = .ok (.lload_n 2, 1) := by decide +kernel
theorem dX12_fits_25 : decode cX12_fits 25 = .ok (.lcmp, 1) := by decide +kernel
theorem dX12_fits_26 : decode cX12_fits 26 = .ok (.ifCond .ge 60, 3) := by decide +kernel
theorem dX12_fits_29 : decode cX12_fits 29 = .ok (.aload_n 0, 1) := by decide +kernel
theorem dX12_fits_30 : decode cX12_fits 30 = .ok (.invokevirtual 388, 3) := by decide +kernel
theorem dX12_fits_33 : decode cX12_fits 33 = .ok (.ifCond .eq 42, 3) := by decide +kernel
theorem dX12_fits_36 : decode cX12_fits 36 = .ok (.aload_n 0, 1) := by decide +kernel
theorem dX12_fits_37 : decode cX12_fits 37 = .ok (.getfield 385, 3) := by decide +kernel
theorem dX12_fits_40 : decode cX12_fits 40 = .ok (.iconst (-1), 1) := by decide +kernel
theorem dX12_fits_41 : decode cX12_fits 41 = .ok (.if_icmp .ne 9, 3) := by decide +kernel
theorem dX12_fits_44 : decode cX12_fits 44 = .ok (.aload_n 0, 1) := by decide +kernel
theorem dX12_fits_45 : decode cX12_fits 45 = .ok (.iload 5, 2) := by decide +kernel
theorem dX12_fits_47 : decode cX12_fits 47 = .ok (.putfield 385, 3) := by decide +kernel
theorem dX12_fits_50 : decode cX12_fits 50 = .ok (.aload_n 0, 1) := by decide +kernel
theorem dX12_fits_51 : decode cX12_fits 51 = .ok (.getfield 57, 3) := by decide +kernel
theorem dX12_fits_54 : decode cX12_fits 54 = .ok (.iload 4, 2) := by decide +kernel
theorem dX12_fits_56 : decode cX12_fits 56 = .ok (.iload_n 1, 1) := by decide +kernel
theorem dX12_fits_57 : decode cX12_fits 57 = .ok (.iconst (-1), 1) := by decide +kernel
theorem dX12_fits_58 : decode cX12_fits 58 = .ok (.if_icmp .ne 7, 3) := by decide +kernel
theorem dX12_fits_61 : decode cX12_fits 61 = .ok (.iconst 0, 1) := by decide +kernel
theorem dX12_fits_62 : decode cX12_fits 62 = .ok (.goto 9, 3) := by decide +kernel
theorem dX12_fits_65 : decode cX12_fits 65 = .ok (.aload_n 0, 1) := by decide +kernel
theorem dX12_fits_66 : decode cX12_fits 66 = .ok (.getfield 45, 3) := by decide +kernel
theorem dX12_fits_69 : decode cX12_fits 69 = .ok (.iload_n 1, 1) := by decide +kernel
theorem dX12_fits_70 : decode cX12_fits 70 = .ok (.iaload, 1) := by decide +kernel
theorem dX12_fits_71 : decode cX12_fits 71 = .ok (.iastore, 1) := by decide +kernel
theorem dX12_fits_72 : decode cX12_fits 72 = .ok (.iinc 4 1, 3) := by decide +kernel
theorem dX12_fits_75 : decode cX12_fits 75 = .ok (.aload_n 0, 1) := by decide +kernel
theorem dX12_fits_76 : decode cX12_fits 76 = .ok (.iconst 0, 1) := by decide +kernel
theorem dX12_fits_77 : decode cX12_fits 77 = .ok (.invokevirtual 215, 3) := by decide +kernel
theorem dX12_fits_80 : decode cX12_fits 80 = .ok (.iinc 5 1, 3) := by decide +kernel
theorem dX12_fits_83 : decode cX12_fits 83 = .ok (.goto (-62), 3) := by decide +kernel
theorem dX12_fits_86 : decode cX12_fits 86 = .ok (.iload 4, 2) := by decide +kernel
theorem dX12_fits_88 : decode cX12_fits 88 = .ok (.ireturn, 1) := by decide +kernel
theorem dX12_explained_0 : decode cX12_explained 0 = .ok (.aload_n 0, 1) := by decide +kernel
theorem dX12_explained_1 : decode cX12_explained 1 = .ok (.iconst 0, 1) := by decide +kernel
theorem dX12_explained_2 : decode cX12_explained 2 = .ok (.putfield 63, 3) := by decide +kernel
theorem dX12_explained_5 : decode cX12_explained 5 = .ok (.aload_n 0, 1) := by decide +kernel
theorem dX12_explained_6 : decode cX12_explained 6 = .ok (.iload_n 1, 1) := by decide +kernel
theorem dX12_explained_7 : decode cX12_explained 7 = .ok (.iconst 0, 1) := by decide +kernel
theorem dX12_explained_8 : decode cX12_explained 8 = .ok (.iconst 1, 1) := by decide +kernel
theorem dX12_explained_9 : decode cX12_explained 9 = .ok (.invokestatic 172, 3) := by decide +kernel
theorem dX12_explained_12 : decode cX12_explained 12 = .ok (.iconst 1, 1) := by decide +kernel
theorem dX12_explained_13 : decode cX12_explained 13 = .ok (.invokevirtual 321, 3) := by decide +kernel
theorem dX12_explained_16 : decode cX12_explained 16 = .ok (.ifCond .ne 5, 3) := by decide +kernel
theorem dX12_explained_19 : decode cX12_explained 19 = .ok (.iconst 0, 1) := by decide +kernel
theorem dX12_explained_20 : decode cX12_explained 20 = .ok (.ireturn, 1) := by decide +kernel
theorem dX12_explained_21 : decode cX12_explained 21 = .ok (.aload_n 0, 1) := by decide +kernel
theorem dX12_explained_22 : decode cX12_explained 22 = .ok (.iconst 0, 1) := by decide +kernel
theorem dX12_explained_23 : decode cX12_explained 23 = .ok (.invokevirtual 188, 3) := by decide +kernel
theorem dX12_explained_26 : decode cX12_explained 26 = .ok (.ldc2_w 192, 3) := by decide +kernel
theorem dX12_explained_29 : decode cX12_explained 29 = .ok (.lcmp, 1) := by decide +kernel
theorem dX12_explained_30 : decode cX12_explained 30 = .ok (.ifCond .le 6, 3) := by decide +kernel
theorem dX12_explained_33 : decode cX12_explained 33 = .ok (.bipush (-2), 2) := by decide +kernel
theorem dX12_explained_35 : decode cX12_explained 35 = .ok (.ireturn, 1) := by decide +kernel
theorem dX12_explained_36 : decode cX12_explained 36 = .ok (.aload_n 0, 1) := by decide +kernel
theorem dX12_explained_37 : decode cX12_explained 37 = .ok (.iconst (-1), 1) := by decide +kernel
theorem dX12_explained_38 : decode cX12_explained 38 = .ok (.invokevirtual 391, 3) := by decide +kernel
theorem dX12_explained_41 : decode cX12_explained 41 = .ok (.istore_n 2, 1) := by decide +kernel
theorem dX12_explained_42 : decode cX12_explained 42 = .ok (.iload_n 1, 1) := by decide +kernel
theorem dX12_explained_43 : decode cX12_explained 43 = .ok (.ifCond .ne 7, 3) := by decide +kernel
theorem dX12_explained_46 : decode cX12_explained 46 = .ok (.iload_n 2, 1) := by decide +kernel
theorem dX12_explained_47 : decode cX12_explained 47 = .ok (.goto 7, 3) := by decide +kernel
theorem dX12_explained_50 : decode cX12_explained 50 = .ok (.aload_n 0, 1) := by decide +kernel
theorem dX12_explained_51 : decode cX12_explained 51 = .ok (.getfield 385, 3) := by decide +kernel
theorem dX12_explained_54 : decode cX12_explained 54 = .ok (.ireturn, 1) := by decide +kernel
theorem dX12_unlike_0 : decode cX12_unlike 0 = .ok (.iconst 0, 1) := by decide +kernel
theorem dX12_unlike_1 : decode cX12_unlike 1 = .ok (.istore_n 2, 1) := by decide +kernel
theorem dX12_unlike_2 : decode cX12_unlike 2 = .ok (.iconst 0, 1) := by decide +kernel
theorem dX12_unlike_3 : decode cX12_unlike 3 = .ok (.istore_n 3, 1) := by decide +kernel
theorem dX12_unlike_4 : decode cX12_unlike 4 = .ok (.iload_n 3, 1) := by decide +kernel
theorem dX12_unlike_5 : decode cX12_unlike 5 = .ok (.iload_n 1, 1) := by decide +kernel
theorem dX12_unlike_6 : decode cX12_unlike 6 = .ok (.if_icmp .ge 63, 3) := by decide +kernel
theorem dX12_unlike_9 : decode cX12_unlike 9 = .ok (.iconst 1, 1) := by decide +kernel
theorem dX12_unlike_10 : decode cX12_unlike 10 = .ok (.istore 4, 2) := by decide +kernel
theorem dX12_unlike_12 : decode cX12_unlike 12 = .ok (.iconst 0, 1) := by decide +kernel
theorem dX12_unlike_13 : decode cX12_unlike 13 = .ok (.istore 5, 2) := by decide +kernel
theorem dX12_unlike_15 : decode cX12_unlike 15 = .ok (.iload 5, 2) := by decide +kernel
theorem dX12_unlike_17 : decode cX12_unlike 17 = .ok (.iload_n 3, 1) := by decide +kernel
theorem dX12_unlike_18 : decode cX12_unlike 18 = .ok (.if_icmp .ge 37, 3) := by decide +kernel
theorem dX12_unlike_21 : decode cX12_unlike 21 = .ok (.iload 4, 2) := by decide +kernel
theorem dX12_unlike_23 : decode cX12_unlike 23 = .ok (.ifCond .eq 32, 3) := by decide +kernel
theorem dX12_unlike_26 : decode cX12_unlike 26 = .ok (.aload_n 0, 1) := by decide +kernel
theorem dX12_unlike_27 : decode cX12_unlike 27 = .ok (.getfield 57, 3) := by decide +kernel
theorem dX12_unlike_30 : decode cX12_unlike 30 = .ok (.iload 5, 2) := by decide +kernel
theorem dX12_unlike_32 : decode cX12_unlike 32 = .ok (.iaload, 1) := by decide +kernel
theorem dX12_unlike_33 : decode cX12_unlike 33 = .ok (.aload_n 0, 1) := by decide +kernel
theorem dX12_unlike_34 : decode cX12_unlike 34 = .ok (.getfield 57, 3) := by decide +kernel
theorem dX12_unlike_37 : decode cX12_unlike 37 = .ok (.iload_n 3, 1) := by decide +kernel
theorem dX12_unlike_38 : decode cX12_unlike 38 = .ok (.iaload, 1) := by decide +kernel
theorem dX12_unlike_39 : decode cX12_unlike 39 = .ok (.if_icmp .eq 7, 3) := by decide +kernel
theorem dX12_unlike_42 : decode cX12_unlike 42 = .ok (.iconst 1, 1) := by decide +kernel
theorem dX12_unlike_43 : decode cX12_unlike 43 = .ok (.goto 4, 3) := by decide +kernel
theorem dX12_unlike_46 : decode cX12_unlike 46 = .ok (.iconst 0, 1) := by decide +kernel
theorem dX12_unlike_47 : decode cX12_unlike 47 = .ok (.istore 4, 2) := by decide +kernel
theorem dX12_unlike_49 : decode cX12_unlike 49 = .ok (.iinc 5 1, 3) := by decide +kernel
theorem dX12_unlike_52 : decode cX12_unlike 52 = .ok (.goto (-37), 3) := by decide +kernel
theorem dX12_unlike_55 : decode cX12_unlike 55 = .ok (.iload 4, 2) := by decide +kernel
theorem dX12_unlike_57 : decode cX12_unlike 57 = .ok (.ifCond .eq 6, 3) := by decide +kernel
theorem dX12_unlike_60 : decode cX12_unlike 60 = .ok (.iinc 2 1, 3) := by decide +kernel
theorem dX12_unlike_63 : decode cX12_unlike 63 = .ok (.iinc 3 1, 3) := by decide +kernel
theorem dX12_unlike_66 : decode cX12_unlike 66 = .ok (.goto (-62), 3) := by decide +kernel
theorem dX12_unlike_69 : decode cX12_unlike 69 = .ok (.iload_n 2, 1) := by decide +kernel
theorem dX12_unlike_70 : decode cX12_unlike 70 = .ok (.ireturn, 1) := by decide +kernel
theorem dX12_isPending_0 : decode cX12_isPending 0 = .ok (.iload_n 1, 1) := by decide +kernel
theorem dX12_isPending_1 : decode cX12_isPending 1 = .ok (.iconst 4, 1) := by decide +kernel
theorem dX12_isPending_2 : decode cX12_isPending 2 = .ok (.idiv, 1) := by decide +kernel
theorem dX12_isPending_3 : decode cX12_isPending 3 = .ok (.istore_n 2, 1) := by decide +kernel
theorem dX12_isPending_4 : decode cX12_isPending 4 = .ok (.iconst 0, 1) := by decide +kernel
theorem dX12_isPending_5 : decode cX12_isPending 5 = .ok (.istore_n 3, 1) := by decide +kernel
theorem dX12_isPending_6 : decode cX12_isPending 6 = .ok (.iload_n 3, 1) := by decide +kernel
theorem dX12_isPending_7 : decode cX12_isPending 7 = .ok (.aload_n 0, 1) := by decide +kernel
theorem dX12_isPending_8 : decode cX12_isPending 8 = .ok (.getfield 10, 3) := by decide +kernel
theorem dX12_isPending_11 : decode cX12_isPending 11 = .ok (.bipush 64, 2) := by decide +kernel
theorem dX12_isPending_13 : decode cX12_isPending 13 = .ok (.iload_n 2, 1) := by decide +kernel
theorem dX12_isPending_14 : decode cX12_isPending 14 = .ok (.iadd, 1) := by decide +kernel
theorem dX12_isPending_15 : decode cX12_isPending 15 = .ok (.iaload, 1) := by decide +kernel
theorem dX12_isPending_16 : decode cX12_isPending 16 = .ok (.if_icmp .ge 31, 3) := by decide +kernel
theorem dX12_isPending_19 : decode cX12_isPending 19 = .ok (.aload_n 0, 1) := by decide +kernel
theorem dX12_isPending_20 : decode cX12_isPending 20 = .ok (.getfield 10, 3) := by decide +kernel
theorem dX12_isPending_23 : decode cX12_isPending 23 = .ok (.bipush 96, 2) := by decide +kernel
theorem dX12_isPending_25 : decode cX12_isPending 25 = .ok (.bipush 12, 2) := by decide +kernel
theorem dX12_isPending_27 : decode cX12_isPending 27 = .ok (.iload_n 2, 1) := by decide +kernel
theorem dX12_isPending_28 : decode cX12_isPending 28 = .ok (.imul, 1) := by decide +kernel
theorem dX12_isPending_29 : decode cX12_isPending 29 = .ok (.iadd, 1) := by decide +kernel
theorem dX12_isPending_30 : decode cX12_isPending 30 = .ok (.iconst 2, 1) := by decide +kernel
theorem dX12_isPending_31 : decode cX12_isPending 31 = .ok (.iload_n 3, 1) := by decide +kernel
theorem dX12_isPending_32 : decode cX12_isPending 32 = .ok (.imul, 1) := by decide +kernel
theorem dX12_isPending_33 : decode cX12_isPending 33 = .ok (.iadd, 1) := by decide +kernel
theorem dX12_isPending_34 : decode cX12_isPending 34 = .ok (.iaload, 1) := by decide +kernel
theorem dX12_isPending_35 : decode cX12_isPending 35 = .ok (.iload_n 1, 1) := by decide +kernel
theorem dX12_isPending_36 : decode cX12_isPending 36 = .ok (.if_icmp .ne 5, 3) := by decide +kernel
theorem dX12_isPending_39 : decode cX12_isPending 39 = .ok (.iconst 1, 1) := by decide +kernel
theorem dX12_isPending_40 : decode cX12_isPending 40 = .ok (.ireturn, 1) := by decide +kernel
theorem dX12_isPending_41 : decode cX12_isPending 41 = .ok (.iinc 3 1, 3) := by decide +kernel
theorem dX12_isPending_44 : decode cX12_isPending 44 = .ok (.goto (-38), 3) := by decide +kernel
theorem dX12_isPending_47 : decode cX12_isPending 47 = .ok (.iconst 0, 1) := by decide +kernel
theorem dX12_isPending_48 : decode cX12_isPending 48 = .ok (.ireturn, 1) := by decide +kernel
theorem dX12_look_0 : decode cX12_look 0 = .ok (.aload_n 0, 1) := by decide +kernel
theorem dX12_look_1 : decode cX12_look 1 = .ok (.iconst 0, 1) := by decide +kernel
theorem dX12_look_2 : decode cX12_look 2 = .ok (.putfield 63, 3) := by decide +kernel
theorem dX12_look_5 : decode cX12_look 5 = .ok (.aload_n 0, 1) := by decide +kernel
theorem dX12_look_6 : decode cX12_look 6 = .ok (.iload_n 1, 1) := by decide +kernel
theorem dX12_look_7 : decode cX12_look 7 = .ok (.iconst 0, 1) := by decide +kernel
theorem dX12_look_8 : decode cX12_look 8 = .ok (.iconst 1, 1) := by decide +kernel
theorem dX12_look_9 : decode cX12_look 9 = .ok (.invokestatic 172, 3) := by decide +kernel
theorem dX12_look_12 : decode cX12_look 12 = .ok (.iconst 1, 1) := by decide +kernel
theorem dX12_look_13 : decode cX12_look 13 = .ok (.invokevirtual 321, 3) := by decide +kernel
theorem dX12_look_16 : decode cX12_look 16 = .ok (.ifCond .ne 5, 3) := by decide +kernel
theorem dX12_look_19 : decode cX12_look 19 = .ok (.iconst 0, 1) := by decide +kernel
theorem dX12_look_20 : decode cX12_look 20 = .ok (.ireturn, 1) := by decide +kernel
theorem dX12_look_21 : decode cX12_look 21 = .ok (.iconst (-1), 1) := by decide +kernel
theorem dX12_look_22 : decode cX12_look 22 = .ok (.istore_n 2, 1) := by decide +kernel
theorem dX12_look_23 : decode cX12_look 23 = .ok (.iconst 0, 1) := by decide +kernel
theorem dX12_look_24 : decode cX12_look 24 = .ok (.istore_n 3, 1) := by decide +kernel
theorem dX12_look_25 : decode cX12_look 25 = .ok (.aload_n 0, 1) := by decide +kernel
theorem dX12_look_26 : decode cX12_look 26 = .ok (.iconst 0, 1) := by decide +kernel
theorem dX12_look_27 : decode cX12_look 27 = .ok (.invokevirtual 188, 3) := by decide +kernel
theorem dX12_look_30 : decode cX12_look 30 = .ok (.ldc2_w 192, 3) := by decide +kernel
theorem dX12_look_33 : decode cX12_look 33 = .ok (.lcmp, 1) := by decide +kernel
theorem dX12_look_34 : decode cX12_look 34 = .ok (.ifCond .gt 67, 3) := by decide +kernel
theorem dX12_look_37 : decode cX12_look 37 = .ok (.aload_n 0, 1) := by decide +kernel
theorem dX12_look_38 : decode cX12_look 38 = .ok (.iconst (-1), 1) := by decide +kernel
theorem dX12_look_39 : decode cX12_look 39 = .ok (.invokevirtual 391, 3) := by decide +kernel
theorem dX12_look_42 : decode cX12_look 42 = .ok (.ifCond .le 59, 3) := by decide +kernel
theorem dX12_look_45 : decode cX12_look 45 = .ok (.iconst 0, 1) := by decide +kernel
theorem dX12_look_46 : decode cX12_look 46 = .ok (.istore 4, 2) := by decide +kernel
theorem dX12_look_48 : decode cX12_look 48 = .ok (.iload 4, 2) := by decide +kernel
theorem dX12_look_50 : decode cX12_look 50 = .ok (.bipush 64, 2) := by decide +kernel
theorem dX12_look_52 : decode cX12_look 52 = .ok (.if_icmp .ge 49, 3) := by decide +kernel
theorem dX12_look_55 : decode cX12_look 55 = .ok (.aload_n 0, 1) := by decide +kernel
theorem dX12_look_56 : decode cX12_look 56 = .ok (.iload 4, 2) := by decide +kernel
theorem dX12_look_58 : decode cX12_look 58 = .ok (.invokevirtual 394, 3) := by decide +kernel
theorem dX12_look_61 : decode cX12_look 61 = .ok (.ifCond .eq 16, 3) := by decide +kernel
theorem dX12_look_64 : decode cX12_look 64 = .ok (.aload_n 0, 1) := by decide +kernel
theorem dX12_look_65 : decode cX12_look 65 = .ok (.aload_n 0, 1) := by decide +kernel
theorem dX12_look_66 : decode cX12_look 66 = .ok (.iload 4, 2) := by decide +kernel
theorem dX12_look_68 : decode cX12_look 68 = .ok (.invokevirtual 391, 3) := by decide +kernel
theorem dX12_look_71 : decode cX12_look 71 = .ok (.invokevirtual 397, 3) := by decide +kernel
theorem dX12_look_74 : decode cX12_look 74 = .ok (.goto 4, 3) := by decide +kernel
theorem dX12_look_77 : decode cX12_look 77 = .ok (.iconst 1, 1) := by decide +kernel
theorem dX12_look_78 : decode cX12_look 78 = .ok (.istore 5, 2) := by decide +kernel
theorem dX12_look_80 : decode cX12_look 80 = .ok (.iload 5, 2) := by decide +kernel
theorem dX12_look_82 : decode cX12_look 82 = .ok (.iload_n 3, 1) := by decide +kernel
theorem dX12_look_83 : decode cX12_look 83 = .ok (.if_icmp .gt 6, 3) := by decide +kernel
theorem dX12_look_86 : decode cX12_look 86 = .ok (.goto 9, 3) := by decide +kernel
theorem dX12_look_89 : decode cX12_look 89 = .ok (.iload 4, 2) := by decide +kernel
theorem dX12_look_91 : decode cX12_look 91 = .ok (.istore_n 2, 1) := by decide +kernel
theorem dX12_look_92 : decode cX12_look 92 = .ok (.iload 5, 2) := by decide +kernel
theorem dX12_look_94 : decode cX12_look 94 = .ok (.istore_n 3, 1) := by decide +kernel
theorem dX12_look_95 : decode cX12_look 95 = .ok (.iinc 4 1, 3) := by decide +kernel
theorem dX12_look_98 : decode cX12_look 98 = .ok (.goto (-50), 3) := by decide +kernel
theorem dX12_look_101 : decode cX12_look 101 = .ok (.iload_n 1, 1) := by decide +kernel
theorem dX12_look_102 : decode cX12_look 102 = .ok (.ifCond .ne 7, 3) := by decide +kernel
theorem dX12_look_105 : decode cX12_look 105 = .ok (.iload_n 2, 1) := by decide +kernel
theorem dX12_look_106 : decode cX12_look 106 = .ok (.goto 4, 3) := by decide +kernel
theorem dX12_look_109 : decode cX12_look 109 = .ok (.iload_n 3, 1) := by decide +kernel
theorem dX12_look_110 : decode cX12_look 110 = .ok (.ireturn, 1) := by decide +kernel
theorem dX12_forget_0 : decode cX12_forget 0 = .ok (.aload_n 0, 1) := by decide +kernel
theorem dX12_forget_1 : decode cX12_forget 1 = .ok (.iconst 0, 1) := by decide +kernel
theorem dX12_forget_2 : decode cX12_forget 2 = .ok (.putfield 63, 3) := by decide +kernel
theorem dX12_forget_5 : decode cX12_forget 5 = .ok (.aload_n 0, 1) := by decide +kernel
theorem dX12_forget_6 : decode cX12_forget 6 = .ok (.iconst 0, 1) := by decide +kernel
theorem dX12_forget_7 : decode cX12_forget 7 = .ok (.putfield 330, 3) := by decide +kernel
theorem dX12_forget_10 : decode cX12_forget 10 = .ok (.return_, 1) := by decide +kernel
theorem dX12_draw_0 : decode cX12_draw 0 = .ok (.aload_n 0, 1) := by decide +kernel
theorem dX12_draw_1 : decode cX12_draw 1 = .ok (.aload_n 0, 1) := by decide +kernel
theorem dX12_draw_2 : decode cX12_draw 2 = .ok (.getfield 400, 3) := by decide +kernel
theorem dX12_draw_5 : decode cX12_draw 5 = .ok (.ldc_w 403, 3) := by decide +kernel
theorem dX12_draw_8 : decode cX12_draw 8 = .ok (.imul, 1) := by decide +kernel
theorem dX12_draw_9 : decode cX12_draw 9 = .ok (.sipush 12345, 3) := by decide +kernel
theorem dX12_draw_12 : decode cX12_draw 12 = .ok (.iadd, 1) := by decide +kernel
theorem dX12_draw_13 : decode cX12_draw 13 = .ok (.putfield 400, 3) := by decide +kernel
theorem dX12_draw_16 : decode cX12_draw 16 = .ok (.aload_n 0, 1) := by decide +kernel
theorem dX12_draw_17 : decode cX12_draw 17 = .ok (.getfield 400, 3) := by decide +kernel
theorem dX12_draw_20 : decode cX12_draw 20 = .ok (.bipush 16, 2) := by decide +kernel
theorem dX12_draw_22 : decode cX12_draw 22 = .ok (.ishr, 1) := by decide +kernel
theorem dX12_draw_23 : decode cX12_draw 23 = .ok (.sipush 32767, 3) := by decide +kernel
theorem dX12_draw_26 : decode cX12_draw 26 = .ok (.iand, 1) := by decide +kernel
theorem dX12_draw_27 : decode cX12_draw 27 = .ok (.iload_n 1, 1) := by decide +kernel
theorem dX12_draw_28 : decode cX12_draw 28 = .ok (.irem, 1) := by decide +kernel
theorem dX12_draw_29 : decode cX12_draw 29 = .ok (.ireturn, 1) := by decide +kernel
theorem dX12_crashesByDraws_0 : decode cX12_crashesByDraws 0 = .ok (.aload_n 0, 1) := by decide +kernel
theorem dX12_crashesByDraws_1 : decode cX12_crashesByDraws 1 = .ok (.getfield 10, 3) := by decide +kernel
theorem dX12_crashesByDraws_4 : decode cX12_crashesByDraws 4 = .ok (.sipush 1558, 3) := by decide +kernel
theorem dX12_crashesByDraws_7 : decode cX12_crashesByDraws 7 = .ok (.iaload, 1) := by decide +kernel
theorem dX12_crashesByDraws_8 : decode cX12_crashesByDraws 8 = .ok (.iconst 1, 1) := by decide +kernel
theorem dX12_crashesByDraws_9 : decode cX12_crashesByDraws 9 = .ok (.if_icmp .eq 77, 3) := by decide +kernel
theorem dX12_crashesByDraws_12 : decode cX12_crashesByDraws 12 = .ok (.iconst 0, 1) := by decide +kernel
theorem dX12_crashesByDraws_13 : decode cX12_crashesByDraws 13 = .ok (.istore_n 1, 1) := by decide +kernel
theorem dX12_crashesByDraws_14 : decode cX12_crashesByDraws 14 = .ok (.iload_n 1, 1) := by decide +kernel
theorem dX12_crashesByDraws_15 : decode cX12_crashesByDraws 15 = .ok (.bipush 16, 2) := by decide +kernel
theorem dX12_crashesByDraws_17 : decode cX12_crashesByDraws 17 = .ok (.if_icmp .ge 48, 3) := by decide +kernel
theorem dX12_crashesByDraws_20 : decode cX12_crashesByDraws 20 = .ok (.aload_n 0, 1) := by decide +kernel
theorem dX12_crashesByDraws_21 : decode cX12_crashesByDraws 21 = .ok (.getfield 42, 3) := by decide +kernel
theorem dX12_crashesByDraws_24 : decode cX12_crashesByDraws 24 = .ok (.iload_n 1, 1) := by decide +kernel
theorem dX12_crashesByDraws_25 : decode cX12_crashesByDraws 25 = .ok (.aload_n 0, 1) := by decide +kernel
theorem dX12_crashesByDraws_26 : decode cX12_crashesByDraws 26 = .ok (.getfield 10, 3) := by decide +kernel
theorem dX12_crashesByDraws_29 : decode cX12_crashesByDraws 29 = .ok (.sipush 850, 3) := by decide +kernel
theorem dX12_crashesByDraws_32 : decode cX12_crashesByDraws 32 = .ok (.iload_n 1, 1) := by decide +kernel
theorem dX12_crashesByDraws_33 : decode cX12_crashesByDraws 33 = .ok (.iadd, 1) := by decide +kernel
theorem dX12_crashesByDraws_34 : decode cX12_crashesByDraws 34 = .ok (.iaload, 1) := by decide +kernel
theorem dX12_crashesByDraws_35 : decode cX12_crashesByDraws 35 = .ok (.ifCond .ne 7, 3) := by decide +kernel
theorem dX12_crashesByDraws_38 : decode cX12_crashesByDraws 38 = .ok (.iconst 0, 1) := by decide +kernel
theorem dX12_crashesByDraws_39 : decode cX12_crashesByDraws 39 = .ok (.goto 19, 3) := by decide +kernel
theorem dX12_crashesByDraws_42 : decode cX12_crashesByDraws 42 = .ok (.aload_n 0, 1) := by decide +kernel
theorem dX12_crashesByDraws_43 : decode cX12_crashesByDraws 43 = .ok (.aload_n 0, 1) := by decide +kernel
theorem dX12_crashesByDraws_44 : decode cX12_crashesByDraws 44 = .ok (.getfield 10, 3) := by decide +kernel
theorem dX12_crashesByDraws_47 : decode cX12_crashesByDraws 47 = .ok (.sipush 850, 3) := by decide +kernel
theorem dX12_crashesByDraws_50 : decode cX12_crashesByDraws 50 = .ok (.iload_n 1, 1) := by decide +kernel
theorem dX12_crashesByDraws_51 : decode cX12_crashesByDraws 51 = .ok (.iadd, 1) := by decide +kernel
theorem dX12_crashesByDraws_52 : decode cX12_crashesByDraws 52 = .ok (.iaload, 1) := by decide +kernel
theorem dX12_crashesByDraws_53 : decode cX12_crashesByDraws 53 = .ok (.iconst 1, 1) := by decide +kernel
theorem dX12_crashesByDraws_54 : decode cX12_crashesByDraws 54 = .ok (.iadd, 1) := by decide +kernel
theorem dX12_crashesByDraws_55 : decode cX12_crashesByDraws 55 = .ok (.invokevirtual 404, 3) := by decide +kernel
theorem dX12_crashesByDraws_58 : decode cX12_crashesByDraws 58 = .ok (.iastore, 1) := by decide +kernel
theorem dX12_crashesByDraws_59 : decode cX12_crashesByDraws 59 = .ok (.iinc 1 1, 3) := by decide +kernel
theorem dX12_crashesByDraws_62 : decode cX12_crashesByDraws 62 = .ok (.goto (-48), 3) := by decide +kernel
theorem dX12_crashesByDraws_65 : decode cX12_crashesByDraws 65 = .ok (.aload_n 0, 1) := by decide +kernel
theorem dX12_crashesByDraws_66 : decode cX12_crashesByDraws 66 = .ok (.sipush 786, 3) := by decide +kernel
theorem dX12_crashesByDraws_69 : decode cX12_crashesByDraws 69 = .ok (.invokevirtual 363, 3) := by decide +kernel
theorem dX12_crashesByDraws_72 : decode cX12_crashesByDraws 72 = .ok (.iconst 3, 1) := by decide +kernel
theorem dX12_crashesByDraws_73 : decode cX12_crashesByDraws 73 = .ok (.if_icmp .ne 13, 3) := by decide +kernel
theorem dX12_crashesByDraws_76 : decode cX12_crashesByDraws 76 = .ok (.aload_n 0, 1) := by decide +kernel
theorem dX12_crashesByDraws_77 : decode cX12_crashesByDraws 77 = .ok (.dup, 1) := by decide +kernel
theorem dX12_crashesByDraws_78 : decode cX12_crashesByDraws 78 = .ok (.getfield 407, 3) := by decide +kernel
theorem dX12_crashesByDraws_81 : decode cX12_crashesByDraws 81 = .ok (.iconst 1, 1) := by decide +kernel
theorem dX12_crashesByDraws_82 : decode cX12_crashesByDraws 82 = .ok (.iadd, 1) := by decide +kernel
theorem dX12_crashesByDraws_83 : decode cX12_crashesByDraws 83 = .ok (.putfield 407, 3) := by decide +kernel
theorem dX12_crashesByDraws_86 : decode cX12_crashesByDraws 86 = .ok (.aload_n 0, 1) := by decide +kernel
theorem dX12_crashesByDraws_87 : decode cX12_crashesByDraws 87 = .ok (.sipush 786, 3) := by decide +kernel
theorem dX12_crashesByDraws_90 : decode cX12_crashesByDraws 90 = .ok (.invokevirtual 175, 3) := by decide +kernel
theorem dX12_crashesByDraws_93 : decode cX12_crashesByDraws 93 = .ok (.aload_n 0, 1) := by decide +kernel
theorem dX12_crashesByDraws_94 : decode cX12_crashesByDraws 94 = .ok (.aload_n 0, 1) := by decide +kernel
theorem dX12_crashesByDraws_95 : decode cX12_crashesByDraws 95 = .ok (.getfield 39, 3) := by decide +kernel
theorem dX12_crashesByDraws_98 : decode cX12_crashesByDraws 98 = .ok (.invokevirtual 178, 3) := by decide +kernel
theorem dX12_crashesByDraws_101 : decode cX12_crashesByDraws 101 = .ok (.iconst 0, 1) := by decide +kernel
theorem dX12_crashesByDraws_102 : decode cX12_crashesByDraws 102 = .ok (.istore_n 1, 1) := by decide +kernel
theorem dX12_crashesByDraws_103 : decode cX12_crashesByDraws 103 = .ok (.iload_n 1, 1) := by decide +kernel
theorem dX12_crashesByDraws_104 : decode cX12_crashesByDraws 104 = .ok (.bipush 64, 2) := by decide +kernel
theorem dX12_crashesByDraws_106 : decode cX12_crashesByDraws 106 = .ok (.if_icmp .ge 25, 3) := by decide +kernel
theorem dX12_crashesByDraws_109 : decode cX12_crashesByDraws 109 = .ok (.aload_n 0, 1) := by decide +kernel
theorem dX12_crashesByDraws_110 : decode cX12_crashesByDraws 110 = .ok (.getfield 10, 3) := by decide +kernel
theorem dX12_crashesByDraws_113 : decode cX12_crashesByDraws 113 = .ok (.sipush 786, 3) := by decide +kernel
theorem dX12_crashesByDraws_116 : decode cX12_crashesByDraws 116 = .ok (.iload_n 1, 1) := by decide +kernel
theorem dX12_crashesByDraws_117 : decode cX12_crashesByDraws 117 = .ok (.iadd, 1) := by decide +kernel
theorem dX12_crashesByDraws_118 : decode cX12_crashesByDraws 118 = .ok (.aload_n 0, 1) := by decide +kernel
theorem dX12_crashesByDraws_119 : decode cX12_crashesByDraws 119 = .ok (.getfield 39, 3) := by decide +kernel
theorem dX12_crashesByDraws_122 : decode cX12_crashesByDraws 122 = .ok (.iload_n 1, 1) := by decide +kernel
theorem dX12_crashesByDraws_123 : decode cX12_crashesByDraws 123 = .ok (.iaload, 1) := by decide +kernel
theorem dX12_crashesByDraws_124 : decode cX12_crashesByDraws 124 = .ok (.iastore, 1) := by decide +kernel
theorem dX12_crashesByDraws_125 : decode cX12_crashesByDraws 125 = .ok (.iinc 1 1, 3) := by decide +kernel
theorem dX12_crashesByDraws_128 : decode cX12_crashesByDraws 128 = .ok (.goto (-25), 3) := by decide +kernel
theorem dX12_crashesByDraws_131 : decode cX12_crashesByDraws 131 = .ok (.aload_n 0, 1) := by decide +kernel
theorem dX12_crashesByDraws_132 : decode cX12_crashesByDraws 132 = .ok (.getfield 10, 3) := by decide +kernel
theorem dX12_crashesByDraws_135 : decode cX12_crashesByDraws 135 = .ok (.sipush 1558, 3) := by decide +kernel
theorem dX12_crashesByDraws_138 : decode cX12_crashesByDraws 138 = .ok (.iconst 0, 1) := by decide +kernel
theorem dX12_crashesByDraws_139 : decode cX12_crashesByDraws 139 = .ok (.iastore, 1) := by decide +kernel
theorem dX12_crashesByDraws_140 : decode cX12_crashesByDraws 140 = .ok (.return_, 1) := by decide +kernel
theorem dX12_year_0 : decode cX12_year 0 = .ok (.aload_n 0, 1) := by decide +kernel
theorem dX12_year_1 : decode cX12_year 1 = .ok (.bipush 8, 2) := by decide +kernel
theorem dX12_year_3 : decode cX12_year 3 = .ok (.invokevirtual 404, 3) := by decide +kernel
theorem dX12_year_6 : decode cX12_year 6 = .ok (.istore_n 1, 1) := by decide +kernel
theorem dX12_year_7 : decode cX12_year 7 = .ok (.iload_n 1, 1) := by decide +kernel
theorem dX12_year_8 : decode cX12_year 8 = .ok (.iconst 4, 1) := by decide +kernel
theorem dX12_year_9 : decode cX12_year 9 = .ok (.if_icmp .ge 22, 3) := by decide +kernel
theorem dX12_year_12 : decode cX12_year 12 = .ok (.aload_n 0, 1) := by decide +kernel
theorem dX12_year_13 : decode cX12_year 13 = .ok (.sipush 786, 3) := by decide +kernel
theorem dX12_year_16 : decode cX12_year 16 = .ok (.aload_n 0, 1) := by decide +kernel
theorem dX12_year_17 : decode cX12_year 17 = .ok (.bipush 6, 2) := by decide +kernel
theorem dX12_year_19 : decode cX12_year 19 = .ok (.invokevirtual 404, 3) := by decide +kernel
theorem dX12_year_22 : decode cX12_year 22 = .ok (.iconst 1, 1) := by decide +kernel
theorem dX12_year_23 : decode cX12_year 23 = .ok (.iadd, 1) := by decide +kernel
theorem dX12_year_24 : decode cX12_year 24 = .ok (.invokevirtual 351, 3) := by decide +kernel
theorem dX12_year_27 : decode cX12_year 27 = .ok (.pop, 1) := by decide +kernel
theorem dX12_year_28 : decode cX12_year 28 = .ok (.goto 101, 3) := by decide +kernel
theorem dX12_year_31 : decode cX12_year 31 = .ok (.iload_n 1, 1) := by decide +kernel
theorem dX12_year_32 : decode cX12_year 32 = .ok (.iconst 4, 1) := by decide +kernel
theorem dX12_year_33 : decode cX12_year 33 = .ok (.if_icmp .ne 35, 3) := by decide +kernel
theorem dX12_year_36 : decode cX12_year 36 = .ok (.aload_n 0, 1) := by decide +kernel
theorem dX12_year_37 : decode cX12_year 37 = .ok (.bipush 16, 2) := by decide +kernel
theorem dX12_year_39 : decode cX12_year 39 = .ok (.invokevirtual 404, 3) := by decide +kernel
theorem dX12_year_42 : decode cX12_year 42 = .ok (.istore_n 2, 1) := by decide +kernel
theorem dX12_year_43 : decode cX12_year 43 = .ok (.aload_n 0, 1) := by decide +kernel
theorem dX12_year_44 : decode cX12_year 44 = .ok (.getfield 10, 3) := by decide +kernel
theorem dX12_year_47 : decode cX12_year 47 = .ok (.sipush 850, 3) := by decide +kernel
theorem dX12_year_50 : decode cX12_year 50 = .ok (.iload_n 2, 1) := by decide +kernel
theorem dX12_year_51 : decode cX12_year 51 = .ok (.iadd, 1) := by decide +kernel
theorem dX12_year_52 : decode cX12_year 52 = .ok (.iaload, 1) := by decide +kernel
theorem dX12_year_53 : decode cX12_year 53 = .ok (.ifCond .le 12, 3) := by decide +kernel
theorem dX12_year_56 : decode cX12_year 56 = .ok (.aload_n 0, 1) := by decide +kernel
theorem dX12_year_57 : decode cX12_year 57 = .ok (.sipush 786, 3) := by decide +kernel
theorem dX12_year_60 : decode cX12_year 60 = .ok (.iload_n 2, 1) := by decide +kernel
theorem dX12_year_61 : decode cX12_year 61 = .ok (.iconst 1, 1) := by decide +kernel
theorem dX12_year_62 : decode cX12_year 62 = .ok (.invokevirtual 66, 3) := by decide +kernel
theorem dX12_year_65 : decode cX12_year 65 = .ok (.goto 64, 3) := by decide +kernel
theorem dX12_year_68 : decode cX12_year 68 = .ok (.iload_n 1, 1) := by decide +kernel
theorem dX12_year_69 : decode cX12_year 69 = .ok (.iconst 5, 1) := by decide +kernel
theorem dX12_year_70 : decode cX12_year 70 = .ok (.if_icmp .ne 10, 3) := by decide +kernel
theorem dX12_year_73 : decode cX12_year 73 = .ok (.aload_n 0, 1) := by decide +kernel
theorem dX12_year_74 : decode cX12_year 74 = .ok (.invokevirtual 410, 3) := by decide +kernel
theorem dX12_year_77 : decode cX12_year 77 = .ok (.goto 52, 3) := by decide +kernel
theorem dX12_year_80 : decode cX12_year 80 = .ok (.aload_n 0, 1) := by decide +kernel
theorem dX12_year_81 : decode cX12_year 81 = .ok (.iconst 4, 1) := by decide +kernel
theorem dX12_year_82 : decode cX12_year 82 = .ok (.invokevirtual 404, 3) := by decide +kernel
theorem dX12_year_85 : decode cX12_year 85 = .ok (.istore_n 2, 1) := by decide +kernel
theorem dX12_year_86 : decode cX12_year 86 = .ok (.iload_n 1, 1) := by decide +kernel
theorem dX12_year_87 : decode cX12_year 87 = .ok (.bipush 6, 2) := by decide +kernel
theorem dX12_year_89 : decode cX12_year 89 = .ok (.if_icmp .ne 12, 3) := by decide +kernel
theorem dX12_year_92 : decode cX12_year 92 = .ok (.aload_n 0, 1) := by decide +kernel
theorem dX12_year_93 : decode cX12_year 93 = .ok (.bipush 10, 2) := by decide +kernel
theorem dX12_year_95 : decode cX12_year 95 = .ok (.invokevirtual 404, 3) := by decide +kernel
theorem dX12_year_98 : decode cX12_year 98 = .ok (.goto 4, 3) := by decide +kernel
theorem dX12_year_101 : decode cX12_year 101 = .ok (.iconst 0, 1) := by decide +kernel
theorem dX12_year_102 : decode cX12_year 102 = .ok (.istore_n 3, 1) := by decide +kernel
theorem dX12_year_103 : decode cX12_year 103 = .ok (.aload_n 0, 1) := by decide +kernel
theorem dX12_year_104 : decode cX12_year 104 = .ok (.getfield 10, 3) := by decide +kernel
theorem dX12_year_107 : decode cX12_year 107 = .ok (.sipush 1563, 3) := by decide +kernel
theorem dX12_year_110 : decode cX12_year 110 = .ok (.iaload, 1) := by decide +kernel
theorem dX12_year_111 : decode cX12_year 111 = .ok (.bipush 12, 2) := by decide +kernel
theorem dX12_year_113 : decode cX12_year 113 = .ok (.if_icmp .ge 16, 3) := by decide +kernel
theorem dX12_year_116 : decode cX12_year 116 = .ok (.aload_n 0, 1) := by decide +kernel
theorem dX12_year_117 : decode cX12_year 117 = .ok (.sipush 786, 3) := by decide +kernel
theorem dX12_year_120 : decode cX12_year 120 = .ok (.iload_n 1, 1) := by decide +kernel
theorem dX12_year_121 : decode cX12_year 121 = .ok (.bipush 6, 2) := by decide +kernel
theorem dX12_year_123 : decode cX12_year 123 = .ok (.isub, 1) := by decide +kernel
theorem dX12_year_124 : decode cX12_year 124 = .ok (.iload_n 2, 1) := by decide +kernel
theorem dX12_year_125 : decode cX12_year 125 = .ok (.iload_n 3, 1) := by decide +kernel
theorem dX12_year_126 : decode cX12_year 126 = .ok (.invokevirtual 369, 3) := by decide +kernel
theorem dX12_year_129 : decode cX12_year 129 = .ok (.return_, 1) := by decide +kernel
theorem dX12_years_0 : decode cX12_years 0 = .ok (.aload_n 0, 1) := by decide +kernel
theorem dX12_years_1 : decode cX12_years 1 = .ok (.iconst 0, 1) := by decide +kernel
theorem dX12_years_2 : decode cX12_years 2 = .ok (.putfield 63, 3) := by decide +kernel
theorem dX12_years_5 : decode cX12_years 5 = .ok (.aload_n 0, 1) := by decide +kernel
theorem dX12_years_6 : decode cX12_years 6 = .ok (.iload_n 3, 1) := by decide +kernel
theorem dX12_years_7 : decode cX12_years 7 = .ok (.iconst 0, 1) := by decide +kernel
theorem dX12_years_8 : decode cX12_years 8 = .ok (.iconst 2, 1) := by decide +kernel
theorem dX12_years_9 : decode cX12_years 9 = .ok (.invokestatic 172, 3) := by decide +kernel
theorem dX12_years_12 : decode cX12_years 12 = .ok (.iconst 1, 1) := by decide +kernel
theorem dX12_years_13 : decode cX12_years 13 = .ok (.invokevirtual 321, 3) := by decide +kernel
theorem dX12_years_16 : decode cX12_years 16 = .ok (.ifCond .eq 18, 3) := by decide +kernel
theorem dX12_years_19 : decode cX12_years 19 = .ok (.aload_n 0, 1) := by decide +kernel
theorem dX12_years_20 : decode cX12_years 20 = .ok (.iload_n 2, 1) := by decide +kernel
theorem dX12_years_21 : decode cX12_years 21 = .ok (.iconst 0, 1) := by decide +kernel
theorem dX12_years_22 : decode cX12_years 22 = .ok (.bipush 30, 2) := by decide +kernel
theorem dX12_years_24 : decode cX12_years 24 = .ok (.invokestatic 172, 3) := by decide +kernel
theorem dX12_years_27 : decode cX12_years 27 = .ok (.iconst 2, 1) := by decide +kernel
theorem dX12_years_28 : decode cX12_years 28 = .ok (.invokevirtual 321, 3) := by decide +kernel
theorem dX12_years_31 : decode cX12_years 31 = .ok (.ifCond .ne 5, 3) := by decide +kernel
theorem dX12_years_34 : decode cX12_years 34 = .ok (.iconst 0, 1) := by decide +kernel
theorem dX12_years_35 : decode cX12_years 35 = .ok (.ireturn, 1) := by decide +kernel
theorem dX12_years_36 : decode cX12_years 36 = .ok (.aload_n 0, 1) := by decide +kernel
theorem dX12_years_37 : decode cX12_years 37 = .ok (.invokevirtual 218, 3) := by decide +kernel
theorem dX12_years_40 : decode cX12_years 40 = .ok (.aload_n 0, 1) := by decide +kernel
theorem dX12_years_41 : decode cX12_years 41 = .ok (.iload_n 1, 1) := by decide +kernel
theorem dX12_years_42 : decode cX12_years 42 = .ok (.putfield 400, 3) := by decide +kernel
theorem dX12_years_45 : decode cX12_years 45 = .ok (.aload_n 0, 1) := by decide +kernel
theorem dX12_years_46 : decode cX12_years 46 = .ok (.iconst 0, 1) := by decide +kernel
theorem dX12_years_47 : decode cX12_years 47 = .ok (.putfield 407, 3) := by decide +kernel
theorem dX12_years_50 : decode cX12_years 50 = .ok (.iconst 0, 1) := by decide +kernel
theorem dX12_years_51 : decode cX12_years 51 = .ok (.istore 4, 2) := by decide +kernel
theorem dX12_years_53 : decode cX12_years 53 = .ok (.iload 4, 2) := by decide +kernel
theorem dX12_years_55 : decode cX12_years 55 = .ok (.iload_n 2, 1) := by decide +kernel
theorem dX12_years_56 : decode cX12_years 56 = .ok (.if_icmp .ge 13, 3) := by decide +kernel
theorem dX12_years_59 : decode cX12_years 59 = .ok (.aload_n 0, 1) := by decide +kernel
theorem dX12_years_60 : decode cX12_years 60 = .ok (.invokevirtual 413, 3) := by decide +kernel
theorem dX12_years_63 : decode cX12_years 63 = .ok (.iinc 4 1, 3) := by decide +kernel
theorem dX12_years_66 : decode cX12_years 66 = .ok (.goto (-13), 3) := by decide +kernel
theorem dX12_years_69 : decode cX12_years 69 = .ok (.aload_n 0, 1) := by decide +kernel
theorem dX12_years_70 : decode cX12_years 70 = .ok (.sipush 786, 3) := by decide +kernel
theorem dX12_years_73 : decode cX12_years 73 = .ok (.invokevirtual 175, 3) := by decide +kernel
theorem dX12_years_76 : decode cX12_years 76 = .ok (.iload_n 3, 1) := by decide +kernel
theorem dX12_years_77 : decode cX12_years 77 = .ok (.ifCond .ne 23, 3) := by decide +kernel
theorem dX12_years_80 : decode cX12_years 80 = .ok (.aload_n 0, 1) := by decide +kernel
theorem dX12_years_81 : decode cX12_years 81 = .ok (.getfield 10, 3) := by decide +kernel
theorem dX12_years_84 : decode cX12_years 84 = .ok (.sipush 1566, 3) := by decide +kernel
theorem dX12_years_87 : decode cX12_years 87 = .ok (.iaload, 1) := by decide +kernel
theorem dX12_years_88 : decode cX12_years 88 = .ok (.aload_n 0, 1) := by decide +kernel
theorem dX12_years_89 : decode cX12_years 89 = .ok (.getfield 10, 3) := by decide +kernel
theorem dX12_years_92 : decode cX12_years 92 = .ok (.sipush 780, 3) := by decide +kernel
theorem dX12_years_95 : decode cX12_years 95 = .ok (.iaload, 1) := by decide +kernel
theorem dX12_years_96 : decode cX12_years 96 = .ok (.isub, 1) := by decide +kernel
theorem dX12_years_97 : decode cX12_years 97 = .ok (.goto 26, 3) := by decide +kernel
theorem dX12_years_100 : decode cX12_years 100 = .ok (.iload_n 3, 1) := by decide +kernel
theorem dX12_years_101 : decode cX12_years 101 = .ok (.iconst 1, 1) := by decide +kernel
theorem dX12_years_102 : decode cX12_years 102 = .ok (.if_icmp .ne 10, 3) := by decide +kernel
theorem dX12_years_105 : decode cX12_years 105 = .ok (.aload_n 0, 1) := by decide +kernel
theorem dX12_years_106 : decode cX12_years 106 = .ok (.getfield 407, 3) := by decide +kernel
theorem dX12_years_109 : decode cX12_years 109 = .ok (.goto 14, 3) := by decide +kernel
theorem dX12_years_112 : decode cX12_years 112 = .ok (.aload_n 0, 1) := by decide +kernel
theorem dX12_years_113 : decode cX12_years 113 = .ok (.aload_n 0, 1) := by decide +kernel
theorem dX12_years_114 : decode cX12_years 114 = .ok (.getfield 39, 3) := by decide +kernel
theorem dX12_years_117 : decode cX12_years 117 = .ok (.invokevirtual 111, 3) := by decide +kernel
theorem dX12_years_120 : decode cX12_years 120 = .ok (.invokestatic 379, 3) := by decide +kernel
theorem dX12_years_123 : decode cX12_years 123 = .ok (.ireturn, 1) := by decide +kernel
theorem dX12_image_0 : decode cX12_image 0 = .ok (.aload_n 0, 1) := by decide +kernel
theorem dX12_image_1 : decode cX12_image 1 = .ok (.iconst 0, 1) := by decide +kernel
theorem dX12_image_2 : decode cX12_image 2 = .ok (.putfield 63, 3) := by decide +kernel
theorem dX12_image_5 : decode cX12_image 5 = .ok (.aload_n 0, 1) := by decide +kernel
theorem dX12_image_6 : decode cX12_image 6 = .ok (.iconst 0, 1) := by decide +kernel
theorem dX12_image_7 : decode cX12_image 7 = .ok (.ldc_w 416, 3) := by decide +kernel
theorem dX12_image_10 : decode cX12_image 10 = .ok (.sipush 786, 3) := by decide +kernel
theorem dX12_image_13 : decode cX12_image 13 = .ok (.invokevirtual 224, 3) := by decide +kernel
theorem dX12_image_16 : decode cX12_image 16 = .ok (.aload_n 0, 1) := by decide +kernel
theorem dX12_image_17 : decode cX12_image 17 = .ok (.sipush 2358, 3) := by decide +kernel
theorem dX12_image_20 : decode cX12_image 20 = .ok (.ldc_w 417, 3) := by decide +kernel
theorem dX12_image_23 : decode cX12_image 23 = .ok (.sipush 31440, 3) := by decide +kernel
theorem dX12_image_26 : decode cX12_image 26 = .ok (.invokevirtual 224, 3) := by decide +kernel
theorem dX12_image_29 : decode cX12_image 29 = .ok (.aload_n 0, 1) := by decide +kernel
theorem dX12_image_30 : decode cX12_image 30 = .ok (.aload_n 0, 1) := by decide +kernel
theorem dX12_image_31 : decode cX12_image 31 = .ok (.getfield 336, 3) := by decide +kernel
theorem dX12_image_34 : decode cX12_image 34 = .ok (.putfield 418, 3) := by decide +kernel
theorem dX12_image_37 : decode cX12_image 37 = .ok (.aload_n 0, 1) := by decide +kernel
theorem dX12_image_38 : decode cX12_image 38 = .ok (.aload_n 0, 1) := by decide +kernel
theorem dX12_image_39 : decode cX12_image 39 = .ok (.getfield 333, 3) := by decide +kernel
theorem dX12_image_42 : decode cX12_image 42 = .ok (.putfield 421, 3) := by decide +kernel
theorem dX12_image_45 : decode cX12_image 45 = .ok (.aload_n 0, 1) := by decide +kernel
theorem dX12_image_46 : decode cX12_image 46 = .ok (.aload_n 0, 1) := by decide +kernel
theorem dX12_image_47 : decode cX12_image 47 = .ok (.getfield 330, 3) := by decide +kernel
theorem dX12_image_50 : decode cX12_image 50 = .ok (.putfield 424, 3) := by decide +kernel
theorem dX12_image_53 : decode cX12_image 53 = .ok (.iconst 0, 1) := by decide +kernel
theorem dX12_image_54 : decode cX12_image 54 = .ok (.istore_n 1, 1) := by decide +kernel
theorem dX12_image_55 : decode cX12_image 55 = .ok (.iload_n 1, 1) := by decide +kernel
theorem dX12_image_56 : decode cX12_image 56 = .ok (.bipush 8, 2) := by decide +kernel
theorem dX12_image_58 : decode cX12_image 58 = .ok (.if_icmp .ge 39, 3) := by decide +kernel
theorem dX12_image_61 : decode cX12_image 61 = .ok (.aload_n 0, 1) := by decide +kernel
theorem dX12_image_62 : decode cX12_image 62 = .ok (.getfield 14, 3) := by decide +kernel
theorem dX12_image_65 : decode cX12_image 65 = .ok (.bipush 8, 2) := by decide +kernel
theorem dX12_image_67 : decode cX12_image 67 = .ok (.iload_n 1, 1) := by decide +kernel
theorem dX12_image_68 : decode cX12_image 68 = .ok (.iadd, 1) := by decide +kernel
theorem dX12_image_69 : decode cX12_image 69 = .ok (.aload_n 0, 1) := by decide +kernel
theorem dX12_image_70 : decode cX12_image 70 = .ok (.getfield 14, 3) := by decide +kernel
theorem dX12_image_73 : decode cX12_image 73 = .ok (.iload_n 1, 1) := by decide +kernel
theorem dX12_image_74 : decode cX12_image 74 = .ok (.iaload, 1) := by decide +kernel
theorem dX12_image_75 : decode cX12_image 75 = .ok (.iastore, 1) := by decide +kernel
theorem dX12_image_76 : decode cX12_image 76 = .ok (.aload_n 0, 1) := by decide +kernel
theorem dX12_image_77 : decode cX12_image 77 = .ok (.getfield 17, 3) := by decide +kernel
theorem dX12_image_80 : decode cX12_image 80 = .ok (.bipush 8, 2) := by decide +kernel
theorem dX12_image_82 : decode cX12_image 82 = .ok (.iload_n 1, 1) := by decide +kernel
theorem dX12_image_83 : decode cX12_image 83 = .ok (.iadd, 1) := by decide +kernel
theorem dX12_image_84 : decode cX12_image 84 = .ok (.aload_n 0, 1) := by decide +kernel
theorem dX12_image_85 : decode cX12_image 85 = .ok (.getfield 17, 3) := by decide +kernel
theorem dX12_image_88 : decode cX12_image 88 = .ok (.iload_n 1, 1) := by decide +kernel
theorem dX12_image_89 : decode cX12_image 89 = .ok (.iaload, 1) := by decide +kernel
theorem dX12_image_90 : decode cX12_image 90 = .ok (.iastore, 1) := by decide +kernel
theorem dX12_image_91 : decode cX12_image 91 = .ok (.iinc 1 1, 3) := by decide +kernel
theorem dX12_image_94 : decode cX12_image 94 = .ok (.goto (-39), 3) := by decide +kernel
theorem dX12_image_97 : decode cX12_image 97 = .ok (.iconst 0, 1) := by decide +kernel
theorem dX12_image_98 : decode cX12_image 98 = .ok (.istore_n 1, 1) := by decide +kernel
theorem dX12_image_99 : decode cX12_image 99 = .ok (.iload_n 1, 1) := by decide +kernel
theorem dX12_image_100 : decode cX12_image 100 = .ok (.iconst 3, 1) := by decide +kernel
theorem dX12_image_101 : decode cX12_image 101 = .ok (.if_icmp .ge 23, 3) := by decide +kernel
theorem dX12_image_104 : decode cX12_image 104 = .ok (.aload_n 0, 1) := by decide +kernel
theorem dX12_image_105 : decode cX12_image 105 = .ok (.getfield 20, 3) := by decide +kernel
theorem dX12_image_108 : decode cX12_image 108 = .ok (.iconst 3, 1) := by decide +kernel
theorem dX12_image_109 : decode cX12_image 109 = .ok (.iload_n 1, 1) := by decide +kernel
theorem dX12_image_110 : decode cX12_image 110 = .ok (.iadd, 1) := by decide +kernel
theorem dX12_image_111 : decode cX12_image 111 = .ok (.aload_n 0, 1) := by decide +kernel
theorem dX12_image_112 : decode cX12_image 112 = .ok (.getfield 20, 3) := by decide +kernel
theorem dX12_image_115 : decode cX12_image 115 = .ok (.iload_n 1, 1) := by decide +kernel
theorem dX12_image_116 : decode cX12_image 116 = .ok (.iaload, 1) := by decide +kernel
theorem dX12_image_117 : decode cX12_image 117 = .ok (.iastore, 1) := by decide +kernel
theorem dX12_image_118 : decode cX12_image 118 = .ok (.iinc 1 1, 3) := by decide +kernel
theorem dX12_image_121 : decode cX12_image 121 = .ok (.goto (-22), 3) := by decide +kernel
theorem dX12_image_124 : decode cX12_image 124 = .ok (.aload_n 0, 1) := by decide +kernel
theorem dX12_image_125 : decode cX12_image 125 = .ok (.iconst 1, 1) := by decide +kernel
theorem dX12_image_126 : decode cX12_image 126 = .ok (.putfield 327, 3) := by decide +kernel
theorem dX12_image_129 : decode cX12_image 129 = .ok (.return_, 1) := by decide +kernel
theorem dX12_restore_0 : decode cX12_restore 0 = .ok (.aload_n 0, 1) := by decide +kernel
theorem dX12_restore_1 : decode cX12_restore 1 = .ok (.iconst 0, 1) := by decide +kernel
theorem dX12_restore_2 : decode cX12_restore 2 = .ok (.putfield 63, 3) := by decide +kernel
theorem dX12_restore_5 : decode cX12_restore 5 = .ok (.aload_n 0, 1) := by decide +kernel
theorem dX12_restore_6 : decode cX12_restore 6 = .ok (.getfield 327, 3) := by decide +kernel
theorem dX12_restore_9 : decode cX12_restore 9 = .ok (.ifCond .ne 5, 3) := by decide +kernel
theorem dX12_restore_12 : decode cX12_restore 12 = .ok (.iconst 0, 1) := by decide +kernel
theorem dX12_restore_13 : decode cX12_restore 13 = .ok (.ireturn, 1) := by decide +kernel
theorem dX12_restore_14 : decode cX12_restore 14 = .ok (.aload_n 0, 1) := by decide +kernel
theorem dX12_restore_15 : decode cX12_restore 15 = .ok (.ldc_w 416, 3) := by decide +kernel
theorem dX12_restore_18 : decode cX12_restore 18 = .ok (.iconst 0, 1) := by decide +kernel
theorem dX12_restore_19 : decode cX12_restore 19 = .ok (.sipush 786, 3) := by decide +kernel
theorem dX12_restore_22 : decode cX12_restore 22 = .ok (.invokevirtual 224, 3) := by decide +kernel
theorem dX12_restore_25 : decode cX12_restore 25 = .ok (.aload_n 0, 1) := by decide +kernel
theorem dX12_restore_26 : decode cX12_restore 26 = .ok (.ldc_w 417, 3) := by decide +kernel
theorem dX12_restore_29 : decode cX12_restore 29 = .ok (.sipush 2358, 3) := by decide +kernel
theorem dX12_restore_32 : decode cX12_restore 32 = .ok (.sipush 31440, 3) := by decide +kernel
theorem dX12_restore_35 : decode cX12_restore 35 = .ok (.invokevirtual 224, 3) := by decide +kernel
theorem dX12_restore_38 : decode cX12_restore 38 = .ok (.aload_n 0, 1) := by decide +kernel
theorem dX12_restore_39 : decode cX12_restore 39 = .ok (.aload_n 0, 1) := by decide +kernel
theorem dX12_restore_40 : decode cX12_restore 40 = .ok (.getfield 418, 3) := by decide +kernel
theorem dX12_restore_43 : decode cX12_restore 43 = .ok (.putfield 336, 3) := by decide +kernel
theorem dX12_restore_46 : decode cX12_restore 46 = .ok (.aload_n 0, 1) := by decide +kernel
theorem dX12_restore_47 : decode cX12_restore 47 = .ok (.aload_n 0, 1) := by decide +kernel
theorem dX12_restore_48 : decode cX12_restore 48 = .ok (.getfield 421, 3) := by decide +kernel
theorem dX12_restore_51 : decode cX12_restore 51 = .ok (.putfield 333, 3) := by decide +kernel
theorem dX12_restore_54 : decode cX12_restore 54 = .ok (.aload_n 0, 1) := by decide +kernel
theorem dX12_restore_55 : decode cX12_restore 55 = .ok (.aload_n 0, 1) := by decide +kernel
theorem dX12_restore_56 : decode cX12_restore 56 = .ok (.getfield 424, 3) := by decide +kernel
theorem dX12_restore_59 : decode cX12_restore 59 = .ok (.putfield 330, 3) := by decide +kernel
theorem dX12_restore_62 : decode cX12_restore 62 = .ok (.iconst 0, 1) := by decide +kernel
theorem dX12_restore_63 : decode cX12_restore 63 = .ok (.istore_n 1, 1) := by decide +kernel
theorem dX12_restore_64 : decode cX12_restore 64 = .ok (.iload_n 1, 1) := by decide +kernel
theorem dX12_restore_65 : decode cX12_restore 65 = .ok (.bipush 8, 2) := by decide +kernel
theorem dX12_restore_67 : decode cX12_restore 67 = .ok (.if_icmp .ge 39, 3) := by decide +kernel
theorem dX12_restore_70 : decode cX12_restore 70 = .ok (.aload_n 0, 1) := by decide +kernel
theorem dX12_restore_71 : decode cX12_restore 71 = .ok (.getfield 14, 3) := by decide +kernel
theorem dX12_restore_74 : decode cX12_restore 74 = .ok (.iload_n 1, 1) := by decide +kernel
theorem dX12_restore_75 : decode cX12_restore 75 = .ok (.aload_n 0, 1) := by decide +kernel
theorem dX12_restore_76 : decode cX12_restore 76 = .ok (.getfield 14, 3) := by decide +kernel
theorem dX12_restore_79 : decode cX12_restore 79 = .ok (.bipush 8, 2) := by decide +kernel
theorem dX12_restore_81 : decode cX12_restore 81 = .ok (.iload_n 1, 1) := by decide +kernel
theorem dX12_restore_82 : decode cX12_restore 82 = .ok (.iadd, 1) := by decide +kernel
theorem dX12_restore_83 : decode cX12_restore 83 = .ok (.iaload, 1) := by decide +kernel
theorem dX12_restore_84 : decode cX12_restore 84 = .ok (.iastore, 1) := by decide +kernel
theorem dX12_restore_85 : decode cX12_restore 85 = .ok (.aload_n 0, 1) := by decide +kernel
theorem dX12_restore_86 : decode cX12_restore 86 = .ok (.getfield 17, 3) := by decide +kernel
theorem dX12_restore_89 : decode cX12_restore 89 = .ok (.iload_n 1, 1) := by decide +kernel
theorem dX12_restore_90 : decode cX12_restore 90 = .ok (.aload_n 0, 1) := by decide +kernel
theorem dX12_restore_91 : decode cX12_restore 91 = .ok (.getfield 17, 3) := by decide +kernel
theorem dX12_restore_94 : decode cX12_restore 94 = .ok (.bipush 8, 2) := by decide +kernel
theorem dX12_restore_96 : decode cX12_restore 96 = .ok (.iload_n 1, 1) := by decide +kernel
theorem dX12_restore_97 : decode cX12_restore 97 = .ok (.iadd, 1) := by decide +kernel
theorem dX12_restore_98 : decode cX12_restore 98 = .ok (.iaload, 1) := by decide +kernel
theorem dX12_restore_99 : decode cX12_restore 99 = .ok (.iastore, 1) := by decide +kernel
theorem dX12_restore_100 : decode cX12_restore 100 = .ok (.iinc 1 1, 3) := by decide +kernel
theorem dX12_restore_103 : decode cX12_restore 103 = .ok (.goto (-39), 3) := by decide +kernel
theorem dX12_restore_106 : decode cX12_restore 106 = .ok (.iconst 0, 1) := by decide +kernel
theorem dX12_restore_107 : decode cX12_restore 107 = .ok (.istore_n 1, 1) := by decide +kernel
theorem dX12_restore_108 : decode cX12_restore 108 = .ok (.iload_n 1, 1) := by decide +kernel
theorem dX12_restore_109 : decode cX12_restore 109 = .ok (.iconst 3, 1) := by decide +kernel
theorem dX12_restore_110 : decode cX12_restore 110 = .ok (.if_icmp .ge 23, 3) := by decide +kernel
theorem dX12_restore_113 : decode cX12_restore 113 = .ok (.aload_n 0, 1) := by decide +kernel
theorem dX12_restore_114 : decode cX12_restore 114 = .ok (.getfield 20, 3) := by decide +kernel
theorem dX12_restore_117 : decode cX12_restore 117 = .ok (.iload_n 1, 1) := by decide +kernel
theorem dX12_restore_118 : decode cX12_restore 118 = .ok (.aload_n 0, 1) := by decide +kernel
theorem dX12_restore_119 : decode cX12_restore 119 = .ok (.getfield 20, 3) := by decide +kernel
theorem dX12_restore_122 : decode cX12_restore 122 = .ok (.iconst 3, 1) := by decide +kernel
theorem dX12_restore_123 : decode cX12_restore 123 = .ok (.iload_n 1, 1) := by decide +kernel
theorem dX12_restore_124 : decode cX12_restore 124 = .ok (.iadd, 1) := by decide +kernel
theorem dX12_restore_125 : decode cX12_restore 125 = .ok (.iaload, 1) := by decide +kernel
theorem dX12_restore_126 : decode cX12_restore 126 = .ok (.iastore, 1) := by decide +kernel
theorem dX12_restore_127 : decode cX12_restore 127 = .ok (.iinc 1 1, 3) := by decide +kernel
theorem dX12_restore_130 : decode cX12_restore 130 = .ok (.goto (-22), 3) := by decide +kernel
theorem dX12_restore_133 : decode cX12_restore 133 = .ok (.iconst 1, 1) := by decide +kernel
theorem dX12_restore_134 : decode cX12_restore 134 = .ok (.ireturn, 1) := by decide +kernel
