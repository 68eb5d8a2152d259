-- decode rows, a row an instruction (by wip/gen/names.py)
theorem dD_from_0 : decode cD_from 0 = .ok (.aload_n 0, 1) := by decide +kernel
theorem dD_from_1 : decode cD_from 1 = .ok (.iconst 0, 1) := by decide +kernel
theorem dD_from_2 : decode cD_from 2 = .ok (.putfield 35, 3) := by decide +kernel
theorem dD_from_5 : decode cD_from 5 = .ok (.iload_n 1, 1) := by decide +kernel
theorem dD_from_6 : decode cD_from 6 = .ok (.iconst 0, 1) := by decide +kernel
theorem dD_from_7 : decode cD_from 7 = .ok (.aload_n 0, 1) := by decide +kernel
theorem dD_from_8 : decode cD_from 8 = .ok (.getfield 41, 3) := by decide +kernel
theorem dD_from_11 : decode cD_from 11 = .ok (.iconst 1, 1) := by decide +kernel
theorem dD_from_12 : decode cD_from 12 = .ok (.isub, 1) := by decide +kernel
theorem dD_from_13 : decode cD_from 13 = .ok (.invokestatic 152, 3) := by decide +kernel
theorem dD_from_16 : decode cD_from 16 = .ok (.ifCond .eq 12, 3) := by decide +kernel
theorem dD_from_19 : decode cD_from 19 = .ok (.aload_n 0, 1) := by decide +kernel
theorem dD_from_20 : decode cD_from 20 = .ok (.getfield 13, 3) := by decide +kernel
theorem dD_from_23 : decode cD_from 23 = .ok (.iload_n 1, 1) := by decide +kernel
theorem dD_from_24 : decode cD_from 24 = .ok (.iaload, 1) := by decide +kernel
theorem dD_from_25 : decode cD_from 25 = .ok (.goto 8, 3) := by decide +kernel
theorem dD_from_28 : decode cD_from 28 = .ok (.aload_n 0, 1) := by decide +kernel
theorem dD_from_29 : decode cD_from 29 = .ok (.iconst 1, 1) := by decide +kernel
theorem dD_from_30 : decode cD_from 30 = .ok (.invokevirtual 44, 3) := by decide +kernel
theorem dD_from_33 : decode cD_from 33 = .ok (.ireturn, 1) := by decide +kernel
theorem dD_known_0 : decode cD_known 0 = .ok (.aload_n 0, 1) := by decide +kernel
theorem dD_known_1 : decode cD_known 1 = .ok (.iconst 0, 1) := by decide +kernel
theorem dD_known_2 : decode cD_known 2 = .ok (.putfield 35, 3) := by decide +kernel
theorem dD_known_5 : decode cD_known 5 = .ok (.iload_n 2, 1) := by decide +kernel
theorem dD_known_6 : decode cD_known 6 = .ok (.iconst 0, 1) := by decide +kernel
theorem dD_known_7 : decode cD_known 7 = .ok (.aload_n 0, 1) := by decide +kernel
theorem dD_known_8 : decode cD_known 8 = .ok (.getfield 41, 3) := by decide +kernel
theorem dD_known_11 : decode cD_known 11 = .ok (.iconst 1, 1) := by decide +kernel
theorem dD_known_12 : decode cD_known 12 = .ok (.isub, 1) := by decide +kernel
theorem dD_known_13 : decode cD_known 13 = .ok (.invokestatic 152, 3) := by decide +kernel
theorem dD_known_16 : decode cD_known 16 = .ok (.ifCond .eq 17, 3) := by decide +kernel
theorem dD_known_19 : decode cD_known 19 = .ok (.iload_n 1, 1) := by decide +kernel
theorem dD_known_20 : decode cD_known 20 = .ok (.iconst 1, 1) := by decide +kernel
theorem dD_known_21 : decode cD_known 21 = .ok (.if_icmp .ne 18, 3) := by decide +kernel
theorem dD_known_24 : decode cD_known 24 = .ok (.iload_n 3, 1) := by decide +kernel
theorem dD_known_25 : decode cD_known 25 = .ok (.iconst 0, 1) := by decide +kernel
theorem dD_known_26 : decode cD_known 26 = .ok (.iconst 3, 1) := by decide +kernel
theorem dD_known_27 : decode cD_known 27 = .ok (.invokestatic 152, 3) := by decide +kernel
theorem dD_known_30 : decode cD_known 30 = .ok (.ifCond .ne 9, 3) := by decide +kernel
theorem dD_known_33 : decode cD_known 33 = .ok (.aload_n 0, 1) := by decide +kernel
theorem dD_known_34 : decode cD_known 34 = .ok (.iconst 1, 1) := by decide +kernel
theorem dD_known_35 : decode cD_known 35 = .ok (.invokevirtual 44, 3) := by decide +kernel
theorem dD_known_38 : decode cD_known 38 = .ok (.ireturn, 1) := by decide +kernel
theorem dD_known_39 : decode cD_known 39 = .ok (.iload_n 1, 1) := by decide +kernel
theorem dD_known_40 : decode cD_known 40 = .ok (.iconst 0, 1) := by decide +kernel
theorem dD_known_41 : decode cD_known 41 = .ok (.iconst 1, 1) := by decide +kernel
theorem dD_known_42 : decode cD_known 42 = .ok (.invokestatic 152, 3) := by decide +kernel
theorem dD_known_45 : decode cD_known 45 = .ok (.ifCond .eq 20, 3) := by decide +kernel
theorem dD_known_48 : decode cD_known 48 = .ok (.iload_n 1, 1) := by decide +kernel
theorem dD_known_49 : decode cD_known 49 = .ok (.iconst 1, 1) := by decide +kernel
theorem dD_known_50 : decode cD_known 50 = .ok (.if_icmp .ne 21, 3) := by decide +kernel
theorem dD_known_53 : decode cD_known 53 = .ok (.iload 4, 2) := by decide +kernel
theorem dD_known_55 : decode cD_known 55 = .ok (.iconst 0, 1) := by decide +kernel
theorem dD_known_56 : decode cD_known 56 = .ok (.sipush 255, 3) := by decide +kernel
theorem dD_known_59 : decode cD_known 59 = .ok (.invokestatic 152, 3) := by decide +kernel
theorem dD_known_62 : decode cD_known 62 = .ok (.ifCond .ne 9, 3) := by decide +kernel
theorem dD_known_65 : decode cD_known 65 = .ok (.aload_n 0, 1) := by decide +kernel
theorem dD_known_66 : decode cD_known 66 = .ok (.iconst 2, 1) := by decide +kernel
theorem dD_known_67 : decode cD_known 67 = .ok (.invokevirtual 44, 3) := by decide +kernel
theorem dD_known_70 : decode cD_known 70 = .ok (.ireturn, 1) := by decide +kernel
theorem dD_known_71 : decode cD_known 71 = .ok (.iload_n 1, 1) := by decide +kernel
theorem dD_known_72 : decode cD_known 72 = .ok (.ifCond .ne 12, 3) := by decide +kernel
theorem dD_known_75 : decode cD_known 75 = .ok (.aload_n 0, 1) := by decide +kernel
theorem dD_known_76 : decode cD_known 76 = .ok (.iload_n 2, 1) := by decide +kernel
theorem dD_known_77 : decode cD_known 77 = .ok (.iconst 1, 1) := by decide +kernel
theorem dD_known_78 : decode cD_known 78 = .ok (.invokevirtual 105, 3) := by decide +kernel
theorem dD_known_81 : decode cD_known 81 = .ok (.goto 11, 3) := by decide +kernel
theorem dD_known_84 : decode cD_known 84 = .ok (.aload_n 0, 1) := by decide +kernel
theorem dD_known_85 : decode cD_known 85 = .ok (.iload_n 2, 1) := by decide +kernel
theorem dD_known_86 : decode cD_known 86 = .ok (.iload_n 3, 1) := by decide +kernel
theorem dD_known_87 : decode cD_known 87 = .ok (.iload 4, 2) := by decide +kernel
theorem dD_known_89 : decode cD_known 89 = .ok (.invokevirtual 120, 3) := by decide +kernel
theorem dD_known_92 : decode cD_known 92 = .ok (.aload_n 0, 1) := by decide +kernel
theorem dD_known_93 : decode cD_known 93 = .ok (.invokevirtual 137, 3) := by decide +kernel
theorem dD_known_96 : decode cD_known 96 = .ok (.istore 5, 2) := by decide +kernel
theorem dD_known_98 : decode cD_known 98 = .ok (.iload 5, 2) := by decide +kernel
theorem dD_known_100 : decode cD_known 100 = .ok (.ifCond .ge 8, 3) := by decide +kernel
theorem dD_known_103 : decode cD_known 103 = .ok (.bipush (-2), 2) := by decide +kernel
theorem dD_known_105 : decode cD_known 105 = .ok (.goto 10, 3) := by decide +kernel
theorem dD_known_108 : decode cD_known 108 = .ok (.aload_n 0, 1) := by decide +kernel
theorem dD_known_109 : decode cD_known 109 = .ok (.getfield 29, 3) := by decide +kernel
theorem dD_known_112 : decode cD_known 112 = .ok (.iload 5, 2) := by decide +kernel
theorem dD_known_114 : decode cD_known 114 = .ok (.iaload, 1) := by decide +kernel
theorem dD_known_115 : decode cD_known 115 = .ok (.istore 6, 2) := by decide +kernel
theorem dD_known_117 : decode cD_known 117 = .ok (.aload_n 0, 1) := by decide +kernel
theorem dD_known_118 : decode cD_known 118 = .ok (.getfield 38, 3) := by decide +kernel
theorem dD_known_121 : decode cD_known 121 = .ok (.iconst 1, 1) := by decide +kernel
theorem dD_known_122 : decode cD_known 122 = .ok (.if_icmp .ne 60, 3) := by decide +kernel
theorem dD_known_125 : decode cD_known 125 = .ok (.aload_n 0, 1) := by decide +kernel
theorem dD_known_126 : decode cD_known 126 = .ok (.aload_n 0, 1) := by decide +kernel
theorem dD_known_127 : decode cD_known 127 = .ok (.getfield 23, 3) := by decide +kernel
theorem dD_known_130 : decode cD_known 130 = .ok (.aload_n 0, 1) := by decide +kernel
theorem dD_known_131 : decode cD_known 131 = .ok (.getfield 48, 3) := by decide +kernel
theorem dD_known_134 : decode cD_known 134 = .ok (.iconst 1, 1) := by decide +kernel
theorem dD_known_135 : decode cD_known 135 = .ok (.isub, 1) := by decide +kernel
theorem dD_known_136 : decode cD_known 136 = .ok (.iaload, 1) := by decide +kernel
theorem dD_known_137 : decode cD_known 137 = .ok (.putfield 66, 3) := by decide +kernel
theorem dD_known_140 : decode cD_known 140 = .ok (.iconst 0, 1) := by decide +kernel
theorem dD_known_141 : decode cD_known 141 = .ok (.istore 7, 2) := by decide +kernel
theorem dD_known_143 : decode cD_known 143 = .ok (.iload 7, 2) := by decide +kernel
theorem dD_known_145 : decode cD_known 145 = .ok (.aload_n 0, 1) := by decide +kernel
theorem dD_known_146 : decode cD_known 146 = .ok (.getfield 66, 3) := by decide +kernel
theorem dD_known_149 : decode cD_known 149 = .ok (.if_icmp .ge 33, 3) := by decide +kernel
theorem dD_known_152 : decode cD_known 152 = .ok (.aload_n 0, 1) := by decide +kernel
theorem dD_known_153 : decode cD_known 153 = .ok (.getfield 16, 3) := by decide +kernel
theorem dD_known_156 : decode cD_known 156 = .ok (.iload 7, 2) := by decide +kernel
theorem dD_known_158 : decode cD_known 158 = .ok (.aload_n 0, 1) := by decide +kernel
theorem dD_known_159 : decode cD_known 159 = .ok (.getfield 26, 3) := by decide +kernel
theorem dD_known_162 : decode cD_known 162 = .ok (.bipush 48, 2) := by decide +kernel
theorem dD_known_164 : decode cD_known 164 = .ok (.aload_n 0, 1) := by decide +kernel
theorem dD_known_165 : decode cD_known 165 = .ok (.getfield 48, 3) := by decide +kernel
theorem dD_known_168 : decode cD_known 168 = .ok (.iconst 1, 1) := by decide +kernel
theorem dD_known_169 : decode cD_known 169 = .ok (.isub, 1) := by decide +kernel
theorem dD_known_170 : decode cD_known 170 = .ok (.imul, 1) := by decide +kernel
theorem dD_known_171 : decode cD_known 171 = .ok (.iload 7, 2) := by decide +kernel
theorem dD_known_173 : decode cD_known 173 = .ok (.iadd, 1) := by decide +kernel
theorem dD_known_174 : decode cD_known 174 = .ok (.iaload, 1) := by decide +kernel
theorem dD_known_175 : decode cD_known 175 = .ok (.iastore, 1) := by decide +kernel
theorem dD_known_176 : decode cD_known 176 = .ok (.iinc 7 1, 3) := by decide +kernel
theorem dD_known_179 : decode cD_known 179 = .ok (.goto (-36), 3) := by decide +kernel
theorem dD_known_182 : decode cD_known 182 = .ok (.iload 6, 2) := by decide +kernel
theorem dD_known_184 : decode cD_known 184 = .ok (.ireturn, 1) := by decide +kernel
theorem dD_count_0 : decode cD_count 0 = .ok (.aload_n 0, 1) := by decide +kernel
theorem dD_count_1 : decode cD_count 1 = .ok (.iconst 0, 1) := by decide +kernel
theorem dD_count_2 : decode cD_count 2 = .ok (.putfield 35, 3) := by decide +kernel
theorem dD_count_5 : decode cD_count 5 = .ok (.iload_n 1, 1) := by decide +kernel
theorem dD_count_6 : decode cD_count 6 = .ok (.tableswitch 104 0 9 #[54, 59, 64, 69, 74, 79, 84, 89, 94, 99], 54) := by decide +kernel
theorem dD_count_60 : decode cD_count 60 = .ok (.aload_n 0, 1) := by decide +kernel
theorem dD_count_61 : decode cD_count 61 = .ok (.getfield 38, 3) := by decide +kernel
theorem dD_count_64 : decode cD_count 64 = .ok (.ireturn, 1) := by decide +kernel
theorem dD_count_65 : decode cD_count 65 = .ok (.aload_n 0, 1) := by decide +kernel
theorem dD_count_66 : decode cD_count 66 = .ok (.getfield 41, 3) := by decide +kernel
theorem dD_count_69 : decode cD_count 69 = .ok (.ireturn, 1) := by decide +kernel
theorem dD_count_70 : decode cD_count 70 = .ok (.aload_n 0, 1) := by decide +kernel
theorem dD_count_71 : decode cD_count 71 = .ok (.getfield 48, 3) := by decide +kernel
theorem dD_count_74 : decode cD_count 74 = .ok (.ireturn, 1) := by decide +kernel
theorem dD_count_75 : decode cD_count 75 = .ok (.aload_n 0, 1) := by decide +kernel
theorem dD_count_76 : decode cD_count 76 = .ok (.getfield 51, 3) := by decide +kernel
theorem dD_count_79 : decode cD_count 79 = .ok (.ireturn, 1) := by decide +kernel
theorem dD_count_80 : decode cD_count 80 = .ok (.aload_n 0, 1) := by decide +kernel
theorem dD_count_81 : decode cD_count 81 = .ok (.getfield 54, 3) := by decide +kernel
theorem dD_count_84 : decode cD_count 84 = .ok (.ireturn, 1) := by decide +kernel
theorem dD_count_85 : decode cD_count 85 = .ok (.aload_n 0, 1) := by decide +kernel
theorem dD_count_86 : decode cD_count 86 = .ok (.getfield 57, 3) := by decide +kernel
theorem dD_count_89 : decode cD_count 89 = .ok (.ireturn, 1) := by decide +kernel
theorem dD_count_90 : decode cD_count 90 = .ok (.aload_n 0, 1) := by decide +kernel
theorem dD_count_91 : decode cD_count 91 = .ok (.getfield 60, 3) := by decide +kernel
theorem dD_count_94 : decode cD_count 94 = .ok (.ireturn, 1) := by decide +kernel
theorem dD_count_95 : decode cD_count 95 = .ok (.aload_n 0, 1) := by decide +kernel
theorem dD_count_96 : decode cD_count 96 = .ok (.getfield 32, 3) := by decide +kernel
theorem dD_count_99 : decode cD_count 99 = .ok (.ireturn, 1) := by decide +kernel
theorem dD_count_100 : decode cD_count 100 = .ok (.aload_n 0, 1) := by decide +kernel
theorem dD_count_101 : decode cD_count 101 = .ok (.getfield 19, 3) := by decide +kernel
theorem dD_count_104 : decode cD_count 104 = .ok (.ireturn, 1) := by decide +kernel
theorem dD_count_105 : decode cD_count 105 = .ok (.aload_n 0, 1) := by decide +kernel
theorem dD_count_106 : decode cD_count 106 = .ok (.getfield 63, 3) := by decide +kernel
theorem dD_count_109 : decode cD_count 109 = .ok (.ireturn, 1) := by decide +kernel
theorem dD_count_110 : decode cD_count 110 = .ok (.iconst (-1), 1) := by decide +kernel
theorem dD_count_111 : decode cD_count 111 = .ok (.ireturn, 1) := by decide +kernel
theorem dL_cell_0 : decode cL_cell 0 = .ok (.iload_n 1, 1) := by decide +kernel
theorem dL_cell_1 : decode cL_cell 1 = .ok (.aload_n 0, 1) := by decide +kernel
theorem dL_cell_2 : decode cL_cell 2 = .ok (.arraylength, 1) := by decide +kernel
theorem dL_cell_3 : decode cL_cell 3 = .ok (.if_icmp .ge 9, 3) := by decide +kernel
theorem dL_cell_6 : decode cL_cell 6 = .ok (.aload_n 0, 1) := by decide +kernel
theorem dL_cell_7 : decode cL_cell 7 = .ok (.iload_n 1, 1) := by decide +kernel
theorem dL_cell_8 : decode cL_cell 8 = .ok (.iaload, 1) := by decide +kernel
theorem dL_cell_9 : decode cL_cell 9 = .ok (.goto 4, 3) := by decide +kernel
theorem dL_cell_12 : decode cL_cell 12 = .ok (.iconst 0, 1) := by decide +kernel
theorem dL_cell_13 : decode cL_cell 13 = .ok (.ireturn, 1) := by decide +kernel
theorem dL_feed_0 : decode cL_feed 0 = .ok (.aload_n 2, 1) := by decide +kernel
theorem dL_feed_1 : decode cL_feed 1 = .ok (.iconst 0, 1) := by decide +kernel
theorem dL_feed_2 : decode cL_feed 2 = .ok (.aload_n 0, 1) := by decide +kernel
theorem dL_feed_3 : decode cL_feed 3 = .ok (.iload_n 1, 1) := by decide +kernel
theorem dL_feed_4 : decode cL_feed 4 = .ok (.invokevirtual 7, 3) := by decide +kernel
theorem dL_feed_7 : decode cL_feed 7 = .ok (.i2l, 1) := by decide +kernel
theorem dL_feed_8 : decode cL_feed 8 = .ok (.lastore, 1) := by decide +kernel
theorem dL_feed_9 : decode cL_feed 9 = .ok (.goto 6, 3) := by decide +kernel
theorem dL_feed_12 : decode cL_feed 12 = .ok (.astore_n 3, 1) := by decide +kernel
theorem dL_feed_13 : decode cL_feed 13 = .ok (.iconst 1, 1) := by decide +kernel
theorem dL_feed_14 : decode cL_feed 14 = .ok (.ireturn, 1) := by decide +kernel
theorem dL_feed_15 : decode cL_feed 15 = .ok (.iconst 0, 1) := by decide +kernel
theorem dL_feed_16 : decode cL_feed 16 = .ok (.ireturn, 1) := by decide +kernel
theorem dL_begin_0 : decode cL_begin 0 = .ok (.aload_n 0, 1) := by decide +kernel
theorem dL_begin_1 : decode cL_begin 1 = .ok (.invokevirtual 15, 3) := by decide +kernel
theorem dL_begin_4 : decode cL_begin 4 = .ok (.goto 6, 3) := by decide +kernel
theorem dL_begin_7 : decode cL_begin 7 = .ok (.astore_n 1, 1) := by decide +kernel
theorem dL_begin_8 : decode cL_begin 8 = .ok (.iconst 1, 1) := by decide +kernel
theorem dL_begin_9 : decode cL_begin 9 = .ok (.ireturn, 1) := by decide +kernel
theorem dL_begin_10 : decode cL_begin 10 = .ok (.iconst 0, 1) := by decide +kernel
theorem dL_begin_11 : decode cL_begin 11 = .ok (.ireturn, 1) := by decide +kernel
theorem dL_asked_0 : decode cL_asked 0 = .ok (.aload_n 2, 1) := by decide +kernel
theorem dL_asked_1 : decode cL_asked 1 = .ok (.iconst 0, 1) := by decide +kernel
theorem dL_asked_2 : decode cL_asked 2 = .ok (.aload_n 0, 1) := by decide +kernel
theorem dL_asked_3 : decode cL_asked 3 = .ok (.iload_n 1, 1) := by decide +kernel
theorem dL_asked_4 : decode cL_asked 4 = .ok (.invokevirtual 20, 3) := by decide +kernel
theorem dL_asked_7 : decode cL_asked 7 = .ok (.i2l, 1) := by decide +kernel
theorem dL_asked_8 : decode cL_asked 8 = .ok (.lastore, 1) := by decide +kernel
theorem dL_asked_9 : decode cL_asked 9 = .ok (.goto 9, 3) := by decide +kernel
theorem dL_asked_12 : decode cL_asked 12 = .ok (.astore_n 3, 1) := by decide +kernel
theorem dL_asked_13 : decode cL_asked 13 = .ok (.iconst 1, 1) := by decide +kernel
theorem dL_asked_14 : decode cL_asked 14 = .ok (.ireturn, 1) := by decide +kernel
theorem dL_asked_15 : decode cL_asked 15 = .ok (.astore_n 3, 1) := by decide +kernel
theorem dL_asked_16 : decode cL_asked 16 = .ok (.iconst 2, 1) := by decide +kernel
theorem dL_asked_17 : decode cL_asked 17 = .ok (.ireturn, 1) := by decide +kernel
theorem dL_asked_18 : decode cL_asked 18 = .ok (.iconst 0, 1) := by decide +kernel
theorem dL_asked_19 : decode cL_asked 19 = .ok (.ireturn, 1) := by decide +kernel
theorem dL_size_0 : decode cL_size 0 = .ok (.aload_n 1, 1) := by decide +kernel
theorem dL_size_1 : decode cL_size 1 = .ok (.iconst 0, 1) := by decide +kernel
theorem dL_size_2 : decode cL_size 2 = .ok (.aload_n 0, 1) := by decide +kernel
theorem dL_size_3 : decode cL_size 3 = .ok (.invokevirtual 25, 3) := by decide +kernel
theorem dL_size_6 : decode cL_size 6 = .ok (.i2l, 1) := by decide +kernel
theorem dL_size_7 : decode cL_size 7 = .ok (.lastore, 1) := by decide +kernel
theorem dL_size_8 : decode cL_size 8 = .ok (.goto 6, 3) := by decide +kernel
theorem dL_size_11 : decode cL_size 11 = .ok (.astore_n 2, 1) := by decide +kernel
theorem dL_size_12 : decode cL_size 12 = .ok (.iconst 1, 1) := by decide +kernel
theorem dL_size_13 : decode cL_size 13 = .ok (.ireturn, 1) := by decide +kernel
theorem dL_size_14 : decode cL_size 14 = .ok (.iconst 0, 1) := by decide +kernel
theorem dL_size_15 : decode cL_size 15 = .ok (.ireturn, 1) := by decide +kernel
theorem dL_judge_0 : decode cL_judge 0 = .ok (.aload_n 2, 1) := by decide +kernel
theorem dL_judge_1 : decode cL_judge 1 = .ok (.iconst 0, 1) := by decide +kernel
theorem dL_judge_2 : decode cL_judge 2 = .ok (.aload_n 0, 1) := by decide +kernel
theorem dL_judge_3 : decode cL_judge 3 = .ok (.iload_n 1, 1) := by decide +kernel
theorem dL_judge_4 : decode cL_judge 4 = .ok (.invokevirtual 29, 3) := by decide +kernel
theorem dL_judge_7 : decode cL_judge 7 = .ok (.i2l, 1) := by decide +kernel
theorem dL_judge_8 : decode cL_judge 8 = .ok (.lastore, 1) := by decide +kernel
theorem dL_judge_9 : decode cL_judge 9 = .ok (.goto 9, 3) := by decide +kernel
theorem dL_judge_12 : decode cL_judge 12 = .ok (.astore_n 3, 1) := by decide +kernel
theorem dL_judge_13 : decode cL_judge 13 = .ok (.iconst 1, 1) := by decide +kernel
theorem dL_judge_14 : decode cL_judge 14 = .ok (.ireturn, 1) := by decide +kernel
theorem dL_judge_15 : decode cL_judge 15 = .ok (.astore_n 3, 1) := by decide +kernel
theorem dL_judge_16 : decode cL_judge 16 = .ok (.iconst 2, 1) := by decide +kernel
theorem dL_judge_17 : decode cL_judge 17 = .ok (.ireturn, 1) := by decide +kernel
theorem dL_judge_18 : decode cL_judge 18 = .ok (.iconst 0, 1) := by decide +kernel
theorem dL_judge_19 : decode cL_judge 19 = .ok (.ireturn, 1) := by decide +kernel
theorem dL_at_0 : decode cL_at 0 = .ok (.aload_n 2, 1) := by decide +kernel
theorem dL_at_1 : decode cL_at 1 = .ok (.iconst 0, 1) := by decide +kernel
theorem dL_at_2 : decode cL_at 2 = .ok (.aload_n 0, 1) := by decide +kernel
theorem dL_at_3 : decode cL_at 3 = .ok (.iload_n 1, 1) := by decide +kernel
theorem dL_at_4 : decode cL_at 4 = .ok (.invokevirtual 34, 3) := by decide +kernel
theorem dL_at_7 : decode cL_at 7 = .ok (.i2l, 1) := by decide +kernel
theorem dL_at_8 : decode cL_at 8 = .ok (.lastore, 1) := by decide +kernel
theorem dL_at_9 : decode cL_at 9 = .ok (.goto 6, 3) := by decide +kernel
theorem dL_at_12 : decode cL_at 12 = .ok (.astore_n 3, 1) := by decide +kernel
theorem dL_at_13 : decode cL_at 13 = .ok (.iconst 1, 1) := by decide +kernel
theorem dL_at_14 : decode cL_at 14 = .ok (.ireturn, 1) := by decide +kernel
theorem dL_at_15 : decode cL_at 15 = .ok (.iconst 0, 1) := by decide +kernel
theorem dL_at_16 : decode cL_at 16 = .ok (.ireturn, 1) := by decide +kernel
theorem dL_from_0 : decode cL_from 0 = .ok (.aload_n 2, 1) := by decide +kernel
theorem dL_from_1 : decode cL_from 1 = .ok (.iconst 0, 1) := by decide +kernel
theorem dL_from_2 : decode cL_from 2 = .ok (.aload_n 0, 1) := by decide +kernel
theorem dL_from_3 : decode cL_from 3 = .ok (.iload_n 1, 1) := by decide +kernel
theorem dL_from_4 : decode cL_from 4 = .ok (.invokevirtual 37, 3) := by decide +kernel
theorem dL_from_7 : decode cL_from 7 = .ok (.i2l, 1) := by decide +kernel
theorem dL_from_8 : decode cL_from 8 = .ok (.lastore, 1) := by decide +kernel
theorem dL_from_9 : decode cL_from 9 = .ok (.goto 6, 3) := by decide +kernel
theorem dL_from_12 : decode cL_from 12 = .ok (.astore_n 3, 1) := by decide +kernel
theorem dL_from_13 : decode cL_from 13 = .ok (.iconst 1, 1) := by decide +kernel
theorem dL_from_14 : decode cL_from 14 = .ok (.ireturn, 1) := by decide +kernel
theorem dL_from_15 : decode cL_from 15 = .ok (.iconst 0, 1) := by decide +kernel
theorem dL_from_16 : decode cL_from 16 = .ok (.ireturn, 1) := by decide +kernel
theorem dL_known_0 : decode cL_known 0 = .ok (.aload 5, 2) := by decide +kernel
theorem dL_known_2 : decode cL_known 2 = .ok (.iconst 0, 1) := by decide +kernel
theorem dL_known_3 : decode cL_known 3 = .ok (.aload_n 0, 1) := by decide +kernel
theorem dL_known_4 : decode cL_known 4 = .ok (.iload_n 1, 1) := by decide +kernel
theorem dL_known_5 : decode cL_known 5 = .ok (.iload_n 2, 1) := by decide +kernel
theorem dL_known_6 : decode cL_known 6 = .ok (.iload_n 3, 1) := by decide +kernel
theorem dL_known_7 : decode cL_known 7 = .ok (.iload 4, 2) := by decide +kernel
theorem dL_known_9 : decode cL_known 9 = .ok (.invokevirtual 40, 3) := by decide +kernel
theorem dL_known_12 : decode cL_known 12 = .ok (.i2l, 1) := by decide +kernel
theorem dL_known_13 : decode cL_known 13 = .ok (.lastore, 1) := by decide +kernel
theorem dL_known_14 : decode cL_known 14 = .ok (.goto 11, 3) := by decide +kernel
theorem dL_known_17 : decode cL_known 17 = .ok (.astore 6, 2) := by decide +kernel
theorem dL_known_19 : decode cL_known 19 = .ok (.iconst 1, 1) := by decide +kernel
theorem dL_known_20 : decode cL_known 20 = .ok (.ireturn, 1) := by decide +kernel
theorem dL_known_21 : decode cL_known 21 = .ok (.astore 6, 2) := by decide +kernel
theorem dL_known_23 : decode cL_known 23 = .ok (.iconst 2, 1) := by decide +kernel
theorem dL_known_24 : decode cL_known 24 = .ok (.ireturn, 1) := by decide +kernel
theorem dL_known_25 : decode cL_known 25 = .ok (.iconst 0, 1) := by decide +kernel
theorem dL_known_26 : decode cL_known 26 = .ok (.ireturn, 1) := by decide +kernel
theorem dL_law_0 : decode cL_law 0 = .ok (.new 8, 3) := by decide +kernel
theorem dL_law_3 : decode cL_law 3 = .ok (.dup, 1) := by decide +kernel
theorem dL_law_4 : decode cL_law 4 = .ok (.aload_n 0, 1) := by decide +kernel
theorem dL_law_5 : decode cL_law 5 = .ok (.iconst 0, 1) := by decide +kernel
theorem dL_law_6 : decode cL_law 6 = .ok (.invokestatic 44, 3) := by decide +kernel
theorem dL_law_9 : decode cL_law 9 = .ok (.invokespecial 50, 3) := by decide +kernel
theorem dL_law_12 : decode cL_law 12 = .ok (.astore_n 1, 1) := by decide +kernel
theorem dL_law_13 : decode cL_law 13 = .ok (.new 53, 3) := by decide +kernel
theorem dL_law_16 : decode cL_law 16 = .ok (.dup, 1) := by decide +kernel
theorem dL_law_17 : decode cL_law 17 = .ok (.aload_n 0, 1) := by decide +kernel
theorem dL_law_18 : decode cL_law 18 = .ok (.iconst 0, 1) := by decide +kernel
theorem dL_law_19 : decode cL_law 19 = .ok (.invokestatic 44, 3) := by decide +kernel
theorem dL_law_22 : decode cL_law 22 = .ok (.invokespecial 55, 3) := by decide +kernel
theorem dL_law_25 : decode cL_law 25 = .ok (.astore_n 2, 1) := by decide +kernel
theorem dL_law_26 : decode cL_law 26 = .ok (.iconst 1, 1) := by decide +kernel
theorem dL_law_27 : decode cL_law 27 = .ok (.newarray .long, 2) := by decide +kernel
theorem dL_law_29 : decode cL_law 29 = .ok (.astore_n 3, 1) := by decide +kernel
theorem dL_law_30 : decode cL_law 30 = .ok (.iconst 1, 1) := by decide +kernel
theorem dL_law_31 : decode cL_law 31 = .ok (.istore 4, 2) := by decide +kernel
theorem dL_law_33 : decode cL_law 33 = .ok (.iload 4, 2) := by decide +kernel
theorem dL_law_35 : decode cL_law 35 = .ok (.aload_n 0, 1) := by decide +kernel
theorem dL_law_36 : decode cL_law 36 = .ok (.arraylength, 1) := by decide +kernel
theorem dL_law_37 : decode cL_law 37 = .ok (.iconst 5, 1) := by decide +kernel
theorem dL_law_38 : decode cL_law 38 = .ok (.isub, 1) := by decide +kernel
theorem dL_law_39 : decode cL_law 39 = .ok (.if_icmp .gt 532, 3) := by decide +kernel
theorem dL_law_42 : decode cL_law 42 = .ok (.aload_n 0, 1) := by decide +kernel
theorem dL_law_43 : decode cL_law 43 = .ok (.iload 4, 2) := by decide +kernel
theorem dL_law_45 : decode cL_law 45 = .ok (.iaload, 1) := by decide +kernel
theorem dL_law_46 : decode cL_law 46 = .ok (.bipush 15, 2) := by decide +kernel
theorem dL_law_48 : decode cL_law 48 = .ok (.iand, 1) := by decide +kernel
theorem dL_law_49 : decode cL_law 49 = .ok (.tableswitch 516 0 8 #[51, 107, 131, 187, 231, 287, 343, 399, 491], 51) := by decide +kernel
theorem dL_law_100 : decode cL_law 100 = .ok (.aload_n 1, 1) := by decide +kernel
theorem dL_law_101 : decode cL_law 101 = .ok (.aload_n 0, 1) := by decide +kernel
theorem dL_law_102 : decode cL_law 102 = .ok (.iload 4, 2) := by decide +kernel
theorem dL_law_104 : decode cL_law 104 = .ok (.iconst 1, 1) := by decide +kernel
theorem dL_law_105 : decode cL_law 105 = .ok (.iadd, 1) := by decide +kernel
theorem dL_law_106 : decode cL_law 106 = .ok (.iaload, 1) := by decide +kernel
theorem dL_law_107 : decode cL_law 107 = .ok (.aload_n 3, 1) := by decide +kernel
theorem dL_law_108 : decode cL_law 108 = .ok (.invokestatic 56, 3) := by decide +kernel
theorem dL_law_111 : decode cL_law 111 = .ok (.istore 5, 2) := by decide +kernel
theorem dL_law_113 : decode cL_law 113 = .ok (.aload_n 2, 1) := by decide +kernel
theorem dL_law_114 : decode cL_law 114 = .ok (.aload_n 0, 1) := by decide +kernel
theorem dL_law_115 : decode cL_law 115 = .ok (.iload 4, 2) := by decide +kernel
theorem dL_law_117 : decode cL_law 117 = .ok (.iconst 1, 1) := by decide +kernel
theorem dL_law_118 : decode cL_law 118 = .ok (.iadd, 1) := by decide +kernel
theorem dL_law_119 : decode cL_law 119 = .ok (.iaload, 1) := by decide +kernel
theorem dL_law_120 : decode cL_law 120 = .ok (.invokevirtual 59, 3) := by decide +kernel
theorem dL_law_123 : decode cL_law 123 = .ok (.istore 6, 2) := by decide +kernel
theorem dL_law_125 : decode cL_law 125 = .ok (.aload_n 2, 1) := by decide +kernel
theorem dL_law_126 : decode cL_law 126 = .ok (.invokevirtual 60, 3) := by decide +kernel
theorem dL_law_129 : decode cL_law 129 = .ok (.iload 5, 2) := by decide +kernel
theorem dL_law_131 : decode cL_law 131 = .ok (.if_icmp .eq 5, 3) := by decide +kernel
theorem dL_law_134 : decode cL_law 134 = .ok (.iconst 0, 1) := by decide +kernel
theorem dL_law_135 : decode cL_law 135 = .ok (.ireturn, 1) := by decide +kernel
theorem dL_law_136 : decode cL_law 136 = .ok (.iload 5, 2) := by decide +kernel
theorem dL_law_138 : decode cL_law 138 = .ok (.ifCond .ne 15, 3) := by decide +kernel
theorem dL_law_141 : decode cL_law 141 = .ok (.aload_n 3, 1) := by decide +kernel
theorem dL_law_142 : decode cL_law 142 = .ok (.iconst 0, 1) := by decide +kernel
theorem dL_law_143 : decode cL_law 143 = .ok (.laload, 1) := by decide +kernel
theorem dL_law_144 : decode cL_law 144 = .ok (.iload 6, 2) := by decide +kernel
theorem dL_law_146 : decode cL_law 146 = .ok (.i2l, 1) := by decide +kernel
theorem dL_law_147 : decode cL_law 147 = .ok (.lcmp, 1) := by decide +kernel
theorem dL_law_148 : decode cL_law 148 = .ok (.ifCond .eq 5, 3) := by decide +kernel
theorem dL_law_151 : decode cL_law 151 = .ok (.iconst 0, 1) := by decide +kernel
theorem dL_law_152 : decode cL_law 152 = .ok (.ireturn, 1) := by decide +kernel
theorem dL_law_153 : decode cL_law 153 = .ok (.goto 412, 3) := by decide +kernel
theorem dL_law_156 : decode cL_law 156 = .ok (.aload_n 1, 1) := by decide +kernel
theorem dL_law_157 : decode cL_law 157 = .ok (.invokestatic 63, 3) := by decide +kernel
theorem dL_law_160 : decode cL_law 160 = .ok (.istore 5, 2) := by decide +kernel
theorem dL_law_162 : decode cL_law 162 = .ok (.aload_n 2, 1) := by decide +kernel
theorem dL_law_163 : decode cL_law 163 = .ok (.invokevirtual 66, 3) := by decide +kernel
theorem dL_law_166 : decode cL_law 166 = .ok (.aload_n 2, 1) := by decide +kernel
theorem dL_law_167 : decode cL_law 167 = .ok (.invokevirtual 60, 3) := by decide +kernel
theorem dL_law_170 : decode cL_law 170 = .ok (.iload 5, 2) := by decide +kernel
theorem dL_law_172 : decode cL_law 172 = .ok (.if_icmp .eq 5, 3) := by decide +kernel
theorem dL_law_175 : decode cL_law 175 = .ok (.iconst 0, 1) := by decide +kernel
theorem dL_law_176 : decode cL_law 176 = .ok (.ireturn, 1) := by decide +kernel
theorem dL_law_177 : decode cL_law 177 = .ok (.goto 388, 3) := by decide +kernel
theorem dL_law_180 : decode cL_law 180 = .ok (.aload_n 1, 1) := by decide +kernel
theorem dL_law_181 : decode cL_law 181 = .ok (.aload_n 0, 1) := by decide +kernel
theorem dL_law_182 : decode cL_law 182 = .ok (.iload 4, 2) := by decide +kernel
theorem dL_law_184 : decode cL_law 184 = .ok (.iconst 1, 1) := by decide +kernel
theorem dL_law_185 : decode cL_law 185 = .ok (.iadd, 1) := by decide +kernel
theorem dL_law_186 : decode cL_law 186 = .ok (.iaload, 1) := by decide +kernel
theorem dL_law_187 : decode cL_law 187 = .ok (.aload_n 3, 1) := by decide +kernel
theorem dL_law_188 : decode cL_law 188 = .ok (.invokestatic 67, 3) := by decide +kernel
theorem dL_law_191 : decode cL_law 191 = .ok (.istore 5, 2) := by decide +kernel
theorem dL_law_193 : decode cL_law 193 = .ok (.aload_n 2, 1) := by decide +kernel
theorem dL_law_194 : decode cL_law 194 = .ok (.aload_n 0, 1) := by decide +kernel
theorem dL_law_195 : decode cL_law 195 = .ok (.iload 4, 2) := by decide +kernel
theorem dL_law_197 : decode cL_law 197 = .ok (.iconst 1, 1) := by decide +kernel
theorem dL_law_198 : decode cL_law 198 = .ok (.iadd, 1) := by decide +kernel
theorem dL_law_199 : decode cL_law 199 = .ok (.iaload, 1) := by decide +kernel
theorem dL_law_200 : decode cL_law 200 = .ok (.invokevirtual 69, 3) := by decide +kernel
theorem dL_law_203 : decode cL_law 203 = .ok (.istore 6, 2) := by decide +kernel
theorem dL_law_205 : decode cL_law 205 = .ok (.aload_n 2, 1) := by decide +kernel
theorem dL_law_206 : decode cL_law 206 = .ok (.invokevirtual 60, 3) := by decide +kernel
theorem dL_law_209 : decode cL_law 209 = .ok (.iload 5, 2) := by decide +kernel
theorem dL_law_211 : decode cL_law 211 = .ok (.if_icmp .eq 5, 3) := by decide +kernel
theorem dL_law_214 : decode cL_law 214 = .ok (.iconst 0, 1) := by decide +kernel
theorem dL_law_215 : decode cL_law 215 = .ok (.ireturn, 1) := by decide +kernel
theorem dL_law_216 : decode cL_law 216 = .ok (.iload 5, 2) := by decide +kernel
theorem dL_law_218 : decode cL_law 218 = .ok (.ifCond .ne 15, 3) := by decide +kernel
theorem dL_law_221 : decode cL_law 221 = .ok (.aload_n 3, 1) := by decide +kernel
theorem dL_law_222 : decode cL_law 222 = .ok (.iconst 0, 1) := by decide +kernel
theorem dL_law_223 : decode cL_law 223 = .ok (.laload, 1) := by decide +kernel
theorem dL_law_224 : decode cL_law 224 = .ok (.iload 6, 2) := by decide +kernel
theorem dL_law_226 : decode cL_law 226 = .ok (.i2l, 1) := by decide +kernel
theorem dL_law_227 : decode cL_law 227 = .ok (.lcmp, 1) := by decide +kernel
theorem dL_law_228 : decode cL_law 228 = .ok (.ifCond .eq 5, 3) := by decide +kernel
theorem dL_law_231 : decode cL_law 231 = .ok (.iconst 0, 1) := by decide +kernel
theorem dL_law_232 : decode cL_law 232 = .ok (.ireturn, 1) := by decide +kernel
theorem dL_law_233 : decode cL_law 233 = .ok (.goto 332, 3) := by decide +kernel
theorem dL_law_236 : decode cL_law 236 = .ok (.aload_n 1, 1) := by decide +kernel
theorem dL_law_237 : decode cL_law 237 = .ok (.aload_n 3, 1) := by decide +kernel
theorem dL_law_238 : decode cL_law 238 = .ok (.invokestatic 70, 3) := by decide +kernel
theorem dL_law_241 : decode cL_law 241 = .ok (.istore 5, 2) := by decide +kernel
theorem dL_law_243 : decode cL_law 243 = .ok (.aload_n 2, 1) := by decide +kernel
theorem dL_law_244 : decode cL_law 244 = .ok (.invokevirtual 73, 3) := by decide +kernel
theorem dL_law_247 : decode cL_law 247 = .ok (.istore 6, 2) := by decide +kernel
theorem dL_law_249 : decode cL_law 249 = .ok (.aload_n 2, 1) := by decide +kernel
theorem dL_law_250 : decode cL_law 250 = .ok (.invokevirtual 60, 3) := by decide +kernel
theorem dL_law_253 : decode cL_law 253 = .ok (.iload 5, 2) := by decide +kernel
theorem dL_law_255 : decode cL_law 255 = .ok (.if_icmp .eq 5, 3) := by decide +kernel
theorem dL_law_258 : decode cL_law 258 = .ok (.iconst 0, 1) := by decide +kernel
theorem dL_law_259 : decode cL_law 259 = .ok (.ireturn, 1) := by decide +kernel
theorem dL_law_260 : decode cL_law 260 = .ok (.iload 5, 2) := by decide +kernel
theorem dL_law_262 : decode cL_law 262 = .ok (.ifCond .ne 15, 3) := by decide +kernel
theorem dL_law_265 : decode cL_law 265 = .ok (.aload_n 3, 1) := by decide +kernel
theorem dL_law_266 : decode cL_law 266 = .ok (.iconst 0, 1) := by decide +kernel
theorem dL_law_267 : decode cL_law 267 = .ok (.laload, 1) := by decide +kernel
theorem dL_law_268 : decode cL_law 268 = .ok (.iload 6, 2) := by decide +kernel
theorem dL_law_270 : decode cL_law 270 = .ok (.i2l, 1) := by decide +kernel
theorem dL_law_271 : decode cL_law 271 = .ok (.lcmp, 1) := by decide +kernel
theorem dL_law_272 : decode cL_law 272 = .ok (.ifCond .eq 5, 3) := by decide +kernel
theorem dL_law_275 : decode cL_law 275 = .ok (.iconst 0, 1) := by decide +kernel
theorem dL_law_276 : decode cL_law 276 = .ok (.ireturn, 1) := by decide +kernel
theorem dL_law_277 : decode cL_law 277 = .ok (.goto 288, 3) := by decide +kernel
theorem dL_law_280 : decode cL_law 280 = .ok (.aload_n 1, 1) := by decide +kernel
theorem dL_law_281 : decode cL_law 281 = .ok (.aload_n 0, 1) := by decide +kernel
theorem dL_law_282 : decode cL_law 282 = .ok (.iload 4, 2) := by decide +kernel
theorem dL_law_284 : decode cL_law 284 = .ok (.iconst 1, 1) := by decide +kernel
theorem dL_law_285 : decode cL_law 285 = .ok (.iadd, 1) := by decide +kernel
theorem dL_law_286 : decode cL_law 286 = .ok (.iaload, 1) := by decide +kernel
theorem dL_law_287 : decode cL_law 287 = .ok (.aload_n 3, 1) := by decide +kernel
theorem dL_law_288 : decode cL_law 288 = .ok (.invokestatic 74, 3) := by decide +kernel
theorem dL_law_291 : decode cL_law 291 = .ok (.istore 5, 2) := by decide +kernel
theorem dL_law_293 : decode cL_law 293 = .ok (.aload_n 2, 1) := by decide +kernel
theorem dL_law_294 : decode cL_law 294 = .ok (.aload_n 0, 1) := by decide +kernel
theorem dL_law_295 : decode cL_law 295 = .ok (.iload 4, 2) := by decide +kernel
theorem dL_law_297 : decode cL_law 297 = .ok (.iconst 1, 1) := by decide +kernel
theorem dL_law_298 : decode cL_law 298 = .ok (.iadd, 1) := by decide +kernel
theorem dL_law_299 : decode cL_law 299 = .ok (.iaload, 1) := by decide +kernel
theorem dL_law_300 : decode cL_law 300 = .ok (.invokevirtual 76, 3) := by decide +kernel
theorem dL_law_303 : decode cL_law 303 = .ok (.istore 6, 2) := by decide +kernel
theorem dL_law_305 : decode cL_law 305 = .ok (.aload_n 2, 1) := by decide +kernel
theorem dL_law_306 : decode cL_law 306 = .ok (.invokevirtual 60, 3) := by decide +kernel
theorem dL_law_309 : decode cL_law 309 = .ok (.iload 5, 2) := by decide +kernel
theorem dL_law_311 : decode cL_law 311 = .ok (.if_icmp .eq 5, 3) := by decide +kernel
theorem dL_law_314 : decode cL_law 314 = .ok (.iconst 0, 1) := by decide +kernel
theorem dL_law_315 : decode cL_law 315 = .ok (.ireturn, 1) := by decide +kernel
theorem dL_law_316 : decode cL_law 316 = .ok (.iload 5, 2) := by decide +kernel
theorem dL_law_318 : decode cL_law 318 = .ok (.ifCond .ne 15, 3) := by decide +kernel
theorem dL_law_321 : decode cL_law 321 = .ok (.aload_n 3, 1) := by decide +kernel
theorem dL_law_322 : decode cL_law 322 = .ok (.iconst 0, 1) := by decide +kernel
theorem dL_law_323 : decode cL_law 323 = .ok (.laload, 1) := by decide +kernel
theorem dL_law_324 : decode cL_law 324 = .ok (.iload 6, 2) := by decide +kernel
theorem dL_law_326 : decode cL_law 326 = .ok (.i2l, 1) := by decide +kernel
theorem dL_law_327 : decode cL_law 327 = .ok (.lcmp, 1) := by decide +kernel
theorem dL_law_328 : decode cL_law 328 = .ok (.ifCond .eq 5, 3) := by decide +kernel
theorem dL_law_331 : decode cL_law 331 = .ok (.iconst 0, 1) := by decide +kernel
theorem dL_law_332 : decode cL_law 332 = .ok (.ireturn, 1) := by decide +kernel
theorem dL_law_333 : decode cL_law 333 = .ok (.goto 232, 3) := by decide +kernel
theorem dL_law_336 : decode cL_law 336 = .ok (.aload_n 1, 1) := by decide +kernel
theorem dL_law_337 : decode cL_law 337 = .ok (.aload_n 0, 1) := by decide +kernel
theorem dL_law_338 : decode cL_law 338 = .ok (.iload 4, 2) := by decide +kernel
theorem dL_law_340 : decode cL_law 340 = .ok (.iconst 1, 1) := by decide +kernel
theorem dL_law_341 : decode cL_law 341 = .ok (.iadd, 1) := by decide +kernel
theorem dL_law_342 : decode cL_law 342 = .ok (.iaload, 1) := by decide +kernel
theorem dL_law_343 : decode cL_law 343 = .ok (.aload_n 3, 1) := by decide +kernel
theorem dL_law_344 : decode cL_law 344 = .ok (.invokestatic 77, 3) := by decide +kernel
theorem dL_law_347 : decode cL_law 347 = .ok (.istore 5, 2) := by decide +kernel
theorem dL_law_349 : decode cL_law 349 = .ok (.aload_n 2, 1) := by decide +kernel
theorem dL_law_350 : decode cL_law 350 = .ok (.aload_n 0, 1) := by decide +kernel
theorem dL_law_351 : decode cL_law 351 = .ok (.iload 4, 2) := by decide +kernel
theorem dL_law_353 : decode cL_law 353 = .ok (.iconst 1, 1) := by decide +kernel
theorem dL_law_354 : decode cL_law 354 = .ok (.iadd, 1) := by decide +kernel
theorem dL_law_355 : decode cL_law 355 = .ok (.iaload, 1) := by decide +kernel
theorem dL_law_356 : decode cL_law 356 = .ok (.invokevirtual 79, 3) := by decide +kernel
theorem dL_law_359 : decode cL_law 359 = .ok (.istore 6, 2) := by decide +kernel
theorem dL_law_361 : decode cL_law 361 = .ok (.aload_n 2, 1) := by decide +kernel
theorem dL_law_362 : decode cL_law 362 = .ok (.invokevirtual 60, 3) := by decide +kernel
theorem dL_law_365 : decode cL_law 365 = .ok (.iload 5, 2) := by decide +kernel
theorem dL_law_367 : decode cL_law 367 = .ok (.if_icmp .eq 5, 3) := by decide +kernel
theorem dL_law_370 : decode cL_law 370 = .ok (.iconst 0, 1) := by decide +kernel
theorem dL_law_371 : decode cL_law 371 = .ok (.ireturn, 1) := by decide +kernel
theorem dL_law_372 : decode cL_law 372 = .ok (.iload 5, 2) := by decide +kernel
theorem dL_law_374 : decode cL_law 374 = .ok (.ifCond .ne 15, 3) := by decide +kernel
theorem dL_law_377 : decode cL_law 377 = .ok (.aload_n 3, 1) := by decide +kernel
theorem dL_law_378 : decode cL_law 378 = .ok (.iconst 0, 1) := by decide +kernel
theorem dL_law_379 : decode cL_law 379 = .ok (.laload, 1) := by decide +kernel
theorem dL_law_380 : decode cL_law 380 = .ok (.iload 6, 2) := by decide +kernel
theorem dL_law_382 : decode cL_law 382 = .ok (.i2l, 1) := by decide +kernel
theorem dL_law_383 : decode cL_law 383 = .ok (.lcmp, 1) := by decide +kernel
theorem dL_law_384 : decode cL_law 384 = .ok (.ifCond .eq 5, 3) := by decide +kernel
theorem dL_law_387 : decode cL_law 387 = .ok (.iconst 0, 1) := by decide +kernel
theorem dL_law_388 : decode cL_law 388 = .ok (.ireturn, 1) := by decide +kernel
theorem dL_law_389 : decode cL_law 389 = .ok (.goto 176, 3) := by decide +kernel
theorem dL_law_392 : decode cL_law 392 = .ok (.aload_n 1, 1) := by decide +kernel
theorem dL_law_393 : decode cL_law 393 = .ok (.aload_n 0, 1) := by decide +kernel
theorem dL_law_394 : decode cL_law 394 = .ok (.iload 4, 2) := by decide +kernel
theorem dL_law_396 : decode cL_law 396 = .ok (.iconst 1, 1) := by decide +kernel
theorem dL_law_397 : decode cL_law 397 = .ok (.iadd, 1) := by decide +kernel
theorem dL_law_398 : decode cL_law 398 = .ok (.iaload, 1) := by decide +kernel
theorem dL_law_399 : decode cL_law 399 = .ok (.aload_n 3, 1) := by decide +kernel
theorem dL_law_400 : decode cL_law 400 = .ok (.invokestatic 80, 3) := by decide +kernel
theorem dL_law_403 : decode cL_law 403 = .ok (.istore 5, 2) := by decide +kernel
theorem dL_law_405 : decode cL_law 405 = .ok (.aload_n 2, 1) := by decide +kernel
theorem dL_law_406 : decode cL_law 406 = .ok (.aload_n 0, 1) := by decide +kernel
theorem dL_law_407 : decode cL_law 407 = .ok (.iload 4, 2) := by decide +kernel
theorem dL_law_409 : decode cL_law 409 = .ok (.iconst 1, 1) := by decide +kernel
theorem dL_law_410 : decode cL_law 410 = .ok (.iadd, 1) := by decide +kernel
theorem dL_law_411 : decode cL_law 411 = .ok (.iaload, 1) := by decide +kernel
theorem dL_law_412 : decode cL_law 412 = .ok (.invokevirtual 82, 3) := by decide +kernel
theorem dL_law_415 : decode cL_law 415 = .ok (.istore 6, 2) := by decide +kernel
theorem dL_law_417 : decode cL_law 417 = .ok (.aload_n 2, 1) := by decide +kernel
theorem dL_law_418 : decode cL_law 418 = .ok (.invokevirtual 60, 3) := by decide +kernel
theorem dL_law_421 : decode cL_law 421 = .ok (.iload 5, 2) := by decide +kernel
theorem dL_law_423 : decode cL_law 423 = .ok (.if_icmp .eq 5, 3) := by decide +kernel
theorem dL_law_426 : decode cL_law 426 = .ok (.iconst 0, 1) := by decide +kernel
theorem dL_law_427 : decode cL_law 427 = .ok (.ireturn, 1) := by decide +kernel
theorem dL_law_428 : decode cL_law 428 = .ok (.iload 5, 2) := by decide +kernel
theorem dL_law_430 : decode cL_law 430 = .ok (.ifCond .ne 15, 3) := by decide +kernel
theorem dL_law_433 : decode cL_law 433 = .ok (.aload_n 3, 1) := by decide +kernel
theorem dL_law_434 : decode cL_law 434 = .ok (.iconst 0, 1) := by decide +kernel
theorem dL_law_435 : decode cL_law 435 = .ok (.laload, 1) := by decide +kernel
theorem dL_law_436 : decode cL_law 436 = .ok (.iload 6, 2) := by decide +kernel
theorem dL_law_438 : decode cL_law 438 = .ok (.i2l, 1) := by decide +kernel
theorem dL_law_439 : decode cL_law 439 = .ok (.lcmp, 1) := by decide +kernel
theorem dL_law_440 : decode cL_law 440 = .ok (.ifCond .eq 5, 3) := by decide +kernel
theorem dL_law_443 : decode cL_law 443 = .ok (.iconst 0, 1) := by decide +kernel
theorem dL_law_444 : decode cL_law 444 = .ok (.ireturn, 1) := by decide +kernel
theorem dL_law_445 : decode cL_law 445 = .ok (.goto 120, 3) := by decide +kernel
theorem dL_law_448 : decode cL_law 448 = .ok (.aload_n 1, 1) := by decide +kernel
theorem dL_law_449 : decode cL_law 449 = .ok (.aload_n 0, 1) := by decide +kernel
theorem dL_law_450 : decode cL_law 450 = .ok (.iload 4, 2) := by decide +kernel
theorem dL_law_452 : decode cL_law 452 = .ok (.iconst 1, 1) := by decide +kernel
theorem dL_law_453 : decode cL_law 453 = .ok (.iadd, 1) := by decide +kernel
theorem dL_law_454 : decode cL_law 454 = .ok (.iaload, 1) := by decide +kernel
theorem dL_law_455 : decode cL_law 455 = .ok (.aload_n 0, 1) := by decide +kernel
theorem dL_law_456 : decode cL_law 456 = .ok (.iload 4, 2) := by decide +kernel
theorem dL_law_458 : decode cL_law 458 = .ok (.iconst 2, 1) := by decide +kernel
theorem dL_law_459 : decode cL_law 459 = .ok (.iadd, 1) := by decide +kernel
theorem dL_law_460 : decode cL_law 460 = .ok (.iaload, 1) := by decide +kernel
theorem dL_law_461 : decode cL_law 461 = .ok (.aload_n 0, 1) := by decide +kernel
theorem dL_law_462 : decode cL_law 462 = .ok (.iload 4, 2) := by decide +kernel
theorem dL_law_464 : decode cL_law 464 = .ok (.iconst 3, 1) := by decide +kernel
theorem dL_law_465 : decode cL_law 465 = .ok (.iadd, 1) := by decide +kernel
theorem dL_law_466 : decode cL_law 466 = .ok (.iaload, 1) := by decide +kernel
theorem dL_law_467 : decode cL_law 467 = .ok (.aload_n 0, 1) := by decide +kernel
theorem dL_law_468 : decode cL_law 468 = .ok (.iload 4, 2) := by decide +kernel
theorem dL_law_470 : decode cL_law 470 = .ok (.iconst 4, 1) := by decide +kernel
theorem dL_law_471 : decode cL_law 471 = .ok (.iadd, 1) := by decide +kernel
theorem dL_law_472 : decode cL_law 472 = .ok (.iaload, 1) := by decide +kernel
theorem dL_law_473 : decode cL_law 473 = .ok (.aload_n 3, 1) := by decide +kernel
theorem dL_law_474 : decode cL_law 474 = .ok (.invokestatic 83, 3) := by decide +kernel
theorem dL_law_477 : decode cL_law 477 = .ok (.istore 5, 2) := by decide +kernel
theorem dL_law_479 : decode cL_law 479 = .ok (.aload_n 2, 1) := by decide +kernel
theorem dL_law_480 : decode cL_law 480 = .ok (.aload_n 0, 1) := by decide +kernel
theorem dL_law_481 : decode cL_law 481 = .ok (.iload 4, 2) := by decide +kernel
theorem dL_law_483 : decode cL_law 483 = .ok (.iconst 1, 1) := by decide +kernel
theorem dL_law_484 : decode cL_law 484 = .ok (.iadd, 1) := by decide +kernel
theorem dL_law_485 : decode cL_law 485 = .ok (.iaload, 1) := by decide +kernel
theorem dL_law_486 : decode cL_law 486 = .ok (.aload_n 0, 1) := by decide +kernel
theorem dL_law_487 : decode cL_law 487 = .ok (.iload 4, 2) := by decide +kernel
theorem dL_law_489 : decode cL_law 489 = .ok (.iconst 2, 1) := by decide +kernel
theorem dL_law_490 : decode cL_law 490 = .ok (.iadd, 1) := by decide +kernel
theorem dL_law_491 : decode cL_law 491 = .ok (.iaload, 1) := by decide +kernel
theorem dL_law_492 : decode cL_law 492 = .ok (.aload_n 0, 1) := by decide +kernel
theorem dL_law_493 : decode cL_law 493 = .ok (.iload 4, 2) := by decide +kernel
theorem dL_law_495 : decode cL_law 495 = .ok (.iconst 3, 1) := by decide +kernel
theorem dL_law_496 : decode cL_law 496 = .ok (.iadd, 1) := by decide +kernel
theorem dL_law_497 : decode cL_law 497 = .ok (.iaload, 1) := by decide +kernel
theorem dL_law_498 : decode cL_law 498 = .ok (.aload_n 0, 1) := by decide +kernel
theorem dL_law_499 : decode cL_law 499 = .ok (.iload 4, 2) := by decide +kernel
theorem dL_law_501 : decode cL_law 501 = .ok (.iconst 4, 1) := by decide +kernel
theorem dL_law_502 : decode cL_law 502 = .ok (.iadd, 1) := by decide +kernel
theorem dL_law_503 : decode cL_law 503 = .ok (.iaload, 1) := by decide +kernel
theorem dL_law_504 : decode cL_law 504 = .ok (.invokevirtual 86, 3) := by decide +kernel
theorem dL_law_507 : decode cL_law 507 = .ok (.istore 6, 2) := by decide +kernel
theorem dL_law_509 : decode cL_law 509 = .ok (.aload_n 2, 1) := by decide +kernel
theorem dL_law_510 : decode cL_law 510 = .ok (.invokevirtual 60, 3) := by decide +kernel
theorem dL_law_513 : decode cL_law 513 = .ok (.iload 5, 2) := by decide +kernel
theorem dL_law_515 : decode cL_law 515 = .ok (.if_icmp .eq 5, 3) := by decide +kernel
theorem dL_law_518 : decode cL_law 518 = .ok (.iconst 0, 1) := by decide +kernel
theorem dL_law_519 : decode cL_law 519 = .ok (.ireturn, 1) := by decide +kernel
theorem dL_law_520 : decode cL_law 520 = .ok (.iload 5, 2) := by decide +kernel
theorem dL_law_522 : decode cL_law 522 = .ok (.ifCond .ne 15, 3) := by decide +kernel
theorem dL_law_525 : decode cL_law 525 = .ok (.aload_n 3, 1) := by decide +kernel
theorem dL_law_526 : decode cL_law 526 = .ok (.iconst 0, 1) := by decide +kernel
theorem dL_law_527 : decode cL_law 527 = .ok (.laload, 1) := by decide +kernel
theorem dL_law_528 : decode cL_law 528 = .ok (.iload 6, 2) := by decide +kernel
theorem dL_law_530 : decode cL_law 530 = .ok (.i2l, 1) := by decide +kernel
theorem dL_law_531 : decode cL_law 531 = .ok (.lcmp, 1) := by decide +kernel
theorem dL_law_532 : decode cL_law 532 = .ok (.ifCond .eq 5, 3) := by decide +kernel
theorem dL_law_535 : decode cL_law 535 = .ok (.iconst 0, 1) := by decide +kernel
theorem dL_law_536 : decode cL_law 536 = .ok (.ireturn, 1) := by decide +kernel
theorem dL_law_537 : decode cL_law 537 = .ok (.goto 28, 3) := by decide +kernel
theorem dL_law_540 : decode cL_law 540 = .ok (.aload_n 1, 1) := by decide +kernel
theorem dL_law_541 : decode cL_law 541 = .ok (.aload_n 0, 1) := by decide +kernel
theorem dL_law_542 : decode cL_law 542 = .ok (.iload 4, 2) := by decide +kernel
theorem dL_law_544 : decode cL_law 544 = .ok (.iconst 1, 1) := by decide +kernel
theorem dL_law_545 : decode cL_law 545 = .ok (.iadd, 1) := by decide +kernel
theorem dL_law_546 : decode cL_law 546 = .ok (.iaload, 1) := by decide +kernel
theorem dL_law_547 : decode cL_law 547 = .ok (.invokevirtual 87, 3) := by decide +kernel
theorem dL_law_550 : decode cL_law 550 = .ok (.aload_n 2, 1) := by decide +kernel
theorem dL_law_551 : decode cL_law 551 = .ok (.aload_n 0, 1) := by decide +kernel
theorem dL_law_552 : decode cL_law 552 = .ok (.iload 4, 2) := by decide +kernel
theorem dL_law_554 : decode cL_law 554 = .ok (.iconst 1, 1) := by decide +kernel
theorem dL_law_555 : decode cL_law 555 = .ok (.iadd, 1) := by decide +kernel
theorem dL_law_556 : decode cL_law 556 = .ok (.iaload, 1) := by decide +kernel
theorem dL_law_557 : decode cL_law 557 = .ok (.invokevirtual 90, 3) := by decide +kernel
theorem dL_law_560 : decode cL_law 560 = .ok (.if_icmp .eq 5, 3) := by decide +kernel
theorem dL_law_563 : decode cL_law 563 = .ok (.iconst 0, 1) := by decide +kernel
theorem dL_law_564 : decode cL_law 564 = .ok (.ireturn, 1) := by decide +kernel
theorem dL_law_565 : decode cL_law 565 = .ok (.iinc 4 5, 3) := by decide +kernel
theorem dL_law_568 : decode cL_law 568 = .ok (.goto (-535), 3) := by decide +kernel
theorem dL_law_571 : decode cL_law 571 = .ok (.iconst 1, 1) := by decide +kernel
theorem dL_law_572 : decode cL_law 572 = .ok (.ireturn, 1) := by decide +kernel
