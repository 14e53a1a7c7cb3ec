theorem dX9_thrown_0 : decode cX9_thrown 0 = .ok (.aload_n 0, 1) := by decide +kernel
theorem dX9_thrown_1 : decode cX9_thrown 1 = .ok (.getfield 1, 3) := by decide +kernel
theorem dX9_thrown_4 : decode cX9_thrown 4 = .ok (.ireturn, 1) := by decide +kernel
theorem dX9_refuse_0 : decode cX9_refuse 0 = .ok (.aload_n 0, 1) := by decide +kernel
theorem dX9_refuse_1 : decode cX9_refuse 1 = .ok (.iconst 1, 1) := by decide +kernel
theorem dX9_refuse_2 : decode cX9_refuse 2 = .ok (.putfield 1, 3) := by decide +kernel
theorem dX9_refuse_5 : decode cX9_refuse 5 = .ok (.iconst 0, 1) := by decide +kernel
theorem dX9_refuse_6 : decode cX9_refuse 6 = .ok (.ireturn, 1) := by decide +kernel
theorem dX9_isIn_0 : decode cX9_isIn 0 = .ok (.iload_n 0, 1) := by decide +kernel
theorem dX9_isIn_1 : decode cX9_isIn 1 = .ok (.iload_n 1, 1) := by decide +kernel
theorem dX9_isIn_2 : decode cX9_isIn 2 = .ok (.if_icmp .lt 12, 3) := by decide +kernel
theorem dX9_isIn_5 : decode cX9_isIn 5 = .ok (.iload_n 0, 1) := by decide +kernel
theorem dX9_isIn_6 : decode cX9_isIn 6 = .ok (.iload_n 2, 1) := by decide +kernel
theorem dX9_isIn_7 : decode cX9_isIn 7 = .ok (.if_icmp .gt 7, 3) := by decide +kernel
theorem dX9_isIn_10 : decode cX9_isIn 10 = .ok (.iconst 1, 1) := by decide +kernel
theorem dX9_isIn_11 : decode cX9_isIn 11 = .ok (.goto 4, 3) := by decide +kernel
theorem dX9_isIn_14 : decode cX9_isIn 14 = .ok (.iconst 0, 1) := by decide +kernel
theorem dX9_isIn_15 : decode cX9_isIn 15 = .ok (.ireturn, 1) := by decide +kernel
theorem dX9_lays_0 : decode cX9_lays 0 = .ok (.bipush 24, 2) := by decide +kernel
theorem dX9_lays_2 : decode cX9_lays 2 = .ok (.istore_n 2, 1) := by decide +kernel
theorem dX9_lays_3 : decode cX9_lays 3 = .ok (.iload_n 2, 1) := by decide +kernel
theorem dX9_lays_4 : decode cX9_lays 4 = .ok (.ifCond .lt 35, 3) := by decide +kernel
theorem dX9_lays_7 : decode cX9_lays 7 = .ok (.aload_n 0, 1) := by decide +kernel
theorem dX9_lays_8 : decode cX9_lays 8 = .ok (.getfield 7, 3) := by decide +kernel
theorem dX9_lays_11 : decode cX9_lays 11 = .ok (.aload_n 0, 1) := by decide +kernel
theorem dX9_lays_12 : decode cX9_lays 12 = .ok (.getfield 11, 3) := by decide +kernel
theorem dX9_lays_15 : decode cX9_lays 15 = .ok (.iload_n 1, 1) := by decide +kernel
theorem dX9_lays_16 : decode cX9_lays 16 = .ok (.iload_n 2, 1) := by decide +kernel
theorem dX9_lays_17 : decode cX9_lays 17 = .ok (.iushr, 1) := by decide +kernel
theorem dX9_lays_18 : decode cX9_lays 18 = .ok (.sipush 255, 3) := by decide +kernel
theorem dX9_lays_21 : decode cX9_lays 21 = .ok (.iand, 1) := by decide +kernel
theorem dX9_lays_22 : decode cX9_lays 22 = .ok (.iastore, 1) := by decide +kernel
theorem dX9_lays_23 : decode cX9_lays 23 = .ok (.aload_n 0, 1) := by decide +kernel
theorem dX9_lays_24 : decode cX9_lays 24 = .ok (.dup, 1) := by decide +kernel
theorem dX9_lays_25 : decode cX9_lays 25 = .ok (.getfield 11, 3) := by decide +kernel
theorem dX9_lays_28 : decode cX9_lays 28 = .ok (.iconst 1, 1) := by decide +kernel
theorem dX9_lays_29 : decode cX9_lays 29 = .ok (.iadd, 1) := by decide +kernel
theorem dX9_lays_30 : decode cX9_lays 30 = .ok (.putfield 11, 3) := by decide +kernel
theorem dX9_lays_33 : decode cX9_lays 33 = .ok (.iinc 2 (-8), 3) := by decide +kernel
theorem dX9_lays_36 : decode cX9_lays 36 = .ok (.goto (-33), 3) := by decide +kernel
theorem dX9_lays_39 : decode cX9_lays 39 = .ok (.return_, 1) := by decide +kernel
theorem dX9_feed_0 : decode cX9_feed 0 = .ok (.aload_n 0, 1) := by decide +kernel
theorem dX9_feed_1 : decode cX9_feed 1 = .ok (.iconst 0, 1) := by decide +kernel
theorem dX9_feed_2 : decode cX9_feed 2 = .ok (.putfield 1, 3) := by decide +kernel
theorem dX9_feed_5 : decode cX9_feed 5 = .ok (.aload_n 0, 1) := by decide +kernel
theorem dX9_feed_6 : decode cX9_feed 6 = .ok (.getfield 11, 3) := by decide +kernel
theorem dX9_feed_9 : decode cX9_feed 9 = .ok (.bipush 20, 2) := by decide +kernel
theorem dX9_feed_11 : decode cX9_feed 11 = .ok (.iadd, 1) := by decide +kernel
theorem dX9_feed_12 : decode cX9_feed 12 = .ok (.sipush 640, 3) := by decide +kernel
theorem dX9_feed_15 : decode cX9_feed 15 = .ok (.if_icmp .le 5, 3) := by decide +kernel
theorem dX9_feed_18 : decode cX9_feed 18 = .ok (.iconst (-1), 1) := by decide +kernel
theorem dX9_feed_19 : decode cX9_feed 19 = .ok (.ireturn, 1) := by decide +kernel
theorem dX9_feed_20 : decode cX9_feed 20 = .ok (.aload_n 0, 1) := by decide +kernel
theorem dX9_feed_21 : decode cX9_feed 21 = .ok (.iload_n 1, 1) := by decide +kernel
theorem dX9_feed_22 : decode cX9_feed 22 = .ok (.invokevirtual 14, 3) := by decide +kernel
theorem dX9_feed_25 : decode cX9_feed 25 = .ok (.aload_n 0, 1) := by decide +kernel
theorem dX9_feed_26 : decode cX9_feed 26 = .ok (.iload_n 2, 1) := by decide +kernel
theorem dX9_feed_27 : decode cX9_feed 27 = .ok (.invokevirtual 14, 3) := by decide +kernel
theorem dX9_feed_30 : decode cX9_feed 30 = .ok (.aload_n 0, 1) := by decide +kernel
theorem dX9_feed_31 : decode cX9_feed 31 = .ok (.iload_n 3, 1) := by decide +kernel
theorem dX9_feed_32 : decode cX9_feed 32 = .ok (.invokevirtual 14, 3) := by decide +kernel
theorem dX9_feed_35 : decode cX9_feed 35 = .ok (.aload_n 0, 1) := by decide +kernel
theorem dX9_feed_36 : decode cX9_feed 36 = .ok (.iload 4, 2) := by decide +kernel
theorem dX9_feed_38 : decode cX9_feed 38 = .ok (.invokevirtual 14, 3) := by decide +kernel
theorem dX9_feed_41 : decode cX9_feed 41 = .ok (.aload_n 0, 1) := by decide +kernel
theorem dX9_feed_42 : decode cX9_feed 42 = .ok (.iload 5, 2) := by decide +kernel
theorem dX9_feed_44 : decode cX9_feed 44 = .ok (.invokevirtual 14, 3) := by decide +kernel
theorem dX9_feed_47 : decode cX9_feed 47 = .ok (.aload_n 0, 1) := by decide +kernel
theorem dX9_feed_48 : decode cX9_feed 48 = .ok (.getfield 11, 3) := by decide +kernel
theorem dX9_feed_51 : decode cX9_feed 51 = .ok (.ireturn, 1) := by decide +kernel
theorem dX9_end_0 : decode cX9_end 0 = .ok (.aload_n 0, 1) := by decide +kernel
theorem dX9_end_1 : decode cX9_end 1 = .ok (.iconst 0, 1) := by decide +kernel
theorem dX9_end_2 : decode cX9_end 2 = .ok (.putfield 1, 3) := by decide +kernel
theorem dX9_end_5 : decode cX9_end 5 = .ok (.iload_n 1, 1) := by decide +kernel
theorem dX9_end_6 : decode cX9_end 6 = .ok (.ifCond .lt 11, 3) := by decide +kernel
theorem dX9_end_9 : decode cX9_end 9 = .ok (.iload_n 1, 1) := by decide +kernel
theorem dX9_end_10 : decode cX9_end 10 = .ok (.aload_n 0, 1) := by decide +kernel
theorem dX9_end_11 : decode cX9_end 11 = .ok (.getfield 11, 3) := by decide +kernel
theorem dX9_end_14 : decode cX9_end 14 = .ok (.if_icmp .le 5, 3) := by decide +kernel
theorem dX9_end_17 : decode cX9_end 17 = .ok (.iconst 0, 1) := by decide +kernel
theorem dX9_end_18 : decode cX9_end 18 = .ok (.ireturn, 1) := by decide +kernel
theorem dX9_end_19 : decode cX9_end 19 = .ok (.aload_n 0, 1) := by decide +kernel
theorem dX9_end_20 : decode cX9_end 20 = .ok (.iload_n 1, 1) := by decide +kernel
theorem dX9_end_21 : decode cX9_end 21 = .ok (.putfield 11, 3) := by decide +kernel
theorem dX9_end_24 : decode cX9_end 24 = .ok (.iconst 1, 1) := by decide +kernel
theorem dX9_end_25 : decode cX9_end 25 = .ok (.ireturn, 1) := by decide +kernel
theorem dX9_tapeAt_0 : decode cX9_tapeAt 0 = .ok (.iload_n 1, 1) := by decide +kernel
theorem dX9_tapeAt_1 : decode cX9_tapeAt 1 = .ok (.aload_n 0, 1) := by decide +kernel
theorem dX9_tapeAt_2 : decode cX9_tapeAt 2 = .ok (.getfield 18, 3) := by decide +kernel
theorem dX9_tapeAt_5 : decode cX9_tapeAt 5 = .ok (.if_icmp .ge 12, 3) := by decide +kernel
theorem dX9_tapeAt_8 : decode cX9_tapeAt 8 = .ok (.aload_n 0, 1) := by decide +kernel
theorem dX9_tapeAt_9 : decode cX9_tapeAt 9 = .ok (.getfield 7, 3) := by decide +kernel
theorem dX9_tapeAt_12 : decode cX9_tapeAt 12 = .ok (.iload_n 1, 1) := by decide +kernel
theorem dX9_tapeAt_13 : decode cX9_tapeAt 13 = .ok (.iaload, 1) := by decide +kernel
theorem dX9_tapeAt_14 : decode cX9_tapeAt 14 = .ok (.goto 4, 3) := by decide +kernel
theorem dX9_tapeAt_17 : decode cX9_tapeAt 17 = .ok (.iconst 0, 1) := by decide +kernel
theorem dX9_tapeAt_18 : decode cX9_tapeAt 18 = .ok (.ireturn, 1) := by decide +kernel
theorem dX9_isDigit_0 : decode cX9_isDigit 0 = .ok (.iload_n 0, 1) := by decide +kernel
theorem dX9_isDigit_1 : decode cX9_isDigit 1 = .ok (.bipush 48, 2) := by decide +kernel
theorem dX9_isDigit_3 : decode cX9_isDigit 3 = .ok (.if_icmp .lt 13, 3) := by decide +kernel
theorem dX9_isDigit_6 : decode cX9_isDigit 6 = .ok (.iload_n 0, 1) := by decide +kernel
theorem dX9_isDigit_7 : decode cX9_isDigit 7 = .ok (.bipush 57, 2) := by decide +kernel
theorem dX9_isDigit_9 : decode cX9_isDigit 9 = .ok (.if_icmp .gt 7, 3) := by decide +kernel
theorem dX9_isDigit_12 : decode cX9_isDigit 12 = .ok (.iconst 1, 1) := by decide +kernel
theorem dX9_isDigit_13 : decode cX9_isDigit 13 = .ok (.goto 4, 3) := by decide +kernel
theorem dX9_isDigit_16 : decode cX9_isDigit 16 = .ok (.iconst 0, 1) := by decide +kernel
theorem dX9_isDigit_17 : decode cX9_isDigit 17 = .ok (.ireturn, 1) := by decide +kernel
theorem dX9_isLetter_0 : decode cX9_isLetter 0 = .ok (.iload_n 0, 1) := by decide +kernel
theorem dX9_isLetter_1 : decode cX9_isLetter 1 = .ok (.bipush 97, 2) := by decide +kernel
theorem dX9_isLetter_3 : decode cX9_isLetter 3 = .ok (.if_icmp .lt 13, 3) := by decide +kernel
theorem dX9_isLetter_6 : decode cX9_isLetter 6 = .ok (.iload_n 0, 1) := by decide +kernel
theorem dX9_isLetter_7 : decode cX9_isLetter 7 = .ok (.bipush 122, 2) := by decide +kernel
theorem dX9_isLetter_9 : decode cX9_isLetter 9 = .ok (.if_icmp .gt 7, 3) := by decide +kernel
theorem dX9_isLetter_12 : decode cX9_isLetter 12 = .ok (.iconst 1, 1) := by decide +kernel
theorem dX9_isLetter_13 : decode cX9_isLetter 13 = .ok (.goto 4, 3) := by decide +kernel
theorem dX9_isLetter_16 : decode cX9_isLetter 16 = .ok (.iconst 0, 1) := by decide +kernel
theorem dX9_isLetter_17 : decode cX9_isLetter 17 = .ok (.ireturn, 1) := by decide +kernel
theorem dX9_go_0 : decode cX9_go 0 = .ok (.aload_n 0, 1) := by decide +kernel
theorem dX9_go_1 : decode cX9_go 1 = .ok (.getfield 21, 3) := by decide +kernel
theorem dX9_go_4 : decode cX9_go 4 = .ok (.aload_n 0, 1) := by decide +kernel
theorem dX9_go_5 : decode cX9_go 5 = .ok (.getfield 18, 3) := by decide +kernel
theorem dX9_go_8 : decode cX9_go 8 = .ok (.if_icmp .ge 44, 3) := by decide +kernel
theorem dX9_go_11 : decode cX9_go 11 = .ok (.aload_n 0, 1) := by decide +kernel
theorem dX9_go_12 : decode cX9_go 12 = .ok (.getfield 7, 3) := by decide +kernel
theorem dX9_go_15 : decode cX9_go 15 = .ok (.aload_n 0, 1) := by decide +kernel
theorem dX9_go_16 : decode cX9_go 16 = .ok (.getfield 21, 3) := by decide +kernel
theorem dX9_go_19 : decode cX9_go 19 = .ok (.iaload, 1) := by decide +kernel
theorem dX9_go_20 : decode cX9_go 20 = .ok (.bipush 32, 2) := by decide +kernel
theorem dX9_go_22 : decode cX9_go 22 = .ok (.if_icmp .eq 17, 3) := by decide +kernel
theorem dX9_go_25 : decode cX9_go 25 = .ok (.aload_n 0, 1) := by decide +kernel
theorem dX9_go_26 : decode cX9_go 26 = .ok (.getfield 7, 3) := by decide +kernel
theorem dX9_go_29 : decode cX9_go 29 = .ok (.aload_n 0, 1) := by decide +kernel
theorem dX9_go_30 : decode cX9_go 30 = .ok (.getfield 21, 3) := by decide +kernel
theorem dX9_go_33 : decode cX9_go 33 = .ok (.iaload, 1) := by decide +kernel
theorem dX9_go_34 : decode cX9_go 34 = .ok (.bipush 10, 2) := by decide +kernel
theorem dX9_go_36 : decode cX9_go 36 = .ok (.if_icmp .ne 16, 3) := by decide +kernel
theorem dX9_go_39 : decode cX9_go 39 = .ok (.aload_n 0, 1) := by decide +kernel
theorem dX9_go_40 : decode cX9_go 40 = .ok (.dup, 1) := by decide +kernel
theorem dX9_go_41 : decode cX9_go 41 = .ok (.getfield 21, 3) := by decide +kernel
theorem dX9_go_44 : decode cX9_go 44 = .ok (.iconst 1, 1) := by decide +kernel
theorem dX9_go_45 : decode cX9_go 45 = .ok (.iadd, 1) := by decide +kernel
theorem dX9_go_46 : decode cX9_go 46 = .ok (.putfield 21, 3) := by decide +kernel
theorem dX9_go_49 : decode cX9_go 49 = .ok (.goto (-49), 3) := by decide +kernel
theorem dX9_go_52 : decode cX9_go 52 = .ok (.aload_n 0, 1) := by decide +kernel
theorem dX9_go_53 : decode cX9_go 53 = .ok (.aload_n 0, 1) := by decide +kernel
theorem dX9_go_54 : decode cX9_go 54 = .ok (.getfield 21, 3) := by decide +kernel
theorem dX9_go_57 : decode cX9_go 57 = .ok (.putfield 24, 3) := by decide +kernel
theorem dX9_go_60 : decode cX9_go 60 = .ok (.aload_n 0, 1) := by decide +kernel
theorem dX9_go_61 : decode cX9_go 61 = .ok (.getfield 18, 3) := by decide +kernel
theorem dX9_go_64 : decode cX9_go 64 = .ok (.sipush 600, 3) := by decide +kernel
theorem dX9_go_67 : decode cX9_go 67 = .ok (.if_icmp .le 26, 3) := by decide +kernel
theorem dX9_go_70 : decode cX9_go 70 = .ok (.aload_n 0, 1) := by decide +kernel
theorem dX9_go_71 : decode cX9_go 71 = .ok (.getfield 24, 3) := by decide +kernel
theorem dX9_go_74 : decode cX9_go 74 = .ok (.sipush 600, 3) := by decide +kernel
theorem dX9_go_77 : decode cX9_go 77 = .ok (.if_icmp .lt 16, 3) := by decide +kernel
theorem dX9_go_80 : decode cX9_go 80 = .ok (.aload_n 0, 1) := by decide +kernel
theorem dX9_go_81 : decode cX9_go 81 = .ok (.sipush 600, 3) := by decide +kernel
theorem dX9_go_84 : decode cX9_go 84 = .ok (.putfield 24, 3) := by decide +kernel
theorem dX9_go_87 : decode cX9_go 87 = .ok (.aload_n 0, 1) := by decide +kernel
theorem dX9_go_88 : decode cX9_go 88 = .ok (.iconst 1, 1) := by decide +kernel
theorem dX9_go_89 : decode cX9_go 89 = .ok (.putfield 27, 3) := by decide +kernel
theorem dX9_go_92 : decode cX9_go 92 = .ok (.return_, 1) := by decide +kernel
theorem dX9_go_93 : decode cX9_go 93 = .ok (.aload_n 0, 1) := by decide +kernel
theorem dX9_go_94 : decode cX9_go 94 = .ok (.getfield 21, 3) := by decide +kernel
theorem dX9_go_97 : decode cX9_go 97 = .ok (.aload_n 0, 1) := by decide +kernel
theorem dX9_go_98 : decode cX9_go 98 = .ok (.getfield 18, 3) := by decide +kernel
theorem dX9_go_101 : decode cX9_go 101 = .ok (.if_icmp .lt 9, 3) := by decide +kernel
theorem dX9_go_104 : decode cX9_go 104 = .ok (.aload_n 0, 1) := by decide +kernel
theorem dX9_go_105 : decode cX9_go 105 = .ok (.iconst 0, 1) := by decide +kernel
theorem dX9_go_106 : decode cX9_go 106 = .ok (.putfield 27, 3) := by decide +kernel
theorem dX9_go_109 : decode cX9_go 109 = .ok (.return_, 1) := by decide +kernel
theorem dX9_go_110 : decode cX9_go 110 = .ok (.aload_n 0, 1) := by decide +kernel
theorem dX9_go_111 : decode cX9_go 111 = .ok (.getfield 7, 3) := by decide +kernel
theorem dX9_go_114 : decode cX9_go 114 = .ok (.aload_n 0, 1) := by decide +kernel
theorem dX9_go_115 : decode cX9_go 115 = .ok (.getfield 21, 3) := by decide +kernel
theorem dX9_go_118 : decode cX9_go 118 = .ok (.iaload, 1) := by decide +kernel
theorem dX9_go_119 : decode cX9_go 119 = .ok (.istore_n 1, 1) := by decide +kernel
theorem dX9_go_120 : decode cX9_go 120 = .ok (.iload_n 1, 1) := by decide +kernel
theorem dX9_go_121 : decode cX9_go 121 = .ok (.invokestatic 30, 3) := by decide +kernel
theorem dX9_go_124 : decode cX9_go 124 = .ok (.ifCond .ne 36, 3) := by decide +kernel
theorem dX9_go_127 : decode cX9_go 127 = .ok (.iload_n 1, 1) := by decide +kernel
theorem dX9_go_128 : decode cX9_go 128 = .ok (.invokestatic 34, 3) := by decide +kernel
theorem dX9_go_131 : decode cX9_go 131 = .ok (.ifCond .ne 29, 3) := by decide +kernel
theorem dX9_go_134 : decode cX9_go 134 = .ok (.aload_n 0, 1) := by decide +kernel
theorem dX9_go_135 : decode cX9_go 135 = .ok (.iload_n 1, 1) := by decide +kernel
theorem dX9_go_136 : decode cX9_go 136 = .ok (.bipush 59, 2) := by decide +kernel
theorem dX9_go_138 : decode cX9_go 138 = .ok (.if_icmp .ne 7, 3) := by decide +kernel
theorem dX9_go_141 : decode cX9_go 141 = .ok (.iconst 4, 1) := by decide +kernel
theorem dX9_go_142 : decode cX9_go 142 = .ok (.goto 4, 3) := by decide +kernel
theorem dX9_go_145 : decode cX9_go 145 = .ok (.iconst 1, 1) := by decide +kernel
theorem dX9_go_146 : decode cX9_go 146 = .ok (.putfield 27, 3) := by decide +kernel
theorem dX9_go_149 : decode cX9_go 149 = .ok (.aload_n 0, 1) := by decide +kernel
theorem dX9_go_150 : decode cX9_go 150 = .ok (.dup, 1) := by decide +kernel
theorem dX9_go_151 : decode cX9_go 151 = .ok (.getfield 21, 3) := by decide +kernel
theorem dX9_go_154 : decode cX9_go 154 = .ok (.iconst 1, 1) := by decide +kernel
theorem dX9_go_155 : decode cX9_go 155 = .ok (.iadd, 1) := by decide +kernel
theorem dX9_go_156 : decode cX9_go 156 = .ok (.putfield 21, 3) := by decide +kernel
theorem dX9_go_159 : decode cX9_go 159 = .ok (.return_, 1) := by decide +kernel
theorem dX9_go_160 : decode cX9_go 160 = .ok (.iload_n 1, 1) := by decide +kernel
theorem dX9_go_161 : decode cX9_go 161 = .ok (.invokestatic 30, 3) := by decide +kernel
theorem dX9_go_164 : decode cX9_go 164 = .ok (.istore_n 2, 1) := by decide +kernel
theorem dX9_go_165 : decode cX9_go 165 = .ok (.iconst 1, 1) := by decide +kernel
theorem dX9_go_166 : decode cX9_go 166 = .ok (.istore_n 3, 1) := by decide +kernel
theorem dX9_go_167 : decode cX9_go 167 = .ok (.aload_n 0, 1) := by decide +kernel
theorem dX9_go_168 : decode cX9_go 168 = .ok (.lconst 0, 1) := by decide +kernel
theorem dX9_go_169 : decode cX9_go 169 = .ok (.putfield 37, 3) := by decide +kernel
theorem dX9_go_172 : decode cX9_go 172 = .ok (.aload_n 0, 1) := by decide +kernel
theorem dX9_go_173 : decode cX9_go 173 = .ok (.iconst 0, 1) := by decide +kernel
theorem dX9_go_174 : decode cX9_go 174 = .ok (.putfield 41, 3) := by decide +kernel
theorem dX9_go_177 : decode cX9_go 177 = .ok (.aload_n 0, 1) := by decide +kernel
theorem dX9_go_178 : decode cX9_go 178 = .ok (.aload_n 0, 1) := by decide +kernel
theorem dX9_go_179 : decode cX9_go 179 = .ok (.getfield 21, 3) := by decide +kernel
theorem dX9_go_182 : decode cX9_go 182 = .ok (.invokevirtual 44, 3) := by decide +kernel
theorem dX9_go_185 : decode cX9_go 185 = .ok (.invokestatic 30, 3) := by decide +kernel
theorem dX9_go_188 : decode cX9_go 188 = .ok (.ifCond .ne 17, 3) := by decide +kernel
theorem dX9_go_191 : decode cX9_go 191 = .ok (.aload_n 0, 1) := by decide +kernel
theorem dX9_go_192 : decode cX9_go 192 = .ok (.aload_n 0, 1) := by decide +kernel
theorem dX9_go_193 : decode cX9_go 193 = .ok (.getfield 21, 3) := by decide +kernel
theorem dX9_go_196 : decode cX9_go 196 = .ok (.invokevirtual 44, 3) := by decide +kernel
theorem dX9_go_199 : decode cX9_go 199 = .ok (.invokestatic 34, 3) := by decide +kernel
theorem dX9_go_202 : decode cX9_go 202 = .ok (.ifCond .eq 110, 3) := by decide +kernel
theorem dX9_go_205 : decode cX9_go 205 = .ok (.aload_n 0, 1) := by decide +kernel
theorem dX9_go_206 : decode cX9_go 206 = .ok (.getfield 7, 3) := by decide +kernel
theorem dX9_go_209 : decode cX9_go 209 = .ok (.aload_n 0, 1) := by decide +kernel
theorem dX9_go_210 : decode cX9_go 210 = .ok (.getfield 21, 3) := by decide +kernel
theorem dX9_go_213 : decode cX9_go 213 = .ok (.iaload, 1) := by decide +kernel
theorem dX9_go_214 : decode cX9_go 214 = .ok (.istore 4, 2) := by decide +kernel
theorem dX9_go_216 : decode cX9_go 216 = .ok (.iload_n 3, 1) := by decide +kernel
theorem dX9_go_217 : decode cX9_go 217 = .ok (.ifCond .eq 16, 3) := by decide +kernel
theorem dX9_go_220 : decode cX9_go 220 = .ok (.iload 4, 2) := by decide +kernel
theorem dX9_go_222 : decode cX9_go 222 = .ok (.invokestatic 30, 3) := by decide +kernel
theorem dX9_go_225 : decode cX9_go 225 = .ok (.iload_n 2, 1) := by decide +kernel
theorem dX9_go_226 : decode cX9_go 226 = .ok (.if_icmp .ne 7, 3) := by decide +kernel
theorem dX9_go_229 : decode cX9_go 229 = .ok (.iconst 1, 1) := by decide +kernel
theorem dX9_go_230 : decode cX9_go 230 = .ok (.goto 4, 3) := by decide +kernel
theorem dX9_go_233 : decode cX9_go 233 = .ok (.iconst 0, 1) := by decide +kernel
theorem dX9_go_234 : decode cX9_go 234 = .ok (.istore_n 3, 1) := by decide +kernel
theorem dX9_go_235 : decode cX9_go 235 = .ok (.aload_n 0, 1) := by decide +kernel
theorem dX9_go_236 : decode cX9_go 236 = .ok (.getfield 21, 3) := by decide +kernel
theorem dX9_go_239 : decode cX9_go 239 = .ok (.aload_n 0, 1) := by decide +kernel
theorem dX9_go_240 : decode cX9_go 240 = .ok (.getfield 24, 3) := by decide +kernel
theorem dX9_go_243 : decode cX9_go 243 = .ok (.isub, 1) := by decide +kernel
theorem dX9_go_244 : decode cX9_go 244 = .ok (.bipush 8, 2) := by decide +kernel
theorem dX9_go_246 : decode cX9_go 246 = .ok (.if_icmp .ge 23, 3) := by decide +kernel
theorem dX9_go_249 : decode cX9_go 249 = .ok (.aload_n 0, 1) := by decide +kernel
theorem dX9_go_250 : decode cX9_go 250 = .ok (.ldc2_w 48, 3) := by decide +kernel
theorem dX9_go_253 : decode cX9_go 253 = .ok (.aload_n 0, 1) := by decide +kernel
theorem dX9_go_254 : decode cX9_go 254 = .ok (.getfield 37, 3) := by decide +kernel
theorem dX9_go_257 : decode cX9_go 257 = .ok (.lmul, 1) := by decide +kernel
theorem dX9_go_258 : decode cX9_go 258 = .ok (.iload 4, 2) := by decide +kernel
theorem dX9_go_260 : decode cX9_go 260 = .ok (.i2l, 1) := by decide +kernel
theorem dX9_go_261 : decode cX9_go 261 = .ok (.ladd, 1) := by decide +kernel
theorem dX9_go_262 : decode cX9_go 262 = .ok (.ldc2_w 50, 3) := by decide +kernel
theorem dX9_go_265 : decode cX9_go 265 = .ok (.lsub, 1) := by decide +kernel
theorem dX9_go_266 : decode cX9_go 266 = .ok (.putfield 37, 3) := by decide +kernel
theorem dX9_go_269 : decode cX9_go 269 = .ok (.aload_n 0, 1) := by decide +kernel
theorem dX9_go_270 : decode cX9_go 270 = .ok (.getfield 21, 3) := by decide +kernel
theorem dX9_go_273 : decode cX9_go 273 = .ok (.aload_n 0, 1) := by decide +kernel
theorem dX9_go_274 : decode cX9_go 274 = .ok (.getfield 24, 3) := by decide +kernel
theorem dX9_go_277 : decode cX9_go 277 = .ok (.isub, 1) := by decide +kernel
theorem dX9_go_278 : decode cX9_go 278 = .ok (.iconst 3, 1) := by decide +kernel
theorem dX9_go_279 : decode cX9_go 279 = .ok (.if_icmp .ge 20, 3) := by decide +kernel
theorem dX9_go_282 : decode cX9_go 282 = .ok (.aload_n 0, 1) := by decide +kernel
theorem dX9_go_283 : decode cX9_go 283 = .ok (.bipush 10, 2) := by decide +kernel
theorem dX9_go_285 : decode cX9_go 285 = .ok (.aload_n 0, 1) := by decide +kernel
theorem dX9_go_286 : decode cX9_go 286 = .ok (.getfield 41, 3) := by decide +kernel
theorem dX9_go_289 : decode cX9_go 289 = .ok (.imul, 1) := by decide +kernel
theorem dX9_go_290 : decode cX9_go 290 = .ok (.iload 4, 2) := by decide +kernel
theorem dX9_go_292 : decode cX9_go 292 = .ok (.iadd, 1) := by decide +kernel
theorem dX9_go_293 : decode cX9_go 293 = .ok (.bipush 48, 2) := by decide +kernel
theorem dX9_go_295 : decode cX9_go 295 = .ok (.isub, 1) := by decide +kernel
theorem dX9_go_296 : decode cX9_go 296 = .ok (.putfield 41, 3) := by decide +kernel
theorem dX9_go_299 : decode cX9_go 299 = .ok (.aload_n 0, 1) := by decide +kernel
theorem dX9_go_300 : decode cX9_go 300 = .ok (.dup, 1) := by decide +kernel
theorem dX9_go_301 : decode cX9_go 301 = .ok (.getfield 21, 3) := by decide +kernel
theorem dX9_go_304 : decode cX9_go 304 = .ok (.iconst 1, 1) := by decide +kernel
theorem dX9_go_305 : decode cX9_go 305 = .ok (.iadd, 1) := by decide +kernel
theorem dX9_go_306 : decode cX9_go 306 = .ok (.putfield 21, 3) := by decide +kernel
theorem dX9_go_309 : decode cX9_go 309 = .ok (.goto (-132), 3) := by decide +kernel
theorem dX9_go_312 : decode cX9_go 312 = .ok (.aload_n 0, 1) := by decide +kernel
theorem dX9_go_313 : decode cX9_go 313 = .ok (.iload_n 3, 1) := by decide +kernel
theorem dX9_go_314 : decode cX9_go 314 = .ok (.ifCond .eq 20, 3) := by decide +kernel
theorem dX9_go_317 : decode cX9_go 317 = .ok (.iload_n 2, 1) := by decide +kernel
theorem dX9_go_318 : decode cX9_go 318 = .ok (.ifCond .ne 20, 3) := by decide +kernel
theorem dX9_go_321 : decode cX9_go 321 = .ok (.aload_n 0, 1) := by decide +kernel
theorem dX9_go_322 : decode cX9_go 322 = .ok (.getfield 21, 3) := by decide +kernel
theorem dX9_go_325 : decode cX9_go 325 = .ok (.aload_n 0, 1) := by decide +kernel
theorem dX9_go_326 : decode cX9_go 326 = .ok (.getfield 24, 3) := by decide +kernel
theorem dX9_go_329 : decode cX9_go 329 = .ok (.isub, 1) := by decide +kernel
theorem dX9_go_330 : decode cX9_go 330 = .ok (.iconst 3, 1) := by decide +kernel
theorem dX9_go_331 : decode cX9_go 331 = .ok (.if_icmp .le 7, 3) := by decide +kernel
theorem dX9_go_334 : decode cX9_go 334 = .ok (.iconst 1, 1) := by decide +kernel
theorem dX9_go_335 : decode cX9_go 335 = .ok (.goto 12, 3) := by decide +kernel
theorem dX9_go_338 : decode cX9_go 338 = .ok (.iload_n 2, 1) := by decide +kernel
theorem dX9_go_339 : decode cX9_go 339 = .ok (.ifCond .eq 7, 3) := by decide +kernel
theorem dX9_go_342 : decode cX9_go 342 = .ok (.iconst 2, 1) := by decide +kernel
theorem dX9_go_343 : decode cX9_go 343 = .ok (.goto 4, 3) := by decide +kernel
theorem dX9_go_346 : decode cX9_go 346 = .ok (.iconst 3, 1) := by decide +kernel
theorem dX9_go_347 : decode cX9_go 347 = .ok (.putfield 27, 3) := by decide +kernel
theorem dX9_go_350 : decode cX9_go 350 = .ok (.return_, 1) := by decide +kernel
theorem dX9_two_0 : decode cX9_two 0 = .ok (.ldc2_w 48, 3) := by decide +kernel
theorem dX9_two_3 : decode cX9_two 3 = .ok (.iload_n 0, 1) := by decide +kernel
theorem dX9_two_4 : decode cX9_two 4 = .ok (.i2l, 1) := by decide +kernel
theorem dX9_two_5 : decode cX9_two 5 = .ok (.ldc2_w 50, 3) := by decide +kernel
theorem dX9_two_8 : decode cX9_two 8 = .ok (.lsub, 1) := by decide +kernel
theorem dX9_two_9 : decode cX9_two 9 = .ok (.lmul, 1) := by decide +kernel
theorem dX9_two_10 : decode cX9_two 10 = .ok (.iload_n 1, 1) := by decide +kernel
theorem dX9_two_11 : decode cX9_two 11 = .ok (.i2l, 1) := by decide +kernel
theorem dX9_two_12 : decode cX9_two 12 = .ok (.ladd, 1) := by decide +kernel
theorem dX9_two_13 : decode cX9_two 13 = .ok (.ldc2_w 50, 3) := by decide +kernel
theorem dX9_two_16 : decode cX9_two 16 = .ok (.lsub, 1) := by decide +kernel
theorem dX9_two_17 : decode cX9_two 17 = .ok (.lreturn, 1) := by decide +kernel
theorem dX9_four_0 : decode cX9_four 0 = .ok (.ldc2_w 52, 3) := by decide +kernel
theorem dX9_four_3 : decode cX9_four 3 = .ok (.iload_n 0, 1) := by decide +kernel
theorem dX9_four_4 : decode cX9_four 4 = .ok (.iload_n 1, 1) := by decide +kernel
theorem dX9_four_5 : decode cX9_four 5 = .ok (.invokestatic 54, 3) := by decide +kernel
theorem dX9_four_8 : decode cX9_four 8 = .ok (.lmul, 1) := by decide +kernel
theorem dX9_four_9 : decode cX9_four 9 = .ok (.iload_n 2, 1) := by decide +kernel
theorem dX9_four_10 : decode cX9_four 10 = .ok (.iload_n 3, 1) := by decide +kernel
theorem dX9_four_11 : decode cX9_four 11 = .ok (.invokestatic 54, 3) := by decide +kernel
theorem dX9_four_14 : decode cX9_four 14 = .ok (.ladd, 1) := by decide +kernel
theorem dX9_four_15 : decode cX9_four 15 = .ok (.lreturn, 1) := by decide +kernel
theorem dX9_seven_0 : decode cX9_seven 0 = .ok (.ldc2_w 48, 3) := by decide +kernel
theorem dX9_seven_3 : decode cX9_seven 3 = .ok (.ldc2_w 52, 3) := by decide +kernel
theorem dX9_seven_6 : decode cX9_seven 6 = .ok (.iload_n 0, 1) := by decide +kernel
theorem dX9_seven_7 : decode cX9_seven 7 = .ok (.iload_n 1, 1) := by decide +kernel
theorem dX9_seven_8 : decode cX9_seven 8 = .ok (.iload_n 2, 1) := by decide +kernel
theorem dX9_seven_9 : decode cX9_seven 9 = .ok (.iload_n 3, 1) := by decide +kernel
theorem dX9_seven_10 : decode cX9_seven 10 = .ok (.invokestatic 58, 3) := by decide +kernel
theorem dX9_seven_13 : decode cX9_seven 13 = .ok (.lmul, 1) := by decide +kernel
theorem dX9_seven_14 : decode cX9_seven 14 = .ok (.iload 4, 2) := by decide +kernel
theorem dX9_seven_16 : decode cX9_seven 16 = .ok (.iload 5, 2) := by decide +kernel
theorem dX9_seven_18 : decode cX9_seven 18 = .ok (.invokestatic 54, 3) := by decide +kernel
theorem dX9_seven_21 : decode cX9_seven 21 = .ok (.ladd, 1) := by decide +kernel
theorem dX9_seven_22 : decode cX9_seven 22 = .ok (.lmul, 1) := by decide +kernel
theorem dX9_seven_23 : decode cX9_seven 23 = .ok (.iload 6, 2) := by decide +kernel
theorem dX9_seven_25 : decode cX9_seven 25 = .ok (.i2l, 1) := by decide +kernel
theorem dX9_seven_26 : decode cX9_seven 26 = .ok (.ladd, 1) := by decide +kernel
theorem dX9_seven_27 : decode cX9_seven 27 = .ok (.ldc2_w 50, 3) := by decide +kernel
theorem dX9_seven_30 : decode cX9_seven 30 = .ok (.lsub, 1) := by decide +kernel
theorem dX9_seven_31 : decode cX9_seven 31 = .ok (.lreturn, 1) := by decide +kernel
theorem dX9_isWord_0 : decode cX9_isWord 0 = .ok (.aload_n 0, 1) := by decide +kernel
theorem dX9_isWord_1 : decode cX9_isWord 1 = .ok (.getfield 27, 3) := by decide +kernel
theorem dX9_isWord_4 : decode cX9_isWord 4 = .ok (.iconst 2, 1) := by decide +kernel
theorem dX9_isWord_5 : decode cX9_isWord 5 = .ok (.if_icmp .ne 16, 3) := by decide +kernel
theorem dX9_isWord_8 : decode cX9_isWord 8 = .ok (.aload_n 0, 1) := by decide +kernel
theorem dX9_isWord_9 : decode cX9_isWord 9 = .ok (.getfield 37, 3) := by decide +kernel
theorem dX9_isWord_12 : decode cX9_isWord 12 = .ok (.lload_n 1, 1) := by decide +kernel
theorem dX9_isWord_13 : decode cX9_isWord 13 = .ok (.lcmp, 1) := by decide +kernel
theorem dX9_isWord_14 : decode cX9_isWord 14 = .ok (.ifCond .ne 7, 3) := by decide +kernel
theorem dX9_isWord_17 : decode cX9_isWord 17 = .ok (.iconst 1, 1) := by decide +kernel
theorem dX9_isWord_18 : decode cX9_isWord 18 = .ok (.goto 4, 3) := by decide +kernel
theorem dX9_isWord_21 : decode cX9_isWord 21 = .ok (.iconst 0, 1) := by decide +kernel
theorem dX9_isWord_22 : decode cX9_isWord 22 = .ok (.ireturn, 1) := by decide +kernel
theorem dX9_bad_0 : decode cX9_bad 0 = .ok (.aload_n 0, 1) := by decide +kernel
theorem dX9_bad_1 : decode cX9_bad 1 = .ok (.aload_n 0, 1) := by decide +kernel
theorem dX9_bad_2 : decode cX9_bad 2 = .ok (.getfield 27, 3) := by decide +kernel
theorem dX9_bad_5 : decode cX9_bad 5 = .ok (.iconst 1, 1) := by decide +kernel
theorem dX9_bad_6 : decode cX9_bad 6 = .ok (.if_icmp .ne 7, 3) := by decide +kernel
theorem dX9_bad_9 : decode cX9_bad 9 = .ok (.iconst 1, 1) := by decide +kernel
theorem dX9_bad_10 : decode cX9_bad 10 = .ok (.goto 4, 3) := by decide +kernel
theorem dX9_bad_13 : decode cX9_bad 13 = .ok (.iload_n 1, 1) := by decide +kernel
theorem dX9_bad_14 : decode cX9_bad 14 = .ok (.putfield 62, 3) := by decide +kernel
theorem dX9_bad_17 : decode cX9_bad 17 = .ok (.aload_n 0, 1) := by decide +kernel
theorem dX9_bad_18 : decode cX9_bad 18 = .ok (.aload_n 0, 1) := by decide +kernel
theorem dX9_bad_19 : decode cX9_bad 19 = .ok (.getfield 24, 3) := by decide +kernel
theorem dX9_bad_22 : decode cX9_bad 22 = .ok (.putfield 65, 3) := by decide +kernel
theorem dX9_bad_25 : decode cX9_bad 25 = .ok (.iconst 0, 1) := by decide +kernel
theorem dX9_bad_26 : decode cX9_bad 26 = .ok (.ireturn, 1) := by decide +kernel
theorem dX9_init_0 : decode cX9_init 0 = .ok (.aload_n 0, 1) := by decide +kernel
theorem dX9_init_1 : decode cX9_init 1 = .ok (.invokespecial 68, 3) := by decide +kernel
theorem dX9_init_4 : decode cX9_init 4 = .ok (.aload_n 0, 1) := by decide +kernel
theorem dX9_init_5 : decode cX9_init 5 = .ok (.sipush 640, 3) := by decide +kernel
theorem dX9_init_8 : decode cX9_init 8 = .ok (.newarray .int, 2) := by decide +kernel
theorem dX9_init_10 : decode cX9_init 10 = .ok (.putfield 7, 3) := by decide +kernel
theorem dX9_init_13 : decode cX9_init 13 = .ok (.aload_n 0, 1) := by decide +kernel
theorem dX9_init_14 : decode cX9_init 14 = .ok (.sipush 845, 3) := by decide +kernel
theorem dX9_init_17 : decode cX9_init 17 = .ok (.newarray .int, 2) := by decide +kernel
theorem dX9_init_19 : decode cX9_init 19 = .ok (.putfield 74, 3) := by decide +kernel
theorem dX9_init_22 : decode cX9_init 22 = .ok (.aload_n 0, 1) := by decide +kernel
theorem dX9_init_23 : decode cX9_init 23 = .ok (.sipush 845, 3) := by decide +kernel
theorem dX9_init_26 : decode cX9_init 26 = .ok (.newarray .int, 2) := by decide +kernel
theorem dX9_init_28 : decode cX9_init 28 = .ok (.putfield 77, 3) := by decide +kernel
theorem dX9_init_31 : decode cX9_init 31 = .ok (.aload_n 0, 1) := by decide +kernel
theorem dX9_init_32 : decode cX9_init 32 = .ok (.sipush 8450, 3) := by decide +kernel
theorem dX9_init_35 : decode cX9_init 35 = .ok (.newarray .int, 2) := by decide +kernel
theorem dX9_init_37 : decode cX9_init 37 = .ok (.putfield 80, 3) := by decide +kernel
theorem dX9_init_40 : decode cX9_init 40 = .ok (.aload_n 0, 1) := by decide +kernel
theorem dX9_init_41 : decode cX9_init 41 = .ok (.bipush 40, 2) := by decide +kernel
theorem dX9_init_43 : decode cX9_init 43 = .ok (.newarray .int, 2) := by decide +kernel
theorem dX9_init_45 : decode cX9_init 45 = .ok (.putfield 83, 3) := by decide +kernel
theorem dX9_init_48 : decode cX9_init 48 = .ok (.aload_n 0, 1) := by decide +kernel
theorem dX9_init_49 : decode cX9_init 49 = .ok (.bipush 80, 2) := by decide +kernel
theorem dX9_init_51 : decode cX9_init 51 = .ok (.newarray .int, 2) := by decide +kernel
theorem dX9_init_53 : decode cX9_init 53 = .ok (.putfield 86, 3) := by decide +kernel
theorem dX9_init_56 : decode cX9_init 56 = .ok (.aload_n 0, 1) := by decide +kernel
theorem dX9_init_57 : decode cX9_init 57 = .ok (.getfield 74, 3) := by decide +kernel
theorem dX9_init_60 : decode cX9_init 60 = .ok (.iconst 0, 1) := by decide +kernel
theorem dX9_init_61 : decode cX9_init 61 = .ok (.iconst 1, 1) := by decide +kernel
theorem dX9_init_62 : decode cX9_init 62 = .ok (.iastore, 1) := by decide +kernel
theorem dX9_init_63 : decode cX9_init 63 = .ok (.return_, 1) := by decide +kernel
theorem dX9_told_0 : decode cX9_told 0 = .ok (.aload_n 0, 1) := by decide +kernel
theorem dX9_told_1 : decode cX9_told 1 = .ok (.getfield 27, 3) := by decide +kernel
theorem dX9_told_4 : decode cX9_told 4 = .ok (.iconst 3, 1) := by decide +kernel
theorem dX9_told_5 : decode cX9_told 5 = .ok (.if_icmp .eq 9, 3) := by decide +kernel
theorem dX9_told_8 : decode cX9_told 8 = .ok (.aload_n 0, 1) := by decide +kernel
theorem dX9_told_9 : decode cX9_told 9 = .ok (.iconst 1, 1) := by decide +kernel
theorem dX9_told_10 : decode cX9_told 10 = .ok (.invokevirtual 89, 3) := by decide +kernel
theorem dX9_told_13 : decode cX9_told 13 = .ok (.ireturn, 1) := by decide +kernel
theorem dX9_told_14 : decode cX9_told 14 = .ok (.aload_n 0, 1) := by decide +kernel
theorem dX9_told_15 : decode cX9_told 15 = .ok (.getfield 41, 3) := by decide +kernel
theorem dX9_told_18 : decode cX9_told 18 = .ok (.iload_n 2, 1) := by decide +kernel
theorem dX9_told_19 : decode cX9_told 19 = .ok (.iload_n 3, 1) := by decide +kernel
theorem dX9_told_20 : decode cX9_told 20 = .ok (.invokestatic 92, 3) := by decide +kernel
theorem dX9_told_23 : decode cX9_told 23 = .ok (.ifCond .ne 9, 3) := by decide +kernel
theorem dX9_told_26 : decode cX9_told 26 = .ok (.aload_n 0, 1) := by decide +kernel
theorem dX9_told_27 : decode cX9_told 27 = .ok (.iconst 2, 1) := by decide +kernel
theorem dX9_told_28 : decode cX9_told 28 = .ok (.invokevirtual 89, 3) := by decide +kernel
theorem dX9_told_31 : decode cX9_told 31 = .ok (.ireturn, 1) := by decide +kernel
theorem dX9_told_32 : decode cX9_told 32 = .ok (.aload_n 0, 1) := by decide +kernel
theorem dX9_told_33 : decode cX9_told 33 = .ok (.getfield 77, 3) := by decide +kernel
theorem dX9_told_36 : decode cX9_told 36 = .ok (.iload_n 1, 1) := by decide +kernel
theorem dX9_told_37 : decode cX9_told 37 = .ok (.aload_n 0, 1) := by decide +kernel
theorem dX9_told_38 : decode cX9_told 38 = .ok (.getfield 41, 3) := by decide +kernel
theorem dX9_told_41 : decode cX9_told 41 = .ok (.iastore, 1) := by decide +kernel
theorem dX9_told_42 : decode cX9_told 42 = .ok (.aload_n 0, 1) := by decide +kernel
theorem dX9_told_43 : decode cX9_told 43 = .ok (.invokevirtual 96, 3) := by decide +kernel
theorem dX9_told_46 : decode cX9_told 46 = .ok (.iconst 1, 1) := by decide +kernel
theorem dX9_told_47 : decode cX9_told 47 = .ok (.ireturn, 1) := by decide +kernel
theorem dX9_takes_0 : decode cX9_takes 0 = .ok (.aload_n 0, 1) := by decide +kernel
theorem dX9_takes_1 : decode cX9_takes 1 = .ok (.getfield 27, 3) := by decide +kernel
theorem dX9_takes_4 : decode cX9_takes 4 = .ok (.iconst 3, 1) := by decide +kernel
theorem dX9_takes_5 : decode cX9_takes 5 = .ok (.if_icmp .eq 9, 3) := by decide +kernel
theorem dX9_takes_8 : decode cX9_takes 8 = .ok (.aload_n 0, 1) := by decide +kernel
theorem dX9_takes_9 : decode cX9_takes 9 = .ok (.iconst 1, 1) := by decide +kernel
theorem dX9_takes_10 : decode cX9_takes 10 = .ok (.invokevirtual 89, 3) := by decide +kernel
theorem dX9_takes_13 : decode cX9_takes 13 = .ok (.ireturn, 1) := by decide +kernel
theorem dX9_takes_14 : decode cX9_takes 14 = .ok (.aload_n 0, 1) := by decide +kernel
theorem dX9_takes_15 : decode cX9_takes 15 = .ok (.getfield 41, 3) := by decide +kernel
theorem dX9_takes_18 : decode cX9_takes 18 = .ok (.iload_n 1, 1) := by decide +kernel
theorem dX9_takes_19 : decode cX9_takes 19 = .ok (.iload_n 2, 1) := by decide +kernel
theorem dX9_takes_20 : decode cX9_takes 20 = .ok (.invokestatic 92, 3) := by decide +kernel
theorem dX9_takes_23 : decode cX9_takes 23 = .ok (.ifCond .ne 9, 3) := by decide +kernel
theorem dX9_takes_26 : decode cX9_takes 26 = .ok (.aload_n 0, 1) := by decide +kernel
theorem dX9_takes_27 : decode cX9_takes 27 = .ok (.iconst 2, 1) := by decide +kernel
theorem dX9_takes_28 : decode cX9_takes 28 = .ok (.invokevirtual 89, 3) := by decide +kernel
theorem dX9_takes_31 : decode cX9_takes 31 = .ok (.ireturn, 1) := by decide +kernel
theorem dX9_takes_32 : decode cX9_takes 32 = .ok (.aload_n 0, 1) := by decide +kernel
theorem dX9_takes_33 : decode cX9_takes 33 = .ok (.aload_n 0, 1) := by decide +kernel
theorem dX9_takes_34 : decode cX9_takes 34 = .ok (.getfield 41, 3) := by decide +kernel
theorem dX9_takes_37 : decode cX9_takes 37 = .ok (.putfield 99, 3) := by decide +kernel
theorem dX9_takes_40 : decode cX9_takes 40 = .ok (.aload_n 0, 1) := by decide +kernel
theorem dX9_takes_41 : decode cX9_takes 41 = .ok (.invokevirtual 96, 3) := by decide +kernel
theorem dX9_takes_44 : decode cX9_takes 44 = .ok (.iconst 1, 1) := by decide +kernel
theorem dX9_takes_45 : decode cX9_takes 45 = .ok (.ireturn, 1) := by decide +kernel
theorem dX9_readEnd_0 : decode cX9_readEnd 0 = .ok (.aload_n 0, 1) := by decide +kernel
theorem dX9_readEnd_1 : decode cX9_readEnd 1 = .ok (.getfield 27, 3) := by decide +kernel
theorem dX9_readEnd_4 : decode cX9_readEnd 4 = .ok (.iconst 4, 1) := by decide +kernel
theorem dX9_readEnd_5 : decode cX9_readEnd 5 = .ok (.if_icmp .eq 9, 3) := by decide +kernel
theorem dX9_readEnd_8 : decode cX9_readEnd 8 = .ok (.aload_n 0, 1) := by decide +kernel
theorem dX9_readEnd_9 : decode cX9_readEnd 9 = .ok (.iconst 1, 1) := by decide +kernel
theorem dX9_readEnd_10 : decode cX9_readEnd 10 = .ok (.invokevirtual 89, 3) := by decide +kernel
theorem dX9_readEnd_13 : decode cX9_readEnd 13 = .ok (.ireturn, 1) := by decide +kernel
theorem dX9_readEnd_14 : decode cX9_readEnd 14 = .ok (.aload_n 0, 1) := by decide +kernel
theorem dX9_readEnd_15 : decode cX9_readEnd 15 = .ok (.invokevirtual 96, 3) := by decide +kernel
theorem dX9_readEnd_18 : decode cX9_readEnd 18 = .ok (.iconst 1, 1) := by decide +kernel
theorem dX9_readEnd_19 : decode cX9_readEnd 19 = .ok (.ireturn, 1) := by decide +kernel
theorem dX9_readShelves_0 : decode cX9_readShelves 0 = .ok (.aload_n 0, 1) := by decide +kernel
theorem dX9_readShelves_1 : decode cX9_readShelves 1 = .ok (.bipush 115, 2) := by decide +kernel
theorem dX9_readShelves_3 : decode cX9_readShelves 3 = .ok (.bipush 104, 2) := by decide +kernel
theorem dX9_readShelves_5 : decode cX9_readShelves 5 = .ok (.bipush 101, 2) := by decide +kernel
theorem dX9_readShelves_7 : decode cX9_readShelves 7 = .ok (.bipush 108, 2) := by decide +kernel
theorem dX9_readShelves_9 : decode cX9_readShelves 9 = .ok (.bipush 118, 2) := by decide +kernel
theorem dX9_readShelves_11 : decode cX9_readShelves 11 = .ok (.bipush 101, 2) := by decide +kernel
theorem dX9_readShelves_13 : decode cX9_readShelves 13 = .ok (.bipush 115, 2) := by decide +kernel
theorem dX9_readShelves_15 : decode cX9_readShelves 15 = .ok (.invokestatic 102, 3) := by decide +kernel
theorem dX9_readShelves_18 : decode cX9_readShelves 18 = .ok (.invokevirtual 106, 3) := by decide +kernel
theorem dX9_readShelves_21 : decode cX9_readShelves 21 = .ok (.ifCond .ne 9, 3) := by decide +kernel
theorem dX9_readShelves_24 : decode cX9_readShelves 24 = .ok (.aload_n 0, 1) := by decide +kernel
theorem dX9_readShelves_25 : decode cX9_readShelves 25 = .ok (.iconst 1, 1) := by decide +kernel
theorem dX9_readShelves_26 : decode cX9_readShelves 26 = .ok (.invokevirtual 89, 3) := by decide +kernel
theorem dX9_readShelves_29 : decode cX9_readShelves 29 = .ok (.ireturn, 1) := by decide +kernel
theorem dX9_readShelves_30 : decode cX9_readShelves 30 = .ok (.aload_n 0, 1) := by decide +kernel
theorem dX9_readShelves_31 : decode cX9_readShelves 31 = .ok (.invokevirtual 96, 3) := by decide +kernel
theorem dX9_readShelves_34 : decode cX9_readShelves 34 = .ok (.aload_n 0, 1) := by decide +kernel
theorem dX9_readShelves_35 : decode cX9_readShelves 35 = .ok (.iconst 0, 1) := by decide +kernel
theorem dX9_readShelves_36 : decode cX9_readShelves 36 = .ok (.iconst 1, 1) := by decide +kernel
theorem dX9_readShelves_37 : decode cX9_readShelves 37 = .ok (.bipush 6, 2) := by decide +kernel
theorem dX9_readShelves_39 : decode cX9_readShelves 39 = .ok (.invokevirtual 110, 3) := by decide +kernel
theorem dX9_readShelves_42 : decode cX9_readShelves 42 = .ok (.ifCond .eq 14, 3) := by decide +kernel
theorem dX9_readShelves_45 : decode cX9_readShelves 45 = .ok (.aload_n 0, 1) := by decide +kernel
theorem dX9_readShelves_46 : decode cX9_readShelves 46 = .ok (.invokevirtual 113, 3) := by decide +kernel
theorem dX9_readShelves_49 : decode cX9_readShelves 49 = .ok (.ifCond .eq 7, 3) := by decide +kernel
theorem dX9_readShelves_52 : decode cX9_readShelves 52 = .ok (.iconst 1, 1) := by decide +kernel
theorem dX9_readShelves_53 : decode cX9_readShelves 53 = .ok (.goto 4, 3) := by decide +kernel
theorem dX9_readShelves_56 : decode cX9_readShelves 56 = .ok (.iconst 0, 1) := by decide +kernel
theorem dX9_readShelves_57 : decode cX9_readShelves 57 = .ok (.ireturn, 1) := by decide +kernel
theorem dX9_readItem_0 : decode cX9_readItem 0 = .ok (.aload_n 0, 1) := by decide +kernel
theorem dX9_readItem_1 : decode cX9_readItem 1 = .ok (.getfield 77, 3) := by decide +kernel
theorem dX9_readItem_4 : decode cX9_readItem 4 = .ok (.iconst 1, 1) := by decide +kernel
theorem dX9_readItem_5 : decode cX9_readItem 5 = .ok (.iaload, 1) := by decide +kernel
theorem dX9_readItem_6 : decode cX9_readItem 6 = .ok (.iconst 5, 1) := by decide +kernel
theorem dX9_readItem_7 : decode cX9_readItem 7 = .ok (.if_icmp .ne 9, 3) := by decide +kernel
theorem dX9_readItem_10 : decode cX9_readItem 10 = .ok (.aload_n 0, 1) := by decide +kernel
theorem dX9_readItem_11 : decode cX9_readItem 11 = .ok (.iconst 3, 1) := by decide +kernel
theorem dX9_readItem_12 : decode cX9_readItem 12 = .ok (.invokevirtual 89, 3) := by decide +kernel
theorem dX9_readItem_15 : decode cX9_readItem 15 = .ok (.ireturn, 1) := by decide +kernel
theorem dX9_readItem_16 : decode cX9_readItem 16 = .ok (.aload_n 0, 1) := by decide +kernel
theorem dX9_readItem_17 : decode cX9_readItem 17 = .ok (.invokevirtual 96, 3) := by decide +kernel
theorem dX9_readItem_20 : decode cX9_readItem 20 = .ok (.iconst 5, 1) := by decide +kernel
theorem dX9_readItem_21 : decode cX9_readItem 21 = .ok (.iconst 2, 1) := by decide +kernel
theorem dX9_readItem_22 : decode cX9_readItem 22 = .ok (.aload_n 0, 1) := by decide +kernel
theorem dX9_readItem_23 : decode cX9_readItem 23 = .ok (.getfield 77, 3) := by decide +kernel
theorem dX9_readItem_26 : decode cX9_readItem 26 = .ok (.iconst 1, 1) := by decide +kernel
theorem dX9_readItem_27 : decode cX9_readItem 27 = .ok (.iaload, 1) := by decide +kernel
theorem dX9_readItem_28 : decode cX9_readItem 28 = .ok (.imul, 1) := by decide +kernel
theorem dX9_readItem_29 : decode cX9_readItem 29 = .ok (.iadd, 1) := by decide +kernel
theorem dX9_readItem_30 : decode cX9_readItem 30 = .ok (.istore_n 1, 1) := by decide +kernel
theorem dX9_readItem_31 : decode cX9_readItem 31 = .ok (.aload_n 0, 1) := by decide +kernel
theorem dX9_readItem_32 : decode cX9_readItem 32 = .ok (.iload_n 1, 1) := by decide +kernel
theorem dX9_readItem_33 : decode cX9_readItem 33 = .ok (.iconst 0, 1) := by decide +kernel
theorem dX9_readItem_34 : decode cX9_readItem 34 = .ok (.bipush 99, 2) := by decide +kernel
theorem dX9_readItem_36 : decode cX9_readItem 36 = .ok (.invokevirtual 110, 3) := by decide +kernel
theorem dX9_readItem_39 : decode cX9_readItem 39 = .ok (.ifCond .eq 16, 3) := by decide +kernel
theorem dX9_readItem_42 : decode cX9_readItem 42 = .ok (.aload_n 0, 1) := by decide +kernel
theorem dX9_readItem_43 : decode cX9_readItem 43 = .ok (.iload_n 1, 1) := by decide +kernel
theorem dX9_readItem_44 : decode cX9_readItem 44 = .ok (.iconst 1, 1) := by decide +kernel
theorem dX9_readItem_45 : decode cX9_readItem 45 = .ok (.iadd, 1) := by decide +kernel
theorem dX9_readItem_46 : decode cX9_readItem 46 = .ok (.iconst 0, 1) := by decide +kernel
theorem dX9_readItem_47 : decode cX9_readItem 47 = .ok (.bipush 99, 2) := by decide +kernel
theorem dX9_readItem_49 : decode cX9_readItem 49 = .ok (.invokevirtual 110, 3) := by decide +kernel
theorem dX9_readItem_52 : decode cX9_readItem 52 = .ok (.ifCond .ne 5, 3) := by decide +kernel
theorem dX9_readItem_55 : decode cX9_readItem 55 = .ok (.iconst 0, 1) := by decide +kernel
theorem dX9_readItem_56 : decode cX9_readItem 56 = .ok (.ireturn, 1) := by decide +kernel
theorem dX9_readItem_57 : decode cX9_readItem 57 = .ok (.aload_n 0, 1) := by decide +kernel
theorem dX9_readItem_58 : decode cX9_readItem 58 = .ok (.getfield 77, 3) := by decide +kernel
theorem dX9_readItem_61 : decode cX9_readItem 61 = .ok (.iconst 1, 1) := by decide +kernel
theorem dX9_readItem_62 : decode cX9_readItem 62 = .ok (.dup2, 1) := by decide +kernel
theorem dX9_readItem_63 : decode cX9_readItem 63 = .ok (.iaload, 1) := by decide +kernel
theorem dX9_readItem_64 : decode cX9_readItem 64 = .ok (.iconst 1, 1) := by decide +kernel
theorem dX9_readItem_65 : decode cX9_readItem 65 = .ok (.iadd, 1) := by decide +kernel
theorem dX9_readItem_66 : decode cX9_readItem 66 = .ok (.iastore, 1) := by decide +kernel
theorem dX9_readItem_67 : decode cX9_readItem 67 = .ok (.aload_n 0, 1) := by decide +kernel
theorem dX9_readItem_68 : decode cX9_readItem 68 = .ok (.invokevirtual 113, 3) := by decide +kernel
theorem dX9_readItem_71 : decode cX9_readItem 71 = .ok (.ireturn, 1) := by decide +kernel
theorem dX9_readStock_0 : decode cX9_readStock 0 = .ok (.aload_n 0, 1) := by decide +kernel
theorem dX9_readStock_1 : decode cX9_readStock 1 = .ok (.invokevirtual 96, 3) := by decide +kernel
theorem dX9_readStock_4 : decode cX9_readStock 4 = .ok (.aload_n 0, 1) := by decide +kernel
theorem dX9_readStock_5 : decode cX9_readStock 5 = .ok (.iconst 0, 1) := by decide +kernel
theorem dX9_readStock_6 : decode cX9_readStock 6 = .ok (.aload_n 0, 1) := by decide +kernel
theorem dX9_readStock_7 : decode cX9_readStock 7 = .ok (.getfield 77, 3) := by decide +kernel
theorem dX9_readStock_10 : decode cX9_readStock 10 = .ok (.iconst 0, 1) := by decide +kernel
theorem dX9_readStock_11 : decode cX9_readStock 11 = .ok (.iaload, 1) := by decide +kernel
theorem dX9_readStock_12 : decode cX9_readStock 12 = .ok (.iconst 1, 1) := by decide +kernel
theorem dX9_readStock_13 : decode cX9_readStock 13 = .ok (.isub, 1) := by decide +kernel
theorem dX9_readStock_14 : decode cX9_readStock 14 = .ok (.invokevirtual 117, 3) := by decide +kernel
theorem dX9_readStock_17 : decode cX9_readStock 17 = .ok (.ifCond .ne 5, 3) := by decide +kernel
theorem dX9_readStock_20 : decode cX9_readStock 20 = .ok (.iconst 0, 1) := by decide +kernel
theorem dX9_readStock_21 : decode cX9_readStock 21 = .ok (.ireturn, 1) := by decide +kernel
theorem dX9_readStock_22 : decode cX9_readStock 22 = .ok (.aload_n 0, 1) := by decide +kernel
theorem dX9_readStock_23 : decode cX9_readStock 23 = .ok (.getfield 99, 3) := by decide +kernel
theorem dX9_readStock_26 : decode cX9_readStock 26 = .ok (.istore_n 1, 1) := by decide +kernel
theorem dX9_readStock_27 : decode cX9_readStock 27 = .ok (.aload_n 0, 1) := by decide +kernel
theorem dX9_readStock_28 : decode cX9_readStock 28 = .ok (.getfield 27, 3) := by decide +kernel
theorem dX9_readStock_31 : decode cX9_readStock 31 = .ok (.iconst 3, 1) := by decide +kernel
theorem dX9_readStock_32 : decode cX9_readStock 32 = .ok (.if_icmp .eq 9, 3) := by decide +kernel
theorem dX9_readStock_35 : decode cX9_readStock 35 = .ok (.aload_n 0, 1) := by decide +kernel
theorem dX9_readStock_36 : decode cX9_readStock 36 = .ok (.iconst 1, 1) := by decide +kernel
theorem dX9_readStock_37 : decode cX9_readStock 37 = .ok (.invokevirtual 89, 3) := by decide +kernel
theorem dX9_readStock_40 : decode cX9_readStock 40 = .ok (.ireturn, 1) := by decide +kernel
theorem dX9_readStock_41 : decode cX9_readStock 41 = .ok (.aload_n 0, 1) := by decide +kernel
theorem dX9_readStock_42 : decode cX9_readStock 42 = .ok (.getfield 41, 3) := by decide +kernel
theorem dX9_readStock_45 : decode cX9_readStock 45 = .ok (.aload_n 0, 1) := by decide +kernel
theorem dX9_readStock_46 : decode cX9_readStock 46 = .ok (.getfield 77, 3) := by decide +kernel
theorem dX9_readStock_49 : decode cX9_readStock 49 = .ok (.iconst 1, 1) := by decide +kernel
theorem dX9_readStock_50 : decode cX9_readStock 50 = .ok (.iaload, 1) := by decide +kernel
theorem dX9_readStock_51 : decode cX9_readStock 51 = .ok (.if_icmp .ge 22, 3) := by decide +kernel
theorem dX9_readStock_54 : decode cX9_readStock 54 = .ok (.aload_n 0, 1) := by decide +kernel
theorem dX9_readStock_55 : decode cX9_readStock 55 = .ok (.getfield 121, 3) := by decide +kernel
theorem dX9_readStock_58 : decode cX9_readStock 58 = .ok (.iconst 5, 1) := by decide +kernel
theorem dX9_readStock_59 : decode cX9_readStock 59 = .ok (.iload_n 1, 1) := by decide +kernel
theorem dX9_readStock_60 : decode cX9_readStock 60 = .ok (.imul, 1) := by decide +kernel
theorem dX9_readStock_61 : decode cX9_readStock 61 = .ok (.aload_n 0, 1) := by decide +kernel
theorem dX9_readStock_62 : decode cX9_readStock 62 = .ok (.getfield 41, 3) := by decide +kernel
theorem dX9_readStock_65 : decode cX9_readStock 65 = .ok (.iadd, 1) := by decide +kernel
theorem dX9_readStock_66 : decode cX9_readStock 66 = .ok (.ishr, 1) := by decide +kernel
theorem dX9_readStock_67 : decode cX9_readStock 67 = .ok (.iconst 1, 1) := by decide +kernel
theorem dX9_readStock_68 : decode cX9_readStock 68 = .ok (.iand, 1) := by decide +kernel
theorem dX9_readStock_69 : decode cX9_readStock 69 = .ok (.iconst 1, 1) := by decide +kernel
theorem dX9_readStock_70 : decode cX9_readStock 70 = .ok (.if_icmp .ne 9, 3) := by decide +kernel
theorem dX9_readStock_73 : decode cX9_readStock 73 = .ok (.aload_n 0, 1) := by decide +kernel
theorem dX9_readStock_74 : decode cX9_readStock 74 = .ok (.iconst 2, 1) := by decide +kernel
theorem dX9_readStock_75 : decode cX9_readStock 75 = .ok (.invokevirtual 89, 3) := by decide +kernel
theorem dX9_readStock_78 : decode cX9_readStock 78 = .ok (.ireturn, 1) := by decide +kernel
theorem dX9_readStock_79 : decode cX9_readStock 79 = .ok (.iconst 5, 1) := by decide +kernel
theorem dX9_readStock_80 : decode cX9_readStock 80 = .ok (.iload_n 1, 1) := by decide +kernel
theorem dX9_readStock_81 : decode cX9_readStock 81 = .ok (.imul, 1) := by decide +kernel
theorem dX9_readStock_82 : decode cX9_readStock 82 = .ok (.aload_n 0, 1) := by decide +kernel
theorem dX9_readStock_83 : decode cX9_readStock 83 = .ok (.getfield 41, 3) := by decide +kernel
theorem dX9_readStock_86 : decode cX9_readStock 86 = .ok (.iadd, 1) := by decide +kernel
theorem dX9_readStock_87 : decode cX9_readStock 87 = .ok (.istore_n 2, 1) := by decide +kernel
theorem dX9_readStock_88 : decode cX9_readStock 88 = .ok (.aload_n 0, 1) := by decide +kernel
theorem dX9_readStock_89 : decode cX9_readStock 89 = .ok (.dup, 1) := by decide +kernel
theorem dX9_readStock_90 : decode cX9_readStock 90 = .ok (.getfield 121, 3) := by decide +kernel
theorem dX9_readStock_93 : decode cX9_readStock 93 = .ok (.iconst 1, 1) := by decide +kernel
theorem dX9_readStock_94 : decode cX9_readStock 94 = .ok (.iload_n 2, 1) := by decide +kernel
theorem dX9_readStock_95 : decode cX9_readStock 95 = .ok (.ishl, 1) := by decide +kernel
theorem dX9_readStock_96 : decode cX9_readStock 96 = .ok (.ior, 1) := by decide +kernel
theorem dX9_readStock_97 : decode cX9_readStock 97 = .ok (.putfield 121, 3) := by decide +kernel
theorem dX9_readStock_100 : decode cX9_readStock 100 = .ok (.aload_n 0, 1) := by decide +kernel
theorem dX9_readStock_101 : decode cX9_readStock 101 = .ok (.invokevirtual 96, 3) := by decide +kernel
theorem dX9_readStock_104 : decode cX9_readStock 104 = .ok (.aload_n 0, 1) := by decide +kernel
theorem dX9_readStock_105 : decode cX9_readStock 105 = .ok (.bipush 15, 2) := by decide +kernel
theorem dX9_readStock_107 : decode cX9_readStock 107 = .ok (.iload_n 2, 1) := by decide +kernel
theorem dX9_readStock_108 : decode cX9_readStock 108 = .ok (.iadd, 1) := by decide +kernel
theorem dX9_readStock_109 : decode cX9_readStock 109 = .ok (.iconst 0, 1) := by decide +kernel
theorem dX9_readStock_110 : decode cX9_readStock 110 = .ok (.sipush 999, 3) := by decide +kernel
theorem dX9_readStock_113 : decode cX9_readStock 113 = .ok (.invokevirtual 110, 3) := by decide +kernel
theorem dX9_readStock_116 : decode cX9_readStock 116 = .ok (.ifCond .eq 14, 3) := by decide +kernel
theorem dX9_readStock_119 : decode cX9_readStock 119 = .ok (.aload_n 0, 1) := by decide +kernel
theorem dX9_readStock_120 : decode cX9_readStock 120 = .ok (.invokevirtual 113, 3) := by decide +kernel
theorem dX9_readStock_123 : decode cX9_readStock 123 = .ok (.ifCond .eq 7, 3) := by decide +kernel
theorem dX9_readStock_126 : decode cX9_readStock 126 = .ok (.iconst 1, 1) := by decide +kernel
theorem dX9_readStock_127 : decode cX9_readStock 127 = .ok (.goto 4, 3) := by decide +kernel
theorem dX9_readStock_130 : decode cX9_readStock 130 = .ok (.iconst 0, 1) := by decide +kernel
theorem dX9_readStock_131 : decode cX9_readStock 131 = .ok (.ireturn, 1) := by decide +kernel
theorem dX9_readLeg_0 : decode cX9_readLeg 0 = .ok (.aload_n 0, 1) := by decide +kernel
theorem dX9_readLeg_1 : decode cX9_readLeg 1 = .ok (.invokevirtual 96, 3) := by decide +kernel
theorem dX9_readLeg_4 : decode cX9_readLeg 4 = .ok (.aload_n 0, 1) := by decide +kernel
theorem dX9_readLeg_5 : decode cX9_readLeg 5 = .ok (.iload_n 1, 1) := by decide +kernel
theorem dX9_readLeg_6 : decode cX9_readLeg 6 = .ok (.iconst 1, 1) := by decide +kernel
theorem dX9_readLeg_7 : decode cX9_readLeg 7 = .ok (.iadd, 1) := by decide +kernel
theorem dX9_readLeg_8 : decode cX9_readLeg 8 = .ok (.iconst 0, 1) := by decide +kernel
theorem dX9_readLeg_9 : decode cX9_readLeg 9 = .ok (.aload_n 0, 1) := by decide +kernel
theorem dX9_readLeg_10 : decode cX9_readLeg 10 = .ok (.getfield 77, 3) := by decide +kernel
theorem dX9_readLeg_13 : decode cX9_readLeg 13 = .ok (.iconst 0, 1) := by decide +kernel
theorem dX9_readLeg_14 : decode cX9_readLeg 14 = .ok (.iaload, 1) := by decide +kernel
theorem dX9_readLeg_15 : decode cX9_readLeg 15 = .ok (.iconst 1, 1) := by decide +kernel
theorem dX9_readLeg_16 : decode cX9_readLeg 16 = .ok (.isub, 1) := by decide +kernel
theorem dX9_readLeg_17 : decode cX9_readLeg 17 = .ok (.invokevirtual 110, 3) := by decide +kernel
theorem dX9_readLeg_20 : decode cX9_readLeg 20 = .ok (.ifCond .eq 38, 3) := by decide +kernel
theorem dX9_readLeg_23 : decode cX9_readLeg 23 = .ok (.aload_n 0, 1) := by decide +kernel
theorem dX9_readLeg_24 : decode cX9_readLeg 24 = .ok (.iload_n 1, 1) := by decide +kernel
theorem dX9_readLeg_25 : decode cX9_readLeg 25 = .ok (.iconst 2, 1) := by decide +kernel
theorem dX9_readLeg_26 : decode cX9_readLeg 26 = .ok (.iadd, 1) := by decide +kernel
theorem dX9_readLeg_27 : decode cX9_readLeg 27 = .ok (.iconst 0, 1) := by decide +kernel
theorem dX9_readLeg_28 : decode cX9_readLeg 28 = .ok (.sipush 999, 3) := by decide +kernel
theorem dX9_readLeg_31 : decode cX9_readLeg 31 = .ok (.invokevirtual 110, 3) := by decide +kernel
theorem dX9_readLeg_34 : decode cX9_readLeg 34 = .ok (.ifCond .eq 24, 3) := by decide +kernel
theorem dX9_readLeg_37 : decode cX9_readLeg 37 = .ok (.aload_n 0, 1) := by decide +kernel
theorem dX9_readLeg_38 : decode cX9_readLeg 38 = .ok (.iload_n 1, 1) := by decide +kernel
theorem dX9_readLeg_39 : decode cX9_readLeg 39 = .ok (.iconst 3, 1) := by decide +kernel
theorem dX9_readLeg_40 : decode cX9_readLeg 40 = .ok (.iadd, 1) := by decide +kernel
theorem dX9_readLeg_41 : decode cX9_readLeg 41 = .ok (.aload_n 0, 1) := by decide +kernel
theorem dX9_readLeg_42 : decode cX9_readLeg 42 = .ok (.getfield 77, 3) := by decide +kernel
theorem dX9_readLeg_45 : decode cX9_readLeg 45 = .ok (.iload_n 1, 1) := by decide +kernel
theorem dX9_readLeg_46 : decode cX9_readLeg 46 = .ok (.iconst 2, 1) := by decide +kernel
theorem dX9_readLeg_47 : decode cX9_readLeg 47 = .ok (.iadd, 1) := by decide +kernel
theorem dX9_readLeg_48 : decode cX9_readLeg 48 = .ok (.iaload, 1) := by decide +kernel
theorem dX9_readLeg_49 : decode cX9_readLeg 49 = .ok (.sipush 999, 3) := by decide +kernel
theorem dX9_readLeg_52 : decode cX9_readLeg 52 = .ok (.invokevirtual 110, 3) := by decide +kernel
theorem dX9_readLeg_55 : decode cX9_readLeg 55 = .ok (.ifCond .ne 5, 3) := by decide +kernel
theorem dX9_readLeg_58 : decode cX9_readLeg 58 = .ok (.iconst 0, 1) := by decide +kernel
theorem dX9_readLeg_59 : decode cX9_readLeg 59 = .ok (.ireturn, 1) := by decide +kernel
theorem dX9_readLeg_60 : decode cX9_readLeg 60 = .ok (.aload_n 0, 1) := by decide +kernel
theorem dX9_readLeg_61 : decode cX9_readLeg 61 = .ok (.getfield 77, 3) := by decide +kernel
theorem dX9_readLeg_64 : decode cX9_readLeg 64 = .ok (.iload_n 1, 1) := by decide +kernel
theorem dX9_readLeg_65 : decode cX9_readLeg 65 = .ok (.iconst 0, 1) := by decide +kernel
theorem dX9_readLeg_66 : decode cX9_readLeg 66 = .ok (.iadd, 1) := by decide +kernel
theorem dX9_readLeg_67 : decode cX9_readLeg 67 = .ok (.iconst 1, 1) := by decide +kernel
theorem dX9_readLeg_68 : decode cX9_readLeg 68 = .ok (.iastore, 1) := by decide +kernel
theorem dX9_readLeg_69 : decode cX9_readLeg 69 = .ok (.iconst 1, 1) := by decide +kernel
theorem dX9_readLeg_70 : decode cX9_readLeg 70 = .ok (.ireturn, 1) := by decide +kernel
theorem dX9_readMove_0 : decode cX9_readMove 0 = .ok (.aload_n 0, 1) := by decide +kernel
theorem dX9_readMove_1 : decode cX9_readMove 1 = .ok (.getfield 77, 3) := by decide +kernel
theorem dX9_readMove_4 : decode cX9_readMove 4 = .ok (.iconst 2, 1) := by decide +kernel
theorem dX9_readMove_5 : decode cX9_readMove 5 = .ok (.iaload, 1) := by decide +kernel
theorem dX9_readMove_6 : decode cX9_readMove 6 = .ok (.bipush 16, 2) := by decide +kernel
theorem dX9_readMove_8 : decode cX9_readMove 8 = .ok (.if_icmp .ne 9, 3) := by decide +kernel
theorem dX9_readMove_11 : decode cX9_readMove 11 = .ok (.aload_n 0, 1) := by decide +kernel
theorem dX9_readMove_12 : decode cX9_readMove 12 = .ok (.iconst 3, 1) := by decide +kernel
theorem dX9_readMove_13 : decode cX9_readMove 13 = .ok (.invokevirtual 89, 3) := by decide +kernel
theorem dX9_readMove_16 : decode cX9_readMove 16 = .ok (.ireturn, 1) := by decide +kernel
theorem dX9_readMove_17 : decode cX9_readMove 17 = .ok (.aload_n 0, 1) := by decide +kernel
theorem dX9_readMove_18 : decode cX9_readMove 18 = .ok (.invokevirtual 96, 3) := by decide +kernel
theorem dX9_readMove_21 : decode cX9_readMove 21 = .ok (.bipush 45, 2) := by decide +kernel
theorem dX9_readMove_23 : decode cX9_readMove 23 = .ok (.bipush 10, 2) := by decide +kernel
theorem dX9_readMove_25 : decode cX9_readMove 25 = .ok (.aload_n 0, 1) := by decide +kernel
theorem dX9_readMove_26 : decode cX9_readMove 26 = .ok (.getfield 77, 3) := by decide +kernel
theorem dX9_readMove_29 : decode cX9_readMove 29 = .ok (.iconst 2, 1) := by decide +kernel
theorem dX9_readMove_30 : decode cX9_readMove 30 = .ok (.iaload, 1) := by decide +kernel
theorem dX9_readMove_31 : decode cX9_readMove 31 = .ok (.imul, 1) := by decide +kernel
theorem dX9_readMove_32 : decode cX9_readMove 32 = .ok (.iadd, 1) := by decide +kernel
theorem dX9_readMove_33 : decode cX9_readMove 33 = .ok (.istore_n 1, 1) := by decide +kernel
theorem dX9_readMove_34 : decode cX9_readMove 34 = .ok (.aload_n 0, 1) := by decide +kernel
theorem dX9_readMove_35 : decode cX9_readMove 35 = .ok (.iload_n 1, 1) := by decide +kernel
theorem dX9_readMove_36 : decode cX9_readMove 36 = .ok (.iconst 0, 1) := by decide +kernel
theorem dX9_readMove_37 : decode cX9_readMove 37 = .ok (.iadd, 1) := by decide +kernel
theorem dX9_readMove_38 : decode cX9_readMove 38 = .ok (.iconst 0, 1) := by decide +kernel
theorem dX9_readMove_39 : decode cX9_readMove 39 = .ok (.aload_n 0, 1) := by decide +kernel
theorem dX9_readMove_40 : decode cX9_readMove 40 = .ok (.getfield 77, 3) := by decide +kernel
theorem dX9_readMove_43 : decode cX9_readMove 43 = .ok (.iconst 1, 1) := by decide +kernel
theorem dX9_readMove_44 : decode cX9_readMove 44 = .ok (.iaload, 1) := by decide +kernel
theorem dX9_readMove_45 : decode cX9_readMove 45 = .ok (.iconst 1, 1) := by decide +kernel
theorem dX9_readMove_46 : decode cX9_readMove 46 = .ok (.isub, 1) := by decide +kernel
theorem dX9_readMove_47 : decode cX9_readMove 47 = .ok (.invokevirtual 110, 3) := by decide +kernel
theorem dX9_readMove_50 : decode cX9_readMove 50 = .ok (.ifCond .eq 16, 3) := by decide +kernel
theorem dX9_readMove_53 : decode cX9_readMove 53 = .ok (.aload_n 0, 1) := by decide +kernel
theorem dX9_readMove_54 : decode cX9_readMove 54 = .ok (.iload_n 1, 1) := by decide +kernel
theorem dX9_readMove_55 : decode cX9_readMove 55 = .ok (.iconst 1, 1) := by decide +kernel
theorem dX9_readMove_56 : decode cX9_readMove 56 = .ok (.iadd, 1) := by decide +kernel
theorem dX9_readMove_57 : decode cX9_readMove 57 = .ok (.iconst 1, 1) := by decide +kernel
theorem dX9_readMove_58 : decode cX9_readMove 58 = .ok (.bipush 99, 2) := by decide +kernel
theorem dX9_readMove_60 : decode cX9_readMove 60 = .ok (.invokevirtual 110, 3) := by decide +kernel
theorem dX9_readMove_63 : decode cX9_readMove 63 = .ok (.ifCond .ne 5, 3) := by decide +kernel
theorem dX9_readMove_66 : decode cX9_readMove 66 = .ok (.iconst 0, 1) := by decide +kernel
theorem dX9_readMove_67 : decode cX9_readMove 67 = .ok (.ireturn, 1) := by decide +kernel
theorem dX9_readMove_68 : decode cX9_readMove 68 = .ok (.aload_n 0, 1) := by decide +kernel
theorem dX9_readMove_69 : decode cX9_readMove 69 = .ok (.bipush 102, 2) := by decide +kernel
theorem dX9_readMove_71 : decode cX9_readMove 71 = .ok (.bipush 114, 2) := by decide +kernel
theorem dX9_readMove_73 : decode cX9_readMove 73 = .ok (.bipush 111, 2) := by decide +kernel
theorem dX9_readMove_75 : decode cX9_readMove 75 = .ok (.bipush 109, 2) := by decide +kernel
theorem dX9_readMove_77 : decode cX9_readMove 77 = .ok (.invokestatic 58, 3) := by decide +kernel
theorem dX9_readMove_80 : decode cX9_readMove 80 = .ok (.invokevirtual 106, 3) := by decide +kernel
theorem dX9_readMove_83 : decode cX9_readMove 83 = .ok (.ifCond .eq 15, 3) := by decide +kernel
theorem dX9_readMove_86 : decode cX9_readMove 86 = .ok (.aload_n 0, 1) := by decide +kernel
theorem dX9_readMove_87 : decode cX9_readMove 87 = .ok (.iload_n 1, 1) := by decide +kernel
theorem dX9_readMove_88 : decode cX9_readMove 88 = .ok (.iconst 2, 1) := by decide +kernel
theorem dX9_readMove_89 : decode cX9_readMove 89 = .ok (.iadd, 1) := by decide +kernel
theorem dX9_readMove_90 : decode cX9_readMove 90 = .ok (.invokevirtual 124, 3) := by decide +kernel
theorem dX9_readMove_93 : decode cX9_readMove 93 = .ok (.ifCond .ne 5, 3) := by decide +kernel
theorem dX9_readMove_96 : decode cX9_readMove 96 = .ok (.iconst 0, 1) := by decide +kernel
theorem dX9_readMove_97 : decode cX9_readMove 97 = .ok (.ireturn, 1) := by decide +kernel
theorem dX9_readMove_98 : decode cX9_readMove 98 = .ok (.aload_n 0, 1) := by decide +kernel
theorem dX9_readMove_99 : decode cX9_readMove 99 = .ok (.bipush 116, 2) := by decide +kernel
theorem dX9_readMove_101 : decode cX9_readMove 101 = .ok (.bipush 111, 2) := by decide +kernel
theorem dX9_readMove_103 : decode cX9_readMove 103 = .ok (.invokestatic 54, 3) := by decide +kernel
theorem dX9_readMove_106 : decode cX9_readMove 106 = .ok (.invokevirtual 106, 3) := by decide +kernel
theorem dX9_readMove_109 : decode cX9_readMove 109 = .ok (.ifCond .eq 17, 3) := by decide +kernel
theorem dX9_readMove_112 : decode cX9_readMove 112 = .ok (.aload_n 0, 1) := by decide +kernel
theorem dX9_readMove_113 : decode cX9_readMove 113 = .ok (.iload_n 1, 1) := by decide +kernel
theorem dX9_readMove_114 : decode cX9_readMove 114 = .ok (.iconst 2, 1) := by decide +kernel
theorem dX9_readMove_115 : decode cX9_readMove 115 = .ok (.iadd, 1) := by decide +kernel
theorem dX9_readMove_116 : decode cX9_readMove 116 = .ok (.iconst 4, 1) := by decide +kernel
theorem dX9_readMove_117 : decode cX9_readMove 117 = .ok (.iadd, 1) := by decide +kernel
theorem dX9_readMove_118 : decode cX9_readMove 118 = .ok (.invokevirtual 124, 3) := by decide +kernel
theorem dX9_readMove_121 : decode cX9_readMove 121 = .ok (.ifCond .ne 5, 3) := by decide +kernel
theorem dX9_readMove_124 : decode cX9_readMove 124 = .ok (.iconst 0, 1) := by decide +kernel
theorem dX9_readMove_125 : decode cX9_readMove 125 = .ok (.ireturn, 1) := by decide +kernel
theorem dX9_readMove_126 : decode cX9_readMove 126 = .ok (.aload_n 0, 1) := by decide +kernel
theorem dX9_readMove_127 : decode cX9_readMove 127 = .ok (.getfield 77, 3) := by decide +kernel
theorem dX9_readMove_130 : decode cX9_readMove 130 = .ok (.iconst 2, 1) := by decide +kernel
theorem dX9_readMove_131 : decode cX9_readMove 131 = .ok (.dup2, 1) := by decide +kernel
theorem dX9_readMove_132 : decode cX9_readMove 132 = .ok (.iaload, 1) := by decide +kernel
theorem dX9_readMove_133 : decode cX9_readMove 133 = .ok (.iconst 1, 1) := by decide +kernel
theorem dX9_readMove_134 : decode cX9_readMove 134 = .ok (.iadd, 1) := by decide +kernel
theorem dX9_readMove_135 : decode cX9_readMove 135 = .ok (.iastore, 1) := by decide +kernel
theorem dX9_readMove_136 : decode cX9_readMove 136 = .ok (.aload_n 0, 1) := by decide +kernel
theorem dX9_readMove_137 : decode cX9_readMove 137 = .ok (.invokevirtual 113, 3) := by decide +kernel
theorem dX9_readMove_140 : decode cX9_readMove 140 = .ok (.ireturn, 1) := by decide +kernel
theorem dX9_isSort_0 : decode cX9_isSort 0 = .ok (.aload_n 0, 1) := by decide +kernel
theorem dX9_isSort_1 : decode cX9_isSort 1 = .ok (.iload_n 1, 1) := by decide +kernel
theorem dX9_isSort_2 : decode cX9_isSort 2 = .ok (.ifCond .ne 17, 3) := by decide +kernel
theorem dX9_isSort_5 : decode cX9_isSort 5 = .ok (.bipush 105, 2) := by decide +kernel
theorem dX9_isSort_7 : decode cX9_isSort 7 = .ok (.bipush 116, 2) := by decide +kernel
theorem dX9_isSort_9 : decode cX9_isSort 9 = .ok (.bipush 101, 2) := by decide +kernel
theorem dX9_isSort_11 : decode cX9_isSort 11 = .ok (.bipush 109, 2) := by decide +kernel
theorem dX9_isSort_13 : decode cX9_isSort 13 = .ok (.invokestatic 58, 3) := by decide +kernel
theorem dX9_isSort_16 : decode cX9_isSort 16 = .ok (.goto 41, 3) := by decide +kernel
theorem dX9_isSort_19 : decode cX9_isSort 19 = .ok (.iload_n 1, 1) := by decide +kernel
theorem dX9_isSort_20 : decode cX9_isSort 20 = .ok (.iconst 1, 1) := by decide +kernel
theorem dX9_isSort_21 : decode cX9_isSort 21 = .ok (.if_icmp .ne 25, 3) := by decide +kernel
theorem dX9_isSort_24 : decode cX9_isSort 24 = .ok (.ldc2_w 48, 3) := by decide +kernel
theorem dX9_isSort_27 : decode cX9_isSort 27 = .ok (.bipush 115, 2) := by decide +kernel
theorem dX9_isSort_29 : decode cX9_isSort 29 = .ok (.bipush 116, 2) := by decide +kernel
theorem dX9_isSort_31 : decode cX9_isSort 31 = .ok (.bipush 111, 2) := by decide +kernel
theorem dX9_isSort_33 : decode cX9_isSort 33 = .ok (.bipush 99, 2) := by decide +kernel
theorem dX9_isSort_35 : decode cX9_isSort 35 = .ok (.invokestatic 58, 3) := by decide +kernel
theorem dX9_isSort_38 : decode cX9_isSort 38 = .ok (.lmul, 1) := by decide +kernel
theorem dX9_isSort_39 : decode cX9_isSort 39 = .ok (.ldc2_w 127, 3) := by decide +kernel
theorem dX9_isSort_42 : decode cX9_isSort 42 = .ok (.ladd, 1) := by decide +kernel
theorem dX9_isSort_43 : decode cX9_isSort 43 = .ok (.goto 14, 3) := by decide +kernel
theorem dX9_isSort_46 : decode cX9_isSort 46 = .ok (.bipush 109, 2) := by decide +kernel
theorem dX9_isSort_48 : decode cX9_isSort 48 = .ok (.bipush 111, 2) := by decide +kernel
theorem dX9_isSort_50 : decode cX9_isSort 50 = .ok (.bipush 118, 2) := by decide +kernel
theorem dX9_isSort_52 : decode cX9_isSort 52 = .ok (.bipush 101, 2) := by decide +kernel
theorem dX9_isSort_54 : decode cX9_isSort 54 = .ok (.invokestatic 58, 3) := by decide +kernel
theorem dX9_isSort_57 : decode cX9_isSort 57 = .ok (.invokevirtual 106, 3) := by decide +kernel
theorem dX9_isSort_60 : decode cX9_isSort 60 = .ok (.ireturn, 1) := by decide +kernel
theorem dX9_readAll_0 : decode cX9_readAll 0 = .ok (.aload_n 0, 1) := by decide +kernel
theorem dX9_readAll_1 : decode cX9_readAll 1 = .ok (.iload_n 1, 1) := by decide +kernel
theorem dX9_readAll_2 : decode cX9_readAll 2 = .ok (.invokevirtual 129, 3) := by decide +kernel
theorem dX9_readAll_5 : decode cX9_readAll 5 = .ok (.ifCond .eq 54, 3) := by decide +kernel
theorem dX9_readAll_8 : decode cX9_readAll 8 = .ok (.iload_n 1, 1) := by decide +kernel
theorem dX9_readAll_9 : decode cX9_readAll 9 = .ok (.ifCond .ne 13, 3) := by decide +kernel
theorem dX9_readAll_12 : decode cX9_readAll 12 = .ok (.aload_n 0, 1) := by decide +kernel
theorem dX9_readAll_13 : decode cX9_readAll 13 = .ok (.invokevirtual 132, 3) := by decide +kernel
theorem dX9_readAll_16 : decode cX9_readAll 16 = .ok (.ifCond .eq 28, 3) := by decide +kernel
theorem dX9_readAll_19 : decode cX9_readAll 19 = .ok (.goto 27, 3) := by decide +kernel
theorem dX9_readAll_22 : decode cX9_readAll 22 = .ok (.iload_n 1, 1) := by decide +kernel
theorem dX9_readAll_23 : decode cX9_readAll 23 = .ok (.iconst 1, 1) := by decide +kernel
theorem dX9_readAll_24 : decode cX9_readAll 24 = .ok (.if_icmp .ne 13, 3) := by decide +kernel
theorem dX9_readAll_27 : decode cX9_readAll 27 = .ok (.aload_n 0, 1) := by decide +kernel
theorem dX9_readAll_28 : decode cX9_readAll 28 = .ok (.invokevirtual 135, 3) := by decide +kernel
theorem dX9_readAll_31 : decode cX9_readAll 31 = .ok (.ifCond .eq 13, 3) := by decide +kernel
theorem dX9_readAll_34 : decode cX9_readAll 34 = .ok (.goto 12, 3) := by decide +kernel
theorem dX9_readAll_37 : decode cX9_readAll 37 = .ok (.aload_n 0, 1) := by decide +kernel
theorem dX9_readAll_38 : decode cX9_readAll 38 = .ok (.invokevirtual 138, 3) := by decide +kernel
theorem dX9_readAll_41 : decode cX9_readAll 41 = .ok (.ifCond .ne 5, 3) := by decide +kernel
theorem dX9_readAll_44 : decode cX9_readAll 44 = .ok (.iconst 0, 1) := by decide +kernel
theorem dX9_readAll_45 : decode cX9_readAll 45 = .ok (.ireturn, 1) := by decide +kernel
theorem dX9_readAll_46 : decode cX9_readAll 46 = .ok (.aload_n 0, 1) := by decide +kernel
theorem dX9_readAll_47 : decode cX9_readAll 47 = .ok (.dup, 1) := by decide +kernel
theorem dX9_readAll_48 : decode cX9_readAll 48 = .ok (.getfield 141, 3) := by decide +kernel
theorem dX9_readAll_51 : decode cX9_readAll 51 = .ok (.iconst 1, 1) := by decide +kernel
theorem dX9_readAll_52 : decode cX9_readAll 52 = .ok (.iadd, 1) := by decide +kernel
theorem dX9_readAll_53 : decode cX9_readAll 53 = .ok (.putfield 141, 3) := by decide +kernel
theorem dX9_readAll_56 : decode cX9_readAll 56 = .ok (.goto (-56), 3) := by decide +kernel
theorem dX9_readAll_59 : decode cX9_readAll 59 = .ok (.iconst 1, 1) := by decide +kernel
theorem dX9_readAll_60 : decode cX9_readAll 60 = .ok (.ireturn, 1) := by decide +kernel
theorem dX9_readWhole_0 : decode cX9_readWhole 0 = .ok (.aload_n 0, 1) := by decide +kernel
theorem dX9_readWhole_1 : decode cX9_readWhole 1 = .ok (.invokevirtual 144, 3) := by decide +kernel
theorem dX9_readWhole_4 : decode cX9_readWhole 4 = .ok (.ifCond .ne 5, 3) := by decide +kernel
theorem dX9_readWhole_7 : decode cX9_readWhole 7 = .ok (.iconst 0, 1) := by decide +kernel
theorem dX9_readWhole_8 : decode cX9_readWhole 8 = .ok (.ireturn, 1) := by decide +kernel
theorem dX9_readWhole_9 : decode cX9_readWhole 9 = .ok (.aload_n 0, 1) := by decide +kernel
theorem dX9_readWhole_10 : decode cX9_readWhole 10 = .ok (.dup, 1) := by decide +kernel
theorem dX9_readWhole_11 : decode cX9_readWhole 11 = .ok (.getfield 141, 3) := by decide +kernel
theorem dX9_readWhole_14 : decode cX9_readWhole 14 = .ok (.iconst 1, 1) := by decide +kernel
theorem dX9_readWhole_15 : decode cX9_readWhole 15 = .ok (.iadd, 1) := by decide +kernel
theorem dX9_readWhole_16 : decode cX9_readWhole 16 = .ok (.putfield 141, 3) := by decide +kernel
theorem dX9_readWhole_19 : decode cX9_readWhole 19 = .ok (.aload_n 0, 1) := by decide +kernel
theorem dX9_readWhole_20 : decode cX9_readWhole 20 = .ok (.iconst 0, 1) := by decide +kernel
theorem dX9_readWhole_21 : decode cX9_readWhole 21 = .ok (.invokevirtual 147, 3) := by decide +kernel
theorem dX9_readWhole_24 : decode cX9_readWhole 24 = .ok (.ifCond .eq 38, 3) := by decide +kernel
theorem dX9_readWhole_27 : decode cX9_readWhole 27 = .ok (.aload_n 0, 1) := by decide +kernel
theorem dX9_readWhole_28 : decode cX9_readWhole 28 = .ok (.iconst 1, 1) := by decide +kernel
theorem dX9_readWhole_29 : decode cX9_readWhole 29 = .ok (.invokevirtual 147, 3) := by decide +kernel
theorem dX9_readWhole_32 : decode cX9_readWhole 32 = .ok (.ifCond .eq 30, 3) := by decide +kernel
theorem dX9_readWhole_35 : decode cX9_readWhole 35 = .ok (.aload_n 0, 1) := by decide +kernel
theorem dX9_readWhole_36 : decode cX9_readWhole 36 = .ok (.iconst 2, 1) := by decide +kernel
theorem dX9_readWhole_37 : decode cX9_readWhole 37 = .ok (.invokevirtual 147, 3) := by decide +kernel
theorem dX9_readWhole_40 : decode cX9_readWhole 40 = .ok (.ifCond .eq 22, 3) := by decide +kernel
theorem dX9_readWhole_43 : decode cX9_readWhole 43 = .ok (.aload_n 0, 1) := by decide +kernel
theorem dX9_readWhole_44 : decode cX9_readWhole 44 = .ok (.getfield 27, 3) := by decide +kernel
theorem dX9_readWhole_47 : decode cX9_readWhole 47 = .ok (.ifCond .eq 11, 3) := by decide +kernel
theorem dX9_readWhole_50 : decode cX9_readWhole 50 = .ok (.aload_n 0, 1) := by decide +kernel
theorem dX9_readWhole_51 : decode cX9_readWhole 51 = .ok (.iconst 1, 1) := by decide +kernel
theorem dX9_readWhole_52 : decode cX9_readWhole 52 = .ok (.invokevirtual 89, 3) := by decide +kernel
theorem dX9_readWhole_55 : decode cX9_readWhole 55 = .ok (.ifCond .eq 7, 3) := by decide +kernel
theorem dX9_readWhole_58 : decode cX9_readWhole 58 = .ok (.iconst 1, 1) := by decide +kernel
theorem dX9_readWhole_59 : decode cX9_readWhole 59 = .ok (.goto 4, 3) := by decide +kernel
theorem dX9_readWhole_62 : decode cX9_readWhole 62 = .ok (.iconst 0, 1) := by decide +kernel
theorem dX9_readWhole_63 : decode cX9_readWhole 63 = .ok (.ireturn, 1) := by decide +kernel
theorem dX9_text_0 : decode cX9_text 0 = .ok (.aload_n 0, 1) := by decide +kernel
theorem dX9_text_1 : decode cX9_text 1 = .ok (.iconst 0, 1) := by decide +kernel
theorem dX9_text_2 : decode cX9_text 2 = .ok (.putfield 1, 3) := by decide +kernel
theorem dX9_text_5 : decode cX9_text 5 = .ok (.aload_n 0, 1) := by decide +kernel
theorem dX9_text_6 : decode cX9_text 6 = .ok (.aload_n 0, 1) := by decide +kernel
theorem dX9_text_7 : decode cX9_text 7 = .ok (.getfield 11, 3) := by decide +kernel
theorem dX9_text_10 : decode cX9_text 10 = .ok (.putfield 18, 3) := by decide +kernel
theorem dX9_text_13 : decode cX9_text 13 = .ok (.aload_n 0, 1) := by decide +kernel
theorem dX9_text_14 : decode cX9_text 14 = .ok (.iconst 0, 1) := by decide +kernel
theorem dX9_text_15 : decode cX9_text 15 = .ok (.putfield 11, 3) := by decide +kernel
theorem dX9_text_18 : decode cX9_text 18 = .ok (.aload_n 0, 1) := by decide +kernel
theorem dX9_text_19 : decode cX9_text 19 = .ok (.iconst 0, 1) := by decide +kernel
theorem dX9_text_20 : decode cX9_text 20 = .ok (.putfield 62, 3) := by decide +kernel
theorem dX9_text_23 : decode cX9_text 23 = .ok (.aload_n 0, 1) := by decide +kernel
theorem dX9_text_24 : decode cX9_text 24 = .ok (.iconst 0, 1) := by decide +kernel
theorem dX9_text_25 : decode cX9_text 25 = .ok (.putfield 21, 3) := by decide +kernel
theorem dX9_text_28 : decode cX9_text 28 = .ok (.aload_n 0, 1) := by decide +kernel
theorem dX9_text_29 : decode cX9_text 29 = .ok (.iconst 0, 1) := by decide +kernel
theorem dX9_text_30 : decode cX9_text 30 = .ok (.putfield 141, 3) := by decide +kernel
theorem dX9_text_33 : decode cX9_text 33 = .ok (.aload_n 0, 1) := by decide +kernel
theorem dX9_text_34 : decode cX9_text 34 = .ok (.iconst 0, 1) := by decide +kernel
theorem dX9_text_35 : decode cX9_text 35 = .ok (.putfield 121, 3) := by decide +kernel
theorem dX9_text_38 : decode cX9_text 38 = .ok (.iconst 0, 1) := by decide +kernel
theorem dX9_text_39 : decode cX9_text 39 = .ok (.istore_n 1, 1) := by decide +kernel
theorem dX9_text_40 : decode cX9_text 40 = .ok (.iload_n 1, 1) := by decide +kernel
theorem dX9_text_41 : decode cX9_text 41 = .ok (.sipush 845, 3) := by decide +kernel
theorem dX9_text_44 : decode cX9_text 44 = .ok (.if_icmp .ge 16, 3) := by decide +kernel
theorem dX9_text_47 : decode cX9_text 47 = .ok (.aload_n 0, 1) := by decide +kernel
theorem dX9_text_48 : decode cX9_text 48 = .ok (.getfield 77, 3) := by decide +kernel
theorem dX9_text_51 : decode cX9_text 51 = .ok (.iload_n 1, 1) := by decide +kernel
theorem dX9_text_52 : decode cX9_text 52 = .ok (.iconst 0, 1) := by decide +kernel
theorem dX9_text_53 : decode cX9_text 53 = .ok (.iastore, 1) := by decide +kernel
theorem dX9_text_54 : decode cX9_text 54 = .ok (.iinc 1 1, 3) := by decide +kernel
theorem dX9_text_57 : decode cX9_text 57 = .ok (.goto (-17), 3) := by decide +kernel
theorem dX9_text_60 : decode cX9_text 60 = .ok (.aload_n 0, 1) := by decide +kernel
theorem dX9_text_61 : decode cX9_text 61 = .ok (.invokevirtual 96, 3) := by decide +kernel
theorem dX9_text_64 : decode cX9_text 64 = .ok (.aload_n 0, 1) := by decide +kernel
theorem dX9_text_65 : decode cX9_text 65 = .ok (.invokevirtual 150, 3) := by decide +kernel
theorem dX9_text_68 : decode cX9_text 68 = .ok (.ifCond .ne 10, 3) := by decide +kernel
theorem dX9_text_71 : decode cX9_text 71 = .ok (.iconst (-1), 1) := by decide +kernel
theorem dX9_text_72 : decode cX9_text 72 = .ok (.aload_n 0, 1) := by decide +kernel
theorem dX9_text_73 : decode cX9_text 73 = .ok (.getfield 65, 3) := by decide +kernel
theorem dX9_text_76 : decode cX9_text 76 = .ok (.isub, 1) := by decide +kernel
theorem dX9_text_77 : decode cX9_text 77 = .ok (.ireturn, 1) := by decide +kernel
theorem dX9_text_78 : decode cX9_text 78 = .ok (.iconst 0, 1) := by decide +kernel
theorem dX9_text_79 : decode cX9_text 79 = .ok (.istore_n 1, 1) := by decide +kernel
theorem dX9_text_80 : decode cX9_text 80 = .ok (.iload_n 1, 1) := by decide +kernel
theorem dX9_text_81 : decode cX9_text 81 = .ok (.sipush 845, 3) := by decide +kernel
theorem dX9_text_84 : decode cX9_text 84 = .ok (.if_icmp .ge 21, 3) := by decide +kernel
theorem dX9_text_87 : decode cX9_text 87 = .ok (.aload_n 0, 1) := by decide +kernel
theorem dX9_text_88 : decode cX9_text 88 = .ok (.getfield 74, 3) := by decide +kernel
theorem dX9_text_91 : decode cX9_text 91 = .ok (.iload_n 1, 1) := by decide +kernel
theorem dX9_text_92 : decode cX9_text 92 = .ok (.aload_n 0, 1) := by decide +kernel
theorem dX9_text_93 : decode cX9_text 93 = .ok (.getfield 77, 3) := by decide +kernel
theorem dX9_text_96 : decode cX9_text 96 = .ok (.iload_n 1, 1) := by decide +kernel
theorem dX9_text_97 : decode cX9_text 97 = .ok (.iaload, 1) := by decide +kernel
theorem dX9_text_98 : decode cX9_text 98 = .ok (.iastore, 1) := by decide +kernel
theorem dX9_text_99 : decode cX9_text 99 = .ok (.iinc 1 1, 3) := by decide +kernel
theorem dX9_text_102 : decode cX9_text 102 = .ok (.goto (-22), 3) := by decide +kernel
theorem dX9_text_105 : decode cX9_text 105 = .ok (.aload_n 0, 1) := by decide +kernel
theorem dX9_text_106 : decode cX9_text 106 = .ok (.iconst 0, 1) := by decide +kernel
theorem dX9_text_107 : decode cX9_text 107 = .ok (.putfield 153, 3) := by decide +kernel
theorem dX9_text_110 : decode cX9_text 110 = .ok (.aload_n 0, 1) := by decide +kernel
theorem dX9_text_111 : decode cX9_text 111 = .ok (.getfield 141, 3) := by decide +kernel
theorem dX9_text_114 : decode cX9_text 114 = .ok (.ireturn, 1) := by decide +kernel
theorem dX9_fault_0 : decode cX9_fault 0 = .ok (.aload_n 0, 1) := by decide +kernel
theorem dX9_fault_1 : decode cX9_fault 1 = .ok (.iconst 0, 1) := by decide +kernel
theorem dX9_fault_2 : decode cX9_fault 2 = .ok (.putfield 1, 3) := by decide +kernel
theorem dX9_fault_5 : decode cX9_fault 5 = .ok (.aload_n 0, 1) := by decide +kernel
theorem dX9_fault_6 : decode cX9_fault 6 = .ok (.getfield 62, 3) := by decide +kernel
theorem dX9_fault_9 : decode cX9_fault 9 = .ok (.ireturn, 1) := by decide +kernel
theorem dX9_isShelf_0 : decode cX9_isShelf 0 = .ok (.iload_n 1, 1) := by decide +kernel
theorem dX9_isShelf_1 : decode cX9_isShelf 1 = .ok (.iconst 0, 1) := by decide +kernel
theorem dX9_isShelf_2 : decode cX9_isShelf 2 = .ok (.aload_n 0, 1) := by decide +kernel
theorem dX9_isShelf_3 : decode cX9_isShelf 3 = .ok (.getfield 74, 3) := by decide +kernel
theorem dX9_isShelf_6 : decode cX9_isShelf 6 = .ok (.iconst 0, 1) := by decide +kernel
theorem dX9_isShelf_7 : decode cX9_isShelf 7 = .ok (.iaload, 1) := by decide +kernel
theorem dX9_isShelf_8 : decode cX9_isShelf 8 = .ok (.iconst 1, 1) := by decide +kernel
theorem dX9_isShelf_9 : decode cX9_isShelf 9 = .ok (.isub, 1) := by decide +kernel
theorem dX9_isShelf_10 : decode cX9_isShelf 10 = .ok (.invokestatic 92, 3) := by decide +kernel
theorem dX9_isShelf_13 : decode cX9_isShelf 13 = .ok (.ireturn, 1) := by decide +kernel
theorem dX9_isItem_0 : decode cX9_isItem 0 = .ok (.iload_n 1, 1) := by decide +kernel
theorem dX9_isItem_1 : decode cX9_isItem 1 = .ok (.iconst 0, 1) := by decide +kernel
theorem dX9_isItem_2 : decode cX9_isItem 2 = .ok (.aload_n 0, 1) := by decide +kernel
theorem dX9_isItem_3 : decode cX9_isItem 3 = .ok (.getfield 74, 3) := by decide +kernel
theorem dX9_isItem_6 : decode cX9_isItem 6 = .ok (.iconst 1, 1) := by decide +kernel
theorem dX9_isItem_7 : decode cX9_isItem 7 = .ok (.iaload, 1) := by decide +kernel
theorem dX9_isItem_8 : decode cX9_isItem 8 = .ok (.iconst 1, 1) := by decide +kernel
theorem dX9_isItem_9 : decode cX9_isItem 9 = .ok (.isub, 1) := by decide +kernel
theorem dX9_isItem_10 : decode cX9_isItem 10 = .ok (.invokestatic 92, 3) := by decide +kernel
theorem dX9_isItem_13 : decode cX9_isItem 13 = .ok (.ireturn, 1) := by decide +kernel
theorem dX9_isMove_0 : decode cX9_isMove 0 = .ok (.iload_n 1, 1) := by decide +kernel
theorem dX9_isMove_1 : decode cX9_isMove 1 = .ok (.iconst 0, 1) := by decide +kernel
theorem dX9_isMove_2 : decode cX9_isMove 2 = .ok (.aload_n 0, 1) := by decide +kernel
theorem dX9_isMove_3 : decode cX9_isMove 3 = .ok (.getfield 74, 3) := by decide +kernel
theorem dX9_isMove_6 : decode cX9_isMove 6 = .ok (.iconst 2, 1) := by decide +kernel
theorem dX9_isMove_7 : decode cX9_isMove 7 = .ok (.iaload, 1) := by decide +kernel
theorem dX9_isMove_8 : decode cX9_isMove 8 = .ok (.iconst 1, 1) := by decide +kernel
theorem dX9_isMove_9 : decode cX9_isMove 9 = .ok (.isub, 1) := by decide +kernel
theorem dX9_isMove_10 : decode cX9_isMove 10 = .ok (.invokestatic 92, 3) := by decide +kernel
theorem dX9_isMove_13 : decode cX9_isMove 13 = .ok (.ireturn, 1) := by decide +kernel
theorem dX9_isCount_0 : decode cX9_isCount 0 = .ok (.iload_n 1, 1) := by decide +kernel
theorem dX9_isCount_1 : decode cX9_isCount 1 = .ok (.iconst 0, 1) := by decide +kernel
theorem dX9_isCount_2 : decode cX9_isCount 2 = .ok (.aload_n 0, 1) := by decide +kernel
theorem dX9_isCount_3 : decode cX9_isCount 3 = .ok (.getfield 74, 3) := by decide +kernel
theorem dX9_isCount_6 : decode cX9_isCount 6 = .ok (.iconst 3, 1) := by decide +kernel
theorem dX9_isCount_7 : decode cX9_isCount 7 = .ok (.iaload, 1) := by decide +kernel
theorem dX9_isCount_8 : decode cX9_isCount 8 = .ok (.iconst 1, 1) := by decide +kernel
theorem dX9_isCount_9 : decode cX9_isCount 9 = .ok (.isub, 1) := by decide +kernel
theorem dX9_isCount_10 : decode cX9_isCount 10 = .ok (.invokestatic 92, 3) := by decide +kernel
theorem dX9_isCount_13 : decode cX9_isCount 13 = .ok (.ireturn, 1) := by decide +kernel
theorem dX9_isInstant_0 : decode cX9_isInstant 0 = .ok (.iload_n 0, 1) := by decide +kernel
theorem dX9_isInstant_1 : decode cX9_isInstant 1 = .ok (.iconst 0, 1) := by decide +kernel
theorem dX9_isInstant_2 : decode cX9_isInstant 2 = .ok (.sipush 999, 3) := by decide +kernel
theorem dX9_isInstant_5 : decode cX9_isInstant 5 = .ok (.invokestatic 92, 3) := by decide +kernel
theorem dX9_isInstant_8 : decode cX9_isInstant 8 = .ok (.ireturn, 1) := by decide +kernel
theorem dX9_moved_0 : decode cX9_moved 0 = .ok (.aload_n 0, 1) := by decide +kernel
theorem dX9_moved_1 : decode cX9_moved 1 = .ok (.getfield 74, 3) := by decide +kernel
theorem dX9_moved_4 : decode cX9_moved 4 = .ok (.bipush 45, 2) := by decide +kernel
theorem dX9_moved_6 : decode cX9_moved 6 = .ok (.bipush 10, 2) := by decide +kernel
theorem dX9_moved_8 : decode cX9_moved 8 = .ok (.iload_n 1, 1) := by decide +kernel
theorem dX9_moved_9 : decode cX9_moved 9 = .ok (.imul, 1) := by decide +kernel
theorem dX9_moved_10 : decode cX9_moved 10 = .ok (.iadd, 1) := by decide +kernel
theorem dX9_moved_11 : decode cX9_moved 11 = .ok (.iload_n 2, 1) := by decide +kernel
theorem dX9_moved_12 : decode cX9_moved 12 = .ok (.iadd, 1) := by decide +kernel
theorem dX9_moved_13 : decode cX9_moved 13 = .ok (.iaload, 1) := by decide +kernel
theorem dX9_moved_14 : decode cX9_moved 14 = .ok (.ireturn, 1) := by decide +kernel
theorem dX9_leg_0 : decode cX9_leg 0 = .ok (.aload_n 0, 1) := by decide +kernel
theorem dX9_leg_1 : decode cX9_leg 1 = .ok (.getfield 74, 3) := by decide +kernel
theorem dX9_leg_4 : decode cX9_leg 4 = .ok (.bipush 45, 2) := by decide +kernel
theorem dX9_leg_6 : decode cX9_leg 6 = .ok (.bipush 10, 2) := by decide +kernel
theorem dX9_leg_8 : decode cX9_leg 8 = .ok (.iload_n 1, 1) := by decide +kernel
theorem dX9_leg_9 : decode cX9_leg 9 = .ok (.imul, 1) := by decide +kernel
theorem dX9_leg_10 : decode cX9_leg 10 = .ok (.iadd, 1) := by decide +kernel
theorem dX9_leg_11 : decode cX9_leg 11 = .ok (.iconst 2, 1) := by decide +kernel
theorem dX9_leg_12 : decode cX9_leg 12 = .ok (.iadd, 1) := by decide +kernel
theorem dX9_leg_13 : decode cX9_leg 13 = .ok (.iconst 4, 1) := by decide +kernel
theorem dX9_leg_14 : decode cX9_leg 14 = .ok (.iload_n 2, 1) := by decide +kernel
theorem dX9_leg_15 : decode cX9_leg 15 = .ok (.imul, 1) := by decide +kernel
theorem dX9_leg_16 : decode cX9_leg 16 = .ok (.iadd, 1) := by decide +kernel
theorem dX9_leg_17 : decode cX9_leg 17 = .ok (.iload_n 3, 1) := by decide +kernel
theorem dX9_leg_18 : decode cX9_leg 18 = .ok (.iadd, 1) := by decide +kernel
theorem dX9_leg_19 : decode cX9_leg 19 = .ok (.iaload, 1) := by decide +kernel
theorem dX9_leg_20 : decode cX9_leg 20 = .ok (.ireturn, 1) := by decide +kernel
theorem dX9_isThere_0 : decode cX9_isThere 0 = .ok (.aload_n 0, 1) := by decide +kernel
theorem dX9_isThere_1 : decode cX9_isThere 1 = .ok (.iload_n 1, 1) := by decide +kernel
theorem dX9_isThere_2 : decode cX9_isThere 2 = .ok (.iload_n 2, 1) := by decide +kernel
theorem dX9_isThere_3 : decode cX9_isThere 3 = .ok (.iconst 0, 1) := by decide +kernel
theorem dX9_isThere_4 : decode cX9_isThere 4 = .ok (.invokevirtual 156, 3) := by decide +kernel
theorem dX9_isThere_7 : decode cX9_isThere 7 = .ok (.iconst 1, 1) := by decide +kernel
theorem dX9_isThere_8 : decode cX9_isThere 8 = .ok (.if_icmp .ne 7, 3) := by decide +kernel
theorem dX9_isThere_11 : decode cX9_isThere 11 = .ok (.iconst 1, 1) := by decide +kernel
theorem dX9_isThere_12 : decode cX9_isThere 12 = .ok (.goto 4, 3) := by decide +kernel
theorem dX9_isThere_15 : decode cX9_isThere 15 = .ok (.iconst 0, 1) := by decide +kernel
theorem dX9_isThere_16 : decode cX9_isThere 16 = .ok (.ireturn, 1) := by decide +kernel
theorem dX9_isAt_0 : decode cX9_isAt 0 = .ok (.aload_n 0, 1) := by decide +kernel
theorem dX9_isAt_1 : decode cX9_isAt 1 = .ok (.iload_n 1, 1) := by decide +kernel
theorem dX9_isAt_2 : decode cX9_isAt 2 = .ok (.iload_n 2, 1) := by decide +kernel
theorem dX9_isAt_3 : decode cX9_isAt 3 = .ok (.invokevirtual 160, 3) := by decide +kernel
theorem dX9_isAt_6 : decode cX9_isAt 6 = .ok (.ifCond .eq 29, 3) := by decide +kernel
theorem dX9_isAt_9 : decode cX9_isAt 9 = .ok (.aload_n 0, 1) := by decide +kernel
theorem dX9_isAt_10 : decode cX9_isAt 10 = .ok (.iload_n 1, 1) := by decide +kernel
theorem dX9_isAt_11 : decode cX9_isAt 11 = .ok (.iload_n 2, 1) := by decide +kernel
theorem dX9_isAt_12 : decode cX9_isAt 12 = .ok (.iconst 1, 1) := by decide +kernel
theorem dX9_isAt_13 : decode cX9_isAt 13 = .ok (.invokevirtual 156, 3) := by decide +kernel
theorem dX9_isAt_16 : decode cX9_isAt 16 = .ok (.iload_n 3, 1) := by decide +kernel
theorem dX9_isAt_17 : decode cX9_isAt 17 = .ok (.if_icmp .ne 18, 3) := by decide +kernel
theorem dX9_isAt_20 : decode cX9_isAt 20 = .ok (.aload_n 0, 1) := by decide +kernel
theorem dX9_isAt_21 : decode cX9_isAt 21 = .ok (.iload_n 1, 1) := by decide +kernel
theorem dX9_isAt_22 : decode cX9_isAt 22 = .ok (.iconst 0, 1) := by decide +kernel
theorem dX9_isAt_23 : decode cX9_isAt 23 = .ok (.invokevirtual 163, 3) := by decide +kernel
theorem dX9_isAt_26 : decode cX9_isAt 26 = .ok (.iload 4, 2) := by decide +kernel
theorem dX9_isAt_28 : decode cX9_isAt 28 = .ok (.if_icmp .ne 7, 3) := by decide +kernel
theorem dX9_isAt_31 : decode cX9_isAt 31 = .ok (.iconst 1, 1) := by decide +kernel
theorem dX9_isAt_32 : decode cX9_isAt 32 = .ok (.goto 4, 3) := by decide +kernel
theorem dX9_isAt_35 : decode cX9_isAt 35 = .ok (.iconst 0, 1) := by decide +kernel
theorem dX9_isAt_36 : decode cX9_isAt 36 = .ok (.ireturn, 1) := by decide +kernel
theorem dX9_isOver_0 : decode cX9_isOver 0 = .ok (.aload_n 0, 1) := by decide +kernel
theorem dX9_isOver_1 : decode cX9_isOver 1 = .ok (.iload_n 1, 1) := by decide +kernel
theorem dX9_isOver_2 : decode cX9_isOver 2 = .ok (.iload_n 2, 1) := by decide +kernel
theorem dX9_isOver_3 : decode cX9_isOver 3 = .ok (.iconst 3, 1) := by decide +kernel
theorem dX9_isOver_4 : decode cX9_isOver 4 = .ok (.invokevirtual 156, 3) := by decide +kernel
theorem dX9_isOver_7 : decode cX9_isOver 7 = .ok (.iload_n 3, 1) := by decide +kernel
theorem dX9_isOver_8 : decode cX9_isOver 8 = .ok (.if_icmp .gt 7, 3) := by decide +kernel
theorem dX9_isOver_11 : decode cX9_isOver 11 = .ok (.iconst 1, 1) := by decide +kernel
theorem dX9_isOver_12 : decode cX9_isOver 12 = .ok (.goto 4, 3) := by decide +kernel
theorem dX9_isOver_15 : decode cX9_isOver 15 = .ok (.iconst 0, 1) := by decide +kernel
theorem dX9_isOver_16 : decode cX9_isOver 16 = .ok (.ireturn, 1) := by decide +kernel
theorem dX9_isToCome_0 : decode cX9_isToCome 0 = .ok (.aload_n 0, 1) := by decide +kernel
theorem dX9_isToCome_1 : decode cX9_isToCome 1 = .ok (.iload_n 1, 1) := by decide +kernel
theorem dX9_isToCome_2 : decode cX9_isToCome 2 = .ok (.iload_n 2, 1) := by decide +kernel
theorem dX9_isToCome_3 : decode cX9_isToCome 3 = .ok (.iconst 2, 1) := by decide +kernel
theorem dX9_isToCome_4 : decode cX9_isToCome 4 = .ok (.invokevirtual 156, 3) := by decide +kernel
theorem dX9_isToCome_7 : decode cX9_isToCome 7 = .ok (.iload_n 3, 1) := by decide +kernel
theorem dX9_isToCome_8 : decode cX9_isToCome 8 = .ok (.if_icmp .le 7, 3) := by decide +kernel
theorem dX9_isToCome_11 : decode cX9_isToCome 11 = .ok (.iconst 1, 1) := by decide +kernel
theorem dX9_isToCome_12 : decode cX9_isToCome 12 = .ok (.goto 4, 3) := by decide +kernel
theorem dX9_isToCome_15 : decode cX9_isToCome 15 = .ok (.iconst 0, 1) := by decide +kernel
theorem dX9_isToCome_16 : decode cX9_isToCome 16 = .ok (.ireturn, 1) := by decide +kernel
theorem dX9_isDoubtful_0 : decode cX9_isDoubtful 0 = .ok (.aload_n 0, 1) := by decide +kernel
theorem dX9_isDoubtful_1 : decode cX9_isDoubtful 1 = .ok (.iload_n 1, 1) := by decide +kernel
theorem dX9_isDoubtful_2 : decode cX9_isDoubtful 2 = .ok (.iload_n 2, 1) := by decide +kernel
theorem dX9_isDoubtful_3 : decode cX9_isDoubtful 3 = .ok (.iload_n 3, 1) := by decide +kernel
theorem dX9_isDoubtful_4 : decode cX9_isDoubtful 4 = .ok (.invokevirtual 167, 3) := by decide +kernel
theorem dX9_isDoubtful_7 : decode cX9_isDoubtful 7 = .ok (.ifCond .ne 17, 3) := by decide +kernel
theorem dX9_isDoubtful_10 : decode cX9_isDoubtful 10 = .ok (.aload_n 0, 1) := by decide +kernel
theorem dX9_isDoubtful_11 : decode cX9_isDoubtful 11 = .ok (.iload_n 1, 1) := by decide +kernel
theorem dX9_isDoubtful_12 : decode cX9_isDoubtful 12 = .ok (.iload_n 2, 1) := by decide +kernel
theorem dX9_isDoubtful_13 : decode cX9_isDoubtful 13 = .ok (.iload_n 3, 1) := by decide +kernel
theorem dX9_isDoubtful_14 : decode cX9_isDoubtful 14 = .ok (.invokevirtual 170, 3) := by decide +kernel
theorem dX9_isDoubtful_17 : decode cX9_isDoubtful 17 = .ok (.ifCond .ne 7, 3) := by decide +kernel
theorem dX9_isDoubtful_20 : decode cX9_isDoubtful 20 = .ok (.iconst 1, 1) := by decide +kernel
theorem dX9_isDoubtful_21 : decode cX9_isDoubtful 21 = .ok (.goto 4, 3) := by decide +kernel
theorem dX9_isDoubtful_24 : decode cX9_isDoubtful 24 = .ok (.iconst 0, 1) := by decide +kernel
theorem dX9_isDoubtful_25 : decode cX9_isDoubtful 25 = .ok (.ireturn, 1) := by decide +kernel
theorem dX9_sure_0 : decode cX9_sure 0 = .ok (.aload_n 0, 1) := by decide +kernel
theorem dX9_sure_1 : decode cX9_sure 1 = .ok (.getfield 74, 3) := by decide +kernel
theorem dX9_sure_4 : decode cX9_sure 4 = .ok (.bipush 15, 2) := by decide +kernel
theorem dX9_sure_6 : decode cX9_sure 6 = .ok (.iconst 5, 1) := by decide +kernel
theorem dX9_sure_7 : decode cX9_sure 7 = .ok (.iload_n 1, 1) := by decide +kernel
theorem dX9_sure_8 : decode cX9_sure 8 = .ok (.imul, 1) := by decide +kernel
theorem dX9_sure_9 : decode cX9_sure 9 = .ok (.iadd, 1) := by decide +kernel
theorem dX9_sure_10 : decode cX9_sure 10 = .ok (.iload_n 2, 1) := by decide +kernel
theorem dX9_sure_11 : decode cX9_sure 11 = .ok (.iadd, 1) := by decide +kernel
theorem dX9_sure_12 : decode cX9_sure 12 = .ok (.iaload, 1) := by decide +kernel
theorem dX9_sure_13 : decode cX9_sure 13 = .ok (.istore 4, 2) := by decide +kernel
theorem dX9_sure_15 : decode cX9_sure 15 = .ok (.iconst 0, 1) := by decide +kernel
theorem dX9_sure_16 : decode cX9_sure 16 = .ok (.istore 5, 2) := by decide +kernel
theorem dX9_sure_18 : decode cX9_sure 18 = .ok (.iload 5, 2) := by decide +kernel
theorem dX9_sure_20 : decode cX9_sure 20 = .ok (.iconst 2, 1) := by decide +kernel
theorem dX9_sure_21 : decode cX9_sure 21 = .ok (.aload_n 0, 1) := by decide +kernel
theorem dX9_sure_22 : decode cX9_sure 22 = .ok (.getfield 74, 3) := by decide +kernel
theorem dX9_sure_25 : decode cX9_sure 25 = .ok (.iconst 2, 1) := by decide +kernel
theorem dX9_sure_26 : decode cX9_sure 26 = .ok (.iaload, 1) := by decide +kernel
theorem dX9_sure_27 : decode cX9_sure 27 = .ok (.imul, 1) := by decide +kernel
theorem dX9_sure_28 : decode cX9_sure 28 = .ok (.if_icmp .ge 76, 3) := by decide +kernel
theorem dX9_sure_31 : decode cX9_sure 31 = .ok (.aload_n 0, 1) := by decide +kernel
theorem dX9_sure_32 : decode cX9_sure 32 = .ok (.iload 5, 2) := by decide +kernel
theorem dX9_sure_34 : decode cX9_sure 34 = .ok (.iconst 2, 1) := by decide +kernel
theorem dX9_sure_35 : decode cX9_sure 35 = .ok (.idiv, 1) := by decide +kernel
theorem dX9_sure_36 : decode cX9_sure 36 = .ok (.iload 5, 2) := by decide +kernel
theorem dX9_sure_38 : decode cX9_sure 38 = .ok (.iconst 2, 1) := by decide +kernel
theorem dX9_sure_39 : decode cX9_sure 39 = .ok (.irem, 1) := by decide +kernel
theorem dX9_sure_40 : decode cX9_sure 40 = .ok (.iload_n 1, 1) := by decide +kernel
theorem dX9_sure_41 : decode cX9_sure 41 = .ok (.iload_n 2, 1) := by decide +kernel
theorem dX9_sure_42 : decode cX9_sure 42 = .ok (.invokevirtual 173, 3) := by decide +kernel
theorem dX9_sure_45 : decode cX9_sure 45 = .ok (.ifCond .eq 53, 3) := by decide +kernel
theorem dX9_sure_48 : decode cX9_sure 48 = .ok (.aload_n 0, 1) := by decide +kernel
theorem dX9_sure_49 : decode cX9_sure 49 = .ok (.iload 5, 2) := by decide +kernel
theorem dX9_sure_51 : decode cX9_sure 51 = .ok (.iconst 2, 1) := by decide +kernel
theorem dX9_sure_52 : decode cX9_sure 52 = .ok (.idiv, 1) := by decide +kernel
theorem dX9_sure_53 : decode cX9_sure 53 = .ok (.iload 5, 2) := by decide +kernel
theorem dX9_sure_55 : decode cX9_sure 55 = .ok (.iconst 2, 1) := by decide +kernel
theorem dX9_sure_56 : decode cX9_sure 56 = .ok (.irem, 1) := by decide +kernel
theorem dX9_sure_57 : decode cX9_sure 57 = .ok (.iload_n 3, 1) := by decide +kernel
theorem dX9_sure_58 : decode cX9_sure 58 = .ok (.invokevirtual 167, 3) := by decide +kernel
theorem dX9_sure_61 : decode cX9_sure 61 = .ok (.ifCond .eq 37, 3) := by decide +kernel
theorem dX9_sure_64 : decode cX9_sure 64 = .ok (.iload 4, 2) := by decide +kernel
theorem dX9_sure_66 : decode cX9_sure 66 = .ok (.iload 5, 2) := by decide +kernel
theorem dX9_sure_68 : decode cX9_sure 68 = .ok (.iconst 2, 1) := by decide +kernel
theorem dX9_sure_69 : decode cX9_sure 69 = .ok (.irem, 1) := by decide +kernel
theorem dX9_sure_70 : decode cX9_sure 70 = .ok (.ifCond .ne 16, 3) := by decide +kernel
theorem dX9_sure_73 : decode cX9_sure 73 = .ok (.aload_n 0, 1) := by decide +kernel
theorem dX9_sure_74 : decode cX9_sure 74 = .ok (.iload 5, 2) := by decide +kernel
theorem dX9_sure_76 : decode cX9_sure 76 = .ok (.iconst 2, 1) := by decide +kernel
theorem dX9_sure_77 : decode cX9_sure 77 = .ok (.idiv, 1) := by decide +kernel
theorem dX9_sure_78 : decode cX9_sure 78 = .ok (.iconst 1, 1) := by decide +kernel
theorem dX9_sure_79 : decode cX9_sure 79 = .ok (.invokevirtual 163, 3) := by decide +kernel
theorem dX9_sure_82 : decode cX9_sure 82 = .ok (.ineg, 1) := by decide +kernel
theorem dX9_sure_83 : decode cX9_sure 83 = .ok (.goto 12, 3) := by decide +kernel
theorem dX9_sure_86 : decode cX9_sure 86 = .ok (.aload_n 0, 1) := by decide +kernel
theorem dX9_sure_87 : decode cX9_sure 87 = .ok (.iload 5, 2) := by decide +kernel
theorem dX9_sure_89 : decode cX9_sure 89 = .ok (.iconst 2, 1) := by decide +kernel
theorem dX9_sure_90 : decode cX9_sure 90 = .ok (.idiv, 1) := by decide +kernel
theorem dX9_sure_91 : decode cX9_sure 91 = .ok (.iconst 1, 1) := by decide +kernel
theorem dX9_sure_92 : decode cX9_sure 92 = .ok (.invokevirtual 163, 3) := by decide +kernel
theorem dX9_sure_95 : decode cX9_sure 95 = .ok (.iadd, 1) := by decide +kernel
theorem dX9_sure_96 : decode cX9_sure 96 = .ok (.istore 4, 2) := by decide +kernel
theorem dX9_sure_98 : decode cX9_sure 98 = .ok (.iinc 5 1, 3) := by decide +kernel
theorem dX9_sure_101 : decode cX9_sure 101 = .ok (.goto (-83), 3) := by decide +kernel
theorem dX9_sure_104 : decode cX9_sure 104 = .ok (.iconst 0, 1) := by decide +kernel
theorem dX9_sure_105 : decode cX9_sure 105 = .ok (.istore 5, 2) := by decide +kernel
theorem dX9_sure_107 : decode cX9_sure 107 = .ok (.iload 5, 2) := by decide +kernel
theorem dX9_sure_109 : decode cX9_sure 109 = .ok (.aload_n 0, 1) := by decide +kernel
theorem dX9_sure_110 : decode cX9_sure 110 = .ok (.getfield 74, 3) := by decide +kernel
theorem dX9_sure_113 : decode cX9_sure 113 = .ok (.iconst 4, 1) := by decide +kernel
theorem dX9_sure_114 : decode cX9_sure 114 = .ok (.iaload, 1) := by decide +kernel
theorem dX9_sure_115 : decode cX9_sure 115 = .ok (.if_icmp .ge 70, 3) := by decide +kernel
theorem dX9_sure_118 : decode cX9_sure 118 = .ok (.sipush 685, 3) := by decide +kernel
theorem dX9_sure_121 : decode cX9_sure 121 = .ok (.iconst 4, 1) := by decide +kernel
theorem dX9_sure_122 : decode cX9_sure 122 = .ok (.iload 5, 2) := by decide +kernel
theorem dX9_sure_124 : decode cX9_sure 124 = .ok (.imul, 1) := by decide +kernel
theorem dX9_sure_125 : decode cX9_sure 125 = .ok (.iadd, 1) := by decide +kernel
theorem dX9_sure_126 : decode cX9_sure 126 = .ok (.istore 6, 2) := by decide +kernel
theorem dX9_sure_128 : decode cX9_sure 128 = .ok (.aload_n 0, 1) := by decide +kernel
theorem dX9_sure_129 : decode cX9_sure 129 = .ok (.getfield 74, 3) := by decide +kernel
theorem dX9_sure_132 : decode cX9_sure 132 = .ok (.iload 6, 2) := by decide +kernel
theorem dX9_sure_134 : decode cX9_sure 134 = .ok (.iaload, 1) := by decide +kernel
theorem dX9_sure_135 : decode cX9_sure 135 = .ok (.iload_n 1, 1) := by decide +kernel
theorem dX9_sure_136 : decode cX9_sure 136 = .ok (.if_icmp .ne 43, 3) := by decide +kernel
theorem dX9_sure_139 : decode cX9_sure 139 = .ok (.aload_n 0, 1) := by decide +kernel
theorem dX9_sure_140 : decode cX9_sure 140 = .ok (.getfield 74, 3) := by decide +kernel
theorem dX9_sure_143 : decode cX9_sure 143 = .ok (.iload 6, 2) := by decide +kernel
theorem dX9_sure_145 : decode cX9_sure 145 = .ok (.iconst 1, 1) := by decide +kernel
theorem dX9_sure_146 : decode cX9_sure 146 = .ok (.iadd, 1) := by decide +kernel
theorem dX9_sure_147 : decode cX9_sure 147 = .ok (.iaload, 1) := by decide +kernel
theorem dX9_sure_148 : decode cX9_sure 148 = .ok (.iload_n 2, 1) := by decide +kernel
theorem dX9_sure_149 : decode cX9_sure 149 = .ok (.if_icmp .ne 30, 3) := by decide +kernel
theorem dX9_sure_152 : decode cX9_sure 152 = .ok (.aload_n 0, 1) := by decide +kernel
theorem dX9_sure_153 : decode cX9_sure 153 = .ok (.getfield 74, 3) := by decide +kernel
theorem dX9_sure_156 : decode cX9_sure 156 = .ok (.iload 6, 2) := by decide +kernel
theorem dX9_sure_158 : decode cX9_sure 158 = .ok (.iconst 2, 1) := by decide +kernel
theorem dX9_sure_159 : decode cX9_sure 159 = .ok (.iadd, 1) := by decide +kernel
theorem dX9_sure_160 : decode cX9_sure 160 = .ok (.iaload, 1) := by decide +kernel
theorem dX9_sure_161 : decode cX9_sure 161 = .ok (.iload_n 3, 1) := by decide +kernel
theorem dX9_sure_162 : decode cX9_sure 162 = .ok (.if_icmp .gt 17, 3) := by decide +kernel
theorem dX9_sure_165 : decode cX9_sure 165 = .ok (.iload 4, 2) := by decide +kernel
theorem dX9_sure_167 : decode cX9_sure 167 = .ok (.aload_n 0, 1) := by decide +kernel
theorem dX9_sure_168 : decode cX9_sure 168 = .ok (.getfield 74, 3) := by decide +kernel
theorem dX9_sure_171 : decode cX9_sure 171 = .ok (.iload 6, 2) := by decide +kernel
theorem dX9_sure_173 : decode cX9_sure 173 = .ok (.iconst 3, 1) := by decide +kernel
theorem dX9_sure_174 : decode cX9_sure 174 = .ok (.iadd, 1) := by decide +kernel
theorem dX9_sure_175 : decode cX9_sure 175 = .ok (.iaload, 1) := by decide +kernel
theorem dX9_sure_176 : decode cX9_sure 176 = .ok (.iadd, 1) := by decide +kernel
theorem dX9_sure_177 : decode cX9_sure 177 = .ok (.istore 4, 2) := by decide +kernel
theorem dX9_sure_179 : decode cX9_sure 179 = .ok (.iinc 5 1, 3) := by decide +kernel
theorem dX9_sure_182 : decode cX9_sure 182 = .ok (.goto (-75), 3) := by decide +kernel
theorem dX9_sure_185 : decode cX9_sure 185 = .ok (.iload 4, 2) := by decide +kernel
theorem dX9_sure_187 : decode cX9_sure 187 = .ok (.ireturn, 1) := by decide +kernel
theorem dX9_doubtful_0 : decode cX9_doubtful 0 = .ok (.iconst 0, 1) := by decide +kernel
theorem dX9_doubtful_1 : decode cX9_doubtful 1 = .ok (.istore 5, 2) := by decide +kernel
theorem dX9_doubtful_3 : decode cX9_doubtful 3 = .ok (.iconst 0, 1) := by decide +kernel
theorem dX9_doubtful_4 : decode cX9_doubtful 4 = .ok (.istore 6, 2) := by decide +kernel
theorem dX9_doubtful_6 : decode cX9_doubtful 6 = .ok (.iload 6, 2) := by decide +kernel
theorem dX9_doubtful_8 : decode cX9_doubtful 8 = .ok (.iconst 2, 1) := by decide +kernel
theorem dX9_doubtful_9 : decode cX9_doubtful 9 = .ok (.aload_n 0, 1) := by decide +kernel
theorem dX9_doubtful_10 : decode cX9_doubtful 10 = .ok (.getfield 74, 3) := by decide +kernel
theorem dX9_doubtful_13 : decode cX9_doubtful 13 = .ok (.iconst 2, 1) := by decide +kernel
theorem dX9_doubtful_14 : decode cX9_doubtful 14 = .ok (.iaload, 1) := by decide +kernel
theorem dX9_doubtful_15 : decode cX9_doubtful 15 = .ok (.imul, 1) := by decide +kernel
theorem dX9_doubtful_16 : decode cX9_doubtful 16 = .ok (.if_icmp .ge 82, 3) := by decide +kernel
theorem dX9_doubtful_19 : decode cX9_doubtful 19 = .ok (.aload_n 0, 1) := by decide +kernel
theorem dX9_doubtful_20 : decode cX9_doubtful 20 = .ok (.iload 6, 2) := by decide +kernel
theorem dX9_doubtful_22 : decode cX9_doubtful 22 = .ok (.iconst 2, 1) := by decide +kernel
theorem dX9_doubtful_23 : decode cX9_doubtful 23 = .ok (.idiv, 1) := by decide +kernel
theorem dX9_doubtful_24 : decode cX9_doubtful 24 = .ok (.iload 6, 2) := by decide +kernel
theorem dX9_doubtful_26 : decode cX9_doubtful 26 = .ok (.iconst 2, 1) := by decide +kernel
theorem dX9_doubtful_27 : decode cX9_doubtful 27 = .ok (.irem, 1) := by decide +kernel
theorem dX9_doubtful_28 : decode cX9_doubtful 28 = .ok (.iload_n 1, 1) := by decide +kernel
theorem dX9_doubtful_29 : decode cX9_doubtful 29 = .ok (.iload_n 2, 1) := by decide +kernel
theorem dX9_doubtful_30 : decode cX9_doubtful 30 = .ok (.invokevirtual 173, 3) := by decide +kernel
theorem dX9_doubtful_33 : decode cX9_doubtful 33 = .ok (.ifCond .eq 59, 3) := by decide +kernel
theorem dX9_doubtful_36 : decode cX9_doubtful 36 = .ok (.aload_n 0, 1) := by decide +kernel
theorem dX9_doubtful_37 : decode cX9_doubtful 37 = .ok (.iload 6, 2) := by decide +kernel
theorem dX9_doubtful_39 : decode cX9_doubtful 39 = .ok (.iconst 2, 1) := by decide +kernel
theorem dX9_doubtful_40 : decode cX9_doubtful 40 = .ok (.idiv, 1) := by decide +kernel
theorem dX9_doubtful_41 : decode cX9_doubtful 41 = .ok (.iload 6, 2) := by decide +kernel
theorem dX9_doubtful_43 : decode cX9_doubtful 43 = .ok (.iconst 2, 1) := by decide +kernel
theorem dX9_doubtful_44 : decode cX9_doubtful 44 = .ok (.irem, 1) := by decide +kernel
theorem dX9_doubtful_45 : decode cX9_doubtful 45 = .ok (.iload_n 3, 1) := by decide +kernel
theorem dX9_doubtful_46 : decode cX9_doubtful 46 = .ok (.invokevirtual 177, 3) := by decide +kernel
theorem dX9_doubtful_49 : decode cX9_doubtful 49 = .ok (.ifCond .ne 6, 3) := by decide +kernel
theorem dX9_doubtful_52 : decode cX9_doubtful 52 = .ok (.goto 40, 3) := by decide +kernel
theorem dX9_doubtful_55 : decode cX9_doubtful 55 = .ok (.iload 5, 2) := by decide +kernel
theorem dX9_doubtful_57 : decode cX9_doubtful 57 = .ok (.iload 4, 2) := by decide +kernel
theorem dX9_doubtful_59 : decode cX9_doubtful 59 = .ok (.iconst 2, 1) := by decide +kernel
theorem dX9_doubtful_60 : decode cX9_doubtful 60 = .ok (.if_icmp .ne 7, 3) := by decide +kernel
theorem dX9_doubtful_63 : decode cX9_doubtful 63 = .ok (.iconst 1, 1) := by decide +kernel
theorem dX9_doubtful_64 : decode cX9_doubtful 64 = .ok (.goto 25, 3) := by decide +kernel
theorem dX9_doubtful_67 : decode cX9_doubtful 67 = .ok (.iload 6, 2) := by decide +kernel
theorem dX9_doubtful_69 : decode cX9_doubtful 69 = .ok (.iconst 2, 1) := by decide +kernel
theorem dX9_doubtful_70 : decode cX9_doubtful 70 = .ok (.irem, 1) := by decide +kernel
theorem dX9_doubtful_71 : decode cX9_doubtful 71 = .ok (.iload 4, 2) := by decide +kernel
theorem dX9_doubtful_73 : decode cX9_doubtful 73 = .ok (.if_icmp .ne 15, 3) := by decide +kernel
theorem dX9_doubtful_76 : decode cX9_doubtful 76 = .ok (.aload_n 0, 1) := by decide +kernel
theorem dX9_doubtful_77 : decode cX9_doubtful 77 = .ok (.iload 6, 2) := by decide +kernel
theorem dX9_doubtful_79 : decode cX9_doubtful 79 = .ok (.iconst 2, 1) := by decide +kernel
theorem dX9_doubtful_80 : decode cX9_doubtful 80 = .ok (.idiv, 1) := by decide +kernel
theorem dX9_doubtful_81 : decode cX9_doubtful 81 = .ok (.iconst 1, 1) := by decide +kernel
theorem dX9_doubtful_82 : decode cX9_doubtful 82 = .ok (.invokevirtual 163, 3) := by decide +kernel
theorem dX9_doubtful_85 : decode cX9_doubtful 85 = .ok (.goto 4, 3) := by decide +kernel
theorem dX9_doubtful_88 : decode cX9_doubtful 88 = .ok (.iconst 0, 1) := by decide +kernel
theorem dX9_doubtful_89 : decode cX9_doubtful 89 = .ok (.iadd, 1) := by decide +kernel
theorem dX9_doubtful_90 : decode cX9_doubtful 90 = .ok (.istore 5, 2) := by decide +kernel
theorem dX9_doubtful_92 : decode cX9_doubtful 92 = .ok (.iinc 6 1, 3) := by decide +kernel
theorem dX9_doubtful_95 : decode cX9_doubtful 95 = .ok (.goto (-89), 3) := by decide +kernel
theorem dX9_doubtful_98 : decode cX9_doubtful 98 = .ok (.iload 5, 2) := by decide +kernel
theorem dX9_doubtful_100 : decode cX9_doubtful 100 = .ok (.ireturn, 1) := by decide +kernel
theorem dX9_least_0 : decode cX9_least 0 = .ok (.aload_n 0, 1) := by decide +kernel
theorem dX9_least_1 : decode cX9_least 1 = .ok (.iload_n 1, 1) := by decide +kernel
theorem dX9_least_2 : decode cX9_least 2 = .ok (.iload_n 2, 1) := by decide +kernel
theorem dX9_least_3 : decode cX9_least 3 = .ok (.iload_n 3, 1) := by decide +kernel
theorem dX9_least_4 : decode cX9_least 4 = .ok (.invokevirtual 180, 3) := by decide +kernel
theorem dX9_least_7 : decode cX9_least 7 = .ok (.aload_n 0, 1) := by decide +kernel
theorem dX9_least_8 : decode cX9_least 8 = .ok (.iload_n 1, 1) := by decide +kernel
theorem dX9_least_9 : decode cX9_least 9 = .ok (.iload_n 2, 1) := by decide +kernel
theorem dX9_least_10 : decode cX9_least 10 = .ok (.iload_n 3, 1) := by decide +kernel
theorem dX9_least_11 : decode cX9_least 11 = .ok (.iconst 0, 1) := by decide +kernel
theorem dX9_least_12 : decode cX9_least 12 = .ok (.invokevirtual 183, 3) := by decide +kernel
theorem dX9_least_15 : decode cX9_least 15 = .ok (.isub, 1) := by decide +kernel
theorem dX9_least_16 : decode cX9_least 16 = .ok (.ireturn, 1) := by decide +kernel
theorem dX9_most_0 : decode cX9_most 0 = .ok (.aload_n 0, 1) := by decide +kernel
theorem dX9_most_1 : decode cX9_most 1 = .ok (.iload_n 1, 1) := by decide +kernel
theorem dX9_most_2 : decode cX9_most 2 = .ok (.iload_n 2, 1) := by decide +kernel
theorem dX9_most_3 : decode cX9_most 3 = .ok (.iload_n 3, 1) := by decide +kernel
theorem dX9_most_4 : decode cX9_most 4 = .ok (.invokevirtual 180, 3) := by decide +kernel
theorem dX9_most_7 : decode cX9_most 7 = .ok (.aload_n 0, 1) := by decide +kernel
theorem dX9_most_8 : decode cX9_most 8 = .ok (.iload_n 1, 1) := by decide +kernel
theorem dX9_most_9 : decode cX9_most 9 = .ok (.iload_n 2, 1) := by decide +kernel
theorem dX9_most_10 : decode cX9_most 10 = .ok (.iload_n 3, 1) := by decide +kernel
theorem dX9_most_11 : decode cX9_most 11 = .ok (.iconst 1, 1) := by decide +kernel
theorem dX9_most_12 : decode cX9_most 12 = .ok (.invokevirtual 183, 3) := by decide +kernel
theorem dX9_most_15 : decode cX9_most 15 = .ok (.iadd, 1) := by decide +kernel
theorem dX9_most_16 : decode cX9_most 16 = .ok (.ireturn, 1) := by decide +kernel
theorem dX9_now_0 : decode cX9_now 0 = .ok (.aload_n 0, 1) := by decide +kernel
theorem dX9_now_1 : decode cX9_now 1 = .ok (.iconst 0, 1) := by decide +kernel
theorem dX9_now_2 : decode cX9_now 2 = .ok (.putfield 1, 3) := by decide +kernel
theorem dX9_now_5 : decode cX9_now 5 = .ok (.iload_n 1, 1) := by decide +kernel
theorem dX9_now_6 : decode cX9_now 6 = .ok (.tableswitch 96 0 7 #[46, 53, 60, 67, 74, 79, 86, 91], 46) := by decide +kernel
theorem dX9_now_52 : decode cX9_now 52 = .ok (.aload_n 0, 1) := by decide +kernel
theorem dX9_now_53 : decode cX9_now 53 = .ok (.getfield 74, 3) := by decide +kernel
theorem dX9_now_56 : decode cX9_now 56 = .ok (.iconst 0, 1) := by decide +kernel
theorem dX9_now_57 : decode cX9_now 57 = .ok (.iaload, 1) := by decide +kernel
theorem dX9_now_58 : decode cX9_now 58 = .ok (.ireturn, 1) := by decide +kernel
theorem dX9_now_59 : decode cX9_now 59 = .ok (.aload_n 0, 1) := by decide +kernel
theorem dX9_now_60 : decode cX9_now 60 = .ok (.getfield 74, 3) := by decide +kernel
theorem dX9_now_63 : decode cX9_now 63 = .ok (.iconst 1, 1) := by decide +kernel
theorem dX9_now_64 : decode cX9_now 64 = .ok (.iaload, 1) := by decide +kernel
theorem dX9_now_65 : decode cX9_now 65 = .ok (.ireturn, 1) := by decide +kernel
theorem dX9_now_66 : decode cX9_now 66 = .ok (.aload_n 0, 1) := by decide +kernel
theorem dX9_now_67 : decode cX9_now 67 = .ok (.getfield 74, 3) := by decide +kernel
theorem dX9_now_70 : decode cX9_now 70 = .ok (.iconst 2, 1) := by decide +kernel
theorem dX9_now_71 : decode cX9_now 71 = .ok (.iaload, 1) := by decide +kernel
theorem dX9_now_72 : decode cX9_now 72 = .ok (.ireturn, 1) := by decide +kernel
theorem dX9_now_73 : decode cX9_now 73 = .ok (.aload_n 0, 1) := by decide +kernel
theorem dX9_now_74 : decode cX9_now 74 = .ok (.getfield 74, 3) := by decide +kernel
theorem dX9_now_77 : decode cX9_now 77 = .ok (.iconst 3, 1) := by decide +kernel
theorem dX9_now_78 : decode cX9_now 78 = .ok (.iaload, 1) := by decide +kernel
theorem dX9_now_79 : decode cX9_now 79 = .ok (.ireturn, 1) := by decide +kernel
theorem dX9_now_80 : decode cX9_now 80 = .ok (.aload_n 0, 1) := by decide +kernel
theorem dX9_now_81 : decode cX9_now 81 = .ok (.invokevirtual 187, 3) := by decide +kernel
theorem dX9_now_84 : decode cX9_now 84 = .ok (.ireturn, 1) := by decide +kernel
theorem dX9_now_85 : decode cX9_now 85 = .ok (.aload_n 0, 1) := by decide +kernel
theorem dX9_now_86 : decode cX9_now 86 = .ok (.getfield 74, 3) := by decide +kernel
theorem dX9_now_89 : decode cX9_now 89 = .ok (.iconst 4, 1) := by decide +kernel
theorem dX9_now_90 : decode cX9_now 90 = .ok (.iaload, 1) := by decide +kernel
theorem dX9_now_91 : decode cX9_now 91 = .ok (.ireturn, 1) := by decide +kernel
theorem dX9_now_92 : decode cX9_now 92 = .ok (.aload_n 0, 1) := by decide +kernel
theorem dX9_now_93 : decode cX9_now 93 = .ok (.getfield 153, 3) := by decide +kernel
theorem dX9_now_96 : decode cX9_now 96 = .ok (.ireturn, 1) := by decide +kernel
theorem dX9_now_97 : decode cX9_now 97 = .ok (.aload_n 0, 1) := by decide +kernel
theorem dX9_now_98 : decode cX9_now 98 = .ok (.getfield 11, 3) := by decide +kernel
theorem dX9_now_101 : decode cX9_now 101 = .ok (.ireturn, 1) := by decide +kernel
theorem dX9_now_102 : decode cX9_now 102 = .ok (.iconst (-1), 1) := by decide +kernel
theorem dX9_now_103 : decode cX9_now 103 = .ok (.ireturn, 1) := by decide +kernel
theorem dX9_item_0 : decode cX9_item 0 = .ok (.aload_n 0, 1) := by decide +kernel
theorem dX9_item_1 : decode cX9_item 1 = .ok (.iconst 0, 1) := by decide +kernel
theorem dX9_item_2 : decode cX9_item 2 = .ok (.putfield 1, 3) := by decide +kernel
theorem dX9_item_5 : decode cX9_item 5 = .ok (.aload_n 0, 1) := by decide +kernel
theorem dX9_item_6 : decode cX9_item 6 = .ok (.iload_n 1, 1) := by decide +kernel
theorem dX9_item_7 : decode cX9_item 7 = .ok (.invokevirtual 191, 3) := by decide +kernel
theorem dX9_item_10 : decode cX9_item 10 = .ok (.ifCond .eq 27, 3) := by decide +kernel
theorem dX9_item_13 : decode cX9_item 13 = .ok (.iload_n 2, 1) := by decide +kernel
theorem dX9_item_14 : decode cX9_item 14 = .ok (.iconst 0, 1) := by decide +kernel
theorem dX9_item_15 : decode cX9_item 15 = .ok (.iconst 1, 1) := by decide +kernel
theorem dX9_item_16 : decode cX9_item 16 = .ok (.invokestatic 92, 3) := by decide +kernel
theorem dX9_item_19 : decode cX9_item 19 = .ok (.ifCond .eq 18, 3) := by decide +kernel
theorem dX9_item_22 : decode cX9_item 22 = .ok (.aload_n 0, 1) := by decide +kernel
theorem dX9_item_23 : decode cX9_item 23 = .ok (.getfield 74, 3) := by decide +kernel
theorem dX9_item_26 : decode cX9_item 26 = .ok (.iconst 5, 1) := by decide +kernel
theorem dX9_item_27 : decode cX9_item 27 = .ok (.iconst 2, 1) := by decide +kernel
theorem dX9_item_28 : decode cX9_item 28 = .ok (.iload_n 1, 1) := by decide +kernel
theorem dX9_item_29 : decode cX9_item 29 = .ok (.imul, 1) := by decide +kernel
theorem dX9_item_30 : decode cX9_item 30 = .ok (.iadd, 1) := by decide +kernel
theorem dX9_item_31 : decode cX9_item 31 = .ok (.iload_n 2, 1) := by decide +kernel
theorem dX9_item_32 : decode cX9_item 32 = .ok (.iadd, 1) := by decide +kernel
theorem dX9_item_33 : decode cX9_item 33 = .ok (.iaload, 1) := by decide +kernel
theorem dX9_item_34 : decode cX9_item 34 = .ok (.goto 4, 3) := by decide +kernel
theorem dX9_item_37 : decode cX9_item 37 = .ok (.iconst (-1), 1) := by decide +kernel
theorem dX9_item_38 : decode cX9_item 38 = .ok (.ireturn, 1) := by decide +kernel
theorem dX9_move_0 : decode cX9_move 0 = .ok (.aload_n 0, 1) := by decide +kernel
theorem dX9_move_1 : decode cX9_move 1 = .ok (.iconst 0, 1) := by decide +kernel
theorem dX9_move_2 : decode cX9_move 2 = .ok (.putfield 1, 3) := by decide +kernel
theorem dX9_move_5 : decode cX9_move 5 = .ok (.iload_n 2, 1) := by decide +kernel
theorem dX9_move_6 : decode cX9_move 6 = .ok (.bipush 10, 2) := by decide +kernel
theorem dX9_move_8 : decode cX9_move 8 = .ok (.bipush 12, 2) := by decide +kernel
theorem dX9_move_10 : decode cX9_move 10 = .ok (.invokestatic 92, 3) := by decide +kernel
theorem dX9_move_13 : decode cX9_move 13 = .ok (.ifCond .ne 14, 3) := by decide +kernel
theorem dX9_move_16 : decode cX9_move 16 = .ok (.iload_n 2, 1) := by decide +kernel
theorem dX9_move_17 : decode cX9_move 17 = .ok (.bipush 20, 2) := by decide +kernel
theorem dX9_move_19 : decode cX9_move 19 = .ok (.bipush 22, 2) := by decide +kernel
theorem dX9_move_21 : decode cX9_move 21 = .ok (.invokestatic 92, 3) := by decide +kernel
theorem dX9_move_24 : decode cX9_move 24 = .ok (.ifCond .eq 7, 3) := by decide +kernel
theorem dX9_move_27 : decode cX9_move 27 = .ok (.iconst 1, 1) := by decide +kernel
theorem dX9_move_28 : decode cX9_move 28 = .ok (.goto 4, 3) := by decide +kernel
theorem dX9_move_31 : decode cX9_move 31 = .ok (.iconst 0, 1) := by decide +kernel
theorem dX9_move_32 : decode cX9_move 32 = .ok (.istore_n 3, 1) := by decide +kernel
theorem dX9_move_33 : decode cX9_move 33 = .ok (.aload_n 0, 1) := by decide +kernel
theorem dX9_move_34 : decode cX9_move 34 = .ok (.iload_n 1, 1) := by decide +kernel
theorem dX9_move_35 : decode cX9_move 35 = .ok (.invokevirtual 194, 3) := by decide +kernel
theorem dX9_move_38 : decode cX9_move 38 = .ok (.ifCond .eq 16, 3) := by decide +kernel
theorem dX9_move_41 : decode cX9_move 41 = .ok (.iload_n 2, 1) := by decide +kernel
theorem dX9_move_42 : decode cX9_move 42 = .ok (.iconst 0, 1) := by decide +kernel
theorem dX9_move_43 : decode cX9_move 43 = .ok (.iconst 1, 1) := by decide +kernel
theorem dX9_move_44 : decode cX9_move 44 = .ok (.invokestatic 92, 3) := by decide +kernel
theorem dX9_move_47 : decode cX9_move 47 = .ok (.ifCond .ne 12, 3) := by decide +kernel
theorem dX9_move_50 : decode cX9_move 50 = .ok (.iload_n 3, 1) := by decide +kernel
theorem dX9_move_51 : decode cX9_move 51 = .ok (.ifCond .ne 8, 3) := by decide +kernel
theorem dX9_move_54 : decode cX9_move 54 = .ok (.aload_n 0, 1) := by decide +kernel
theorem dX9_move_55 : decode cX9_move 55 = .ok (.invokevirtual 197, 3) := by decide +kernel
theorem dX9_move_58 : decode cX9_move 58 = .ok (.ireturn, 1) := by decide +kernel
theorem dX9_move_59 : decode cX9_move 59 = .ok (.iload_n 3, 1) := by decide +kernel
theorem dX9_move_60 : decode cX9_move 60 = .ok (.ifCond .ne 10, 3) := by decide +kernel
theorem dX9_move_63 : decode cX9_move 63 = .ok (.aload_n 0, 1) := by decide +kernel
theorem dX9_move_64 : decode cX9_move 64 = .ok (.iload_n 1, 1) := by decide +kernel
theorem dX9_move_65 : decode cX9_move 65 = .ok (.iload_n 2, 1) := by decide +kernel
theorem dX9_move_66 : decode cX9_move 66 = .ok (.invokevirtual 163, 3) := by decide +kernel
theorem dX9_move_69 : decode cX9_move 69 = .ok (.ireturn, 1) := by decide +kernel
theorem dX9_move_70 : decode cX9_move 70 = .ok (.iload_n 2, 1) := by decide +kernel
theorem dX9_move_71 : decode cX9_move 71 = .ok (.bipush 10, 2) := by decide +kernel
theorem dX9_move_73 : decode cX9_move 73 = .ok (.idiv, 1) := by decide +kernel
theorem dX9_move_74 : decode cX9_move 74 = .ok (.iconst 1, 1) := by decide +kernel
theorem dX9_move_75 : decode cX9_move 75 = .ok (.isub, 1) := by decide +kernel
theorem dX9_move_76 : decode cX9_move 76 = .ok (.istore 4, 2) := by decide +kernel
theorem dX9_move_78 : decode cX9_move 78 = .ok (.aload_n 0, 1) := by decide +kernel
theorem dX9_move_79 : decode cX9_move 79 = .ok (.iload_n 1, 1) := by decide +kernel
theorem dX9_move_80 : decode cX9_move 80 = .ok (.iload 4, 2) := by decide +kernel
theorem dX9_move_82 : decode cX9_move 82 = .ok (.invokevirtual 160, 3) := by decide +kernel
theorem dX9_move_85 : decode cX9_move 85 = .ok (.ifCond .eq 19, 3) := by decide +kernel
theorem dX9_move_88 : decode cX9_move 88 = .ok (.aload_n 0, 1) := by decide +kernel
theorem dX9_move_89 : decode cX9_move 89 = .ok (.iload_n 1, 1) := by decide +kernel
theorem dX9_move_90 : decode cX9_move 90 = .ok (.iload 4, 2) := by decide +kernel
theorem dX9_move_92 : decode cX9_move 92 = .ok (.iconst 1, 1) := by decide +kernel
theorem dX9_move_93 : decode cX9_move 93 = .ok (.iload_n 2, 1) := by decide +kernel
theorem dX9_move_94 : decode cX9_move 94 = .ok (.bipush 10, 2) := by decide +kernel
theorem dX9_move_96 : decode cX9_move 96 = .ok (.irem, 1) := by decide +kernel
theorem dX9_move_97 : decode cX9_move 97 = .ok (.iadd, 1) := by decide +kernel
theorem dX9_move_98 : decode cX9_move 98 = .ok (.invokevirtual 156, 3) := by decide +kernel
theorem dX9_move_101 : decode cX9_move 101 = .ok (.goto 4, 3) := by decide +kernel
theorem dX9_move_104 : decode cX9_move 104 = .ok (.iconst (-1), 1) := by decide +kernel
theorem dX9_move_105 : decode cX9_move 105 = .ok (.ireturn, 1) := by decide +kernel
theorem dX9_book_0 : decode cX9_book 0 = .ok (.aload_n 0, 1) := by decide +kernel
theorem dX9_book_1 : decode cX9_book 1 = .ok (.iconst 0, 1) := by decide +kernel
theorem dX9_book_2 : decode cX9_book 2 = .ok (.putfield 1, 3) := by decide +kernel
theorem dX9_book_5 : decode cX9_book 5 = .ok (.aload_n 0, 1) := by decide +kernel
theorem dX9_book_6 : decode cX9_book 6 = .ok (.iload_n 1, 1) := by decide +kernel
theorem dX9_book_7 : decode cX9_book 7 = .ok (.invokevirtual 200, 3) := by decide +kernel
theorem dX9_book_10 : decode cX9_book 10 = .ok (.ifCond .eq 28, 3) := by decide +kernel
theorem dX9_book_13 : decode cX9_book 13 = .ok (.aload_n 0, 1) := by decide +kernel
theorem dX9_book_14 : decode cX9_book 14 = .ok (.iload_n 2, 1) := by decide +kernel
theorem dX9_book_15 : decode cX9_book 15 = .ok (.invokevirtual 191, 3) := by decide +kernel
theorem dX9_book_18 : decode cX9_book 18 = .ok (.ifCond .eq 20, 3) := by decide +kernel
theorem dX9_book_21 : decode cX9_book 21 = .ok (.iload_n 3, 1) := by decide +kernel
theorem dX9_book_22 : decode cX9_book 22 = .ok (.invokestatic 203, 3) := by decide +kernel
theorem dX9_book_25 : decode cX9_book 25 = .ok (.ifCond .eq 13, 3) := by decide +kernel
theorem dX9_book_28 : decode cX9_book 28 = .ok (.iload 4, 2) := by decide +kernel
theorem dX9_book_30 : decode cX9_book 30 = .ok (.iconst 0, 1) := by decide +kernel
theorem dX9_book_31 : decode cX9_book 31 = .ok (.iconst 3, 1) := by decide +kernel
theorem dX9_book_32 : decode cX9_book 32 = .ok (.invokestatic 92, 3) := by decide +kernel
theorem dX9_book_35 : decode cX9_book 35 = .ok (.ifCond .ne 6, 3) := by decide +kernel
theorem dX9_book_38 : decode cX9_book 38 = .ok (.ldc 206, 2) := by decide +kernel
theorem dX9_book_40 : decode cX9_book 40 = .ok (.ireturn, 1) := by decide +kernel
theorem dX9_book_41 : decode cX9_book 41 = .ok (.iload 4, 2) := by decide +kernel
theorem dX9_book_43 : decode cX9_book 43 = .ok (.ifCond .ne 13, 3) := by decide +kernel
theorem dX9_book_46 : decode cX9_book 46 = .ok (.aload_n 0, 1) := by decide +kernel
theorem dX9_book_47 : decode cX9_book 47 = .ok (.iload_n 1, 1) := by decide +kernel
theorem dX9_book_48 : decode cX9_book 48 = .ok (.iload_n 2, 1) := by decide +kernel
theorem dX9_book_49 : decode cX9_book 49 = .ok (.iload_n 3, 1) := by decide +kernel
theorem dX9_book_50 : decode cX9_book 50 = .ok (.invokevirtual 180, 3) := by decide +kernel
theorem dX9_book_53 : decode cX9_book 53 = .ok (.goto 43, 3) := by decide +kernel
theorem dX9_book_56 : decode cX9_book 56 = .ok (.iload 4, 2) := by decide +kernel
theorem dX9_book_58 : decode cX9_book 58 = .ok (.iconst 1, 1) := by decide +kernel
theorem dX9_book_59 : decode cX9_book 59 = .ok (.if_icmp .ne 13, 3) := by decide +kernel
theorem dX9_book_62 : decode cX9_book 62 = .ok (.aload_n 0, 1) := by decide +kernel
theorem dX9_book_63 : decode cX9_book 63 = .ok (.iload_n 1, 1) := by decide +kernel
theorem dX9_book_64 : decode cX9_book 64 = .ok (.iload_n 2, 1) := by decide +kernel
theorem dX9_book_65 : decode cX9_book 65 = .ok (.iload_n 3, 1) := by decide +kernel
theorem dX9_book_66 : decode cX9_book 66 = .ok (.invokevirtual 207, 3) := by decide +kernel
theorem dX9_book_69 : decode cX9_book 69 = .ok (.goto 27, 3) := by decide +kernel
theorem dX9_book_72 : decode cX9_book 72 = .ok (.iload 4, 2) := by decide +kernel
theorem dX9_book_74 : decode cX9_book 74 = .ok (.iconst 2, 1) := by decide +kernel
theorem dX9_book_75 : decode cX9_book 75 = .ok (.if_icmp .ne 13, 3) := by decide +kernel
theorem dX9_book_78 : decode cX9_book 78 = .ok (.aload_n 0, 1) := by decide +kernel
theorem dX9_book_79 : decode cX9_book 79 = .ok (.iload_n 1, 1) := by decide +kernel
theorem dX9_book_80 : decode cX9_book 80 = .ok (.iload_n 2, 1) := by decide +kernel
theorem dX9_book_81 : decode cX9_book 81 = .ok (.iload_n 3, 1) := by decide +kernel
theorem dX9_book_82 : decode cX9_book 82 = .ok (.invokevirtual 210, 3) := by decide +kernel
theorem dX9_book_85 : decode cX9_book 85 = .ok (.goto 11, 3) := by decide +kernel
theorem dX9_book_88 : decode cX9_book 88 = .ok (.aload_n 0, 1) := by decide +kernel
theorem dX9_book_89 : decode cX9_book 89 = .ok (.iload_n 1, 1) := by decide +kernel
theorem dX9_book_90 : decode cX9_book 90 = .ok (.iload_n 2, 1) := by decide +kernel
theorem dX9_book_91 : decode cX9_book 91 = .ok (.iload_n 3, 1) := by decide +kernel
theorem dX9_book_92 : decode cX9_book 92 = .ok (.iconst 2, 1) := by decide +kernel
theorem dX9_book_93 : decode cX9_book 93 = .ok (.invokevirtual 183, 3) := by decide +kernel
theorem dX9_book_96 : decode cX9_book 96 = .ok (.ireturn, 1) := by decide +kernel
theorem dX9_transit_0 : decode cX9_transit 0 = .ok (.aload_n 0, 1) := by decide +kernel
theorem dX9_transit_1 : decode cX9_transit 1 = .ok (.iconst 0, 1) := by decide +kernel
theorem dX9_transit_2 : decode cX9_transit 2 = .ok (.putfield 1, 3) := by decide +kernel
theorem dX9_transit_5 : decode cX9_transit 5 = .ok (.aload_n 0, 1) := by decide +kernel
theorem dX9_transit_6 : decode cX9_transit 6 = .ok (.iload_n 1, 1) := by decide +kernel
theorem dX9_transit_7 : decode cX9_transit 7 = .ok (.invokevirtual 191, 3) := by decide +kernel
theorem dX9_transit_10 : decode cX9_transit 10 = .ok (.ifCond .eq 19, 3) := by decide +kernel
theorem dX9_transit_13 : decode cX9_transit 13 = .ok (.iload_n 2, 1) := by decide +kernel
theorem dX9_transit_14 : decode cX9_transit 14 = .ok (.invokestatic 203, 3) := by decide +kernel
theorem dX9_transit_17 : decode cX9_transit 17 = .ok (.ifCond .eq 12, 3) := by decide +kernel
theorem dX9_transit_20 : decode cX9_transit 20 = .ok (.iload_n 3, 1) := by decide +kernel
theorem dX9_transit_21 : decode cX9_transit 21 = .ok (.iconst 0, 1) := by decide +kernel
theorem dX9_transit_22 : decode cX9_transit 22 = .ok (.iconst 1, 1) := by decide +kernel
theorem dX9_transit_23 : decode cX9_transit 23 = .ok (.invokestatic 92, 3) := by decide +kernel
theorem dX9_transit_26 : decode cX9_transit 26 = .ok (.ifCond .ne 5, 3) := by decide +kernel
theorem dX9_transit_29 : decode cX9_transit 29 = .ok (.iconst (-1), 1) := by decide +kernel
theorem dX9_transit_30 : decode cX9_transit 30 = .ok (.ireturn, 1) := by decide +kernel
theorem dX9_transit_31 : decode cX9_transit 31 = .ok (.iconst 0, 1) := by decide +kernel
theorem dX9_transit_32 : decode cX9_transit 32 = .ok (.istore 4, 2) := by decide +kernel
theorem dX9_transit_34 : decode cX9_transit 34 = .ok (.iconst 0, 1) := by decide +kernel
theorem dX9_transit_35 : decode cX9_transit 35 = .ok (.istore 5, 2) := by decide +kernel
theorem dX9_transit_37 : decode cX9_transit 37 = .ok (.iload 5, 2) := by decide +kernel
theorem dX9_transit_39 : decode cX9_transit 39 = .ok (.aload_n 0, 1) := by decide +kernel
theorem dX9_transit_40 : decode cX9_transit 40 = .ok (.getfield 74, 3) := by decide +kernel
theorem dX9_transit_43 : decode cX9_transit 43 = .ok (.iconst 2, 1) := by decide +kernel
theorem dX9_transit_44 : decode cX9_transit 44 = .ok (.iaload, 1) := by decide +kernel
theorem dX9_transit_45 : decode cX9_transit 45 = .ok (.if_icmp .ge 95, 3) := by decide +kernel
theorem dX9_transit_48 : decode cX9_transit 48 = .ok (.aload_n 0, 1) := by decide +kernel
theorem dX9_transit_49 : decode cX9_transit 49 = .ok (.iload 5, 2) := by decide +kernel
theorem dX9_transit_51 : decode cX9_transit 51 = .ok (.iconst 0, 1) := by decide +kernel
theorem dX9_transit_52 : decode cX9_transit 52 = .ok (.invokevirtual 163, 3) := by decide +kernel
theorem dX9_transit_55 : decode cX9_transit 55 = .ok (.iload_n 1, 1) := by decide +kernel
theorem dX9_transit_56 : decode cX9_transit 56 = .ok (.if_icmp .ne 78, 3) := by decide +kernel
theorem dX9_transit_59 : decode cX9_transit 59 = .ok (.aload_n 0, 1) := by decide +kernel
theorem dX9_transit_60 : decode cX9_transit 60 = .ok (.iload 5, 2) := by decide +kernel
theorem dX9_transit_62 : decode cX9_transit 62 = .ok (.iconst 0, 1) := by decide +kernel
theorem dX9_transit_63 : decode cX9_transit 63 = .ok (.invokevirtual 160, 3) := by decide +kernel
theorem dX9_transit_66 : decode cX9_transit 66 = .ok (.ifCond .eq 68, 3) := by decide +kernel
theorem dX9_transit_69 : decode cX9_transit 69 = .ok (.aload_n 0, 1) := by decide +kernel
theorem dX9_transit_70 : decode cX9_transit 70 = .ok (.iload 5, 2) := by decide +kernel
theorem dX9_transit_72 : decode cX9_transit 72 = .ok (.iconst 1, 1) := by decide +kernel
theorem dX9_transit_73 : decode cX9_transit 73 = .ok (.invokevirtual 160, 3) := by decide +kernel
theorem dX9_transit_76 : decode cX9_transit 76 = .ok (.ifCond .eq 58, 3) := by decide +kernel
theorem dX9_transit_79 : decode cX9_transit 79 = .ok (.aload_n 0, 1) := by decide +kernel
theorem dX9_transit_80 : decode cX9_transit 80 = .ok (.iload 5, 2) := by decide +kernel
theorem dX9_transit_82 : decode cX9_transit 82 = .ok (.iconst 0, 1) := by decide +kernel
theorem dX9_transit_83 : decode cX9_transit 83 = .ok (.iload_n 2, 1) := by decide +kernel
theorem dX9_transit_84 : decode cX9_transit 84 = .ok (.invokevirtual 167, 3) := by decide +kernel
theorem dX9_transit_87 : decode cX9_transit 87 = .ok (.ifCond .ne 6, 3) := by decide +kernel
theorem dX9_transit_90 : decode cX9_transit 90 = .ok (.goto 44, 3) := by decide +kernel
theorem dX9_transit_93 : decode cX9_transit 93 = .ok (.iload_n 3, 1) := by decide +kernel
theorem dX9_transit_94 : decode cX9_transit 94 = .ok (.ifCond .ne 17, 3) := by decide +kernel
theorem dX9_transit_97 : decode cX9_transit 97 = .ok (.aload_n 0, 1) := by decide +kernel
theorem dX9_transit_98 : decode cX9_transit 98 = .ok (.iload 5, 2) := by decide +kernel
theorem dX9_transit_100 : decode cX9_transit 100 = .ok (.iconst 1, 1) := by decide +kernel
theorem dX9_transit_101 : decode cX9_transit 101 = .ok (.iload_n 2, 1) := by decide +kernel
theorem dX9_transit_102 : decode cX9_transit 102 = .ok (.invokevirtual 170, 3) := by decide +kernel
theorem dX9_transit_105 : decode cX9_transit 105 = .ok (.ifCond .eq 29, 3) := by decide +kernel
theorem dX9_transit_108 : decode cX9_transit 108 = .ok (.goto 14, 3) := by decide +kernel
theorem dX9_transit_111 : decode cX9_transit 111 = .ok (.aload_n 0, 1) := by decide +kernel
theorem dX9_transit_112 : decode cX9_transit 112 = .ok (.iload 5, 2) := by decide +kernel
theorem dX9_transit_114 : decode cX9_transit 114 = .ok (.iconst 1, 1) := by decide +kernel
theorem dX9_transit_115 : decode cX9_transit 115 = .ok (.iload_n 2, 1) := by decide +kernel
theorem dX9_transit_116 : decode cX9_transit 116 = .ok (.invokevirtual 177, 3) := by decide +kernel
theorem dX9_transit_119 : decode cX9_transit 119 = .ok (.ifCond .eq 15, 3) := by decide +kernel
theorem dX9_transit_122 : decode cX9_transit 122 = .ok (.iload 4, 2) := by decide +kernel
theorem dX9_transit_124 : decode cX9_transit 124 = .ok (.aload_n 0, 1) := by decide +kernel
theorem dX9_transit_125 : decode cX9_transit 125 = .ok (.iload 5, 2) := by decide +kernel
theorem dX9_transit_127 : decode cX9_transit 127 = .ok (.iconst 1, 1) := by decide +kernel
theorem dX9_transit_128 : decode cX9_transit 128 = .ok (.invokevirtual 163, 3) := by decide +kernel
theorem dX9_transit_131 : decode cX9_transit 131 = .ok (.iadd, 1) := by decide +kernel
theorem dX9_transit_132 : decode cX9_transit 132 = .ok (.istore 4, 2) := by decide +kernel
theorem dX9_transit_134 : decode cX9_transit 134 = .ok (.iinc 5 1, 3) := by decide +kernel
theorem dX9_transit_137 : decode cX9_transit 137 = .ok (.goto (-100), 3) := by decide +kernel
theorem dX9_transit_140 : decode cX9_transit 140 = .ok (.iload 4, 2) := by decide +kernel
theorem dX9_transit_142 : decode cX9_transit 142 = .ok (.ireturn, 1) := by decide +kernel
theorem dX9_below_0 : decode cX9_below 0 = .ok (.aload_n 0, 1) := by decide +kernel
theorem dX9_below_1 : decode cX9_below 1 = .ok (.iconst 0, 1) := by decide +kernel
theorem dX9_below_2 : decode cX9_below 2 = .ok (.putfield 1, 3) := by decide +kernel
theorem dX9_below_5 : decode cX9_below 5 = .ok (.aload_n 0, 1) := by decide +kernel
theorem dX9_below_6 : decode cX9_below 6 = .ok (.iload_n 1, 1) := by decide +kernel
theorem dX9_below_7 : decode cX9_below 7 = .ok (.invokevirtual 200, 3) := by decide +kernel
theorem dX9_below_10 : decode cX9_below 10 = .ok (.ifCond .eq 11, 3) := by decide +kernel
theorem dX9_below_13 : decode cX9_below 13 = .ok (.aload_n 0, 1) := by decide +kernel
theorem dX9_below_14 : decode cX9_below 14 = .ok (.iload_n 2, 1) := by decide +kernel
theorem dX9_below_15 : decode cX9_below 15 = .ok (.invokevirtual 191, 3) := by decide +kernel
theorem dX9_below_18 : decode cX9_below 18 = .ok (.ifCond .ne 5, 3) := by decide +kernel
theorem dX9_below_21 : decode cX9_below 21 = .ok (.iconst (-1), 1) := by decide +kernel
theorem dX9_below_22 : decode cX9_below 22 = .ok (.ireturn, 1) := by decide +kernel
theorem dX9_below_23 : decode cX9_below 23 = .ok (.iconst 0, 1) := by decide +kernel
theorem dX9_below_24 : decode cX9_below 24 = .ok (.istore_n 3, 1) := by decide +kernel
theorem dX9_below_25 : decode cX9_below 25 = .ok (.iload_n 3, 1) := by decide +kernel
theorem dX9_below_26 : decode cX9_below 26 = .ok (.sipush 999, 3) := by decide +kernel
theorem dX9_below_29 : decode cX9_below 29 = .ok (.if_icmp .gt 21, 3) := by decide +kernel
theorem dX9_below_32 : decode cX9_below 32 = .ok (.aload_n 0, 1) := by decide +kernel
theorem dX9_below_33 : decode cX9_below 33 = .ok (.iload_n 1, 1) := by decide +kernel
theorem dX9_below_34 : decode cX9_below 34 = .ok (.iload_n 2, 1) := by decide +kernel
theorem dX9_below_35 : decode cX9_below 35 = .ok (.iload_n 3, 1) := by decide +kernel
theorem dX9_below_36 : decode cX9_below 36 = .ok (.invokevirtual 210, 3) := by decide +kernel
theorem dX9_below_39 : decode cX9_below 39 = .ok (.ifCond .ge 5, 3) := by decide +kernel
theorem dX9_below_42 : decode cX9_below 42 = .ok (.iload_n 3, 1) := by decide +kernel
theorem dX9_below_43 : decode cX9_below 43 = .ok (.ireturn, 1) := by decide +kernel
theorem dX9_below_44 : decode cX9_below 44 = .ok (.iinc 3 1, 3) := by decide +kernel
theorem dX9_below_47 : decode cX9_below 47 = .ok (.goto (-22), 3) := by decide +kernel
theorem dX9_below_50 : decode cX9_below 50 = .ok (.iconst (-1), 1) := by decide +kernel
theorem dX9_below_51 : decode cX9_below 51 = .ok (.ireturn, 1) := by decide +kernel
theorem dX9_counted_0 : decode cX9_counted 0 = .ok (.aload_n 0, 1) := by decide +kernel
theorem dX9_counted_1 : decode cX9_counted 1 = .ok (.getfield 74, 3) := by decide +kernel
theorem dX9_counted_4 : decode cX9_counted 4 = .ok (.sipush 445, 3) := by decide +kernel
theorem dX9_counted_7 : decode cX9_counted 7 = .ok (.bipush 6, 2) := by decide +kernel
theorem dX9_counted_9 : decode cX9_counted 9 = .ok (.iload_n 1, 1) := by decide +kernel
theorem dX9_counted_10 : decode cX9_counted 10 = .ok (.imul, 1) := by decide +kernel
theorem dX9_counted_11 : decode cX9_counted 11 = .ok (.iadd, 1) := by decide +kernel
theorem dX9_counted_12 : decode cX9_counted 12 = .ok (.iload_n 2, 1) := by decide +kernel
theorem dX9_counted_13 : decode cX9_counted 13 = .ok (.iadd, 1) := by decide +kernel
theorem dX9_counted_14 : decode cX9_counted 14 = .ok (.iaload, 1) := by decide +kernel
theorem dX9_counted_15 : decode cX9_counted 15 = .ok (.ireturn, 1) := by decide +kernel
theorem dX9_sureOf_0 : decode cX9_sureOf 0 = .ok (.aload_n 0, 1) := by decide +kernel
theorem dX9_sureOf_1 : decode cX9_sureOf 1 = .ok (.aload_n 0, 1) := by decide +kernel
theorem dX9_sureOf_2 : decode cX9_sureOf 2 = .ok (.iload_n 1, 1) := by decide +kernel
theorem dX9_sureOf_3 : decode cX9_sureOf 3 = .ok (.iconst 0, 1) := by decide +kernel
theorem dX9_sureOf_4 : decode cX9_sureOf 4 = .ok (.invokevirtual 213, 3) := by decide +kernel
theorem dX9_sureOf_7 : decode cX9_sureOf 7 = .ok (.aload_n 0, 1) := by decide +kernel
theorem dX9_sureOf_8 : decode cX9_sureOf 8 = .ok (.iload_n 1, 1) := by decide +kernel
theorem dX9_sureOf_9 : decode cX9_sureOf 9 = .ok (.iconst 1, 1) := by decide +kernel
theorem dX9_sureOf_10 : decode cX9_sureOf 10 = .ok (.invokevirtual 213, 3) := by decide +kernel
theorem dX9_sureOf_13 : decode cX9_sureOf 13 = .ok (.aload_n 0, 1) := by decide +kernel
theorem dX9_sureOf_14 : decode cX9_sureOf 14 = .ok (.iload_n 1, 1) := by decide +kernel
theorem dX9_sureOf_15 : decode cX9_sureOf 15 = .ok (.iconst 2, 1) := by decide +kernel
theorem dX9_sureOf_16 : decode cX9_sureOf 16 = .ok (.invokevirtual 213, 3) := by decide +kernel
theorem dX9_sureOf_19 : decode cX9_sureOf 19 = .ok (.invokevirtual 180, 3) := by decide +kernel
theorem dX9_sureOf_22 : decode cX9_sureOf 22 = .ok (.ireturn, 1) := by decide +kernel
theorem dX9_differenceOf_0 : decode cX9_differenceOf 0 = .ok (.aload_n 0, 1) := by decide +kernel
theorem dX9_differenceOf_1 : decode cX9_differenceOf 1 = .ok (.aload_n 0, 1) := by decide +kernel
theorem dX9_differenceOf_2 : decode cX9_differenceOf 2 = .ok (.iload_n 1, 1) := by decide +kernel
theorem dX9_differenceOf_3 : decode cX9_differenceOf 3 = .ok (.iconst 0, 1) := by decide +kernel
theorem dX9_differenceOf_4 : decode cX9_differenceOf 4 = .ok (.invokevirtual 213, 3) := by decide +kernel
theorem dX9_differenceOf_7 : decode cX9_differenceOf 7 = .ok (.aload_n 0, 1) := by decide +kernel
theorem dX9_differenceOf_8 : decode cX9_differenceOf 8 = .ok (.iload_n 1, 1) := by decide +kernel
theorem dX9_differenceOf_9 : decode cX9_differenceOf 9 = .ok (.iconst 1, 1) := by decide +kernel
theorem dX9_differenceOf_10 : decode cX9_differenceOf 10 = .ok (.invokevirtual 213, 3) := by decide +kernel
theorem dX9_differenceOf_13 : decode cX9_differenceOf 13 = .ok (.aload_n 0, 1) := by decide +kernel
theorem dX9_differenceOf_14 : decode cX9_differenceOf 14 = .ok (.iload_n 1, 1) := by decide +kernel
theorem dX9_differenceOf_15 : decode cX9_differenceOf 15 = .ok (.iconst 2, 1) := by decide +kernel
theorem dX9_differenceOf_16 : decode cX9_differenceOf 16 = .ok (.invokevirtual 213, 3) := by decide +kernel
theorem dX9_differenceOf_19 : decode cX9_differenceOf 19 = .ok (.invokevirtual 207, 3) := by decide +kernel
theorem dX9_differenceOf_22 : decode cX9_differenceOf 22 = .ok (.istore_n 2, 1) := by decide +kernel
theorem dX9_differenceOf_23 : decode cX9_differenceOf 23 = .ok (.aload_n 0, 1) := by decide +kernel
theorem dX9_differenceOf_24 : decode cX9_differenceOf 24 = .ok (.aload_n 0, 1) := by decide +kernel
theorem dX9_differenceOf_25 : decode cX9_differenceOf 25 = .ok (.iload_n 1, 1) := by decide +kernel
theorem dX9_differenceOf_26 : decode cX9_differenceOf 26 = .ok (.iconst 0, 1) := by decide +kernel
theorem dX9_differenceOf_27 : decode cX9_differenceOf 27 = .ok (.invokevirtual 213, 3) := by decide +kernel
theorem dX9_differenceOf_30 : decode cX9_differenceOf 30 = .ok (.aload_n 0, 1) := by decide +kernel
theorem dX9_differenceOf_31 : decode cX9_differenceOf 31 = .ok (.iload_n 1, 1) := by decide +kernel
theorem dX9_differenceOf_32 : decode cX9_differenceOf 32 = .ok (.iconst 1, 1) := by decide +kernel
theorem dX9_differenceOf_33 : decode cX9_differenceOf 33 = .ok (.invokevirtual 213, 3) := by decide +kernel
theorem dX9_differenceOf_36 : decode cX9_differenceOf 36 = .ok (.aload_n 0, 1) := by decide +kernel
theorem dX9_differenceOf_37 : decode cX9_differenceOf 37 = .ok (.iload_n 1, 1) := by decide +kernel
theorem dX9_differenceOf_38 : decode cX9_differenceOf 38 = .ok (.iconst 2, 1) := by decide +kernel
theorem dX9_differenceOf_39 : decode cX9_differenceOf 39 = .ok (.invokevirtual 213, 3) := by decide +kernel
theorem dX9_differenceOf_42 : decode cX9_differenceOf 42 = .ok (.invokevirtual 210, 3) := by decide +kernel
theorem dX9_differenceOf_45 : decode cX9_differenceOf 45 = .ok (.istore_n 3, 1) := by decide +kernel
theorem dX9_differenceOf_46 : decode cX9_differenceOf 46 = .ok (.aload_n 0, 1) := by decide +kernel
theorem dX9_differenceOf_47 : decode cX9_differenceOf 47 = .ok (.iload_n 1, 1) := by decide +kernel
theorem dX9_differenceOf_48 : decode cX9_differenceOf 48 = .ok (.iconst 3, 1) := by decide +kernel
theorem dX9_differenceOf_49 : decode cX9_differenceOf 49 = .ok (.invokevirtual 213, 3) := by decide +kernel
theorem dX9_differenceOf_52 : decode cX9_differenceOf 52 = .ok (.istore 4, 2) := by decide +kernel
theorem dX9_differenceOf_54 : decode cX9_differenceOf 54 = .ok (.iload 4, 2) := by decide +kernel
theorem dX9_differenceOf_56 : decode cX9_differenceOf 56 = .ok (.iload_n 3, 1) := by decide +kernel
theorem dX9_differenceOf_57 : decode cX9_differenceOf 57 = .ok (.if_icmp .le 10, 3) := by decide +kernel
theorem dX9_differenceOf_60 : decode cX9_differenceOf 60 = .ok (.iload 4, 2) := by decide +kernel
theorem dX9_differenceOf_62 : decode cX9_differenceOf 62 = .ok (.iload_n 3, 1) := by decide +kernel
theorem dX9_differenceOf_63 : decode cX9_differenceOf 63 = .ok (.isub, 1) := by decide +kernel
theorem dX9_differenceOf_64 : decode cX9_differenceOf 64 = .ok (.goto 17, 3) := by decide +kernel
theorem dX9_differenceOf_67 : decode cX9_differenceOf 67 = .ok (.iload 4, 2) := by decide +kernel
theorem dX9_differenceOf_69 : decode cX9_differenceOf 69 = .ok (.iload_n 2, 1) := by decide +kernel
theorem dX9_differenceOf_70 : decode cX9_differenceOf 70 = .ok (.if_icmp .ge 10, 3) := by decide +kernel
theorem dX9_differenceOf_73 : decode cX9_differenceOf 73 = .ok (.iload 4, 2) := by decide +kernel
theorem dX9_differenceOf_75 : decode cX9_differenceOf 75 = .ok (.iload_n 2, 1) := by decide +kernel
theorem dX9_differenceOf_76 : decode cX9_differenceOf 76 = .ok (.isub, 1) := by decide +kernel
theorem dX9_differenceOf_77 : decode cX9_differenceOf 77 = .ok (.goto 4, 3) := by decide +kernel
theorem dX9_differenceOf_80 : decode cX9_differenceOf 80 = .ok (.iconst 0, 1) := by decide +kernel
theorem dX9_differenceOf_81 : decode cX9_differenceOf 81 = .ok (.ireturn, 1) := by decide +kernel
theorem dX9_allowed_0 : decode cX9_allowed 0 = .ok (.iconst 5, 1) := by decide +kernel
theorem dX9_allowed_1 : decode cX9_allowed 1 = .ok (.iconst 2, 1) := by decide +kernel
theorem dX9_allowed_2 : decode cX9_allowed 2 = .ok (.aload_n 0, 1) := by decide +kernel
theorem dX9_allowed_3 : decode cX9_allowed 3 = .ok (.iload_n 1, 1) := by decide +kernel
theorem dX9_allowed_4 : decode cX9_allowed 4 = .ok (.iconst 1, 1) := by decide +kernel
theorem dX9_allowed_5 : decode cX9_allowed 5 = .ok (.invokevirtual 213, 3) := by decide +kernel
theorem dX9_allowed_8 : decode cX9_allowed 8 = .ok (.imul, 1) := by decide +kernel
theorem dX9_allowed_9 : decode cX9_allowed 9 = .ok (.iadd, 1) := by decide +kernel
theorem dX9_allowed_10 : decode cX9_allowed 10 = .ok (.istore_n 2, 1) := by decide +kernel
theorem dX9_allowed_11 : decode cX9_allowed 11 = .ok (.aload_n 0, 1) := by decide +kernel
theorem dX9_allowed_12 : decode cX9_allowed 12 = .ok (.iload_n 1, 1) := by decide +kernel
theorem dX9_allowed_13 : decode cX9_allowed 13 = .ok (.invokevirtual 216, 3) := by decide +kernel
theorem dX9_allowed_16 : decode cX9_allowed 16 = .ok (.istore_n 3, 1) := by decide +kernel
theorem dX9_allowed_17 : decode cX9_allowed 17 = .ok (.iload_n 3, 1) := by decide +kernel
theorem dX9_allowed_18 : decode cX9_allowed 18 = .ok (.ifCond .ge 7, 3) := by decide +kernel
theorem dX9_allowed_21 : decode cX9_allowed 21 = .ok (.iconst 0, 1) := by decide +kernel
theorem dX9_allowed_22 : decode cX9_allowed 22 = .ok (.goto 16, 3) := by decide +kernel
theorem dX9_allowed_25 : decode cX9_allowed 25 = .ok (.aload_n 0, 1) := by decide +kernel
theorem dX9_allowed_26 : decode cX9_allowed 26 = .ok (.getfield 74, 3) := by decide +kernel
theorem dX9_allowed_29 : decode cX9_allowed 29 = .ok (.iload_n 2, 1) := by decide +kernel
theorem dX9_allowed_30 : decode cX9_allowed 30 = .ok (.iconst 1, 1) := by decide +kernel
theorem dX9_allowed_31 : decode cX9_allowed 31 = .ok (.iadd, 1) := by decide +kernel
theorem dX9_allowed_32 : decode cX9_allowed 32 = .ok (.iaload, 1) := by decide +kernel
theorem dX9_allowed_33 : decode cX9_allowed 33 = .ok (.iload_n 3, 1) := by decide +kernel
theorem dX9_allowed_34 : decode cX9_allowed 34 = .ok (.imul, 1) := by decide +kernel
theorem dX9_allowed_35 : decode cX9_allowed 35 = .ok (.bipush 100, 2) := by decide +kernel
theorem dX9_allowed_37 : decode cX9_allowed 37 = .ok (.idiv, 1) := by decide +kernel
theorem dX9_allowed_38 : decode cX9_allowed 38 = .ok (.istore 4, 2) := by decide +kernel
theorem dX9_allowed_40 : decode cX9_allowed 40 = .ok (.iload 4, 2) := by decide +kernel
theorem dX9_allowed_42 : decode cX9_allowed 42 = .ok (.aload_n 0, 1) := by decide +kernel
theorem dX9_allowed_43 : decode cX9_allowed 43 = .ok (.getfield 74, 3) := by decide +kernel
theorem dX9_allowed_46 : decode cX9_allowed 46 = .ok (.iload_n 2, 1) := by decide +kernel
theorem dX9_allowed_47 : decode cX9_allowed 47 = .ok (.iaload, 1) := by decide +kernel
theorem dX9_allowed_48 : decode cX9_allowed 48 = .ok (.if_icmp .le 8, 3) := by decide +kernel
theorem dX9_allowed_51 : decode cX9_allowed 51 = .ok (.iload 4, 2) := by decide +kernel
theorem dX9_allowed_53 : decode cX9_allowed 53 = .ok (.goto 9, 3) := by decide +kernel
theorem dX9_allowed_56 : decode cX9_allowed 56 = .ok (.aload_n 0, 1) := by decide +kernel
theorem dX9_allowed_57 : decode cX9_allowed 57 = .ok (.getfield 74, 3) := by decide +kernel
theorem dX9_allowed_60 : decode cX9_allowed 60 = .ok (.iload_n 2, 1) := by decide +kernel
theorem dX9_allowed_61 : decode cX9_allowed 61 = .ok (.iaload, 1) := by decide +kernel
theorem dX9_allowed_62 : decode cX9_allowed 62 = .ok (.ireturn, 1) := by decide +kernel
theorem dX9_isOpenAt_0 : decode cX9_isOpenAt 0 = .ok (.aload_n 0, 1) := by decide +kernel
theorem dX9_isOpenAt_1 : decode cX9_isOpenAt 1 = .ok (.iload_n 1, 1) := by decide +kernel
theorem dX9_isOpenAt_2 : decode cX9_isOpenAt 2 = .ok (.iconst 0, 1) := by decide +kernel
theorem dX9_isOpenAt_3 : decode cX9_isOpenAt 3 = .ok (.invokevirtual 213, 3) := by decide +kernel
theorem dX9_isOpenAt_6 : decode cX9_isOpenAt 6 = .ok (.iload_n 2, 1) := by decide +kernel
theorem dX9_isOpenAt_7 : decode cX9_isOpenAt 7 = .ok (.if_icmp .ne 26, 3) := by decide +kernel
theorem dX9_isOpenAt_10 : decode cX9_isOpenAt 10 = .ok (.aload_n 0, 1) := by decide +kernel
theorem dX9_isOpenAt_11 : decode cX9_isOpenAt 11 = .ok (.iload_n 1, 1) := by decide +kernel
theorem dX9_isOpenAt_12 : decode cX9_isOpenAt 12 = .ok (.iconst 1, 1) := by decide +kernel
theorem dX9_isOpenAt_13 : decode cX9_isOpenAt 13 = .ok (.invokevirtual 213, 3) := by decide +kernel
theorem dX9_isOpenAt_16 : decode cX9_isOpenAt 16 = .ok (.iload_n 3, 1) := by decide +kernel
theorem dX9_isOpenAt_17 : decode cX9_isOpenAt 17 = .ok (.if_icmp .ne 16, 3) := by decide +kernel
theorem dX9_isOpenAt_20 : decode cX9_isOpenAt 20 = .ok (.aload_n 0, 1) := by decide +kernel
theorem dX9_isOpenAt_21 : decode cX9_isOpenAt 21 = .ok (.iload_n 1, 1) := by decide +kernel
theorem dX9_isOpenAt_22 : decode cX9_isOpenAt 22 = .ok (.iconst 5, 1) := by decide +kernel
theorem dX9_isOpenAt_23 : decode cX9_isOpenAt 23 = .ok (.invokevirtual 213, 3) := by decide +kernel
theorem dX9_isOpenAt_26 : decode cX9_isOpenAt 26 = .ok (.ifCond .ne 7, 3) := by decide +kernel
theorem dX9_isOpenAt_29 : decode cX9_isOpenAt 29 = .ok (.iconst 1, 1) := by decide +kernel
theorem dX9_isOpenAt_30 : decode cX9_isOpenAt 30 = .ok (.goto 4, 3) := by decide +kernel
theorem dX9_isOpenAt_33 : decode cX9_isOpenAt 33 = .ok (.iconst 0, 1) := by decide +kernel
theorem dX9_isOpenAt_34 : decode cX9_isOpenAt 34 = .ok (.ireturn, 1) := by decide +kernel
theorem dX9_openMany_0 : decode cX9_openMany 0 = .ok (.iconst 0, 1) := by decide +kernel
theorem dX9_openMany_1 : decode cX9_openMany 1 = .ok (.istore_n 1, 1) := by decide +kernel
theorem dX9_openMany_2 : decode cX9_openMany 2 = .ok (.iconst 0, 1) := by decide +kernel
theorem dX9_openMany_3 : decode cX9_openMany 3 = .ok (.istore_n 2, 1) := by decide +kernel
theorem dX9_openMany_4 : decode cX9_openMany 4 = .ok (.iload_n 2, 1) := by decide +kernel
theorem dX9_openMany_5 : decode cX9_openMany 5 = .ok (.aload_n 0, 1) := by decide +kernel
theorem dX9_openMany_6 : decode cX9_openMany 6 = .ok (.getfield 74, 3) := by decide +kernel
theorem dX9_openMany_9 : decode cX9_openMany 9 = .ok (.iconst 3, 1) := by decide +kernel
theorem dX9_openMany_10 : decode cX9_openMany 10 = .ok (.iaload, 1) := by decide +kernel
theorem dX9_openMany_11 : decode cX9_openMany 11 = .ok (.if_icmp .ge 21, 3) := by decide +kernel
theorem dX9_openMany_14 : decode cX9_openMany 14 = .ok (.aload_n 0, 1) := by decide +kernel
theorem dX9_openMany_15 : decode cX9_openMany 15 = .ok (.iload_n 2, 1) := by decide +kernel
theorem dX9_openMany_16 : decode cX9_openMany 16 = .ok (.iconst 5, 1) := by decide +kernel
theorem dX9_openMany_17 : decode cX9_openMany 17 = .ok (.invokevirtual 213, 3) := by decide +kernel
theorem dX9_openMany_20 : decode cX9_openMany 20 = .ok (.ifCond .ne 6, 3) := by decide +kernel
theorem dX9_openMany_23 : decode cX9_openMany 23 = .ok (.iinc 1 1, 3) := by decide +kernel
theorem dX9_openMany_26 : decode cX9_openMany 26 = .ok (.iinc 2 1, 3) := by decide +kernel
theorem dX9_openMany_29 : decode cX9_openMany 29 = .ok (.goto (-25), 3) := by decide +kernel
theorem dX9_openMany_32 : decode cX9_openMany 32 = .ok (.iload_n 1, 1) := by decide +kernel
theorem dX9_openMany_33 : decode cX9_openMany 33 = .ok (.ireturn, 1) := by decide +kernel
theorem dX9_count_0 : decode cX9_count 0 = .ok (.aload_n 0, 1) := by decide +kernel
theorem dX9_count_1 : decode cX9_count 1 = .ok (.iconst 0, 1) := by decide +kernel
theorem dX9_count_2 : decode cX9_count 2 = .ok (.putfield 1, 3) := by decide +kernel
theorem dX9_count_5 : decode cX9_count 5 = .ok (.aload_n 0, 1) := by decide +kernel
theorem dX9_count_6 : decode cX9_count 6 = .ok (.iload_n 1, 1) := by decide +kernel
theorem dX9_count_7 : decode cX9_count 7 = .ok (.invokevirtual 219, 3) := by decide +kernel
theorem dX9_count_10 : decode cX9_count 10 = .ok (.ifCond .eq 13, 3) := by decide +kernel
theorem dX9_count_13 : decode cX9_count 13 = .ok (.iload_n 2, 1) := by decide +kernel
theorem dX9_count_14 : decode cX9_count 14 = .ok (.iconst 0, 1) := by decide +kernel
theorem dX9_count_15 : decode cX9_count 15 = .ok (.bipush 6, 2) := by decide +kernel
theorem dX9_count_17 : decode cX9_count 17 = .ok (.invokestatic 92, 3) := by decide +kernel
theorem dX9_count_20 : decode cX9_count 20 = .ok (.ifCond .ne 8, 3) := by decide +kernel
theorem dX9_count_23 : decode cX9_count 23 = .ok (.aload_n 0, 1) := by decide +kernel
theorem dX9_count_24 : decode cX9_count 24 = .ok (.invokevirtual 197, 3) := by decide +kernel
theorem dX9_count_27 : decode cX9_count 27 = .ok (.ireturn, 1) := by decide +kernel
theorem dX9_count_28 : decode cX9_count 28 = .ok (.iload_n 2, 1) := by decide +kernel
theorem dX9_count_29 : decode cX9_count 29 = .ok (.bipush 6, 2) := by decide +kernel
theorem dX9_count_31 : decode cX9_count 31 = .ok (.if_icmp .ge 12, 3) := by decide +kernel
theorem dX9_count_34 : decode cX9_count 34 = .ok (.aload_n 0, 1) := by decide +kernel
theorem dX9_count_35 : decode cX9_count 35 = .ok (.iload_n 1, 1) := by decide +kernel
theorem dX9_count_36 : decode cX9_count 36 = .ok (.iload_n 2, 1) := by decide +kernel
theorem dX9_count_37 : decode cX9_count 37 = .ok (.invokevirtual 213, 3) := by decide +kernel
theorem dX9_count_40 : decode cX9_count 40 = .ok (.goto 8, 3) := by decide +kernel
theorem dX9_count_43 : decode cX9_count 43 = .ok (.aload_n 0, 1) := by decide +kernel
theorem dX9_count_44 : decode cX9_count 44 = .ok (.iload_n 1, 1) := by decide +kernel
theorem dX9_count_45 : decode cX9_count 45 = .ok (.invokevirtual 222, 3) := by decide +kernel
theorem dX9_count_48 : decode cX9_count 48 = .ok (.ireturn, 1) := by decide +kernel
theorem dX9_difference_0 : decode cX9_difference 0 = .ok (.aload_n 0, 1) := by decide +kernel
theorem dX9_difference_1 : decode cX9_difference 1 = .ok (.iconst 0, 1) := by decide +kernel
theorem dX9_difference_2 : decode cX9_difference 2 = .ok (.putfield 1, 3) := by decide +kernel
theorem dX9_difference_5 : decode cX9_difference 5 = .ok (.aload_n 0, 1) := by decide +kernel
theorem dX9_difference_6 : decode cX9_difference 6 = .ok (.iload_n 1, 1) := by decide +kernel
theorem dX9_difference_7 : decode cX9_difference 7 = .ok (.invokevirtual 219, 3) := by decide +kernel
theorem dX9_difference_10 : decode cX9_difference 10 = .ok (.ifCond .eq 11, 3) := by decide +kernel
theorem dX9_difference_13 : decode cX9_difference 13 = .ok (.aload_n 0, 1) := by decide +kernel
theorem dX9_difference_14 : decode cX9_difference 14 = .ok (.iload_n 1, 1) := by decide +kernel
theorem dX9_difference_15 : decode cX9_difference 15 = .ok (.invokevirtual 225, 3) := by decide +kernel
theorem dX9_difference_18 : decode cX9_difference 18 = .ok (.goto 5, 3) := by decide +kernel
theorem dX9_difference_21 : decode cX9_difference 21 = .ok (.ldc 206, 2) := by decide +kernel
theorem dX9_difference_23 : decode cX9_difference 23 = .ok (.ireturn, 1) := by decide +kernel
theorem dX9_share_0 : decode cX9_share 0 = .ok (.aload_n 0, 1) := by decide +kernel
theorem dX9_share_1 : decode cX9_share 1 = .ok (.iconst 0, 1) := by decide +kernel
theorem dX9_share_2 : decode cX9_share 2 = .ok (.putfield 1, 3) := by decide +kernel
theorem dX9_share_5 : decode cX9_share 5 = .ok (.aload_n 0, 1) := by decide +kernel
theorem dX9_share_6 : decode cX9_share 6 = .ok (.iload_n 1, 1) := by decide +kernel
theorem dX9_share_7 : decode cX9_share 7 = .ok (.invokevirtual 219, 3) := by decide +kernel
theorem dX9_share_10 : decode cX9_share 10 = .ok (.ifCond .ne 6, 3) := by decide +kernel
theorem dX9_share_13 : decode cX9_share 13 = .ok (.ldc 206, 2) := by decide +kernel
theorem dX9_share_15 : decode cX9_share 15 = .ok (.ireturn, 1) := by decide +kernel
theorem dX9_share_16 : decode cX9_share 16 = .ok (.aload_n 0, 1) := by decide +kernel
theorem dX9_share_17 : decode cX9_share 17 = .ok (.iload_n 1, 1) := by decide +kernel
theorem dX9_share_18 : decode cX9_share 18 = .ok (.invokevirtual 216, 3) := by decide +kernel
theorem dX9_share_21 : decode cX9_share 21 = .ok (.istore_n 2, 1) := by decide +kernel
theorem dX9_share_22 : decode cX9_share 22 = .ok (.iload_n 2, 1) := by decide +kernel
theorem dX9_share_23 : decode cX9_share 23 = .ok (.ifCond .ne 7, 3) := by decide +kernel
theorem dX9_share_26 : decode cX9_share 26 = .ok (.iconst 0, 1) := by decide +kernel
theorem dX9_share_27 : decode cX9_share 27 = .ok (.goto 16, 3) := by decide +kernel
theorem dX9_share_30 : decode cX9_share 30 = .ok (.ldc 228, 2) := by decide +kernel
theorem dX9_share_32 : decode cX9_share 32 = .ok (.aload_n 0, 1) := by decide +kernel
theorem dX9_share_33 : decode cX9_share 33 = .ok (.iload_n 1, 1) := by decide +kernel
theorem dX9_share_34 : decode cX9_share 34 = .ok (.invokevirtual 225, 3) := by decide +kernel
theorem dX9_share_37 : decode cX9_share 37 = .ok (.i2f, 1) := by decide +kernel
theorem dX9_share_38 : decode cX9_share 38 = .ok (.fmul, 1) := by decide +kernel
theorem dX9_share_39 : decode cX9_share 39 = .ok (.iload_n 2, 1) := by decide +kernel
theorem dX9_share_40 : decode cX9_share 40 = .ok (.i2f, 1) := by decide +kernel
theorem dX9_share_41 : decode cX9_share 41 = .ok (.fdiv, 1) := by decide +kernel
theorem dX9_share_42 : decode cX9_share 42 = .ok (.f2i, 1) := by decide +kernel
theorem dX9_share_43 : decode cX9_share 43 = .ok (.ireturn, 1) := by decide +kernel
theorem dX9_laysOpen_0 : decode cX9_laysOpen 0 = .ok (.aload_n 0, 1) := by decide +kernel
theorem dX9_laysOpen_1 : decode cX9_laysOpen 1 = .ok (.iconst 0, 1) := by decide +kernel
theorem dX9_laysOpen_2 : decode cX9_laysOpen 2 = .ok (.putfield 229, 3) := by decide +kernel
theorem dX9_laysOpen_5 : decode cX9_laysOpen 5 = .ok (.iconst 0, 1) := by decide +kernel
theorem dX9_laysOpen_6 : decode cX9_laysOpen 6 = .ok (.istore_n 3, 1) := by decide +kernel
theorem dX9_laysOpen_7 : decode cX9_laysOpen 7 = .ok (.iload_n 3, 1) := by decide +kernel
theorem dX9_laysOpen_8 : decode cX9_laysOpen 8 = .ok (.aload_n 0, 1) := by decide +kernel
theorem dX9_laysOpen_9 : decode cX9_laysOpen 9 = .ok (.getfield 74, 3) := by decide +kernel
theorem dX9_laysOpen_12 : decode cX9_laysOpen 12 = .ok (.iconst 3, 1) := by decide +kernel
theorem dX9_laysOpen_13 : decode cX9_laysOpen 13 = .ok (.iaload, 1) := by decide +kernel
theorem dX9_laysOpen_14 : decode cX9_laysOpen 14 = .ok (.if_icmp .ge 96, 3) := by decide +kernel
theorem dX9_laysOpen_17 : decode cX9_laysOpen 17 = .ok (.aload_n 0, 1) := by decide +kernel
theorem dX9_laysOpen_18 : decode cX9_laysOpen 18 = .ok (.iload_n 3, 1) := by decide +kernel
theorem dX9_laysOpen_19 : decode cX9_laysOpen 19 = .ok (.iload_n 1, 1) := by decide +kernel
theorem dX9_laysOpen_20 : decode cX9_laysOpen 20 = .ok (.iload_n 2, 1) := by decide +kernel
theorem dX9_laysOpen_21 : decode cX9_laysOpen 21 = .ok (.invokevirtual 232, 3) := by decide +kernel
theorem dX9_laysOpen_24 : decode cX9_laysOpen 24 = .ok (.ifCond .ne 6, 3) := by decide +kernel
theorem dX9_laysOpen_27 : decode cX9_laysOpen 27 = .ok (.goto 77, 3) := by decide +kernel
theorem dX9_laysOpen_30 : decode cX9_laysOpen 30 = .ok (.aload_n 0, 1) := by decide +kernel
theorem dX9_laysOpen_31 : decode cX9_laysOpen 31 = .ok (.getfield 229, 3) := by decide +kernel
theorem dX9_laysOpen_34 : decode cX9_laysOpen 34 = .ok (.istore 4, 2) := by decide +kernel
theorem dX9_laysOpen_36 : decode cX9_laysOpen 36 = .ok (.iload 4, 2) := by decide +kernel
theorem dX9_laysOpen_38 : decode cX9_laysOpen 38 = .ok (.ifCond .le 48, 3) := by decide +kernel
theorem dX9_laysOpen_41 : decode cX9_laysOpen 41 = .ok (.aload_n 0, 1) := by decide +kernel
theorem dX9_laysOpen_42 : decode cX9_laysOpen 42 = .ok (.aload_n 0, 1) := by decide +kernel
theorem dX9_laysOpen_43 : decode cX9_laysOpen 43 = .ok (.getfield 83, 3) := by decide +kernel
theorem dX9_laysOpen_46 : decode cX9_laysOpen 46 = .ok (.iload 4, 2) := by decide +kernel
theorem dX9_laysOpen_48 : decode cX9_laysOpen 48 = .ok (.iconst 1, 1) := by decide +kernel
theorem dX9_laysOpen_49 : decode cX9_laysOpen 49 = .ok (.isub, 1) := by decide +kernel
theorem dX9_laysOpen_50 : decode cX9_laysOpen 50 = .ok (.iaload, 1) := by decide +kernel
theorem dX9_laysOpen_51 : decode cX9_laysOpen 51 = .ok (.iconst 2, 1) := by decide +kernel
theorem dX9_laysOpen_52 : decode cX9_laysOpen 52 = .ok (.invokevirtual 213, 3) := by decide +kernel
theorem dX9_laysOpen_55 : decode cX9_laysOpen 55 = .ok (.aload_n 0, 1) := by decide +kernel
theorem dX9_laysOpen_56 : decode cX9_laysOpen 56 = .ok (.iload_n 3, 1) := by decide +kernel
theorem dX9_laysOpen_57 : decode cX9_laysOpen 57 = .ok (.iconst 2, 1) := by decide +kernel
theorem dX9_laysOpen_58 : decode cX9_laysOpen 58 = .ok (.invokevirtual 213, 3) := by decide +kernel
theorem dX9_laysOpen_61 : decode cX9_laysOpen 61 = .ok (.if_icmp .le 25, 3) := by decide +kernel
theorem dX9_laysOpen_64 : decode cX9_laysOpen 64 = .ok (.aload_n 0, 1) := by decide +kernel
theorem dX9_laysOpen_65 : decode cX9_laysOpen 65 = .ok (.getfield 83, 3) := by decide +kernel
theorem dX9_laysOpen_68 : decode cX9_laysOpen 68 = .ok (.iload 4, 2) := by decide +kernel
theorem dX9_laysOpen_70 : decode cX9_laysOpen 70 = .ok (.aload_n 0, 1) := by decide +kernel
theorem dX9_laysOpen_71 : decode cX9_laysOpen 71 = .ok (.getfield 83, 3) := by decide +kernel
theorem dX9_laysOpen_74 : decode cX9_laysOpen 74 = .ok (.iload 4, 2) := by decide +kernel
theorem dX9_laysOpen_76 : decode cX9_laysOpen 76 = .ok (.iconst 1, 1) := by decide +kernel
theorem dX9_laysOpen_77 : decode cX9_laysOpen 77 = .ok (.isub, 1) := by decide +kernel
theorem dX9_laysOpen_78 : decode cX9_laysOpen 78 = .ok (.iaload, 1) := by decide +kernel
theorem dX9_laysOpen_79 : decode cX9_laysOpen 79 = .ok (.iastore, 1) := by decide +kernel
theorem dX9_laysOpen_80 : decode cX9_laysOpen 80 = .ok (.iinc 4 (-1), 3) := by decide +kernel
theorem dX9_laysOpen_83 : decode cX9_laysOpen 83 = .ok (.goto (-47), 3) := by decide +kernel
theorem dX9_laysOpen_86 : decode cX9_laysOpen 86 = .ok (.aload_n 0, 1) := by decide +kernel
theorem dX9_laysOpen_87 : decode cX9_laysOpen 87 = .ok (.getfield 83, 3) := by decide +kernel
theorem dX9_laysOpen_90 : decode cX9_laysOpen 90 = .ok (.iload 4, 2) := by decide +kernel
theorem dX9_laysOpen_92 : decode cX9_laysOpen 92 = .ok (.iload_n 3, 1) := by decide +kernel
theorem dX9_laysOpen_93 : decode cX9_laysOpen 93 = .ok (.iastore, 1) := by decide +kernel
theorem dX9_laysOpen_94 : decode cX9_laysOpen 94 = .ok (.aload_n 0, 1) := by decide +kernel
theorem dX9_laysOpen_95 : decode cX9_laysOpen 95 = .ok (.dup, 1) := by decide +kernel
theorem dX9_laysOpen_96 : decode cX9_laysOpen 96 = .ok (.getfield 229, 3) := by decide +kernel
theorem dX9_laysOpen_99 : decode cX9_laysOpen 99 = .ok (.iconst 1, 1) := by decide +kernel
theorem dX9_laysOpen_100 : decode cX9_laysOpen 100 = .ok (.iadd, 1) := by decide +kernel
theorem dX9_laysOpen_101 : decode cX9_laysOpen 101 = .ok (.putfield 229, 3) := by decide +kernel
theorem dX9_laysOpen_104 : decode cX9_laysOpen 104 = .ok (.iinc 3 1, 3) := by decide +kernel
theorem dX9_laysOpen_107 : decode cX9_laysOpen 107 = .ok (.goto (-100), 3) := by decide +kernel
theorem dX9_laysOpen_110 : decode cX9_laysOpen 110 = .ok (.return_, 1) := by decide +kernel
theorem dX9_far_0 : decode cX9_far 0 = .ok (.iload_n 0, 1) := by decide +kernel
theorem dX9_far_1 : decode cX9_far 1 = .ok (.iload_n 1, 1) := by decide +kernel
theorem dX9_far_2 : decode cX9_far 2 = .ok (.if_icmp .ge 9, 3) := by decide +kernel
theorem dX9_far_5 : decode cX9_far 5 = .ok (.iload_n 1, 1) := by decide +kernel
theorem dX9_far_6 : decode cX9_far 6 = .ok (.iload_n 0, 1) := by decide +kernel
theorem dX9_far_7 : decode cX9_far 7 = .ok (.isub, 1) := by decide +kernel
theorem dX9_far_8 : decode cX9_far 8 = .ok (.goto 6, 3) := by decide +kernel
theorem dX9_far_11 : decode cX9_far 11 = .ok (.iload_n 0, 1) := by decide +kernel
theorem dX9_far_12 : decode cX9_far 12 = .ok (.iload_n 1, 1) := by decide +kernel
theorem dX9_far_13 : decode cX9_far 13 = .ok (.isub, 1) := by decide +kernel
theorem dX9_far_14 : decode cX9_far 14 = .ok (.ireturn, 1) := by decide +kernel
theorem dX9_choose_0 : decode cX9_choose 0 = .ok (.aload_n 0, 1) := by decide +kernel
theorem dX9_choose_1 : decode cX9_choose 1 = .ok (.iload_n 1, 1) := by decide +kernel
theorem dX9_choose_2 : decode cX9_choose 2 = .ok (.iload_n 2, 1) := by decide +kernel
theorem dX9_choose_3 : decode cX9_choose 3 = .ok (.invokevirtual 235, 3) := by decide +kernel
theorem dX9_choose_6 : decode cX9_choose 6 = .ok (.aload_n 0, 1) := by decide +kernel
theorem dX9_choose_7 : decode cX9_choose 7 = .ok (.getfield 229, 3) := by decide +kernel
theorem dX9_choose_10 : decode cX9_choose 10 = .ok (.ifCond .ne 5, 3) := by decide +kernel
theorem dX9_choose_13 : decode cX9_choose 13 = .ok (.iconst (-1), 1) := by decide +kernel
theorem dX9_choose_14 : decode cX9_choose 14 = .ok (.ireturn, 1) := by decide +kernel
theorem dX9_choose_15 : decode cX9_choose 15 = .ok (.aload_n 0, 1) := by decide +kernel
theorem dX9_choose_16 : decode cX9_choose 16 = .ok (.aload_n 0, 1) := by decide +kernel
theorem dX9_choose_17 : decode cX9_choose 17 = .ok (.getfield 83, 3) := by decide +kernel
theorem dX9_choose_20 : decode cX9_choose 20 = .ok (.iconst 0, 1) := by decide +kernel
theorem dX9_choose_21 : decode cX9_choose 21 = .ok (.iaload, 1) := by decide +kernel
theorem dX9_choose_22 : decode cX9_choose 22 = .ok (.invokevirtual 225, 3) := by decide +kernel
theorem dX9_choose_25 : decode cX9_choose 25 = .ok (.iconst 0, 1) := by decide +kernel
theorem dX9_choose_26 : decode cX9_choose 26 = .ok (.invokestatic 239, 3) := by decide +kernel
theorem dX9_choose_29 : decode cX9_choose 29 = .ok (.aload_n 0, 1) := by decide +kernel
theorem dX9_choose_30 : decode cX9_choose 30 = .ok (.aload_n 0, 1) := by decide +kernel
theorem dX9_choose_31 : decode cX9_choose 31 = .ok (.getfield 83, 3) := by decide +kernel
theorem dX9_choose_34 : decode cX9_choose 34 = .ok (.iconst 0, 1) := by decide +kernel
theorem dX9_choose_35 : decode cX9_choose 35 = .ok (.iaload, 1) := by decide +kernel
theorem dX9_choose_36 : decode cX9_choose 36 = .ok (.invokevirtual 222, 3) := by decide +kernel
theorem dX9_choose_39 : decode cX9_choose 39 = .ok (.if_icmp .gt 10, 3) := by decide +kernel
theorem dX9_choose_42 : decode cX9_choose 42 = .ok (.aload_n 0, 1) := by decide +kernel
theorem dX9_choose_43 : decode cX9_choose 43 = .ok (.getfield 83, 3) := by decide +kernel
theorem dX9_choose_46 : decode cX9_choose 46 = .ok (.iconst 0, 1) := by decide +kernel
theorem dX9_choose_47 : decode cX9_choose 47 = .ok (.iaload, 1) := by decide +kernel
theorem dX9_choose_48 : decode cX9_choose 48 = .ok (.ireturn, 1) := by decide +kernel
theorem dX9_choose_49 : decode cX9_choose 49 = .ok (.aload_n 0, 1) := by decide +kernel
theorem dX9_choose_50 : decode cX9_choose 50 = .ok (.getfield 229, 3) := by decide +kernel
theorem dX9_choose_53 : decode cX9_choose 53 = .ok (.iconst 1, 1) := by decide +kernel
theorem dX9_choose_54 : decode cX9_choose 54 = .ok (.if_icmp .ne 6, 3) := by decide +kernel
theorem dX9_choose_57 : decode cX9_choose 57 = .ok (.bipush (-2), 2) := by decide +kernel
theorem dX9_choose_59 : decode cX9_choose 59 = .ok (.ireturn, 1) := by decide +kernel
theorem dX9_choose_60 : decode cX9_choose 60 = .ok (.aload_n 0, 1) := by decide +kernel
theorem dX9_choose_61 : decode cX9_choose 61 = .ok (.getfield 229, 3) := by decide +kernel
theorem dX9_choose_64 : decode cX9_choose 64 = .ok (.iconst 2, 1) := by decide +kernel
theorem dX9_choose_65 : decode cX9_choose 65 = .ok (.if_icmp .ne 51, 3) := by decide +kernel
theorem dX9_choose_68 : decode cX9_choose 68 = .ok (.aload_n 0, 1) := by decide +kernel
theorem dX9_choose_69 : decode cX9_choose 69 = .ok (.aload_n 0, 1) := by decide +kernel
theorem dX9_choose_70 : decode cX9_choose 70 = .ok (.getfield 83, 3) := by decide +kernel
theorem dX9_choose_73 : decode cX9_choose 73 = .ok (.iconst 0, 1) := by decide +kernel
theorem dX9_choose_74 : decode cX9_choose 74 = .ok (.iaload, 1) := by decide +kernel
theorem dX9_choose_75 : decode cX9_choose 75 = .ok (.invokevirtual 225, 3) := by decide +kernel
theorem dX9_choose_78 : decode cX9_choose 78 = .ok (.aload_n 0, 1) := by decide +kernel
theorem dX9_choose_79 : decode cX9_choose 79 = .ok (.aload_n 0, 1) := by decide +kernel
theorem dX9_choose_80 : decode cX9_choose 80 = .ok (.getfield 83, 3) := by decide +kernel
theorem dX9_choose_83 : decode cX9_choose 83 = .ok (.iconst 1, 1) := by decide +kernel
theorem dX9_choose_84 : decode cX9_choose 84 = .ok (.iaload, 1) := by decide +kernel
theorem dX9_choose_85 : decode cX9_choose 85 = .ok (.invokevirtual 225, 3) := by decide +kernel
theorem dX9_choose_88 : decode cX9_choose 88 = .ok (.invokestatic 239, 3) := by decide +kernel
theorem dX9_choose_91 : decode cX9_choose 91 = .ok (.aload_n 0, 1) := by decide +kernel
theorem dX9_choose_92 : decode cX9_choose 92 = .ok (.aload_n 0, 1) := by decide +kernel
theorem dX9_choose_93 : decode cX9_choose 93 = .ok (.getfield 83, 3) := by decide +kernel
theorem dX9_choose_96 : decode cX9_choose 96 = .ok (.iconst 1, 1) := by decide +kernel
theorem dX9_choose_97 : decode cX9_choose 97 = .ok (.iaload, 1) := by decide +kernel
theorem dX9_choose_98 : decode cX9_choose 98 = .ok (.invokevirtual 222, 3) := by decide +kernel
theorem dX9_choose_101 : decode cX9_choose 101 = .ok (.if_icmp .gt 12, 3) := by decide +kernel
theorem dX9_choose_104 : decode cX9_choose 104 = .ok (.aload_n 0, 1) := by decide +kernel
theorem dX9_choose_105 : decode cX9_choose 105 = .ok (.getfield 83, 3) := by decide +kernel
theorem dX9_choose_108 : decode cX9_choose 108 = .ok (.iconst 1, 1) := by decide +kernel
theorem dX9_choose_109 : decode cX9_choose 109 = .ok (.iaload, 1) := by decide +kernel
theorem dX9_choose_110 : decode cX9_choose 110 = .ok (.goto 5, 3) := by decide +kernel
theorem dX9_choose_113 : decode cX9_choose 113 = .ok (.bipush (-2), 2) := by decide +kernel
theorem dX9_choose_115 : decode cX9_choose 115 = .ok (.ireturn, 1) := by decide +kernel
theorem dX9_choose_116 : decode cX9_choose 116 = .ok (.aload_n 0, 1) := by decide +kernel
theorem dX9_choose_117 : decode cX9_choose 117 = .ok (.aload_n 0, 1) := by decide +kernel
theorem dX9_choose_118 : decode cX9_choose 118 = .ok (.getfield 83, 3) := by decide +kernel
theorem dX9_choose_121 : decode cX9_choose 121 = .ok (.aload_n 0, 1) := by decide +kernel
theorem dX9_choose_122 : decode cX9_choose 122 = .ok (.getfield 229, 3) := by decide +kernel
theorem dX9_choose_125 : decode cX9_choose 125 = .ok (.iconst 3, 1) := by decide +kernel
theorem dX9_choose_126 : decode cX9_choose 126 = .ok (.isub, 1) := by decide +kernel
theorem dX9_choose_127 : decode cX9_choose 127 = .ok (.iaload, 1) := by decide +kernel
theorem dX9_choose_128 : decode cX9_choose 128 = .ok (.invokevirtual 225, 3) := by decide +kernel
theorem dX9_choose_131 : decode cX9_choose 131 = .ok (.istore_n 3, 1) := by decide +kernel
theorem dX9_choose_132 : decode cX9_choose 132 = .ok (.aload_n 0, 1) := by decide +kernel
theorem dX9_choose_133 : decode cX9_choose 133 = .ok (.aload_n 0, 1) := by decide +kernel
theorem dX9_choose_134 : decode cX9_choose 134 = .ok (.getfield 83, 3) := by decide +kernel
theorem dX9_choose_137 : decode cX9_choose 137 = .ok (.aload_n 0, 1) := by decide +kernel
theorem dX9_choose_138 : decode cX9_choose 138 = .ok (.getfield 229, 3) := by decide +kernel
theorem dX9_choose_141 : decode cX9_choose 141 = .ok (.iconst 2, 1) := by decide +kernel
theorem dX9_choose_142 : decode cX9_choose 142 = .ok (.isub, 1) := by decide +kernel
theorem dX9_choose_143 : decode cX9_choose 143 = .ok (.iaload, 1) := by decide +kernel
theorem dX9_choose_144 : decode cX9_choose 144 = .ok (.invokevirtual 225, 3) := by decide +kernel
theorem dX9_choose_147 : decode cX9_choose 147 = .ok (.istore 4, 2) := by decide +kernel
theorem dX9_choose_149 : decode cX9_choose 149 = .ok (.aload_n 0, 1) := by decide +kernel
theorem dX9_choose_150 : decode cX9_choose 150 = .ok (.aload_n 0, 1) := by decide +kernel
theorem dX9_choose_151 : decode cX9_choose 151 = .ok (.getfield 83, 3) := by decide +kernel
theorem dX9_choose_154 : decode cX9_choose 154 = .ok (.aload_n 0, 1) := by decide +kernel
theorem dX9_choose_155 : decode cX9_choose 155 = .ok (.getfield 229, 3) := by decide +kernel
theorem dX9_choose_158 : decode cX9_choose 158 = .ok (.iconst 1, 1) := by decide +kernel
theorem dX9_choose_159 : decode cX9_choose 159 = .ok (.isub, 1) := by decide +kernel
theorem dX9_choose_160 : decode cX9_choose 160 = .ok (.iaload, 1) := by decide +kernel
theorem dX9_choose_161 : decode cX9_choose 161 = .ok (.invokevirtual 225, 3) := by decide +kernel
theorem dX9_choose_164 : decode cX9_choose 164 = .ok (.istore 5, 2) := by decide +kernel
theorem dX9_choose_166 : decode cX9_choose 166 = .ok (.iload_n 3, 1) := by decide +kernel
theorem dX9_choose_167 : decode cX9_choose 167 = .ok (.iload 4, 2) := by decide +kernel
theorem dX9_choose_169 : decode cX9_choose 169 = .ok (.if_icmp .gt 9, 3) := by decide +kernel
theorem dX9_choose_172 : decode cX9_choose 172 = .ok (.iload_n 3, 1) := by decide +kernel
theorem dX9_choose_173 : decode cX9_choose 173 = .ok (.iload 5, 2) := by decide +kernel
theorem dX9_choose_175 : decode cX9_choose 175 = .ok (.if_icmp .ge 15, 3) := by decide +kernel
theorem dX9_choose_178 : decode cX9_choose 178 = .ok (.iload_n 3, 1) := by decide +kernel
theorem dX9_choose_179 : decode cX9_choose 179 = .ok (.iload 4, 2) := by decide +kernel
theorem dX9_choose_181 : decode cX9_choose 181 = .ok (.if_icmp .lt 21, 3) := by decide +kernel
theorem dX9_choose_184 : decode cX9_choose 184 = .ok (.iload_n 3, 1) := by decide +kernel
theorem dX9_choose_185 : decode cX9_choose 185 = .ok (.iload 5, 2) := by decide +kernel
theorem dX9_choose_187 : decode cX9_choose 187 = .ok (.if_icmp .gt 15, 3) := by decide +kernel
theorem dX9_choose_190 : decode cX9_choose 190 = .ok (.aload_n 0, 1) := by decide +kernel
theorem dX9_choose_191 : decode cX9_choose 191 = .ok (.getfield 83, 3) := by decide +kernel
theorem dX9_choose_194 : decode cX9_choose 194 = .ok (.aload_n 0, 1) := by decide +kernel
theorem dX9_choose_195 : decode cX9_choose 195 = .ok (.getfield 229, 3) := by decide +kernel
theorem dX9_choose_198 : decode cX9_choose 198 = .ok (.iconst 3, 1) := by decide +kernel
theorem dX9_choose_199 : decode cX9_choose 199 = .ok (.isub, 1) := by decide +kernel
theorem dX9_choose_200 : decode cX9_choose 200 = .ok (.iaload, 1) := by decide +kernel
theorem dX9_choose_201 : decode cX9_choose 201 = .ok (.ireturn, 1) := by decide +kernel
theorem dX9_choose_202 : decode cX9_choose 202 = .ok (.iload 4, 2) := by decide +kernel
theorem dX9_choose_204 : decode cX9_choose 204 = .ok (.iload_n 3, 1) := by decide +kernel
theorem dX9_choose_205 : decode cX9_choose 205 = .ok (.if_icmp .gt 10, 3) := by decide +kernel
theorem dX9_choose_208 : decode cX9_choose 208 = .ok (.iload 4, 2) := by decide +kernel
theorem dX9_choose_210 : decode cX9_choose 210 = .ok (.iload 5, 2) := by decide +kernel
theorem dX9_choose_212 : decode cX9_choose 212 = .ok (.if_icmp .ge 16, 3) := by decide +kernel
theorem dX9_choose_215 : decode cX9_choose 215 = .ok (.iload 4, 2) := by decide +kernel
theorem dX9_choose_217 : decode cX9_choose 217 = .ok (.iload_n 3, 1) := by decide +kernel
theorem dX9_choose_218 : decode cX9_choose 218 = .ok (.if_icmp .lt 24, 3) := by decide +kernel
theorem dX9_choose_221 : decode cX9_choose 221 = .ok (.iload 4, 2) := by decide +kernel
theorem dX9_choose_223 : decode cX9_choose 223 = .ok (.iload 5, 2) := by decide +kernel
theorem dX9_choose_225 : decode cX9_choose 225 = .ok (.if_icmp .gt 17, 3) := by decide +kernel
theorem dX9_choose_228 : decode cX9_choose 228 = .ok (.aload_n 0, 1) := by decide +kernel
theorem dX9_choose_229 : decode cX9_choose 229 = .ok (.getfield 83, 3) := by decide +kernel
theorem dX9_choose_232 : decode cX9_choose 232 = .ok (.aload_n 0, 1) := by decide +kernel
theorem dX9_choose_233 : decode cX9_choose 233 = .ok (.getfield 229, 3) := by decide +kernel
theorem dX9_choose_236 : decode cX9_choose 236 = .ok (.iconst 2, 1) := by decide +kernel
theorem dX9_choose_237 : decode cX9_choose 237 = .ok (.isub, 1) := by decide +kernel
theorem dX9_choose_238 : decode cX9_choose 238 = .ok (.iaload, 1) := by decide +kernel
theorem dX9_choose_239 : decode cX9_choose 239 = .ok (.goto 14, 3) := by decide +kernel
theorem dX9_choose_242 : decode cX9_choose 242 = .ok (.aload_n 0, 1) := by decide +kernel
theorem dX9_choose_243 : decode cX9_choose 243 = .ok (.getfield 83, 3) := by decide +kernel
theorem dX9_choose_246 : decode cX9_choose 246 = .ok (.aload_n 0, 1) := by decide +kernel
theorem dX9_choose_247 : decode cX9_choose 247 = .ok (.getfield 229, 3) := by decide +kernel
theorem dX9_choose_250 : decode cX9_choose 250 = .ok (.iconst 1, 1) := by decide +kernel
theorem dX9_choose_251 : decode cX9_choose 251 = .ok (.isub, 1) := by decide +kernel
theorem dX9_choose_252 : decode cX9_choose 252 = .ok (.iaload, 1) := by decide +kernel
theorem dX9_choose_253 : decode cX9_choose 253 = .ok (.ireturn, 1) := by decide +kernel
theorem dX9_chosen_0 : decode cX9_chosen 0 = .ok (.aload_n 0, 1) := by decide +kernel
theorem dX9_chosen_1 : decode cX9_chosen 1 = .ok (.iconst 0, 1) := by decide +kernel
theorem dX9_chosen_2 : decode cX9_chosen 2 = .ok (.putfield 1, 3) := by decide +kernel
theorem dX9_chosen_5 : decode cX9_chosen 5 = .ok (.aload_n 0, 1) := by decide +kernel
theorem dX9_chosen_6 : decode cX9_chosen 6 = .ok (.iload_n 1, 1) := by decide +kernel
theorem dX9_chosen_7 : decode cX9_chosen 7 = .ok (.invokevirtual 200, 3) := by decide +kernel
theorem dX9_chosen_10 : decode cX9_chosen 10 = .ok (.ifCond .eq 20, 3) := by decide +kernel
theorem dX9_chosen_13 : decode cX9_chosen 13 = .ok (.aload_n 0, 1) := by decide +kernel
theorem dX9_chosen_14 : decode cX9_chosen 14 = .ok (.iload_n 2, 1) := by decide +kernel
theorem dX9_chosen_15 : decode cX9_chosen 15 = .ok (.invokevirtual 191, 3) := by decide +kernel
theorem dX9_chosen_18 : decode cX9_chosen 18 = .ok (.ifCond .eq 12, 3) := by decide +kernel
theorem dX9_chosen_21 : decode cX9_chosen 21 = .ok (.aload_n 0, 1) := by decide +kernel
theorem dX9_chosen_22 : decode cX9_chosen 22 = .ok (.iload_n 1, 1) := by decide +kernel
theorem dX9_chosen_23 : decode cX9_chosen 23 = .ok (.iload_n 2, 1) := by decide +kernel
theorem dX9_chosen_24 : decode cX9_chosen 24 = .ok (.invokevirtual 242, 3) := by decide +kernel
theorem dX9_chosen_27 : decode cX9_chosen 27 = .ok (.goto 4, 3) := by decide +kernel
theorem dX9_chosen_30 : decode cX9_chosen 30 = .ok (.iconst (-1), 1) := by decide +kernel
theorem dX9_chosen_31 : decode cX9_chosen 31 = .ok (.ireturn, 1) := by decide +kernel
theorem dX9_due_0 : decode cX9_due 0 = .ok (.aload_n 0, 1) := by decide +kernel
theorem dX9_due_1 : decode cX9_due 1 = .ok (.iconst 0, 1) := by decide +kernel
theorem dX9_due_2 : decode cX9_due 2 = .ok (.putfield 1, 3) := by decide +kernel
theorem dX9_due_5 : decode cX9_due 5 = .ok (.iconst 0, 1) := by decide +kernel
theorem dX9_due_6 : decode cX9_due 6 = .ok (.istore_n 1, 1) := by decide +kernel
theorem dX9_due_7 : decode cX9_due 7 = .ok (.iconst 0, 1) := by decide +kernel
theorem dX9_due_8 : decode cX9_due 8 = .ok (.istore_n 2, 1) := by decide +kernel
theorem dX9_due_9 : decode cX9_due 9 = .ok (.iload_n 2, 1) := by decide +kernel
theorem dX9_due_10 : decode cX9_due 10 = .ok (.aload_n 0, 1) := by decide +kernel
theorem dX9_due_11 : decode cX9_due 11 = .ok (.getfield 74, 3) := by decide +kernel
theorem dX9_due_14 : decode cX9_due 14 = .ok (.iconst 0, 1) := by decide +kernel
theorem dX9_due_15 : decode cX9_due 15 = .ok (.iaload, 1) := by decide +kernel
theorem dX9_due_16 : decode cX9_due 16 = .ok (.aload_n 0, 1) := by decide +kernel
theorem dX9_due_17 : decode cX9_due 17 = .ok (.getfield 74, 3) := by decide +kernel
theorem dX9_due_20 : decode cX9_due 20 = .ok (.iconst 1, 1) := by decide +kernel
theorem dX9_due_21 : decode cX9_due 21 = .ok (.iaload, 1) := by decide +kernel
theorem dX9_due_22 : decode cX9_due 22 = .ok (.imul, 1) := by decide +kernel
theorem dX9_due_23 : decode cX9_due 23 = .ok (.if_icmp .ge 37, 3) := by decide +kernel
theorem dX9_due_26 : decode cX9_due 26 = .ok (.aload_n 0, 1) := by decide +kernel
theorem dX9_due_27 : decode cX9_due 27 = .ok (.iload_n 2, 1) := by decide +kernel
theorem dX9_due_28 : decode cX9_due 28 = .ok (.aload_n 0, 1) := by decide +kernel
theorem dX9_due_29 : decode cX9_due 29 = .ok (.getfield 74, 3) := by decide +kernel
theorem dX9_due_32 : decode cX9_due 32 = .ok (.iconst 1, 1) := by decide +kernel
theorem dX9_due_33 : decode cX9_due 33 = .ok (.iaload, 1) := by decide +kernel
theorem dX9_due_34 : decode cX9_due 34 = .ok (.idiv, 1) := by decide +kernel
theorem dX9_due_35 : decode cX9_due 35 = .ok (.iload_n 2, 1) := by decide +kernel
theorem dX9_due_36 : decode cX9_due 36 = .ok (.aload_n 0, 1) := by decide +kernel
theorem dX9_due_37 : decode cX9_due 37 = .ok (.getfield 74, 3) := by decide +kernel
theorem dX9_due_40 : decode cX9_due 40 = .ok (.iconst 1, 1) := by decide +kernel
theorem dX9_due_41 : decode cX9_due 41 = .ok (.iaload, 1) := by decide +kernel
theorem dX9_due_42 : decode cX9_due 42 = .ok (.irem, 1) := by decide +kernel
theorem dX9_due_43 : decode cX9_due 43 = .ok (.invokevirtual 242, 3) := by decide +kernel
theorem dX9_due_46 : decode cX9_due 46 = .ok (.bipush (-2), 2) := by decide +kernel
theorem dX9_due_48 : decode cX9_due 48 = .ok (.if_icmp .ne 6, 3) := by decide +kernel
theorem dX9_due_51 : decode cX9_due 51 = .ok (.iinc 1 1, 3) := by decide +kernel
theorem dX9_due_54 : decode cX9_due 54 = .ok (.iinc 2 1, 3) := by decide +kernel
theorem dX9_due_57 : decode cX9_due 57 = .ok (.goto (-48), 3) := by decide +kernel
theorem dX9_due_60 : decode cX9_due 60 = .ok (.iload_n 1, 1) := by decide +kernel
theorem dX9_due_61 : decode cX9_due 61 = .ok (.ireturn, 1) := by decide +kernel
theorem dX9_explained_0 : decode cX9_explained 0 = .ok (.aload_n 0, 1) := by decide +kernel
theorem dX9_explained_1 : decode cX9_explained 1 = .ok (.iconst 0, 1) := by decide +kernel
theorem dX9_explained_2 : decode cX9_explained 2 = .ok (.putfield 1, 3) := by decide +kernel
theorem dX9_explained_5 : decode cX9_explained 5 = .ok (.aload_n 0, 1) := by decide +kernel
theorem dX9_explained_6 : decode cX9_explained 6 = .ok (.iload_n 1, 1) := by decide +kernel
theorem dX9_explained_7 : decode cX9_explained 7 = .ok (.invokevirtual 219, 3) := by decide +kernel
theorem dX9_explained_10 : decode cX9_explained 10 = .ok (.ifCond .ne 5, 3) := by decide +kernel
theorem dX9_explained_13 : decode cX9_explained 13 = .ok (.iconst (-1), 1) := by decide +kernel
theorem dX9_explained_14 : decode cX9_explained 14 = .ok (.ireturn, 1) := by decide +kernel
theorem dX9_explained_15 : decode cX9_explained 15 = .ok (.iconst 0, 1) := by decide +kernel
theorem dX9_explained_16 : decode cX9_explained 16 = .ok (.istore_n 3, 1) := by decide +kernel
theorem dX9_explained_17 : decode cX9_explained 17 = .ok (.iconst 0, 1) := by decide +kernel
theorem dX9_explained_18 : decode cX9_explained 18 = .ok (.istore 4, 2) := by decide +kernel
theorem dX9_explained_20 : decode cX9_explained 20 = .ok (.iload 4, 2) := by decide +kernel
theorem dX9_explained_22 : decode cX9_explained 22 = .ok (.iconst 2, 1) := by decide +kernel
theorem dX9_explained_23 : decode cX9_explained 23 = .ok (.aload_n 0, 1) := by decide +kernel
theorem dX9_explained_24 : decode cX9_explained 24 = .ok (.getfield 74, 3) := by decide +kernel
theorem dX9_explained_27 : decode cX9_explained 27 = .ok (.iconst 2, 1) := by decide +kernel
theorem dX9_explained_28 : decode cX9_explained 28 = .ok (.iaload, 1) := by decide +kernel
theorem dX9_explained_29 : decode cX9_explained 29 = .ok (.imul, 1) := by decide +kernel
theorem dX9_explained_30 : decode cX9_explained 30 = .ok (.if_icmp .ge 98, 3) := by decide +kernel
theorem dX9_explained_33 : decode cX9_explained 33 = .ok (.aload_n 0, 1) := by decide +kernel
theorem dX9_explained_34 : decode cX9_explained 34 = .ok (.iload 4, 2) := by decide +kernel
theorem dX9_explained_36 : decode cX9_explained 36 = .ok (.iconst 2, 1) := by decide +kernel
theorem dX9_explained_37 : decode cX9_explained 37 = .ok (.idiv, 1) := by decide +kernel
theorem dX9_explained_38 : decode cX9_explained 38 = .ok (.iload 4, 2) := by decide +kernel
theorem dX9_explained_40 : decode cX9_explained 40 = .ok (.iconst 2, 1) := by decide +kernel
theorem dX9_explained_41 : decode cX9_explained 41 = .ok (.irem, 1) := by decide +kernel
theorem dX9_explained_42 : decode cX9_explained 42 = .ok (.aload_n 0, 1) := by decide +kernel
theorem dX9_explained_43 : decode cX9_explained 43 = .ok (.iload_n 1, 1) := by decide +kernel
theorem dX9_explained_44 : decode cX9_explained 44 = .ok (.iconst 0, 1) := by decide +kernel
theorem dX9_explained_45 : decode cX9_explained 45 = .ok (.invokevirtual 213, 3) := by decide +kernel
theorem dX9_explained_48 : decode cX9_explained 48 = .ok (.aload_n 0, 1) := by decide +kernel
theorem dX9_explained_49 : decode cX9_explained 49 = .ok (.iload_n 1, 1) := by decide +kernel
theorem dX9_explained_50 : decode cX9_explained 50 = .ok (.iconst 1, 1) := by decide +kernel
theorem dX9_explained_51 : decode cX9_explained 51 = .ok (.invokevirtual 213, 3) := by decide +kernel
theorem dX9_explained_54 : decode cX9_explained 54 = .ok (.invokevirtual 173, 3) := by decide +kernel
theorem dX9_explained_57 : decode cX9_explained 57 = .ok (.ifCond .eq 65, 3) := by decide +kernel
theorem dX9_explained_60 : decode cX9_explained 60 = .ok (.aload_n 0, 1) := by decide +kernel
theorem dX9_explained_61 : decode cX9_explained 61 = .ok (.iload 4, 2) := by decide +kernel
theorem dX9_explained_63 : decode cX9_explained 63 = .ok (.iconst 2, 1) := by decide +kernel
theorem dX9_explained_64 : decode cX9_explained 64 = .ok (.idiv, 1) := by decide +kernel
theorem dX9_explained_65 : decode cX9_explained 65 = .ok (.iload 4, 2) := by decide +kernel
theorem dX9_explained_67 : decode cX9_explained 67 = .ok (.iconst 2, 1) := by decide +kernel
theorem dX9_explained_68 : decode cX9_explained 68 = .ok (.irem, 1) := by decide +kernel
theorem dX9_explained_69 : decode cX9_explained 69 = .ok (.aload_n 0, 1) := by decide +kernel
theorem dX9_explained_70 : decode cX9_explained 70 = .ok (.iload_n 1, 1) := by decide +kernel
theorem dX9_explained_71 : decode cX9_explained 71 = .ok (.iconst 2, 1) := by decide +kernel
theorem dX9_explained_72 : decode cX9_explained 72 = .ok (.invokevirtual 213, 3) := by decide +kernel
theorem dX9_explained_75 : decode cX9_explained 75 = .ok (.invokevirtual 177, 3) := by decide +kernel
theorem dX9_explained_78 : decode cX9_explained 78 = .ok (.ifCond .ne 6, 3) := by decide +kernel
theorem dX9_explained_81 : decode cX9_explained 81 = .ok (.goto 41, 3) := by decide +kernel
theorem dX9_explained_84 : decode cX9_explained 84 = .ok (.aload_n 0, 1) := by decide +kernel
theorem dX9_explained_85 : decode cX9_explained 85 = .ok (.getfield 86, 3) := by decide +kernel
theorem dX9_explained_88 : decode cX9_explained 88 = .ok (.iload_n 3, 1) := by decide +kernel
theorem dX9_explained_89 : decode cX9_explained 89 = .ok (.iload 4, 2) := by decide +kernel
theorem dX9_explained_91 : decode cX9_explained 91 = .ok (.iconst 2, 1) := by decide +kernel
theorem dX9_explained_92 : decode cX9_explained 92 = .ok (.irem, 1) := by decide +kernel
theorem dX9_explained_93 : decode cX9_explained 93 = .ok (.ifCond .ne 16, 3) := by decide +kernel
theorem dX9_explained_96 : decode cX9_explained 96 = .ok (.aload_n 0, 1) := by decide +kernel
theorem dX9_explained_97 : decode cX9_explained 97 = .ok (.iload 4, 2) := by decide +kernel
theorem dX9_explained_99 : decode cX9_explained 99 = .ok (.iconst 2, 1) := by decide +kernel
theorem dX9_explained_100 : decode cX9_explained 100 = .ok (.idiv, 1) := by decide +kernel
theorem dX9_explained_101 : decode cX9_explained 101 = .ok (.iconst 1, 1) := by decide +kernel
theorem dX9_explained_102 : decode cX9_explained 102 = .ok (.invokevirtual 163, 3) := by decide +kernel
theorem dX9_explained_105 : decode cX9_explained 105 = .ok (.ineg, 1) := by decide +kernel
theorem dX9_explained_106 : decode cX9_explained 106 = .ok (.goto 12, 3) := by decide +kernel
theorem dX9_explained_109 : decode cX9_explained 109 = .ok (.aload_n 0, 1) := by decide +kernel
theorem dX9_explained_110 : decode cX9_explained 110 = .ok (.iload 4, 2) := by decide +kernel
theorem dX9_explained_112 : decode cX9_explained 112 = .ok (.iconst 2, 1) := by decide +kernel
theorem dX9_explained_113 : decode cX9_explained 113 = .ok (.idiv, 1) := by decide +kernel
theorem dX9_explained_114 : decode cX9_explained 114 = .ok (.iconst 1, 1) := by decide +kernel
theorem dX9_explained_115 : decode cX9_explained 115 = .ok (.invokevirtual 163, 3) := by decide +kernel
theorem dX9_explained_118 : decode cX9_explained 118 = .ok (.iastore, 1) := by decide +kernel
theorem dX9_explained_119 : decode cX9_explained 119 = .ok (.iinc 3 1, 3) := by decide +kernel
theorem dX9_explained_122 : decode cX9_explained 122 = .ok (.iinc 4 1, 3) := by decide +kernel
theorem dX9_explained_125 : decode cX9_explained 125 = .ok (.goto (-105), 3) := by decide +kernel
theorem dX9_explained_128 : decode cX9_explained 128 = .ok (.iload_n 3, 1) := by decide +kernel
theorem dX9_explained_129 : decode cX9_explained 129 = .ok (.bipush 10, 2) := by decide +kernel
theorem dX9_explained_131 : decode cX9_explained 131 = .ok (.if_icmp .le 6, 3) := by decide +kernel
theorem dX9_explained_134 : decode cX9_explained 134 = .ok (.bipush (-2), 2) := by decide +kernel
theorem dX9_explained_136 : decode cX9_explained 136 = .ok (.ireturn, 1) := by decide +kernel
theorem dX9_explained_137 : decode cX9_explained 137 = .ok (.iconst 0, 1) := by decide +kernel
theorem dX9_explained_138 : decode cX9_explained 138 = .ok (.istore 4, 2) := by decide +kernel
theorem dX9_explained_140 : decode cX9_explained 140 = .ok (.aload_n 0, 1) := by decide +kernel
theorem dX9_explained_141 : decode cX9_explained 141 = .ok (.iload_n 1, 1) := by decide +kernel
theorem dX9_explained_142 : decode cX9_explained 142 = .ok (.iconst 3, 1) := by decide +kernel
theorem dX9_explained_143 : decode cX9_explained 143 = .ok (.invokevirtual 213, 3) := by decide +kernel
theorem dX9_explained_146 : decode cX9_explained 146 = .ok (.aload_n 0, 1) := by decide +kernel
theorem dX9_explained_147 : decode cX9_explained 147 = .ok (.iload_n 1, 1) := by decide +kernel
theorem dX9_explained_148 : decode cX9_explained 148 = .ok (.invokevirtual 216, 3) := by decide +kernel
theorem dX9_explained_151 : decode cX9_explained 151 = .ok (.isub, 1) := by decide +kernel
theorem dX9_explained_152 : decode cX9_explained 152 = .ok (.istore 5, 2) := by decide +kernel
theorem dX9_explained_154 : decode cX9_explained 154 = .ok (.iconst 0, 1) := by decide +kernel
theorem dX9_explained_155 : decode cX9_explained 155 = .ok (.istore 6, 2) := by decide +kernel
theorem dX9_explained_157 : decode cX9_explained 157 = .ok (.iload 6, 2) := by decide +kernel
theorem dX9_explained_159 : decode cX9_explained 159 = .ok (.iconst 1, 1) := by decide +kernel
theorem dX9_explained_160 : decode cX9_explained 160 = .ok (.iload_n 3, 1) := by decide +kernel
theorem dX9_explained_161 : decode cX9_explained 161 = .ok (.ishl, 1) := by decide +kernel
theorem dX9_explained_162 : decode cX9_explained 162 = .ok (.if_icmp .ge 72, 3) := by decide +kernel
theorem dX9_explained_165 : decode cX9_explained 165 = .ok (.iconst 0, 1) := by decide +kernel
theorem dX9_explained_166 : decode cX9_explained 166 = .ok (.istore 7, 2) := by decide +kernel
theorem dX9_explained_168 : decode cX9_explained 168 = .ok (.iconst 0, 1) := by decide +kernel
theorem dX9_explained_169 : decode cX9_explained 169 = .ok (.istore 8, 2) := by decide +kernel
theorem dX9_explained_171 : decode cX9_explained 171 = .ok (.iload 8, 2) := by decide +kernel
theorem dX9_explained_173 : decode cX9_explained 173 = .ok (.iload_n 3, 1) := by decide +kernel
theorem dX9_explained_174 : decode cX9_explained 174 = .ok (.if_icmp .ge 32, 3) := by decide +kernel
theorem dX9_explained_177 : decode cX9_explained 177 = .ok (.iload 6, 2) := by decide +kernel
theorem dX9_explained_179 : decode cX9_explained 179 = .ok (.iload 8, 2) := by decide +kernel
theorem dX9_explained_181 : decode cX9_explained 181 = .ok (.ishr, 1) := by decide +kernel
theorem dX9_explained_182 : decode cX9_explained 182 = .ok (.iconst 1, 1) := by decide +kernel
theorem dX9_explained_183 : decode cX9_explained 183 = .ok (.iand, 1) := by decide +kernel
theorem dX9_explained_184 : decode cX9_explained 184 = .ok (.iconst 1, 1) := by decide +kernel
theorem dX9_explained_185 : decode cX9_explained 185 = .ok (.if_icmp .ne 15, 3) := by decide +kernel
theorem dX9_explained_188 : decode cX9_explained 188 = .ok (.iload 7, 2) := by decide +kernel
theorem dX9_explained_190 : decode cX9_explained 190 = .ok (.aload_n 0, 1) := by decide +kernel
theorem dX9_explained_191 : decode cX9_explained 191 = .ok (.getfield 86, 3) := by decide +kernel
theorem dX9_explained_194 : decode cX9_explained 194 = .ok (.iload 8, 2) := by decide +kernel
theorem dX9_explained_196 : decode cX9_explained 196 = .ok (.iaload, 1) := by decide +kernel
theorem dX9_explained_197 : decode cX9_explained 197 = .ok (.iadd, 1) := by decide +kernel
theorem dX9_explained_198 : decode cX9_explained 198 = .ok (.istore 7, 2) := by decide +kernel
theorem dX9_explained_200 : decode cX9_explained 200 = .ok (.iinc 8 1, 3) := by decide +kernel
theorem dX9_explained_203 : decode cX9_explained 203 = .ok (.goto (-32), 3) := by decide +kernel
theorem dX9_explained_206 : decode cX9_explained 206 = .ok (.iload 7, 2) := by decide +kernel
theorem dX9_explained_208 : decode cX9_explained 208 = .ok (.iload 5, 2) := by decide +kernel
theorem dX9_explained_210 : decode cX9_explained 210 = .ok (.if_icmp .eq 6, 3) := by decide +kernel
theorem dX9_explained_213 : decode cX9_explained 213 = .ok (.goto 15, 3) := by decide +kernel
theorem dX9_explained_216 : decode cX9_explained 216 = .ok (.iload 4, 2) := by decide +kernel
theorem dX9_explained_218 : decode cX9_explained 218 = .ok (.iload_n 2, 1) := by decide +kernel
theorem dX9_explained_219 : decode cX9_explained 219 = .ok (.if_icmp .ne 6, 3) := by decide +kernel
theorem dX9_explained_222 : decode cX9_explained 222 = .ok (.iload 6, 2) := by decide +kernel
theorem dX9_explained_224 : decode cX9_explained 224 = .ok (.ireturn, 1) := by decide +kernel
theorem dX9_explained_225 : decode cX9_explained 225 = .ok (.iinc 4 1, 3) := by decide +kernel
theorem dX9_explained_228 : decode cX9_explained 228 = .ok (.iinc 6 1, 3) := by decide +kernel
theorem dX9_explained_231 : decode cX9_explained 231 = .ok (.goto (-74), 3) := by decide +kernel
theorem dX9_explained_234 : decode cX9_explained 234 = .ok (.iload_n 2, 1) := by decide +kernel
theorem dX9_explained_235 : decode cX9_explained 235 = .ok (.iconst (-1), 1) := by decide +kernel
theorem dX9_explained_236 : decode cX9_explained 236 = .ok (.if_icmp .ne 8, 3) := by decide +kernel
theorem dX9_explained_239 : decode cX9_explained 239 = .ok (.iload 4, 2) := by decide +kernel
theorem dX9_explained_241 : decode cX9_explained 241 = .ok (.goto 4, 3) := by decide +kernel
theorem dX9_explained_244 : decode cX9_explained 244 = .ok (.iconst (-1), 1) := by decide +kernel
theorem dX9_explained_245 : decode cX9_explained 245 = .ok (.ireturn, 1) := by decide +kernel
theorem dX9_adjusted_0 : decode cX9_adjusted 0 = .ok (.aload_n 0, 1) := by decide +kernel
theorem dX9_adjusted_1 : decode cX9_adjusted 1 = .ok (.iconst 0, 1) := by decide +kernel
theorem dX9_adjusted_2 : decode cX9_adjusted 2 = .ok (.putfield 1, 3) := by decide +kernel
theorem dX9_adjusted_5 : decode cX9_adjusted 5 = .ok (.iload_n 1, 1) := by decide +kernel
theorem dX9_adjusted_6 : decode cX9_adjusted 6 = .ok (.iconst 0, 1) := by decide +kernel
theorem dX9_adjusted_7 : decode cX9_adjusted 7 = .ok (.aload_n 0, 1) := by decide +kernel
theorem dX9_adjusted_8 : decode cX9_adjusted 8 = .ok (.getfield 74, 3) := by decide +kernel
theorem dX9_adjusted_11 : decode cX9_adjusted 11 = .ok (.iconst 4, 1) := by decide +kernel
theorem dX9_adjusted_12 : decode cX9_adjusted 12 = .ok (.iaload, 1) := by decide +kernel
theorem dX9_adjusted_13 : decode cX9_adjusted 13 = .ok (.iconst 1, 1) := by decide +kernel
theorem dX9_adjusted_14 : decode cX9_adjusted 14 = .ok (.isub, 1) := by decide +kernel
theorem dX9_adjusted_15 : decode cX9_adjusted 15 = .ok (.invokestatic 92, 3) := by decide +kernel
theorem dX9_adjusted_18 : decode cX9_adjusted 18 = .ok (.ifCond .eq 29, 3) := by decide +kernel
theorem dX9_adjusted_21 : decode cX9_adjusted 21 = .ok (.iload_n 2, 1) := by decide +kernel
theorem dX9_adjusted_22 : decode cX9_adjusted 22 = .ok (.iconst 0, 1) := by decide +kernel
theorem dX9_adjusted_23 : decode cX9_adjusted 23 = .ok (.iconst 3, 1) := by decide +kernel
theorem dX9_adjusted_24 : decode cX9_adjusted 24 = .ok (.invokestatic 92, 3) := by decide +kernel
theorem dX9_adjusted_27 : decode cX9_adjusted 27 = .ok (.ifCond .eq 20, 3) := by decide +kernel
theorem dX9_adjusted_30 : decode cX9_adjusted 30 = .ok (.aload_n 0, 1) := by decide +kernel
theorem dX9_adjusted_31 : decode cX9_adjusted 31 = .ok (.getfield 74, 3) := by decide +kernel
theorem dX9_adjusted_34 : decode cX9_adjusted 34 = .ok (.sipush 685, 3) := by decide +kernel
theorem dX9_adjusted_37 : decode cX9_adjusted 37 = .ok (.iconst 4, 1) := by decide +kernel
theorem dX9_adjusted_38 : decode cX9_adjusted 38 = .ok (.iload_n 1, 1) := by decide +kernel
theorem dX9_adjusted_39 : decode cX9_adjusted 39 = .ok (.imul, 1) := by decide +kernel
theorem dX9_adjusted_40 : decode cX9_adjusted 40 = .ok (.iadd, 1) := by decide +kernel
theorem dX9_adjusted_41 : decode cX9_adjusted 41 = .ok (.iload_n 2, 1) := by decide +kernel
theorem dX9_adjusted_42 : decode cX9_adjusted 42 = .ok (.iadd, 1) := by decide +kernel
theorem dX9_adjusted_43 : decode cX9_adjusted 43 = .ok (.iaload, 1) := by decide +kernel
theorem dX9_adjusted_44 : decode cX9_adjusted 44 = .ok (.goto 5, 3) := by decide +kernel
theorem dX9_adjusted_47 : decode cX9_adjusted 47 = .ok (.ldc 206, 2) := by decide +kernel
theorem dX9_adjusted_49 : decode cX9_adjusted 49 = .ok (.ireturn, 1) := by decide +kernel
theorem dX9_snap_0 : decode cX9_snap 0 = .ok (.aload_n 0, 1) := by decide +kernel
theorem dX9_snap_1 : decode cX9_snap 1 = .ok (.getfield 153, 3) := by decide +kernel
theorem dX9_snap_4 : decode cX9_snap 4 = .ok (.bipush 10, 2) := by decide +kernel
theorem dX9_snap_6 : decode cX9_snap 6 = .ok (.if_icmp .ne 44, 3) := by decide +kernel
theorem dX9_snap_9 : decode cX9_snap 9 = .ok (.iconst 0, 1) := by decide +kernel
theorem dX9_snap_10 : decode cX9_snap 10 = .ok (.istore_n 1, 1) := by decide +kernel
theorem dX9_snap_11 : decode cX9_snap 11 = .ok (.iload_n 1, 1) := by decide +kernel
theorem dX9_snap_12 : decode cX9_snap 12 = .ok (.sipush 7605, 3) := by decide +kernel
theorem dX9_snap_15 : decode cX9_snap 15 = .ok (.if_icmp .ge 25, 3) := by decide +kernel
theorem dX9_snap_18 : decode cX9_snap 18 = .ok (.aload_n 0, 1) := by decide +kernel
theorem dX9_snap_19 : decode cX9_snap 19 = .ok (.getfield 80, 3) := by decide +kernel
theorem dX9_snap_22 : decode cX9_snap 22 = .ok (.iload_n 1, 1) := by decide +kernel
theorem dX9_snap_23 : decode cX9_snap 23 = .ok (.aload_n 0, 1) := by decide +kernel
theorem dX9_snap_24 : decode cX9_snap 24 = .ok (.getfield 80, 3) := by decide +kernel
theorem dX9_snap_27 : decode cX9_snap 27 = .ok (.iload_n 1, 1) := by decide +kernel
theorem dX9_snap_28 : decode cX9_snap 28 = .ok (.sipush 845, 3) := by decide +kernel
theorem dX9_snap_31 : decode cX9_snap 31 = .ok (.iadd, 1) := by decide +kernel
theorem dX9_snap_32 : decode cX9_snap 32 = .ok (.iaload, 1) := by decide +kernel
theorem dX9_snap_33 : decode cX9_snap 33 = .ok (.iastore, 1) := by decide +kernel
theorem dX9_snap_34 : decode cX9_snap 34 = .ok (.iinc 1 1, 3) := by decide +kernel
theorem dX9_snap_37 : decode cX9_snap 37 = .ok (.goto (-26), 3) := by decide +kernel
theorem dX9_snap_40 : decode cX9_snap 40 = .ok (.aload_n 0, 1) := by decide +kernel
theorem dX9_snap_41 : decode cX9_snap 41 = .ok (.dup, 1) := by decide +kernel
theorem dX9_snap_42 : decode cX9_snap 42 = .ok (.getfield 153, 3) := by decide +kernel
theorem dX9_snap_45 : decode cX9_snap 45 = .ok (.iconst 1, 1) := by decide +kernel
theorem dX9_snap_46 : decode cX9_snap 46 = .ok (.isub, 1) := by decide +kernel
theorem dX9_snap_47 : decode cX9_snap 47 = .ok (.putfield 153, 3) := by decide +kernel
theorem dX9_snap_50 : decode cX9_snap 50 = .ok (.iconst 0, 1) := by decide +kernel
theorem dX9_snap_51 : decode cX9_snap 51 = .ok (.istore_n 1, 1) := by decide +kernel
theorem dX9_snap_52 : decode cX9_snap 52 = .ok (.iload_n 1, 1) := by decide +kernel
theorem dX9_snap_53 : decode cX9_snap 53 = .ok (.sipush 845, 3) := by decide +kernel
theorem dX9_snap_56 : decode cX9_snap 56 = .ok (.if_icmp .ge 30, 3) := by decide +kernel
theorem dX9_snap_59 : decode cX9_snap 59 = .ok (.aload_n 0, 1) := by decide +kernel
theorem dX9_snap_60 : decode cX9_snap 60 = .ok (.getfield 80, 3) := by decide +kernel
theorem dX9_snap_63 : decode cX9_snap 63 = .ok (.sipush 845, 3) := by decide +kernel
theorem dX9_snap_66 : decode cX9_snap 66 = .ok (.aload_n 0, 1) := by decide +kernel
theorem dX9_snap_67 : decode cX9_snap 67 = .ok (.getfield 153, 3) := by decide +kernel
theorem dX9_snap_70 : decode cX9_snap 70 = .ok (.imul, 1) := by decide +kernel
theorem dX9_snap_71 : decode cX9_snap 71 = .ok (.iload_n 1, 1) := by decide +kernel
theorem dX9_snap_72 : decode cX9_snap 72 = .ok (.iadd, 1) := by decide +kernel
theorem dX9_snap_73 : decode cX9_snap 73 = .ok (.aload_n 0, 1) := by decide +kernel
theorem dX9_snap_74 : decode cX9_snap 74 = .ok (.getfield 74, 3) := by decide +kernel
theorem dX9_snap_77 : decode cX9_snap 77 = .ok (.iload_n 1, 1) := by decide +kernel
theorem dX9_snap_78 : decode cX9_snap 78 = .ok (.iaload, 1) := by decide +kernel
theorem dX9_snap_79 : decode cX9_snap 79 = .ok (.iastore, 1) := by decide +kernel
theorem dX9_snap_80 : decode cX9_snap 80 = .ok (.iinc 1 1, 3) := by decide +kernel
theorem dX9_snap_83 : decode cX9_snap 83 = .ok (.goto (-31), 3) := by decide +kernel
theorem dX9_snap_86 : decode cX9_snap 86 = .ok (.aload_n 0, 1) := by decide +kernel
theorem dX9_snap_87 : decode cX9_snap 87 = .ok (.dup, 1) := by decide +kernel
theorem dX9_snap_88 : decode cX9_snap 88 = .ok (.getfield 153, 3) := by decide +kernel
theorem dX9_snap_91 : decode cX9_snap 91 = .ok (.iconst 1, 1) := by decide +kernel
theorem dX9_snap_92 : decode cX9_snap 92 = .ok (.iadd, 1) := by decide +kernel
theorem dX9_snap_93 : decode cX9_snap 93 = .ok (.putfield 153, 3) := by decide +kernel
theorem dX9_snap_96 : decode cX9_snap 96 = .ok (.return_, 1) := by decide +kernel
theorem dX9_moves_0 : decode cX9_moves 0 = .ok (.aload_n 0, 1) := by decide +kernel
theorem dX9_moves_1 : decode cX9_moves 1 = .ok (.iconst 0, 1) := by decide +kernel
theorem dX9_moves_2 : decode cX9_moves 2 = .ok (.putfield 1, 3) := by decide +kernel
theorem dX9_moves_5 : decode cX9_moves 5 = .ok (.aload_n 0, 1) := by decide +kernel
theorem dX9_moves_6 : decode cX9_moves 6 = .ok (.iload_n 1, 1) := by decide +kernel
theorem dX9_moves_7 : decode cX9_moves 7 = .ok (.invokevirtual 191, 3) := by decide +kernel
theorem dX9_moves_10 : decode cX9_moves 10 = .ok (.ifCond .eq 13, 3) := by decide +kernel
theorem dX9_moves_13 : decode cX9_moves 13 = .ok (.iload_n 2, 1) := by decide +kernel
theorem dX9_moves_14 : decode cX9_moves 14 = .ok (.iconst 1, 1) := by decide +kernel
theorem dX9_moves_15 : decode cX9_moves 15 = .ok (.bipush 99, 2) := by decide +kernel
theorem dX9_moves_17 : decode cX9_moves 17 = .ok (.invokestatic 92, 3) := by decide +kernel
theorem dX9_moves_20 : decode cX9_moves 20 = .ok (.ifCond .ne 5, 3) := by decide +kernel
theorem dX9_moves_23 : decode cX9_moves 23 = .ok (.iconst (-1), 1) := by decide +kernel
theorem dX9_moves_24 : decode cX9_moves 24 = .ok (.ireturn, 1) := by decide +kernel
theorem dX9_moves_25 : decode cX9_moves 25 = .ok (.aload_n 0, 1) := by decide +kernel
theorem dX9_moves_26 : decode cX9_moves 26 = .ok (.getfield 74, 3) := by decide +kernel
theorem dX9_moves_29 : decode cX9_moves 29 = .ok (.iconst 2, 1) := by decide +kernel
theorem dX9_moves_30 : decode cX9_moves 30 = .ok (.iaload, 1) := by decide +kernel
theorem dX9_moves_31 : decode cX9_moves 31 = .ok (.bipush 40, 2) := by decide +kernel
theorem dX9_moves_33 : decode cX9_moves 33 = .ok (.if_icmp .ne 6, 3) := by decide +kernel
theorem dX9_moves_36 : decode cX9_moves 36 = .ok (.bipush (-2), 2) := by decide +kernel
theorem dX9_moves_38 : decode cX9_moves 38 = .ok (.ireturn, 1) := by decide +kernel
theorem dX9_moves_39 : decode cX9_moves 39 = .ok (.aload_n 0, 1) := by decide +kernel
theorem dX9_moves_40 : decode cX9_moves 40 = .ok (.invokevirtual 245, 3) := by decide +kernel
theorem dX9_moves_43 : decode cX9_moves 43 = .ok (.bipush 45, 2) := by decide +kernel
theorem dX9_moves_45 : decode cX9_moves 45 = .ok (.bipush 10, 2) := by decide +kernel
theorem dX9_moves_47 : decode cX9_moves 47 = .ok (.aload_n 0, 1) := by decide +kernel
theorem dX9_moves_48 : decode cX9_moves 48 = .ok (.getfield 74, 3) := by decide +kernel
theorem dX9_moves_51 : decode cX9_moves 51 = .ok (.iconst 2, 1) := by decide +kernel
theorem dX9_moves_52 : decode cX9_moves 52 = .ok (.iaload, 1) := by decide +kernel
theorem dX9_moves_53 : decode cX9_moves 53 = .ok (.imul, 1) := by decide +kernel
theorem dX9_moves_54 : decode cX9_moves 54 = .ok (.iadd, 1) := by decide +kernel
theorem dX9_moves_55 : decode cX9_moves 55 = .ok (.istore_n 3, 1) := by decide +kernel
theorem dX9_moves_56 : decode cX9_moves 56 = .ok (.iconst 0, 1) := by decide +kernel
theorem dX9_moves_57 : decode cX9_moves 57 = .ok (.istore 4, 2) := by decide +kernel
theorem dX9_moves_59 : decode cX9_moves 59 = .ok (.iload 4, 2) := by decide +kernel
theorem dX9_moves_61 : decode cX9_moves 61 = .ok (.bipush 10, 2) := by decide +kernel
theorem dX9_moves_63 : decode cX9_moves 63 = .ok (.if_icmp .ge 19, 3) := by decide +kernel
theorem dX9_moves_66 : decode cX9_moves 66 = .ok (.aload_n 0, 1) := by decide +kernel
theorem dX9_moves_67 : decode cX9_moves 67 = .ok (.getfield 74, 3) := by decide +kernel
theorem dX9_moves_70 : decode cX9_moves 70 = .ok (.iload_n 3, 1) := by decide +kernel
theorem dX9_moves_71 : decode cX9_moves 71 = .ok (.iload 4, 2) := by decide +kernel
theorem dX9_moves_73 : decode cX9_moves 73 = .ok (.iadd, 1) := by decide +kernel
theorem dX9_moves_74 : decode cX9_moves 74 = .ok (.iconst 0, 1) := by decide +kernel
theorem dX9_moves_75 : decode cX9_moves 75 = .ok (.iastore, 1) := by decide +kernel
theorem dX9_moves_76 : decode cX9_moves 76 = .ok (.iinc 4 1, 3) := by decide +kernel
theorem dX9_moves_79 : decode cX9_moves 79 = .ok (.goto (-20), 3) := by decide +kernel
theorem dX9_moves_82 : decode cX9_moves 82 = .ok (.aload_n 0, 1) := by decide +kernel
theorem dX9_moves_83 : decode cX9_moves 83 = .ok (.getfield 74, 3) := by decide +kernel
theorem dX9_moves_86 : decode cX9_moves 86 = .ok (.iload_n 3, 1) := by decide +kernel
theorem dX9_moves_87 : decode cX9_moves 87 = .ok (.iconst 0, 1) := by decide +kernel
theorem dX9_moves_88 : decode cX9_moves 88 = .ok (.iadd, 1) := by decide +kernel
theorem dX9_moves_89 : decode cX9_moves 89 = .ok (.iload_n 1, 1) := by decide +kernel
theorem dX9_moves_90 : decode cX9_moves 90 = .ok (.iastore, 1) := by decide +kernel
theorem dX9_moves_91 : decode cX9_moves 91 = .ok (.aload_n 0, 1) := by decide +kernel
theorem dX9_moves_92 : decode cX9_moves 92 = .ok (.getfield 74, 3) := by decide +kernel
theorem dX9_moves_95 : decode cX9_moves 95 = .ok (.iload_n 3, 1) := by decide +kernel
theorem dX9_moves_96 : decode cX9_moves 96 = .ok (.iconst 1, 1) := by decide +kernel
theorem dX9_moves_97 : decode cX9_moves 97 = .ok (.iadd, 1) := by decide +kernel
theorem dX9_moves_98 : decode cX9_moves 98 = .ok (.iload_n 2, 1) := by decide +kernel
theorem dX9_moves_99 : decode cX9_moves 99 = .ok (.iastore, 1) := by decide +kernel
theorem dX9_moves_100 : decode cX9_moves 100 = .ok (.aload_n 0, 1) := by decide +kernel
theorem dX9_moves_101 : decode cX9_moves 101 = .ok (.getfield 74, 3) := by decide +kernel
theorem dX9_moves_104 : decode cX9_moves 104 = .ok (.iconst 2, 1) := by decide +kernel
theorem dX9_moves_105 : decode cX9_moves 105 = .ok (.dup2, 1) := by decide +kernel
theorem dX9_moves_106 : decode cX9_moves 106 = .ok (.iaload, 1) := by decide +kernel
theorem dX9_moves_107 : decode cX9_moves 107 = .ok (.iconst 1, 1) := by decide +kernel
theorem dX9_moves_108 : decode cX9_moves 108 = .ok (.iadd, 1) := by decide +kernel
theorem dX9_moves_109 : decode cX9_moves 109 = .ok (.iastore, 1) := by decide +kernel
theorem dX9_moves_110 : decode cX9_moves 110 = .ok (.aload_n 0, 1) := by decide +kernel
theorem dX9_moves_111 : decode cX9_moves 111 = .ok (.getfield 74, 3) := by decide +kernel
theorem dX9_moves_114 : decode cX9_moves 114 = .ok (.iconst 2, 1) := by decide +kernel
theorem dX9_moves_115 : decode cX9_moves 115 = .ok (.iaload, 1) := by decide +kernel
theorem dX9_moves_116 : decode cX9_moves 116 = .ok (.iconst 1, 1) := by decide +kernel
theorem dX9_moves_117 : decode cX9_moves 117 = .ok (.isub, 1) := by decide +kernel
theorem dX9_moves_118 : decode cX9_moves 118 = .ok (.ireturn, 1) := by decide +kernel
theorem dX9_isSpan_0 : decode cX9_isSpan 0 = .ok (.iload_n 0, 1) := by decide +kernel
theorem dX9_isSpan_1 : decode cX9_isSpan 1 = .ok (.invokestatic 203, 3) := by decide +kernel
theorem dX9_isSpan_4 : decode cX9_isSpan 4 = .ok (.ifCond .eq 19, 3) := by decide +kernel
theorem dX9_isSpan_7 : decode cX9_isSpan 7 = .ok (.iload_n 1, 1) := by decide +kernel
theorem dX9_isSpan_8 : decode cX9_isSpan 8 = .ok (.invokestatic 203, 3) := by decide +kernel
theorem dX9_isSpan_11 : decode cX9_isSpan 11 = .ok (.ifCond .eq 12, 3) := by decide +kernel
theorem dX9_isSpan_14 : decode cX9_isSpan 14 = .ok (.iload_n 0, 1) := by decide +kernel
theorem dX9_isSpan_15 : decode cX9_isSpan 15 = .ok (.iload_n 1, 1) := by decide +kernel
theorem dX9_isSpan_16 : decode cX9_isSpan 16 = .ok (.if_icmp .gt 7, 3) := by decide +kernel
theorem dX9_isSpan_19 : decode cX9_isSpan 19 = .ok (.iconst 1, 1) := by decide +kernel
theorem dX9_isSpan_20 : decode cX9_isSpan 20 = .ok (.goto 4, 3) := by decide +kernel
theorem dX9_isSpan_23 : decode cX9_isSpan 23 = .ok (.iconst 0, 1) := by decide +kernel
theorem dX9_isSpan_24 : decode cX9_isSpan 24 = .ok (.ireturn, 1) := by decide +kernel
theorem dX9_leg__0 : decode cX9_leg_ 0 = .ok (.aload_n 0, 1) := by decide +kernel
theorem dX9_leg__1 : decode cX9_leg_ 1 = .ok (.iconst 0, 1) := by decide +kernel
theorem dX9_leg__2 : decode cX9_leg_ 2 = .ok (.putfield 1, 3) := by decide +kernel
theorem dX9_leg__5 : decode cX9_leg_ 5 = .ok (.aload_n 0, 1) := by decide +kernel
theorem dX9_leg__6 : decode cX9_leg_ 6 = .ok (.iload_n 1, 1) := by decide +kernel
theorem dX9_leg__7 : decode cX9_leg_ 7 = .ok (.invokevirtual 194, 3) := by decide +kernel
theorem dX9_leg__10 : decode cX9_leg_ 10 = .ok (.ifCond .eq 39, 3) := by decide +kernel
theorem dX9_leg__13 : decode cX9_leg_ 13 = .ok (.iload_n 2, 1) := by decide +kernel
theorem dX9_leg__14 : decode cX9_leg_ 14 = .ok (.iconst 0, 1) := by decide +kernel
theorem dX9_leg__15 : decode cX9_leg_ 15 = .ok (.iconst 1, 1) := by decide +kernel
theorem dX9_leg__16 : decode cX9_leg_ 16 = .ok (.invokestatic 92, 3) := by decide +kernel
theorem dX9_leg__19 : decode cX9_leg_ 19 = .ok (.ifCond .eq 30, 3) := by decide +kernel
theorem dX9_leg__22 : decode cX9_leg_ 22 = .ok (.aload_n 0, 1) := by decide +kernel
theorem dX9_leg__23 : decode cX9_leg_ 23 = .ok (.iload_n 1, 1) := by decide +kernel
theorem dX9_leg__24 : decode cX9_leg_ 24 = .ok (.iload_n 2, 1) := by decide +kernel
theorem dX9_leg__25 : decode cX9_leg_ 25 = .ok (.invokevirtual 160, 3) := by decide +kernel
theorem dX9_leg__28 : decode cX9_leg_ 28 = .ok (.ifCond .ne 21, 3) := by decide +kernel
theorem dX9_leg__31 : decode cX9_leg_ 31 = .ok (.aload_n 0, 1) := by decide +kernel
theorem dX9_leg__32 : decode cX9_leg_ 32 = .ok (.iload_n 3, 1) := by decide +kernel
theorem dX9_leg__33 : decode cX9_leg_ 33 = .ok (.invokevirtual 200, 3) := by decide +kernel
theorem dX9_leg__36 : decode cX9_leg_ 36 = .ok (.ifCond .eq 13, 3) := by decide +kernel
theorem dX9_leg__39 : decode cX9_leg_ 39 = .ok (.iload 4, 2) := by decide +kernel
theorem dX9_leg__41 : decode cX9_leg_ 41 = .ok (.iload 5, 2) := by decide +kernel
theorem dX9_leg__43 : decode cX9_leg_ 43 = .ok (.invokestatic 248, 3) := by decide +kernel
theorem dX9_leg__46 : decode cX9_leg_ 46 = .ok (.ifCond .ne 5, 3) := by decide +kernel
theorem dX9_leg__49 : decode cX9_leg_ 49 = .ok (.iconst 0, 1) := by decide +kernel
theorem dX9_leg__50 : decode cX9_leg_ 50 = .ok (.ireturn, 1) := by decide +kernel
theorem dX9_leg__51 : decode cX9_leg_ 51 = .ok (.aload_n 0, 1) := by decide +kernel
theorem dX9_leg__52 : decode cX9_leg_ 52 = .ok (.invokevirtual 245, 3) := by decide +kernel
theorem dX9_leg__55 : decode cX9_leg_ 55 = .ok (.bipush 45, 2) := by decide +kernel
theorem dX9_leg__57 : decode cX9_leg_ 57 = .ok (.bipush 10, 2) := by decide +kernel
theorem dX9_leg__59 : decode cX9_leg_ 59 = .ok (.iload_n 1, 1) := by decide +kernel
theorem dX9_leg__60 : decode cX9_leg_ 60 = .ok (.imul, 1) := by decide +kernel
theorem dX9_leg__61 : decode cX9_leg_ 61 = .ok (.iadd, 1) := by decide +kernel
theorem dX9_leg__62 : decode cX9_leg_ 62 = .ok (.iconst 2, 1) := by decide +kernel
theorem dX9_leg__63 : decode cX9_leg_ 63 = .ok (.iadd, 1) := by decide +kernel
theorem dX9_leg__64 : decode cX9_leg_ 64 = .ok (.iconst 4, 1) := by decide +kernel
theorem dX9_leg__65 : decode cX9_leg_ 65 = .ok (.iload_n 2, 1) := by decide +kernel
theorem dX9_leg__66 : decode cX9_leg_ 66 = .ok (.imul, 1) := by decide +kernel
theorem dX9_leg__67 : decode cX9_leg_ 67 = .ok (.iadd, 1) := by decide +kernel
theorem dX9_leg__68 : decode cX9_leg_ 68 = .ok (.istore 6, 2) := by decide +kernel
theorem dX9_leg__70 : decode cX9_leg_ 70 = .ok (.aload_n 0, 1) := by decide +kernel
theorem dX9_leg__71 : decode cX9_leg_ 71 = .ok (.getfield 74, 3) := by decide +kernel
theorem dX9_leg__74 : decode cX9_leg_ 74 = .ok (.iload 6, 2) := by decide +kernel
theorem dX9_leg__76 : decode cX9_leg_ 76 = .ok (.iconst 0, 1) := by decide +kernel
theorem dX9_leg__77 : decode cX9_leg_ 77 = .ok (.iadd, 1) := by decide +kernel
theorem dX9_leg__78 : decode cX9_leg_ 78 = .ok (.iconst 1, 1) := by decide +kernel
theorem dX9_leg__79 : decode cX9_leg_ 79 = .ok (.iastore, 1) := by decide +kernel
theorem dX9_leg__80 : decode cX9_leg_ 80 = .ok (.aload_n 0, 1) := by decide +kernel
theorem dX9_leg__81 : decode cX9_leg_ 81 = .ok (.getfield 74, 3) := by decide +kernel
theorem dX9_leg__84 : decode cX9_leg_ 84 = .ok (.iload 6, 2) := by decide +kernel
theorem dX9_leg__86 : decode cX9_leg_ 86 = .ok (.iconst 1, 1) := by decide +kernel
theorem dX9_leg__87 : decode cX9_leg_ 87 = .ok (.iadd, 1) := by decide +kernel
theorem dX9_leg__88 : decode cX9_leg_ 88 = .ok (.iload_n 3, 1) := by decide +kernel
theorem dX9_leg__89 : decode cX9_leg_ 89 = .ok (.iastore, 1) := by decide +kernel
theorem dX9_leg__90 : decode cX9_leg_ 90 = .ok (.aload_n 0, 1) := by decide +kernel
theorem dX9_leg__91 : decode cX9_leg_ 91 = .ok (.getfield 74, 3) := by decide +kernel
theorem dX9_leg__94 : decode cX9_leg_ 94 = .ok (.iload 6, 2) := by decide +kernel
theorem dX9_leg__96 : decode cX9_leg_ 96 = .ok (.iconst 2, 1) := by decide +kernel
theorem dX9_leg__97 : decode cX9_leg_ 97 = .ok (.iadd, 1) := by decide +kernel
theorem dX9_leg__98 : decode cX9_leg_ 98 = .ok (.iload 4, 2) := by decide +kernel
theorem dX9_leg__100 : decode cX9_leg_ 100 = .ok (.iastore, 1) := by decide +kernel
theorem dX9_leg__101 : decode cX9_leg_ 101 = .ok (.aload_n 0, 1) := by decide +kernel
theorem dX9_leg__102 : decode cX9_leg_ 102 = .ok (.getfield 74, 3) := by decide +kernel
theorem dX9_leg__105 : decode cX9_leg_ 105 = .ok (.iload 6, 2) := by decide +kernel
theorem dX9_leg__107 : decode cX9_leg_ 107 = .ok (.iconst 3, 1) := by decide +kernel
theorem dX9_leg__108 : decode cX9_leg_ 108 = .ok (.iadd, 1) := by decide +kernel
theorem dX9_leg__109 : decode cX9_leg_ 109 = .ok (.iload 5, 2) := by decide +kernel
theorem dX9_leg__111 : decode cX9_leg_ 111 = .ok (.iastore, 1) := by decide +kernel
theorem dX9_leg__112 : decode cX9_leg_ 112 = .ok (.iconst 1, 1) := by decide +kernel
theorem dX9_leg__113 : decode cX9_leg_ 113 = .ok (.ireturn, 1) := by decide +kernel
theorem dX9_narrow_0 : decode cX9_narrow 0 = .ok (.aload_n 0, 1) := by decide +kernel
theorem dX9_narrow_1 : decode cX9_narrow 1 = .ok (.iconst 0, 1) := by decide +kernel
theorem dX9_narrow_2 : decode cX9_narrow 2 = .ok (.putfield 1, 3) := by decide +kernel
theorem dX9_narrow_5 : decode cX9_narrow 5 = .ok (.aload_n 0, 1) := by decide +kernel
theorem dX9_narrow_6 : decode cX9_narrow 6 = .ok (.iload_n 1, 1) := by decide +kernel
theorem dX9_narrow_7 : decode cX9_narrow 7 = .ok (.invokevirtual 194, 3) := by decide +kernel
theorem dX9_narrow_10 : decode cX9_narrow 10 = .ok (.ifCond .eq 53, 3) := by decide +kernel
theorem dX9_narrow_13 : decode cX9_narrow 13 = .ok (.iload_n 2, 1) := by decide +kernel
theorem dX9_narrow_14 : decode cX9_narrow 14 = .ok (.iconst 0, 1) := by decide +kernel
theorem dX9_narrow_15 : decode cX9_narrow 15 = .ok (.iconst 1, 1) := by decide +kernel
theorem dX9_narrow_16 : decode cX9_narrow 16 = .ok (.invokestatic 92, 3) := by decide +kernel
theorem dX9_narrow_19 : decode cX9_narrow 19 = .ok (.ifCond .eq 44, 3) := by decide +kernel
theorem dX9_narrow_22 : decode cX9_narrow 22 = .ok (.aload_n 0, 1) := by decide +kernel
theorem dX9_narrow_23 : decode cX9_narrow 23 = .ok (.iload_n 1, 1) := by decide +kernel
theorem dX9_narrow_24 : decode cX9_narrow 24 = .ok (.iload_n 2, 1) := by decide +kernel
theorem dX9_narrow_25 : decode cX9_narrow 25 = .ok (.invokevirtual 160, 3) := by decide +kernel
theorem dX9_narrow_28 : decode cX9_narrow 28 = .ok (.ifCond .eq 35, 3) := by decide +kernel
theorem dX9_narrow_31 : decode cX9_narrow 31 = .ok (.iload_n 3, 1) := by decide +kernel
theorem dX9_narrow_32 : decode cX9_narrow 32 = .ok (.iload 4, 2) := by decide +kernel
theorem dX9_narrow_34 : decode cX9_narrow 34 = .ok (.invokestatic 248, 3) := by decide +kernel
theorem dX9_narrow_37 : decode cX9_narrow 37 = .ok (.ifCond .eq 26, 3) := by decide +kernel
theorem dX9_narrow_40 : decode cX9_narrow 40 = .ok (.iload_n 3, 1) := by decide +kernel
theorem dX9_narrow_41 : decode cX9_narrow 41 = .ok (.aload_n 0, 1) := by decide +kernel
theorem dX9_narrow_42 : decode cX9_narrow 42 = .ok (.iload_n 1, 1) := by decide +kernel
theorem dX9_narrow_43 : decode cX9_narrow 43 = .ok (.iload_n 2, 1) := by decide +kernel
theorem dX9_narrow_44 : decode cX9_narrow 44 = .ok (.iconst 2, 1) := by decide +kernel
theorem dX9_narrow_45 : decode cX9_narrow 45 = .ok (.invokevirtual 156, 3) := by decide +kernel
theorem dX9_narrow_48 : decode cX9_narrow 48 = .ok (.if_icmp .lt 15, 3) := by decide +kernel
theorem dX9_narrow_51 : decode cX9_narrow 51 = .ok (.iload 4, 2) := by decide +kernel
theorem dX9_narrow_53 : decode cX9_narrow 53 = .ok (.aload_n 0, 1) := by decide +kernel
theorem dX9_narrow_54 : decode cX9_narrow 54 = .ok (.iload_n 1, 1) := by decide +kernel
theorem dX9_narrow_55 : decode cX9_narrow 55 = .ok (.iload_n 2, 1) := by decide +kernel
theorem dX9_narrow_56 : decode cX9_narrow 56 = .ok (.iconst 3, 1) := by decide +kernel
theorem dX9_narrow_57 : decode cX9_narrow 57 = .ok (.invokevirtual 156, 3) := by decide +kernel
theorem dX9_narrow_60 : decode cX9_narrow 60 = .ok (.if_icmp .le 5, 3) := by decide +kernel
theorem dX9_narrow_63 : decode cX9_narrow 63 = .ok (.iconst (-1), 1) := by decide +kernel
theorem dX9_narrow_64 : decode cX9_narrow 64 = .ok (.ireturn, 1) := by decide +kernel
theorem dX9_narrow_65 : decode cX9_narrow 65 = .ok (.aload_n 0, 1) := by decide +kernel
theorem dX9_narrow_66 : decode cX9_narrow 66 = .ok (.invokevirtual 245, 3) := by decide +kernel
theorem dX9_narrow_69 : decode cX9_narrow 69 = .ok (.bipush 45, 2) := by decide +kernel
theorem dX9_narrow_71 : decode cX9_narrow 71 = .ok (.bipush 10, 2) := by decide +kernel
theorem dX9_narrow_73 : decode cX9_narrow 73 = .ok (.iload_n 1, 1) := by decide +kernel
theorem dX9_narrow_74 : decode cX9_narrow 74 = .ok (.imul, 1) := by decide +kernel
theorem dX9_narrow_75 : decode cX9_narrow 75 = .ok (.iadd, 1) := by decide +kernel
theorem dX9_narrow_76 : decode cX9_narrow 76 = .ok (.iconst 2, 1) := by decide +kernel
theorem dX9_narrow_77 : decode cX9_narrow 77 = .ok (.iadd, 1) := by decide +kernel
theorem dX9_narrow_78 : decode cX9_narrow 78 = .ok (.iconst 4, 1) := by decide +kernel
theorem dX9_narrow_79 : decode cX9_narrow 79 = .ok (.iload_n 2, 1) := by decide +kernel
theorem dX9_narrow_80 : decode cX9_narrow 80 = .ok (.imul, 1) := by decide +kernel
theorem dX9_narrow_81 : decode cX9_narrow 81 = .ok (.iadd, 1) := by decide +kernel
theorem dX9_narrow_82 : decode cX9_narrow 82 = .ok (.istore 5, 2) := by decide +kernel
theorem dX9_narrow_84 : decode cX9_narrow 84 = .ok (.aload_n 0, 1) := by decide +kernel
theorem dX9_narrow_85 : decode cX9_narrow 85 = .ok (.getfield 74, 3) := by decide +kernel
theorem dX9_narrow_88 : decode cX9_narrow 88 = .ok (.iload 5, 2) := by decide +kernel
theorem dX9_narrow_90 : decode cX9_narrow 90 = .ok (.iconst 3, 1) := by decide +kernel
theorem dX9_narrow_91 : decode cX9_narrow 91 = .ok (.iadd, 1) := by decide +kernel
theorem dX9_narrow_92 : decode cX9_narrow 92 = .ok (.iaload, 1) := by decide +kernel
theorem dX9_narrow_93 : decode cX9_narrow 93 = .ok (.aload_n 0, 1) := by decide +kernel
theorem dX9_narrow_94 : decode cX9_narrow 94 = .ok (.getfield 74, 3) := by decide +kernel
theorem dX9_narrow_97 : decode cX9_narrow 97 = .ok (.iload 5, 2) := by decide +kernel
theorem dX9_narrow_99 : decode cX9_narrow 99 = .ok (.iconst 2, 1) := by decide +kernel
theorem dX9_narrow_100 : decode cX9_narrow 100 = .ok (.iadd, 1) := by decide +kernel
theorem dX9_narrow_101 : decode cX9_narrow 101 = .ok (.iaload, 1) := by decide +kernel
theorem dX9_narrow_102 : decode cX9_narrow 102 = .ok (.isub, 1) := by decide +kernel
theorem dX9_narrow_103 : decode cX9_narrow 103 = .ok (.iload 4, 2) := by decide +kernel
theorem dX9_narrow_105 : decode cX9_narrow 105 = .ok (.isub, 1) := by decide +kernel
theorem dX9_narrow_106 : decode cX9_narrow 106 = .ok (.iload_n 3, 1) := by decide +kernel
theorem dX9_narrow_107 : decode cX9_narrow 107 = .ok (.iadd, 1) := by decide +kernel
theorem dX9_narrow_108 : decode cX9_narrow 108 = .ok (.istore 6, 2) := by decide +kernel
theorem dX9_narrow_110 : decode cX9_narrow 110 = .ok (.aload_n 0, 1) := by decide +kernel
theorem dX9_narrow_111 : decode cX9_narrow 111 = .ok (.getfield 74, 3) := by decide +kernel
theorem dX9_narrow_114 : decode cX9_narrow 114 = .ok (.iload 5, 2) := by decide +kernel
theorem dX9_narrow_116 : decode cX9_narrow 116 = .ok (.iconst 2, 1) := by decide +kernel
theorem dX9_narrow_117 : decode cX9_narrow 117 = .ok (.iadd, 1) := by decide +kernel
theorem dX9_narrow_118 : decode cX9_narrow 118 = .ok (.iload_n 3, 1) := by decide +kernel
theorem dX9_narrow_119 : decode cX9_narrow 119 = .ok (.iastore, 1) := by decide +kernel
theorem dX9_narrow_120 : decode cX9_narrow 120 = .ok (.aload_n 0, 1) := by decide +kernel
theorem dX9_narrow_121 : decode cX9_narrow 121 = .ok (.getfield 74, 3) := by decide +kernel
theorem dX9_narrow_124 : decode cX9_narrow 124 = .ok (.iload 5, 2) := by decide +kernel
theorem dX9_narrow_126 : decode cX9_narrow 126 = .ok (.iconst 3, 1) := by decide +kernel
theorem dX9_narrow_127 : decode cX9_narrow 127 = .ok (.iadd, 1) := by decide +kernel
theorem dX9_narrow_128 : decode cX9_narrow 128 = .ok (.iload 4, 2) := by decide +kernel
theorem dX9_narrow_130 : decode cX9_narrow 130 = .ok (.iastore, 1) := by decide +kernel
theorem dX9_narrow_131 : decode cX9_narrow 131 = .ok (.iload 6, 2) := by decide +kernel
theorem dX9_narrow_133 : decode cX9_narrow 133 = .ok (.ireturn, 1) := by decide +kernel
theorem dX9_whyNot_0 : decode cX9_whyNot 0 = .ok (.iconst (-1), 1) := by decide +kernel
theorem dX9_whyNot_1 : decode cX9_whyNot 1 = .ok (.istore 5, 2) := by decide +kernel
theorem dX9_whyNot_3 : decode cX9_whyNot 3 = .ok (.iconst 0, 1) := by decide +kernel
theorem dX9_whyNot_4 : decode cX9_whyNot 4 = .ok (.istore 6, 2) := by decide +kernel
theorem dX9_whyNot_6 : decode cX9_whyNot 6 = .ok (.iconst 0, 1) := by decide +kernel
theorem dX9_whyNot_7 : decode cX9_whyNot 7 = .ok (.istore 7, 2) := by decide +kernel
theorem dX9_whyNot_9 : decode cX9_whyNot 9 = .ok (.iload 7, 2) := by decide +kernel
theorem dX9_whyNot_11 : decode cX9_whyNot 11 = .ok (.aload_n 0, 1) := by decide +kernel
theorem dX9_whyNot_12 : decode cX9_whyNot 12 = .ok (.getfield 74, 3) := by decide +kernel
theorem dX9_whyNot_15 : decode cX9_whyNot 15 = .ok (.iconst 3, 1) := by decide +kernel
theorem dX9_whyNot_16 : decode cX9_whyNot 16 = .ok (.iaload, 1) := by decide +kernel
theorem dX9_whyNot_17 : decode cX9_whyNot 17 = .ok (.if_icmp .ge 123, 3) := by decide +kernel
theorem dX9_whyNot_20 : decode cX9_whyNot 20 = .ok (.aload_n 0, 1) := by decide +kernel
theorem dX9_whyNot_21 : decode cX9_whyNot 21 = .ok (.iload 7, 2) := by decide +kernel
theorem dX9_whyNot_23 : decode cX9_whyNot 23 = .ok (.iconst 0, 1) := by decide +kernel
theorem dX9_whyNot_24 : decode cX9_whyNot 24 = .ok (.invokevirtual 213, 3) := by decide +kernel
theorem dX9_whyNot_27 : decode cX9_whyNot 27 = .ok (.iload_n 1, 1) := by decide +kernel
theorem dX9_whyNot_28 : decode cX9_whyNot 28 = .ok (.if_icmp .ne 106, 3) := by decide +kernel
theorem dX9_whyNot_31 : decode cX9_whyNot 31 = .ok (.aload_n 0, 1) := by decide +kernel
theorem dX9_whyNot_32 : decode cX9_whyNot 32 = .ok (.iload 7, 2) := by decide +kernel
theorem dX9_whyNot_34 : decode cX9_whyNot 34 = .ok (.iconst 1, 1) := by decide +kernel
theorem dX9_whyNot_35 : decode cX9_whyNot 35 = .ok (.invokevirtual 213, 3) := by decide +kernel
theorem dX9_whyNot_38 : decode cX9_whyNot 38 = .ok (.iload_n 2, 1) := by decide +kernel
theorem dX9_whyNot_39 : decode cX9_whyNot 39 = .ok (.if_icmp .eq 6, 3) := by decide +kernel
theorem dX9_whyNot_42 : decode cX9_whyNot 42 = .ok (.goto 92, 3) := by decide +kernel
theorem dX9_whyNot_45 : decode cX9_whyNot 45 = .ok (.aload_n 0, 1) := by decide +kernel
theorem dX9_whyNot_46 : decode cX9_whyNot 46 = .ok (.iload 7, 2) := by decide +kernel
theorem dX9_whyNot_48 : decode cX9_whyNot 48 = .ok (.iconst 2, 1) := by decide +kernel
theorem dX9_whyNot_49 : decode cX9_whyNot 49 = .ok (.invokevirtual 213, 3) := by decide +kernel
theorem dX9_whyNot_52 : decode cX9_whyNot 52 = .ok (.iload_n 3, 1) := by decide +kernel
theorem dX9_whyNot_53 : decode cX9_whyNot 53 = .ok (.if_icmp .ne 6, 3) := by decide +kernel
theorem dX9_whyNot_56 : decode cX9_whyNot 56 = .ok (.bipush (-2), 2) := by decide +kernel
theorem dX9_whyNot_58 : decode cX9_whyNot 58 = .ok (.ireturn, 1) := by decide +kernel
theorem dX9_whyNot_59 : decode cX9_whyNot 59 = .ok (.aload_n 0, 1) := by decide +kernel
theorem dX9_whyNot_60 : decode cX9_whyNot 60 = .ok (.iload 7, 2) := by decide +kernel
theorem dX9_whyNot_62 : decode cX9_whyNot 62 = .ok (.iconst 5, 1) := by decide +kernel
theorem dX9_whyNot_63 : decode cX9_whyNot 63 = .ok (.invokevirtual 213, 3) := by decide +kernel
theorem dX9_whyNot_66 : decode cX9_whyNot 66 = .ok (.iconst 1, 1) := by decide +kernel
theorem dX9_whyNot_67 : decode cX9_whyNot 67 = .ok (.if_icmp .ne 29, 3) := by decide +kernel
theorem dX9_whyNot_70 : decode cX9_whyNot 70 = .ok (.iload 6, 2) := by decide +kernel
theorem dX9_whyNot_72 : decode cX9_whyNot 72 = .ok (.ifCond .ne 14, 3) := by decide +kernel
theorem dX9_whyNot_75 : decode cX9_whyNot 75 = .ok (.aload_n 0, 1) := by decide +kernel
theorem dX9_whyNot_76 : decode cX9_whyNot 76 = .ok (.iload 7, 2) := by decide +kernel
theorem dX9_whyNot_78 : decode cX9_whyNot 78 = .ok (.iconst 2, 1) := by decide +kernel
theorem dX9_whyNot_79 : decode cX9_whyNot 79 = .ok (.invokevirtual 213, 3) := by decide +kernel
theorem dX9_whyNot_82 : decode cX9_whyNot 82 = .ok (.iload_n 3, 1) := by decide +kernel
theorem dX9_whyNot_83 : decode cX9_whyNot 83 = .ok (.if_icmp .le 7, 3) := by decide +kernel
theorem dX9_whyNot_86 : decode cX9_whyNot 86 = .ok (.iconst 1, 1) := by decide +kernel
theorem dX9_whyNot_87 : decode cX9_whyNot 87 = .ok (.goto 4, 3) := by decide +kernel
theorem dX9_whyNot_90 : decode cX9_whyNot 90 = .ok (.iconst 0, 1) := by decide +kernel
theorem dX9_whyNot_91 : decode cX9_whyNot 91 = .ok (.istore 6, 2) := by decide +kernel
theorem dX9_whyNot_93 : decode cX9_whyNot 93 = .ok (.goto 41, 3) := by decide +kernel
theorem dX9_whyNot_96 : decode cX9_whyNot 96 = .ok (.aload_n 0, 1) := by decide +kernel
theorem dX9_whyNot_97 : decode cX9_whyNot 97 = .ok (.iload 7, 2) := by decide +kernel
theorem dX9_whyNot_99 : decode cX9_whyNot 99 = .ok (.iconst 2, 1) := by decide +kernel
theorem dX9_whyNot_100 : decode cX9_whyNot 100 = .ok (.invokevirtual 213, 3) := by decide +kernel
theorem dX9_whyNot_103 : decode cX9_whyNot 103 = .ok (.iload_n 3, 1) := by decide +kernel
theorem dX9_whyNot_104 : decode cX9_whyNot 104 = .ok (.if_icmp .ge 30, 3) := by decide +kernel
theorem dX9_whyNot_107 : decode cX9_whyNot 107 = .ok (.iload 5, 2) := by decide +kernel
theorem dX9_whyNot_109 : decode cX9_whyNot 109 = .ok (.iconst (-1), 1) := by decide +kernel
theorem dX9_whyNot_110 : decode cX9_whyNot 110 = .ok (.if_icmp .eq 20, 3) := by decide +kernel
theorem dX9_whyNot_113 : decode cX9_whyNot 113 = .ok (.aload_n 0, 1) := by decide +kernel
theorem dX9_whyNot_114 : decode cX9_whyNot 114 = .ok (.iload 7, 2) := by decide +kernel
theorem dX9_whyNot_116 : decode cX9_whyNot 116 = .ok (.iconst 2, 1) := by decide +kernel
theorem dX9_whyNot_117 : decode cX9_whyNot 117 = .ok (.invokevirtual 213, 3) := by decide +kernel
theorem dX9_whyNot_120 : decode cX9_whyNot 120 = .ok (.aload_n 0, 1) := by decide +kernel
theorem dX9_whyNot_121 : decode cX9_whyNot 121 = .ok (.iload 5, 2) := by decide +kernel
theorem dX9_whyNot_123 : decode cX9_whyNot 123 = .ok (.iconst 2, 1) := by decide +kernel
theorem dX9_whyNot_124 : decode cX9_whyNot 124 = .ok (.invokevirtual 213, 3) := by decide +kernel
theorem dX9_whyNot_127 : decode cX9_whyNot 127 = .ok (.if_icmp .le 7, 3) := by decide +kernel
theorem dX9_whyNot_130 : decode cX9_whyNot 130 = .ok (.iload 7, 2) := by decide +kernel
theorem dX9_whyNot_132 : decode cX9_whyNot 132 = .ok (.istore 5, 2) := by decide +kernel
theorem dX9_whyNot_134 : decode cX9_whyNot 134 = .ok (.iinc 7 1, 3) := by decide +kernel
theorem dX9_whyNot_137 : decode cX9_whyNot 137 = .ok (.goto (-128), 3) := by decide +kernel
theorem dX9_whyNot_140 : decode cX9_whyNot 140 = .ok (.iload 5, 2) := by decide +kernel
theorem dX9_whyNot_142 : decode cX9_whyNot 142 = .ok (.iconst (-1), 1) := by decide +kernel
theorem dX9_whyNot_143 : decode cX9_whyNot 143 = .ok (.if_icmp .eq 18, 3) := by decide +kernel
theorem dX9_whyNot_146 : decode cX9_whyNot 146 = .ok (.aload_n 0, 1) := by decide +kernel
theorem dX9_whyNot_147 : decode cX9_whyNot 147 = .ok (.iload 5, 2) := by decide +kernel
theorem dX9_whyNot_149 : decode cX9_whyNot 149 = .ok (.iconst 4, 1) := by decide +kernel
theorem dX9_whyNot_150 : decode cX9_whyNot 150 = .ok (.invokevirtual 213, 3) := by decide +kernel
theorem dX9_whyNot_153 : decode cX9_whyNot 153 = .ok (.iload 4, 2) := by decide +kernel
theorem dX9_whyNot_155 : decode cX9_whyNot 155 = .ok (.if_icmp .ne 6, 3) := by decide +kernel
theorem dX9_whyNot_158 : decode cX9_whyNot 158 = .ok (.bipush (-3), 2) := by decide +kernel
theorem dX9_whyNot_160 : decode cX9_whyNot 160 = .ok (.ireturn, 1) := by decide +kernel
theorem dX9_whyNot_161 : decode cX9_whyNot 161 = .ok (.iload 6, 2) := by decide +kernel
theorem dX9_whyNot_163 : decode cX9_whyNot 163 = .ok (.ifCond .eq 6, 3) := by decide +kernel
theorem dX9_whyNot_166 : decode cX9_whyNot 166 = .ok (.bipush (-4), 2) := by decide +kernel
theorem dX9_whyNot_168 : decode cX9_whyNot 168 = .ok (.ireturn, 1) := by decide +kernel
theorem dX9_whyNot_169 : decode cX9_whyNot 169 = .ok (.aload_n 0, 1) := by decide +kernel
theorem dX9_whyNot_170 : decode cX9_whyNot 170 = .ok (.getfield 74, 3) := by decide +kernel
theorem dX9_whyNot_173 : decode cX9_whyNot 173 = .ok (.iconst 3, 1) := by decide +kernel
theorem dX9_whyNot_174 : decode cX9_whyNot 174 = .ok (.iaload, 1) := by decide +kernel
theorem dX9_whyNot_175 : decode cX9_whyNot 175 = .ok (.bipush 40, 2) := by decide +kernel
theorem dX9_whyNot_177 : decode cX9_whyNot 177 = .ok (.if_icmp .ne 8, 3) := by decide +kernel
theorem dX9_whyNot_180 : decode cX9_whyNot 180 = .ok (.bipush (-5), 2) := by decide +kernel
theorem dX9_whyNot_182 : decode cX9_whyNot 182 = .ok (.goto 4, 3) := by decide +kernel
theorem dX9_whyNot_185 : decode cX9_whyNot 185 = .ok (.iconst 0, 1) := by decide +kernel
theorem dX9_whyNot_186 : decode cX9_whyNot 186 = .ok (.ireturn, 1) := by decide +kernel
theorem dX9_counts_0 : decode cX9_counts 0 = .ok (.aload_n 0, 1) := by decide +kernel
theorem dX9_counts_1 : decode cX9_counts 1 = .ok (.iconst 0, 1) := by decide +kernel
theorem dX9_counts_2 : decode cX9_counts 2 = .ok (.putfield 1, 3) := by decide +kernel
theorem dX9_counts_5 : decode cX9_counts 5 = .ok (.aload_n 0, 1) := by decide +kernel
theorem dX9_counts_6 : decode cX9_counts 6 = .ok (.iload_n 1, 1) := by decide +kernel
theorem dX9_counts_7 : decode cX9_counts 7 = .ok (.invokevirtual 200, 3) := by decide +kernel
theorem dX9_counts_10 : decode cX9_counts 10 = .ok (.ifCond .eq 40, 3) := by decide +kernel
theorem dX9_counts_13 : decode cX9_counts 13 = .ok (.aload_n 0, 1) := by decide +kernel
theorem dX9_counts_14 : decode cX9_counts 14 = .ok (.iload_n 2, 1) := by decide +kernel
theorem dX9_counts_15 : decode cX9_counts 15 = .ok (.invokevirtual 191, 3) := by decide +kernel
theorem dX9_counts_18 : decode cX9_counts 18 = .ok (.ifCond .eq 32, 3) := by decide +kernel
theorem dX9_counts_21 : decode cX9_counts 21 = .ok (.iload_n 3, 1) := by decide +kernel
theorem dX9_counts_22 : decode cX9_counts 22 = .ok (.invokestatic 203, 3) := by decide +kernel
theorem dX9_counts_25 : decode cX9_counts 25 = .ok (.ifCond .eq 25, 3) := by decide +kernel
theorem dX9_counts_28 : decode cX9_counts 28 = .ok (.iload 4, 2) := by decide +kernel
theorem dX9_counts_30 : decode cX9_counts 30 = .ok (.iconst 0, 1) := by decide +kernel
theorem dX9_counts_31 : decode cX9_counts 31 = .ok (.sipush 9999, 3) := by decide +kernel
theorem dX9_counts_34 : decode cX9_counts 34 = .ok (.invokestatic 92, 3) := by decide +kernel
theorem dX9_counts_37 : decode cX9_counts 37 = .ok (.ifCond .eq 13, 3) := by decide +kernel
theorem dX9_counts_40 : decode cX9_counts 40 = .ok (.iload 5, 2) := by decide +kernel
theorem dX9_counts_42 : decode cX9_counts 42 = .ok (.iconst 0, 1) := by decide +kernel
theorem dX9_counts_43 : decode cX9_counts 43 = .ok (.iconst 3, 1) := by decide +kernel
theorem dX9_counts_44 : decode cX9_counts 44 = .ok (.invokestatic 92, 3) := by decide +kernel
theorem dX9_counts_47 : decode cX9_counts 47 = .ok (.ifCond .ne 5, 3) := by decide +kernel
theorem dX9_counts_50 : decode cX9_counts 50 = .ok (.iconst (-1), 1) := by decide +kernel
theorem dX9_counts_51 : decode cX9_counts 51 = .ok (.ireturn, 1) := by decide +kernel
theorem dX9_counts_52 : decode cX9_counts 52 = .ok (.aload_n 0, 1) := by decide +kernel
theorem dX9_counts_53 : decode cX9_counts 53 = .ok (.iload_n 1, 1) := by decide +kernel
theorem dX9_counts_54 : decode cX9_counts 54 = .ok (.iload_n 2, 1) := by decide +kernel
theorem dX9_counts_55 : decode cX9_counts 55 = .ok (.iload_n 3, 1) := by decide +kernel
theorem dX9_counts_56 : decode cX9_counts 56 = .ok (.iload 5, 2) := by decide +kernel
theorem dX9_counts_58 : decode cX9_counts 58 = .ok (.invokevirtual 251, 3) := by decide +kernel
theorem dX9_counts_61 : decode cX9_counts 61 = .ok (.istore 6, 2) := by decide +kernel
theorem dX9_counts_63 : decode cX9_counts 63 = .ok (.iload 6, 2) := by decide +kernel
theorem dX9_counts_65 : decode cX9_counts 65 = .ok (.ifCond .ge 6, 3) := by decide +kernel
theorem dX9_counts_68 : decode cX9_counts 68 = .ok (.iload 6, 2) := by decide +kernel
theorem dX9_counts_70 : decode cX9_counts 70 = .ok (.ireturn, 1) := by decide +kernel
theorem dX9_counts_71 : decode cX9_counts 71 = .ok (.aload_n 0, 1) := by decide +kernel
theorem dX9_counts_72 : decode cX9_counts 72 = .ok (.invokevirtual 245, 3) := by decide +kernel
theorem dX9_counts_75 : decode cX9_counts 75 = .ok (.sipush 445, 3) := by decide +kernel
theorem dX9_counts_78 : decode cX9_counts 78 = .ok (.bipush 6, 2) := by decide +kernel
theorem dX9_counts_80 : decode cX9_counts 80 = .ok (.aload_n 0, 1) := by decide +kernel
theorem dX9_counts_81 : decode cX9_counts 81 = .ok (.getfield 74, 3) := by decide +kernel
theorem dX9_counts_84 : decode cX9_counts 84 = .ok (.iconst 3, 1) := by decide +kernel
theorem dX9_counts_85 : decode cX9_counts 85 = .ok (.iaload, 1) := by decide +kernel
theorem dX9_counts_86 : decode cX9_counts 86 = .ok (.imul, 1) := by decide +kernel
theorem dX9_counts_87 : decode cX9_counts 87 = .ok (.iadd, 1) := by decide +kernel
theorem dX9_counts_88 : decode cX9_counts 88 = .ok (.istore 7, 2) := by decide +kernel
theorem dX9_counts_90 : decode cX9_counts 90 = .ok (.aload_n 0, 1) := by decide +kernel
theorem dX9_counts_91 : decode cX9_counts 91 = .ok (.getfield 74, 3) := by decide +kernel
theorem dX9_counts_94 : decode cX9_counts 94 = .ok (.iload 7, 2) := by decide +kernel
theorem dX9_counts_96 : decode cX9_counts 96 = .ok (.iconst 0, 1) := by decide +kernel
theorem dX9_counts_97 : decode cX9_counts 97 = .ok (.iadd, 1) := by decide +kernel
theorem dX9_counts_98 : decode cX9_counts 98 = .ok (.iload_n 1, 1) := by decide +kernel
theorem dX9_counts_99 : decode cX9_counts 99 = .ok (.iastore, 1) := by decide +kernel
theorem dX9_counts_100 : decode cX9_counts 100 = .ok (.aload_n 0, 1) := by decide +kernel
theorem dX9_counts_101 : decode cX9_counts 101 = .ok (.getfield 74, 3) := by decide +kernel
theorem dX9_counts_104 : decode cX9_counts 104 = .ok (.iload 7, 2) := by decide +kernel
theorem dX9_counts_106 : decode cX9_counts 106 = .ok (.iconst 1, 1) := by decide +kernel
theorem dX9_counts_107 : decode cX9_counts 107 = .ok (.iadd, 1) := by decide +kernel
theorem dX9_counts_108 : decode cX9_counts 108 = .ok (.iload_n 2, 1) := by decide +kernel
theorem dX9_counts_109 : decode cX9_counts 109 = .ok (.iastore, 1) := by decide +kernel
theorem dX9_counts_110 : decode cX9_counts 110 = .ok (.aload_n 0, 1) := by decide +kernel
theorem dX9_counts_111 : decode cX9_counts 111 = .ok (.getfield 74, 3) := by decide +kernel
theorem dX9_counts_114 : decode cX9_counts 114 = .ok (.iload 7, 2) := by decide +kernel
theorem dX9_counts_116 : decode cX9_counts 116 = .ok (.iconst 2, 1) := by decide +kernel
theorem dX9_counts_117 : decode cX9_counts 117 = .ok (.iadd, 1) := by decide +kernel
theorem dX9_counts_118 : decode cX9_counts 118 = .ok (.iload_n 3, 1) := by decide +kernel
theorem dX9_counts_119 : decode cX9_counts 119 = .ok (.iastore, 1) := by decide +kernel
theorem dX9_counts_120 : decode cX9_counts 120 = .ok (.aload_n 0, 1) := by decide +kernel
theorem dX9_counts_121 : decode cX9_counts 121 = .ok (.getfield 74, 3) := by decide +kernel
theorem dX9_counts_124 : decode cX9_counts 124 = .ok (.iload 7, 2) := by decide +kernel
theorem dX9_counts_126 : decode cX9_counts 126 = .ok (.iconst 3, 1) := by decide +kernel
theorem dX9_counts_127 : decode cX9_counts 127 = .ok (.iadd, 1) := by decide +kernel
theorem dX9_counts_128 : decode cX9_counts 128 = .ok (.iload 4, 2) := by decide +kernel
theorem dX9_counts_130 : decode cX9_counts 130 = .ok (.iastore, 1) := by decide +kernel
theorem dX9_counts_131 : decode cX9_counts 131 = .ok (.aload_n 0, 1) := by decide +kernel
theorem dX9_counts_132 : decode cX9_counts 132 = .ok (.getfield 74, 3) := by decide +kernel
theorem dX9_counts_135 : decode cX9_counts 135 = .ok (.iload 7, 2) := by decide +kernel
theorem dX9_counts_137 : decode cX9_counts 137 = .ok (.iconst 4, 1) := by decide +kernel
theorem dX9_counts_138 : decode cX9_counts 138 = .ok (.iadd, 1) := by decide +kernel
theorem dX9_counts_139 : decode cX9_counts 139 = .ok (.iload 5, 2) := by decide +kernel
theorem dX9_counts_141 : decode cX9_counts 141 = .ok (.iastore, 1) := by decide +kernel
theorem dX9_counts_142 : decode cX9_counts 142 = .ok (.aload_n 0, 1) := by decide +kernel
theorem dX9_counts_143 : decode cX9_counts 143 = .ok (.getfield 74, 3) := by decide +kernel
theorem dX9_counts_146 : decode cX9_counts 146 = .ok (.iload 7, 2) := by decide +kernel
theorem dX9_counts_148 : decode cX9_counts 148 = .ok (.iconst 5, 1) := by decide +kernel
theorem dX9_counts_149 : decode cX9_counts 149 = .ok (.iadd, 1) := by decide +kernel
theorem dX9_counts_150 : decode cX9_counts 150 = .ok (.iconst 0, 1) := by decide +kernel
theorem dX9_counts_151 : decode cX9_counts 151 = .ok (.iastore, 1) := by decide +kernel
theorem dX9_counts_152 : decode cX9_counts 152 = .ok (.aload_n 0, 1) := by decide +kernel
theorem dX9_counts_153 : decode cX9_counts 153 = .ok (.getfield 74, 3) := by decide +kernel
theorem dX9_counts_156 : decode cX9_counts 156 = .ok (.iconst 3, 1) := by decide +kernel
theorem dX9_counts_157 : decode cX9_counts 157 = .ok (.dup2, 1) := by decide +kernel
theorem dX9_counts_158 : decode cX9_counts 158 = .ok (.iaload, 1) := by decide +kernel
theorem dX9_counts_159 : decode cX9_counts 159 = .ok (.iconst 1, 1) := by decide +kernel
theorem dX9_counts_160 : decode cX9_counts 160 = .ok (.iadd, 1) := by decide +kernel
theorem dX9_counts_161 : decode cX9_counts 161 = .ok (.iastore, 1) := by decide +kernel
theorem dX9_counts_162 : decode cX9_counts 162 = .ok (.aload_n 0, 1) := by decide +kernel
theorem dX9_counts_163 : decode cX9_counts 163 = .ok (.getfield 74, 3) := by decide +kernel
theorem dX9_counts_166 : decode cX9_counts 166 = .ok (.iconst 3, 1) := by decide +kernel
theorem dX9_counts_167 : decode cX9_counts 167 = .ok (.iaload, 1) := by decide +kernel
theorem dX9_counts_168 : decode cX9_counts 168 = .ok (.iconst 1, 1) := by decide +kernel
theorem dX9_counts_169 : decode cX9_counts 169 = .ok (.isub, 1) := by decide +kernel
theorem dX9_counts_170 : decode cX9_counts 170 = .ok (.ireturn, 1) := by decide +kernel
theorem dX9_post_0 : decode cX9_post 0 = .ok (.aload_n 0, 1) := by decide +kernel
theorem dX9_post_1 : decode cX9_post 1 = .ok (.iconst 0, 1) := by decide +kernel
theorem dX9_post_2 : decode cX9_post 2 = .ok (.putfield 1, 3) := by decide +kernel
theorem dX9_post_5 : decode cX9_post 5 = .ok (.aload_n 0, 1) := by decide +kernel
theorem dX9_post_6 : decode cX9_post 6 = .ok (.iload_n 1, 1) := by decide +kernel
theorem dX9_post_7 : decode cX9_post 7 = .ok (.invokevirtual 200, 3) := by decide +kernel
theorem dX9_post_10 : decode cX9_post 10 = .ok (.ifCond .eq 20, 3) := by decide +kernel
theorem dX9_post_13 : decode cX9_post 13 = .ok (.aload_n 0, 1) := by decide +kernel
theorem dX9_post_14 : decode cX9_post 14 = .ok (.iload_n 2, 1) := by decide +kernel
theorem dX9_post_15 : decode cX9_post 15 = .ok (.invokevirtual 191, 3) := by decide +kernel
theorem dX9_post_18 : decode cX9_post 18 = .ok (.ifCond .eq 12, 3) := by decide +kernel
theorem dX9_post_21 : decode cX9_post 21 = .ok (.aload_n 0, 1) := by decide +kernel
theorem dX9_post_22 : decode cX9_post 22 = .ok (.iload_n 1, 1) := by decide +kernel
theorem dX9_post_23 : decode cX9_post 23 = .ok (.iload_n 2, 1) := by decide +kernel
theorem dX9_post_24 : decode cX9_post 24 = .ok (.invokevirtual 242, 3) := by decide +kernel
theorem dX9_post_27 : decode cX9_post 27 = .ok (.goto 4, 3) := by decide +kernel
theorem dX9_post_30 : decode cX9_post 30 = .ok (.iconst (-1), 1) := by decide +kernel
theorem dX9_post_31 : decode cX9_post 31 = .ok (.istore_n 3, 1) := by decide +kernel
theorem dX9_post_32 : decode cX9_post 32 = .ok (.iload_n 3, 1) := by decide +kernel
theorem dX9_post_33 : decode cX9_post 33 = .ok (.ifCond .ge 6, 3) := by decide +kernel
theorem dX9_post_36 : decode cX9_post 36 = .ok (.ldc 206, 2) := by decide +kernel
theorem dX9_post_38 : decode cX9_post 38 = .ok (.ireturn, 1) := by decide +kernel
theorem dX9_post_39 : decode cX9_post 39 = .ok (.aload_n 0, 1) := by decide +kernel
theorem dX9_post_40 : decode cX9_post 40 = .ok (.invokevirtual 245, 3) := by decide +kernel
theorem dX9_post_43 : decode cX9_post 43 = .ok (.aload_n 0, 1) := by decide +kernel
theorem dX9_post_44 : decode cX9_post 44 = .ok (.iload_n 3, 1) := by decide +kernel
theorem dX9_post_45 : decode cX9_post 45 = .ok (.invokevirtual 225, 3) := by decide +kernel
theorem dX9_post_48 : decode cX9_post 48 = .ok (.istore 4, 2) := by decide +kernel
theorem dX9_post_50 : decode cX9_post 50 = .ok (.sipush 685, 3) := by decide +kernel
theorem dX9_post_53 : decode cX9_post 53 = .ok (.iconst 4, 1) := by decide +kernel
theorem dX9_post_54 : decode cX9_post 54 = .ok (.aload_n 0, 1) := by decide +kernel
theorem dX9_post_55 : decode cX9_post 55 = .ok (.getfield 74, 3) := by decide +kernel
theorem dX9_post_58 : decode cX9_post 58 = .ok (.iconst 4, 1) := by decide +kernel
theorem dX9_post_59 : decode cX9_post 59 = .ok (.iaload, 1) := by decide +kernel
theorem dX9_post_60 : decode cX9_post 60 = .ok (.imul, 1) := by decide +kernel
theorem dX9_post_61 : decode cX9_post 61 = .ok (.iadd, 1) := by decide +kernel
theorem dX9_post_62 : decode cX9_post 62 = .ok (.istore 5, 2) := by decide +kernel
theorem dX9_post_64 : decode cX9_post 64 = .ok (.aload_n 0, 1) := by decide +kernel
theorem dX9_post_65 : decode cX9_post 65 = .ok (.getfield 74, 3) := by decide +kernel
theorem dX9_post_68 : decode cX9_post 68 = .ok (.iload 5, 2) := by decide +kernel
theorem dX9_post_70 : decode cX9_post 70 = .ok (.iload_n 1, 1) := by decide +kernel
theorem dX9_post_71 : decode cX9_post 71 = .ok (.iastore, 1) := by decide +kernel
theorem dX9_post_72 : decode cX9_post 72 = .ok (.aload_n 0, 1) := by decide +kernel
theorem dX9_post_73 : decode cX9_post 73 = .ok (.getfield 74, 3) := by decide +kernel
theorem dX9_post_76 : decode cX9_post 76 = .ok (.iload 5, 2) := by decide +kernel
theorem dX9_post_78 : decode cX9_post 78 = .ok (.iconst 1, 1) := by decide +kernel
theorem dX9_post_79 : decode cX9_post 79 = .ok (.iadd, 1) := by decide +kernel
theorem dX9_post_80 : decode cX9_post 80 = .ok (.iload_n 2, 1) := by decide +kernel
theorem dX9_post_81 : decode cX9_post 81 = .ok (.iastore, 1) := by decide +kernel
theorem dX9_post_82 : decode cX9_post 82 = .ok (.aload_n 0, 1) := by decide +kernel
theorem dX9_post_83 : decode cX9_post 83 = .ok (.getfield 74, 3) := by decide +kernel
theorem dX9_post_86 : decode cX9_post 86 = .ok (.iload 5, 2) := by decide +kernel
theorem dX9_post_88 : decode cX9_post 88 = .ok (.iconst 2, 1) := by decide +kernel
theorem dX9_post_89 : decode cX9_post 89 = .ok (.iadd, 1) := by decide +kernel
theorem dX9_post_90 : decode cX9_post 90 = .ok (.aload_n 0, 1) := by decide +kernel
theorem dX9_post_91 : decode cX9_post 91 = .ok (.iload_n 3, 1) := by decide +kernel
theorem dX9_post_92 : decode cX9_post 92 = .ok (.iconst 2, 1) := by decide +kernel
theorem dX9_post_93 : decode cX9_post 93 = .ok (.invokevirtual 213, 3) := by decide +kernel
theorem dX9_post_96 : decode cX9_post 96 = .ok (.iastore, 1) := by decide +kernel
theorem dX9_post_97 : decode cX9_post 97 = .ok (.aload_n 0, 1) := by decide +kernel
theorem dX9_post_98 : decode cX9_post 98 = .ok (.getfield 74, 3) := by decide +kernel
theorem dX9_post_101 : decode cX9_post 101 = .ok (.iload 5, 2) := by decide +kernel
theorem dX9_post_103 : decode cX9_post 103 = .ok (.iconst 3, 1) := by decide +kernel
theorem dX9_post_104 : decode cX9_post 104 = .ok (.iadd, 1) := by decide +kernel
theorem dX9_post_105 : decode cX9_post 105 = .ok (.iload 4, 2) := by decide +kernel
theorem dX9_post_107 : decode cX9_post 107 = .ok (.iastore, 1) := by decide +kernel
theorem dX9_post_108 : decode cX9_post 108 = .ok (.aload_n 0, 1) := by decide +kernel
theorem dX9_post_109 : decode cX9_post 109 = .ok (.getfield 74, 3) := by decide +kernel
theorem dX9_post_112 : decode cX9_post 112 = .ok (.iconst 4, 1) := by decide +kernel
theorem dX9_post_113 : decode cX9_post 113 = .ok (.dup2, 1) := by decide +kernel
theorem dX9_post_114 : decode cX9_post 114 = .ok (.iaload, 1) := by decide +kernel
theorem dX9_post_115 : decode cX9_post 115 = .ok (.iconst 1, 1) := by decide +kernel
theorem dX9_post_116 : decode cX9_post 116 = .ok (.iadd, 1) := by decide +kernel
theorem dX9_post_117 : decode cX9_post 117 = .ok (.iastore, 1) := by decide +kernel
theorem dX9_post_118 : decode cX9_post 118 = .ok (.iconst 0, 1) := by decide +kernel
theorem dX9_post_119 : decode cX9_post 119 = .ok (.istore 6, 2) := by decide +kernel
theorem dX9_post_121 : decode cX9_post 121 = .ok (.iload 6, 2) := by decide +kernel
theorem dX9_post_123 : decode cX9_post 123 = .ok (.aload_n 0, 1) := by decide +kernel
theorem dX9_post_124 : decode cX9_post 124 = .ok (.getfield 74, 3) := by decide +kernel
theorem dX9_post_127 : decode cX9_post 127 = .ok (.iconst 3, 1) := by decide +kernel
theorem dX9_post_128 : decode cX9_post 128 = .ok (.iaload, 1) := by decide +kernel
theorem dX9_post_129 : decode cX9_post 129 = .ok (.if_icmp .ge 53, 3) := by decide +kernel
theorem dX9_post_132 : decode cX9_post 132 = .ok (.aload_n 0, 1) := by decide +kernel
theorem dX9_post_133 : decode cX9_post 133 = .ok (.iload 6, 2) := by decide +kernel
theorem dX9_post_135 : decode cX9_post 135 = .ok (.iload_n 1, 1) := by decide +kernel
theorem dX9_post_136 : decode cX9_post 136 = .ok (.iload_n 2, 1) := by decide +kernel
theorem dX9_post_137 : decode cX9_post 137 = .ok (.invokevirtual 232, 3) := by decide +kernel
theorem dX9_post_140 : decode cX9_post 140 = .ok (.ifCond .eq 36, 3) := by decide +kernel
theorem dX9_post_143 : decode cX9_post 143 = .ok (.aload_n 0, 1) := by decide +kernel
theorem dX9_post_144 : decode cX9_post 144 = .ok (.iload 6, 2) := by decide +kernel
theorem dX9_post_146 : decode cX9_post 146 = .ok (.iconst 2, 1) := by decide +kernel
theorem dX9_post_147 : decode cX9_post 147 = .ok (.invokevirtual 213, 3) := by decide +kernel
theorem dX9_post_150 : decode cX9_post 150 = .ok (.aload_n 0, 1) := by decide +kernel
theorem dX9_post_151 : decode cX9_post 151 = .ok (.iload_n 3, 1) := by decide +kernel
theorem dX9_post_152 : decode cX9_post 152 = .ok (.iconst 2, 1) := by decide +kernel
theorem dX9_post_153 : decode cX9_post 153 = .ok (.invokevirtual 213, 3) := by decide +kernel
theorem dX9_post_156 : decode cX9_post 156 = .ok (.if_icmp .gt 20, 3) := by decide +kernel
theorem dX9_post_159 : decode cX9_post 159 = .ok (.aload_n 0, 1) := by decide +kernel
theorem dX9_post_160 : decode cX9_post 160 = .ok (.getfield 74, 3) := by decide +kernel
theorem dX9_post_163 : decode cX9_post 163 = .ok (.sipush 445, 3) := by decide +kernel
theorem dX9_post_166 : decode cX9_post 166 = .ok (.bipush 6, 2) := by decide +kernel
theorem dX9_post_168 : decode cX9_post 168 = .ok (.iload 6, 2) := by decide +kernel
theorem dX9_post_170 : decode cX9_post 170 = .ok (.imul, 1) := by decide +kernel
theorem dX9_post_171 : decode cX9_post 171 = .ok (.iadd, 1) := by decide +kernel
theorem dX9_post_172 : decode cX9_post 172 = .ok (.iconst 5, 1) := by decide +kernel
theorem dX9_post_173 : decode cX9_post 173 = .ok (.iadd, 1) := by decide +kernel
theorem dX9_post_174 : decode cX9_post 174 = .ok (.iconst 1, 1) := by decide +kernel
theorem dX9_post_175 : decode cX9_post 175 = .ok (.iastore, 1) := by decide +kernel
theorem dX9_post_176 : decode cX9_post 176 = .ok (.iinc 6 1, 3) := by decide +kernel
theorem dX9_post_179 : decode cX9_post 179 = .ok (.goto (-58), 3) := by decide +kernel
theorem dX9_post_182 : decode cX9_post 182 = .ok (.iload 4, 2) := by decide +kernel
theorem dX9_post_184 : decode cX9_post 184 = .ok (.ireturn, 1) := by decide +kernel
theorem dX9_drop_0 : decode cX9_drop 0 = .ok (.aload_n 0, 1) := by decide +kernel
theorem dX9_drop_1 : decode cX9_drop 1 = .ok (.iconst 0, 1) := by decide +kernel
theorem dX9_drop_2 : decode cX9_drop 2 = .ok (.putfield 1, 3) := by decide +kernel
theorem dX9_drop_5 : decode cX9_drop 5 = .ok (.aload_n 0, 1) := by decide +kernel
theorem dX9_drop_6 : decode cX9_drop 6 = .ok (.iload_n 1, 1) := by decide +kernel
theorem dX9_drop_7 : decode cX9_drop 7 = .ok (.invokevirtual 219, 3) := by decide +kernel
theorem dX9_drop_10 : decode cX9_drop 10 = .ok (.ifCond .eq 13, 3) := by decide +kernel
theorem dX9_drop_13 : decode cX9_drop 13 = .ok (.aload_n 0, 1) := by decide +kernel
theorem dX9_drop_14 : decode cX9_drop 14 = .ok (.iload_n 1, 1) := by decide +kernel
theorem dX9_drop_15 : decode cX9_drop 15 = .ok (.iconst 5, 1) := by decide +kernel
theorem dX9_drop_16 : decode cX9_drop 16 = .ok (.invokevirtual 213, 3) := by decide +kernel
theorem dX9_drop_19 : decode cX9_drop 19 = .ok (.iconst 1, 1) := by decide +kernel
theorem dX9_drop_20 : decode cX9_drop 20 = .ok (.if_icmp .ne 5, 3) := by decide +kernel
theorem dX9_drop_23 : decode cX9_drop 23 = .ok (.iconst 0, 1) := by decide +kernel
theorem dX9_drop_24 : decode cX9_drop 24 = .ok (.ireturn, 1) := by decide +kernel
theorem dX9_drop_25 : decode cX9_drop 25 = .ok (.aload_n 0, 1) := by decide +kernel
theorem dX9_drop_26 : decode cX9_drop 26 = .ok (.invokevirtual 245, 3) := by decide +kernel
theorem dX9_drop_29 : decode cX9_drop 29 = .ok (.sipush 445, 3) := by decide +kernel
theorem dX9_drop_32 : decode cX9_drop 32 = .ok (.bipush 6, 2) := by decide +kernel
theorem dX9_drop_34 : decode cX9_drop 34 = .ok (.iload_n 1, 1) := by decide +kernel
theorem dX9_drop_35 : decode cX9_drop 35 = .ok (.imul, 1) := by decide +kernel
theorem dX9_drop_36 : decode cX9_drop 36 = .ok (.iadd, 1) := by decide +kernel
theorem dX9_drop_37 : decode cX9_drop 37 = .ok (.istore_n 2, 1) := by decide +kernel
theorem dX9_drop_38 : decode cX9_drop 38 = .ok (.iload_n 2, 1) := by decide +kernel
theorem dX9_drop_39 : decode cX9_drop 39 = .ok (.sipush 445, 3) := by decide +kernel
theorem dX9_drop_42 : decode cX9_drop 42 = .ok (.bipush 6, 2) := by decide +kernel
theorem dX9_drop_44 : decode cX9_drop 44 = .ok (.aload_n 0, 1) := by decide +kernel
theorem dX9_drop_45 : decode cX9_drop 45 = .ok (.getfield 74, 3) := by decide +kernel
theorem dX9_drop_48 : decode cX9_drop 48 = .ok (.iconst 3, 1) := by decide +kernel
theorem dX9_drop_49 : decode cX9_drop 49 = .ok (.iaload, 1) := by decide +kernel
theorem dX9_drop_50 : decode cX9_drop 50 = .ok (.iconst 1, 1) := by decide +kernel
theorem dX9_drop_51 : decode cX9_drop 51 = .ok (.isub, 1) := by decide +kernel
theorem dX9_drop_52 : decode cX9_drop 52 = .ok (.imul, 1) := by decide +kernel
theorem dX9_drop_53 : decode cX9_drop 53 = .ok (.iadd, 1) := by decide +kernel
theorem dX9_drop_54 : decode cX9_drop 54 = .ok (.if_icmp .ge 24, 3) := by decide +kernel
theorem dX9_drop_57 : decode cX9_drop 57 = .ok (.aload_n 0, 1) := by decide +kernel
theorem dX9_drop_58 : decode cX9_drop 58 = .ok (.getfield 74, 3) := by decide +kernel
theorem dX9_drop_61 : decode cX9_drop 61 = .ok (.iload_n 2, 1) := by decide +kernel
theorem dX9_drop_62 : decode cX9_drop 62 = .ok (.aload_n 0, 1) := by decide +kernel
theorem dX9_drop_63 : decode cX9_drop 63 = .ok (.getfield 74, 3) := by decide +kernel
theorem dX9_drop_66 : decode cX9_drop 66 = .ok (.iload_n 2, 1) := by decide +kernel
theorem dX9_drop_67 : decode cX9_drop 67 = .ok (.bipush 6, 2) := by decide +kernel
theorem dX9_drop_69 : decode cX9_drop 69 = .ok (.iadd, 1) := by decide +kernel
theorem dX9_drop_70 : decode cX9_drop 70 = .ok (.iaload, 1) := by decide +kernel
theorem dX9_drop_71 : decode cX9_drop 71 = .ok (.iastore, 1) := by decide +kernel
theorem dX9_drop_72 : decode cX9_drop 72 = .ok (.iinc 2 1, 3) := by decide +kernel
theorem dX9_drop_75 : decode cX9_drop 75 = .ok (.goto (-37), 3) := by decide +kernel
theorem dX9_drop_78 : decode cX9_drop 78 = .ok (.aload_n 0, 1) := by decide +kernel
theorem dX9_drop_79 : decode cX9_drop 79 = .ok (.getfield 74, 3) := by decide +kernel
theorem dX9_drop_82 : decode cX9_drop 82 = .ok (.iconst 3, 1) := by decide +kernel
theorem dX9_drop_83 : decode cX9_drop 83 = .ok (.dup2, 1) := by decide +kernel
theorem dX9_drop_84 : decode cX9_drop 84 = .ok (.iaload, 1) := by decide +kernel
theorem dX9_drop_85 : decode cX9_drop 85 = .ok (.iconst 1, 1) := by decide +kernel
theorem dX9_drop_86 : decode cX9_drop 86 = .ok (.isub, 1) := by decide +kernel
theorem dX9_drop_87 : decode cX9_drop 87 = .ok (.iastore, 1) := by decide +kernel
theorem dX9_drop_88 : decode cX9_drop 88 = .ok (.iconst 1, 1) := by decide +kernel
theorem dX9_drop_89 : decode cX9_drop 89 = .ok (.ireturn, 1) := by decide +kernel
theorem dX9_undo_0 : decode cX9_undo 0 = .ok (.aload_n 0, 1) := by decide +kernel
theorem dX9_undo_1 : decode cX9_undo 1 = .ok (.iconst 0, 1) := by decide +kernel
theorem dX9_undo_2 : decode cX9_undo 2 = .ok (.putfield 1, 3) := by decide +kernel
theorem dX9_undo_5 : decode cX9_undo 5 = .ok (.aload_n 0, 1) := by decide +kernel
theorem dX9_undo_6 : decode cX9_undo 6 = .ok (.getfield 153, 3) := by decide +kernel
theorem dX9_undo_9 : decode cX9_undo 9 = .ok (.ifCond .ne 5, 3) := by decide +kernel
theorem dX9_undo_12 : decode cX9_undo 12 = .ok (.iconst (-1), 1) := by decide +kernel
theorem dX9_undo_13 : decode cX9_undo 13 = .ok (.ireturn, 1) := by decide +kernel
theorem dX9_undo_14 : decode cX9_undo 14 = .ok (.aload_n 0, 1) := by decide +kernel
theorem dX9_undo_15 : decode cX9_undo 15 = .ok (.dup, 1) := by decide +kernel
theorem dX9_undo_16 : decode cX9_undo 16 = .ok (.getfield 153, 3) := by decide +kernel
theorem dX9_undo_19 : decode cX9_undo 19 = .ok (.iconst 1, 1) := by decide +kernel
theorem dX9_undo_20 : decode cX9_undo 20 = .ok (.isub, 1) := by decide +kernel
theorem dX9_undo_21 : decode cX9_undo 21 = .ok (.putfield 153, 3) := by decide +kernel
theorem dX9_undo_24 : decode cX9_undo 24 = .ok (.iconst 0, 1) := by decide +kernel
theorem dX9_undo_25 : decode cX9_undo 25 = .ok (.istore_n 1, 1) := by decide +kernel
theorem dX9_undo_26 : decode cX9_undo 26 = .ok (.iload_n 1, 1) := by decide +kernel
theorem dX9_undo_27 : decode cX9_undo 27 = .ok (.sipush 845, 3) := by decide +kernel
theorem dX9_undo_30 : decode cX9_undo 30 = .ok (.if_icmp .ge 30, 3) := by decide +kernel
theorem dX9_undo_33 : decode cX9_undo 33 = .ok (.aload_n 0, 1) := by decide +kernel
theorem dX9_undo_34 : decode cX9_undo 34 = .ok (.getfield 74, 3) := by decide +kernel
theorem dX9_undo_37 : decode cX9_undo 37 = .ok (.iload_n 1, 1) := by decide +kernel
theorem dX9_undo_38 : decode cX9_undo 38 = .ok (.aload_n 0, 1) := by decide +kernel
theorem dX9_undo_39 : decode cX9_undo 39 = .ok (.getfield 80, 3) := by decide +kernel
theorem dX9_undo_42 : decode cX9_undo 42 = .ok (.sipush 845, 3) := by decide +kernel
theorem dX9_undo_45 : decode cX9_undo 45 = .ok (.aload_n 0, 1) := by decide +kernel
theorem dX9_undo_46 : decode cX9_undo 46 = .ok (.getfield 153, 3) := by decide +kernel
theorem dX9_undo_49 : decode cX9_undo 49 = .ok (.imul, 1) := by decide +kernel
theorem dX9_undo_50 : decode cX9_undo 50 = .ok (.iload_n 1, 1) := by decide +kernel
theorem dX9_undo_51 : decode cX9_undo 51 = .ok (.iadd, 1) := by decide +kernel
theorem dX9_undo_52 : decode cX9_undo 52 = .ok (.iaload, 1) := by decide +kernel
theorem dX9_undo_53 : decode cX9_undo 53 = .ok (.iastore, 1) := by decide +kernel
theorem dX9_undo_54 : decode cX9_undo 54 = .ok (.iinc 1 1, 3) := by decide +kernel
theorem dX9_undo_57 : decode cX9_undo 57 = .ok (.goto (-31), 3) := by decide +kernel
theorem dX9_undo_60 : decode cX9_undo 60 = .ok (.aload_n 0, 1) := by decide +kernel
theorem dX9_undo_61 : decode cX9_undo 61 = .ok (.getfield 153, 3) := by decide +kernel
theorem dX9_undo_64 : decode cX9_undo 64 = .ok (.ireturn, 1) := by decide +kernel
