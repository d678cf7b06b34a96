theorem dX9_free_19 : decode cX9_free 19 = .ok (.ireturn, 1) := by decide +kernel
theorem dX9_free_20 : decode cX9_free 20 = .ok (.aload_n 0, 1) := by decide +kernel
theorem dX9_free_21 : decode cX9_free 21 = .ok (.getfield 47, 3) := by decide +kernel
theorem dX9_free_24 : decode cX9_free 24 = .ok (.iload_n 1, 1) := by decide +kernel
theorem dX9_free_25 : decode cX9_free 25 = .ok (.iconst (-1), 1) := by decide +kernel
theorem dX9_free_26 : decode cX9_free 26 = .ok (.iastore, 1) := by decide +kernel
theorem dX9_free_27 : decode cX9_free 27 = .ok (.aload_n 0, 1) := by decide +kernel
theorem dX9_free_28 : decode cX9_free 28 = .ok (.iconst 0, 1) := by decide +kernel
theorem dX9_free_29 : decode cX9_free 29 = .ok (.invokevirtual 99, 3) := by decide +kernel
theorem dX9_free_32 : decode cX9_free 32 = .ok (.ireturn, 1) := by decide +kernel
theorem dX9_four_0 : decode cX9_four 0 = .ok (.bipush 24, 2) := by decide +kernel
theorem dX9_four_2 : decode cX9_four 2 = .ok (.istore_n 2, 1) := by decide +kernel
theorem dX9_four_3 : decode cX9_four 3 = .ok (.iload_n 2, 1) := by decide +kernel
theorem dX9_four_4 : decode cX9_four 4 = .ok (.ifCond .lt 35, 3) := by decide +kernel
theorem dX9_four_7 : decode cX9_four 7 = .ok (.aload_n 0, 1) := by decide +kernel
theorem dX9_four_8 : decode cX9_four 8 = .ok (.getfield 71, 3) := by decide +kernel
theorem dX9_four_11 : decode cX9_four 11 = .ok (.aload_n 0, 1) := by decide +kernel
theorem dX9_four_12 : decode cX9_four 12 = .ok (.getfield 183, 3) := by decide +kernel
theorem dX9_four_15 : decode cX9_four 15 = .ok (.iload_n 1, 1) := by decide +kernel
theorem dX9_four_16 : decode cX9_four 16 = .ok (.iload_n 2, 1) := by decide +kernel
theorem dX9_four_17 : decode cX9_four 17 = .ok (.ishr, 1) := by decide +kernel
theorem dX9_four_18 : decode cX9_four 18 = .ok (.sipush 255, 3) := by decide +kernel
theorem dX9_four_21 : decode cX9_four 21 = .ok (.iand, 1) := by decide +kernel
theorem dX9_four_22 : decode cX9_four 22 = .ok (.iastore, 1) := by decide +kernel
theorem dX9_four_23 : decode cX9_four 23 = .ok (.aload_n 0, 1) := by decide +kernel
theorem dX9_four_24 : decode cX9_four 24 = .ok (.dup, 1) := by decide +kernel
theorem dX9_four_25 : decode cX9_four 25 = .ok (.getfield 183, 3) := by decide +kernel
theorem dX9_four_28 : decode cX9_four 28 = .ok (.iconst 1, 1) := by decide +kernel
theorem dX9_four_29 : decode cX9_four 29 = .ok (.iadd, 1) := by decide +kernel
theorem dX9_four_30 : decode cX9_four 30 = .ok (.putfield 183, 3) := by decide +kernel
theorem dX9_four_33 : decode cX9_four 33 = .ok (.iinc 2 (-8), 3) := by decide +kernel
theorem dX9_four_36 : decode cX9_four 36 = .ok (.goto (-33), 3) := by decide +kernel
theorem dX9_four_39 : decode cX9_four 39 = .ok (.return_, 1) := by decide +kernel
set_option maxRecDepth 20000 in
theorem ggX9_feed_X9_four : GoodIn wsX9_feed wsX9_four := goodIn_r _ [7, 8, 2, 9, 10, 11, 12, 13, 14, 15, 16, 17, 18, 19, 20, 21, 22, 23, 24, 25, 26, 27, 28, 29, 30, 31, 32, 33, 34, 35, 36, 37, 38, 39, 40, 41, 42, 43, 44, 45, 46, 47, 48, 49] (by decide +kernel) (by decide +kernel)
set_option maxRecDepth 20000 in
theorem gX9_feed_X9_four : GoodIn wsX9_feed (wsV RX9 186 RX9 yX9_four wsX9_four) := goodIn_app (goodIn_of _ (by decide +kernel)) ggX9_feed_X9_four
theorem dX9_feed_0 : decode cX9_feed 0 = .ok (.aload_n 0, 1) := by decide +kernel
theorem dX9_feed_1 : decode cX9_feed 1 = .ok (.iconst 0, 1) := by decide +kernel
theorem dX9_feed_2 : decode cX9_feed 2 = .ok (.putfield 81, 3) := by decide +kernel
theorem dX9_feed_5 : decode cX9_feed 5 = .ok (.aload_n 0, 1) := by decide +kernel
theorem dX9_feed_6 : decode cX9_feed 6 = .ok (.getfield 183, 3) := by decide +kernel
theorem dX9_feed_9 : decode cX9_feed 9 = .ok (.bipush 20, 2) := by decide +kernel
theorem dX9_feed_11 : decode cX9_feed 11 = .ok (.iadd, 1) := by decide +kernel
theorem dX9_feed_12 : decode cX9_feed 12 = .ok (.sipush 200, 3) := by decide +kernel
theorem dX9_feed_15 : decode cX9_feed 15 = .ok (.if_icmp .le 5, 3) := by decide +kernel
theorem dX9_feed_18 : decode cX9_feed 18 = .ok (.iconst (-1), 1) := by decide +kernel
theorem dX9_feed_19 : decode cX9_feed 19 = .ok (.ireturn, 1) := by decide +kernel
theorem dX9_feed_20 : decode cX9_feed 20 = .ok (.aload_n 0, 1) := by decide +kernel
theorem dX9_feed_21 : decode cX9_feed 21 = .ok (.iload_n 1, 1) := by decide +kernel
theorem dX9_feed_22 : decode cX9_feed 22 = .ok (.invokevirtual 186, 3) := by decide +kernel
theorem dX9_feed_25 : decode cX9_feed 25 = .ok (.aload_n 0, 1) := by decide +kernel
theorem dX9_feed_26 : decode cX9_feed 26 = .ok (.iload_n 2, 1) := by decide +kernel
theorem dX9_feed_27 : decode cX9_feed 27 = .ok (.invokevirtual 186, 3) := by decide +kernel
theorem dX9_feed_30 : decode cX9_feed 30 = .ok (.aload_n 0, 1) := by decide +kernel
theorem dX9_feed_31 : decode cX9_feed 31 = .ok (.iload_n 3, 1) := by decide +kernel
theorem dX9_feed_32 : decode cX9_feed 32 = .ok (.invokevirtual 186, 3) := by decide +kernel
theorem dX9_feed_35 : decode cX9_feed 35 = .ok (.aload_n 0, 1) := by decide +kernel
theorem dX9_feed_36 : decode cX9_feed 36 = .ok (.iload 4, 2) := by decide +kernel
theorem dX9_feed_38 : decode cX9_feed 38 = .ok (.invokevirtual 186, 3) := by decide +kernel
theorem dX9_feed_41 : decode cX9_feed 41 = .ok (.aload_n 0, 1) := by decide +kernel
theorem dX9_feed_42 : decode cX9_feed 42 = .ok (.iload 5, 2) := by decide +kernel
theorem dX9_feed_44 : decode cX9_feed 44 = .ok (.invokevirtual 186, 3) := by decide +kernel
theorem dX9_feed_47 : decode cX9_feed 47 = .ok (.aload_n 0, 1) := by decide +kernel
theorem dX9_feed_48 : decode cX9_feed 48 = .ok (.getfield 183, 3) := by decide +kernel
theorem dX9_feed_51 : decode cX9_feed 51 = .ok (.ireturn, 1) := by decide +kernel
theorem dX9_end_0 : decode cX9_end 0 = .ok (.aload_n 0, 1) := by decide +kernel
theorem dX9_end_1 : decode cX9_end 1 = .ok (.iconst 0, 1) := by decide +kernel
theorem dX9_end_2 : decode cX9_end 2 = .ok (.putfield 81, 3) := by decide +kernel
theorem dX9_end_5 : decode cX9_end 5 = .ok (.iload_n 1, 1) := by decide +kernel
theorem dX9_end_6 : decode cX9_end 6 = .ok (.ifCond .lt 11, 3) := by decide +kernel
theorem dX9_end_9 : decode cX9_end 9 = .ok (.iload_n 1, 1) := by decide +kernel
theorem dX9_end_10 : decode cX9_end 10 = .ok (.aload_n 0, 1) := by decide +kernel
theorem dX9_end_11 : decode cX9_end 11 = .ok (.getfield 183, 3) := by decide +kernel
theorem dX9_end_14 : decode cX9_end 14 = .ok (.if_icmp .le 5, 3) := by decide +kernel
theorem dX9_end_17 : decode cX9_end 17 = .ok (.iconst (-1), 1) := by decide +kernel
theorem dX9_end_18 : decode cX9_end 18 = .ok (.ireturn, 1) := by decide +kernel
theorem dX9_end_19 : decode cX9_end 19 = .ok (.aload_n 0, 1) := by decide +kernel
theorem dX9_end_20 : decode cX9_end 20 = .ok (.iload_n 1, 1) := by decide +kernel
theorem dX9_end_21 : decode cX9_end 21 = .ok (.putfield 183, 3) := by decide +kernel
theorem dX9_end_24 : decode cX9_end 24 = .ok (.iload_n 1, 1) := by decide +kernel
theorem dX9_end_25 : decode cX9_end 25 = .ok (.ireturn, 1) := by decide +kernel
theorem dX9_isSmall_0 : decode cX9_isSmall 0 = .ok (.iload_n 0, 1) := by decide +kernel
theorem dX9_isSmall_1 : decode cX9_isSmall 1 = .ok (.bipush 97, 2) := by decide +kernel
theorem dX9_isSmall_3 : decode cX9_isSmall 3 = .ok (.if_icmp .lt 13, 3) := by decide +kernel
theorem dX9_isSmall_6 : decode cX9_isSmall 6 = .ok (.iload_n 0, 1) := by decide +kernel
theorem dX9_isSmall_7 : decode cX9_isSmall 7 = .ok (.bipush 122, 2) := by decide +kernel
theorem dX9_isSmall_9 : decode cX9_isSmall 9 = .ok (.if_icmp .gt 7, 3) := by decide +kernel
theorem dX9_isSmall_12 : decode cX9_isSmall 12 = .ok (.iconst 1, 1) := by decide +kernel
theorem dX9_isSmall_13 : decode cX9_isSmall 13 = .ok (.goto 4, 3) := by decide +kernel
theorem dX9_isSmall_16 : decode cX9_isSmall 16 = .ok (.iconst 0, 1) := by decide +kernel
theorem dX9_isSmall_17 : decode cX9_isSmall 17 = .ok (.ireturn, 1) := by decide +kernel
theorem dX9_isDigit_0 : decode cX9_isDigit 0 = .ok (.iload_n 0, 1) := by decide +kernel
theorem dX9_isDigit_1 : decode cX9_isDigit 1 = .ok (.bipush 48, 2) := by decide +kernel
theorem dX9_isDigit_3 : decode cX9_isDigit 3 = .ok (.if_icmp .lt 13, 3) := by decide +kernel
theorem dX9_isDigit_6 : decode cX9_isDigit 6 = .ok (.iload_n 0, 1) := by decide +kernel
theorem dX9_isDigit_7 : decode cX9_isDigit 7 = .ok (.bipush 57, 2) := by decide +kernel
theorem dX9_isDigit_9 : decode cX9_isDigit 9 = .ok (.if_icmp .gt 7, 3) := by decide +kernel
theorem dX9_isDigit_12 : decode cX9_isDigit 12 = .ok (.iconst 1, 1) := by decide +kernel
theorem dX9_isDigit_13 : decode cX9_isDigit 13 = .ok (.goto 4, 3) := by decide +kernel
theorem dX9_isDigit_16 : decode cX9_isDigit 16 = .ok (.iconst 0, 1) := by decide +kernel
theorem dX9_isDigit_17 : decode cX9_isDigit 17 = .ok (.ireturn, 1) := by decide +kernel
set_option maxRecDepth 20000 in
theorem ggX9_next_X9_isSmall : GoodIn wsX9_next wsX9_isSmall := goodIn_r _ [16] (by decide +kernel) (by decide +kernel)
set_option maxRecDepth 20000 in
theorem gX9_next_X9_isSmall : GoodIn wsX9_next (va_wsS RX9 198 yX9_isSmall wsX9_isSmall) := goodIn_app (goodIn_of _ (by decide +kernel)) ggX9_next_X9_isSmall
set_option maxRecDepth 20000 in
theorem ggX9_next_X9_isDigit : GoodIn wsX9_next wsX9_isDigit := goodIn_r _ [19] (by decide +kernel) (by decide +kernel)
set_option maxRecDepth 20000 in
theorem gX9_next_X9_isDigit : GoodIn wsX9_next (va_wsS RX9 201 yX9_isDigit wsX9_isDigit) := goodIn_app (goodIn_of _ (by decide +kernel)) ggX9_next_X9_isDigit
theorem dX9_next_0 : decode cX9_next 0 = .ok (.aload_n 0, 1) := by decide +kernel
theorem dX9_next_1 : decode cX9_next 1 = .ok (.aload_n 0, 1) := by decide +kernel
theorem dX9_next_2 : decode cX9_next 2 = .ok (.getfield 189, 3) := by decide +kernel
theorem dX9_next_5 : decode cX9_next 5 = .ok (.putfield 192, 3) := by decide +kernel
theorem dX9_next_8 : decode cX9_next 8 = .ok (.aload_n 0, 1) := by decide +kernel
theorem dX9_next_9 : decode cX9_next 9 = .ok (.getfield 192, 3) := by decide +kernel
theorem dX9_next_12 : decode cX9_next 12 = .ok (.aload_n 0, 1) := by decide +kernel
theorem dX9_next_13 : decode cX9_next 13 = .ok (.getfield 183, 3) := by decide +kernel
theorem dX9_next_16 : decode cX9_next 16 = .ok (.if_icmp .ge 30, 3) := by decide +kernel
theorem dX9_next_19 : decode cX9_next 19 = .ok (.aload_n 0, 1) := by decide +kernel
theorem dX9_next_20 : decode cX9_next 20 = .ok (.getfield 71, 3) := by decide +kernel
theorem dX9_next_23 : decode cX9_next 23 = .ok (.aload_n 0, 1) := by decide +kernel
theorem dX9_next_24 : decode cX9_next 24 = .ok (.getfield 192, 3) := by decide +kernel
theorem dX9_next_27 : decode cX9_next 27 = .ok (.iaload, 1) := by decide +kernel
theorem dX9_next_28 : decode cX9_next 28 = .ok (.bipush 32, 2) := by decide +kernel
theorem dX9_next_30 : decode cX9_next 30 = .ok (.if_icmp .ne 16, 3) := by decide +kernel
theorem dX9_next_33 : decode cX9_next 33 = .ok (.aload_n 0, 1) := by decide +kernel
theorem dX9_next_34 : decode cX9_next 34 = .ok (.dup, 1) := by decide +kernel
theorem dX9_next_35 : decode cX9_next 35 = .ok (.getfield 192, 3) := by decide +kernel
theorem dX9_next_38 : decode cX9_next 38 = .ok (.iconst 1, 1) := by decide +kernel
theorem dX9_next_39 : decode cX9_next 39 = .ok (.iadd, 1) := by decide +kernel
theorem dX9_next_40 : decode cX9_next 40 = .ok (.putfield 192, 3) := by decide +kernel
theorem dX9_next_43 : decode cX9_next 43 = .ok (.goto (-35), 3) := by decide +kernel
theorem dX9_next_46 : decode cX9_next 46 = .ok (.aload_n 0, 1) := by decide +kernel
theorem dX9_next_47 : decode cX9_next 47 = .ok (.aload_n 0, 1) := by decide +kernel
theorem dX9_next_48 : decode cX9_next 48 = .ok (.getfield 192, 3) := by decide +kernel
theorem dX9_next_51 : decode cX9_next 51 = .ok (.putfield 189, 3) := by decide +kernel
theorem dX9_next_54 : decode cX9_next 54 = .ok (.aload_n 0, 1) := by decide +kernel
theorem dX9_next_55 : decode cX9_next 55 = .ok (.lconst 0, 1) := by decide +kernel
theorem dX9_next_56 : decode cX9_next 56 = .ok (.putfield 195, 3) := by decide +kernel
theorem dX9_next_59 : decode cX9_next 59 = .ok (.aload_n 0, 1) := by decide +kernel
theorem dX9_next_60 : decode cX9_next 60 = .ok (.aload_n 0, 1) := by decide +kernel
theorem dX9_next_61 : decode cX9_next 61 = .ok (.getfield 192, 3) := by decide +kernel
theorem dX9_next_64 : decode cX9_next 64 = .ok (.aload_n 0, 1) := by decide +kernel
theorem dX9_next_65 : decode cX9_next 65 = .ok (.getfield 183, 3) := by decide +kernel
theorem dX9_next_68 : decode cX9_next 68 = .ok (.if_icmp .ne 7, 3) := by decide +kernel
theorem dX9_next_71 : decode cX9_next 71 = .ok (.iconst 0, 1) := by decide +kernel
theorem dX9_next_72 : decode cX9_next 72 = .ok (.goto 42, 3) := by decide +kernel
theorem dX9_next_75 : decode cX9_next 75 = .ok (.aload_n 0, 1) := by decide +kernel
theorem dX9_next_76 : decode cX9_next 76 = .ok (.getfield 71, 3) := by decide +kernel
theorem dX9_next_79 : decode cX9_next 79 = .ok (.aload_n 0, 1) := by decide +kernel
theorem dX9_next_80 : decode cX9_next 80 = .ok (.getfield 192, 3) := by decide +kernel
theorem dX9_next_83 : decode cX9_next 83 = .ok (.iaload, 1) := by decide +kernel
theorem dX9_next_84 : decode cX9_next 84 = .ok (.invokestatic 198, 3) := by decide +kernel
theorem dX9_next_87 : decode cX9_next 87 = .ok (.ifCond .eq 7, 3) := by decide +kernel
theorem dX9_next_90 : decode cX9_next 90 = .ok (.iconst 1, 1) := by decide +kernel
theorem dX9_next_91 : decode cX9_next 91 = .ok (.goto 23, 3) := by decide +kernel
theorem dX9_next_94 : decode cX9_next 94 = .ok (.aload_n 0, 1) := by decide +kernel
theorem dX9_next_95 : decode cX9_next 95 = .ok (.getfield 71, 3) := by decide +kernel
theorem dX9_next_98 : decode cX9_next 98 = .ok (.aload_n 0, 1) := by decide +kernel
theorem dX9_next_99 : decode cX9_next 99 = .ok (.getfield 192, 3) := by decide +kernel
theorem dX9_next_102 : decode cX9_next 102 = .ok (.iaload, 1) := by decide +kernel
theorem dX9_next_103 : decode cX9_next 103 = .ok (.invokestatic 201, 3) := by decide +kernel
theorem dX9_next_106 : decode cX9_next 106 = .ok (.ifCond .eq 7, 3) := by decide +kernel
theorem dX9_next_109 : decode cX9_next 109 = .ok (.iconst 2, 1) := by decide +kernel
theorem dX9_next_110 : decode cX9_next 110 = .ok (.goto 4, 3) := by decide +kernel
theorem dX9_next_113 : decode cX9_next 113 = .ok (.iconst 3, 1) := by decide +kernel
theorem dX9_next_114 : decode cX9_next 114 = .ok (.putfield 204, 3) := by decide +kernel
theorem dX9_next_117 : decode cX9_next 117 = .ok (.aload_n 0, 1) := by decide +kernel
theorem dX9_next_118 : decode cX9_next 118 = .ok (.getfield 204, 3) := by decide +kernel
theorem dX9_next_121 : decode cX9_next 121 = .ok (.iconst 3, 1) := by decide +kernel
theorem dX9_next_122 : decode cX9_next 122 = .ok (.if_icmp .ne 27, 3) := by decide +kernel
theorem dX9_next_125 : decode cX9_next 125 = .ok (.aload_n 0, 1) := by decide +kernel
theorem dX9_next_126 : decode cX9_next 126 = .ok (.aload_n 0, 1) := by decide +kernel
theorem dX9_next_127 : decode cX9_next 127 = .ok (.getfield 71, 3) := by decide +kernel
theorem dX9_next_130 : decode cX9_next 130 = .ok (.aload_n 0, 1) := by decide +kernel
theorem dX9_next_131 : decode cX9_next 131 = .ok (.getfield 192, 3) := by decide +kernel
theorem dX9_next_134 : decode cX9_next 134 = .ok (.iaload, 1) := by decide +kernel
theorem dX9_next_135 : decode cX9_next 135 = .ok (.i2l, 1) := by decide +kernel
theorem dX9_next_136 : decode cX9_next 136 = .ok (.putfield 195, 3) := by decide +kernel
theorem dX9_next_139 : decode cX9_next 139 = .ok (.aload_n 0, 1) := by decide +kernel
theorem dX9_next_140 : decode cX9_next 140 = .ok (.dup, 1) := by decide +kernel
theorem dX9_next_141 : decode cX9_next 141 = .ok (.getfield 189, 3) := by decide +kernel
theorem dX9_next_144 : decode cX9_next 144 = .ok (.iconst 1, 1) := by decide +kernel
theorem dX9_next_145 : decode cX9_next 145 = .ok (.iadd, 1) := by decide +kernel
theorem dX9_next_146 : decode cX9_next 146 = .ok (.putfield 189, 3) := by decide +kernel
theorem dX9_next_149 : decode cX9_next 149 = .ok (.aload_n 0, 1) := by decide +kernel
theorem dX9_next_150 : decode cX9_next 150 = .ok (.getfield 204, 3) := by decide +kernel
theorem dX9_next_153 : decode cX9_next 153 = .ok (.iconst 1, 1) := by decide +kernel
theorem dX9_next_154 : decode cX9_next 154 = .ok (.if_icmp .ne 89, 3) := by decide +kernel
theorem dX9_next_157 : decode cX9_next 157 = .ok (.aload_n 0, 1) := by decide +kernel
theorem dX9_next_158 : decode cX9_next 158 = .ok (.getfield 189, 3) := by decide +kernel
theorem dX9_next_161 : decode cX9_next 161 = .ok (.aload_n 0, 1) := by decide +kernel
theorem dX9_next_162 : decode cX9_next 162 = .ok (.getfield 183, 3) := by decide +kernel
theorem dX9_next_165 : decode cX9_next 165 = .ok (.if_icmp .ge 78, 3) := by decide +kernel
theorem dX9_next_168 : decode cX9_next 168 = .ok (.aload_n 0, 1) := by decide +kernel
theorem dX9_next_169 : decode cX9_next 169 = .ok (.getfield 71, 3) := by decide +kernel
theorem dX9_next_172 : decode cX9_next 172 = .ok (.aload_n 0, 1) := by decide +kernel
theorem dX9_next_173 : decode cX9_next 173 = .ok (.getfield 189, 3) := by decide +kernel
theorem dX9_next_176 : decode cX9_next 176 = .ok (.iaload, 1) := by decide +kernel
theorem dX9_next_177 : decode cX9_next 177 = .ok (.invokestatic 198, 3) := by decide +kernel
theorem dX9_next_180 : decode cX9_next 180 = .ok (.ifCond .eq 63, 3) := by decide +kernel
theorem dX9_next_183 : decode cX9_next 183 = .ok (.aload_n 0, 1) := by decide +kernel
theorem dX9_next_184 : decode cX9_next 184 = .ok (.aload_n 0, 1) := by decide +kernel
theorem dX9_next_185 : decode cX9_next 185 = .ok (.getfield 189, 3) := by decide +kernel
theorem dX9_next_188 : decode cX9_next 188 = .ok (.aload_n 0, 1) := by decide +kernel
theorem dX9_next_189 : decode cX9_next 189 = .ok (.getfield 192, 3) := by decide +kernel
theorem dX9_next_192 : decode cX9_next 192 = .ok (.isub, 1) := by decide +kernel
theorem dX9_next_193 : decode cX9_next 193 = .ok (.bipush 7, 2) := by decide +kernel
theorem dX9_next_195 : decode cX9_next 195 = .ok (.if_icmp .ge 29, 3) := by decide +kernel
theorem dX9_next_198 : decode cX9_next 198 = .ok (.aload_n 0, 1) := by decide +kernel
theorem dX9_next_199 : decode cX9_next 199 = .ok (.getfield 195, 3) := by decide +kernel
theorem dX9_next_202 : decode cX9_next 202 = .ok (.ldc2_w 207, 3) := by decide +kernel
theorem dX9_next_205 : decode cX9_next 205 = .ok (.lmul, 1) := by decide +kernel
theorem dX9_next_206 : decode cX9_next 206 = .ok (.aload_n 0, 1) := by decide +kernel
theorem dX9_next_207 : decode cX9_next 207 = .ok (.getfield 71, 3) := by decide +kernel
theorem dX9_next_210 : decode cX9_next 210 = .ok (.aload_n 0, 1) := by decide +kernel
theorem dX9_next_211 : decode cX9_next 211 = .ok (.getfield 189, 3) := by decide +kernel
theorem dX9_next_214 : decode cX9_next 214 = .ok (.iaload, 1) := by decide +kernel
theorem dX9_next_215 : decode cX9_next 215 = .ok (.i2l, 1) := by decide +kernel
theorem dX9_next_216 : decode cX9_next 216 = .ok (.ladd, 1) := by decide +kernel
theorem dX9_next_217 : decode cX9_next 217 = .ok (.ldc2_w 209, 3) := by decide +kernel
theorem dX9_next_220 : decode cX9_next 220 = .ok (.lsub, 1) := by decide +kernel
theorem dX9_next_221 : decode cX9_next 221 = .ok (.goto 6, 3) := by decide +kernel
theorem dX9_next_224 : decode cX9_next 224 = .ok (.ldc2_w 147, 3) := by decide +kernel
theorem dX9_next_227 : decode cX9_next 227 = .ok (.putfield 195, 3) := by decide +kernel
theorem dX9_next_230 : decode cX9_next 230 = .ok (.aload_n 0, 1) := by decide +kernel
theorem dX9_next_231 : decode cX9_next 231 = .ok (.dup, 1) := by decide +kernel
theorem dX9_next_232 : decode cX9_next 232 = .ok (.getfield 189, 3) := by decide +kernel
theorem dX9_next_235 : decode cX9_next 235 = .ok (.iconst 1, 1) := by decide +kernel
theorem dX9_next_236 : decode cX9_next 236 = .ok (.iadd, 1) := by decide +kernel
theorem dX9_next_237 : decode cX9_next 237 = .ok (.putfield 189, 3) := by decide +kernel
theorem dX9_next_240 : decode cX9_next 240 = .ok (.goto (-91), 3) := by decide +kernel
theorem dX9_next_243 : decode cX9_next 243 = .ok (.aload_n 0, 1) := by decide +kernel
theorem dX9_next_244 : decode cX9_next 244 = .ok (.getfield 204, 3) := by decide +kernel
theorem dX9_next_247 : decode cX9_next 247 = .ok (.iconst 2, 1) := by decide +kernel
theorem dX9_next_248 : decode cX9_next 248 = .ok (.if_icmp .ne 87, 3) := by decide +kernel
theorem dX9_next_251 : decode cX9_next 251 = .ok (.aload_n 0, 1) := by decide +kernel
theorem dX9_next_252 : decode cX9_next 252 = .ok (.getfield 189, 3) := by decide +kernel
theorem dX9_next_255 : decode cX9_next 255 = .ok (.aload_n 0, 1) := by decide +kernel
theorem dX9_next_256 : decode cX9_next 256 = .ok (.getfield 183, 3) := by decide +kernel
theorem dX9_next_259 : decode cX9_next 259 = .ok (.if_icmp .ge 76, 3) := by decide +kernel
theorem dX9_next_262 : decode cX9_next 262 = .ok (.aload_n 0, 1) := by decide +kernel
theorem dX9_next_263 : decode cX9_next 263 = .ok (.getfield 71, 3) := by decide +kernel
theorem dX9_next_266 : decode cX9_next 266 = .ok (.aload_n 0, 1) := by decide +kernel
theorem dX9_next_267 : decode cX9_next 267 = .ok (.getfield 189, 3) := by decide +kernel
theorem dX9_next_270 : decode cX9_next 270 = .ok (.iaload, 1) := by decide +kernel
theorem dX9_next_271 : decode cX9_next 271 = .ok (.invokestatic 201, 3) := by decide +kernel
theorem dX9_next_274 : decode cX9_next 274 = .ok (.ifCond .eq 61, 3) := by decide +kernel
theorem dX9_next_277 : decode cX9_next 277 = .ok (.aload_n 0, 1) := by decide +kernel
theorem dX9_next_278 : decode cX9_next 278 = .ok (.aload_n 0, 1) := by decide +kernel
theorem dX9_next_279 : decode cX9_next 279 = .ok (.getfield 195, 3) := by decide +kernel
theorem dX9_next_282 : decode cX9_next 282 = .ok (.ldc2_w 158, 3) := by decide +kernel
theorem dX9_next_285 : decode cX9_next 285 = .ok (.lcmp, 1) := by decide +kernel
theorem dX9_next_286 : decode cX9_next 286 = .ok (.ifCond .le 10, 3) := by decide +kernel
theorem dX9_next_289 : decode cX9_next 289 = .ok (.aload_n 0, 1) := by decide +kernel
theorem dX9_next_290 : decode cX9_next 290 = .ok (.getfield 195, 3) := by decide +kernel
theorem dX9_next_293 : decode cX9_next 293 = .ok (.goto 26, 3) := by decide +kernel
theorem dX9_next_296 : decode cX9_next 296 = .ok (.aload_n 0, 1) := by decide +kernel
theorem dX9_next_297 : decode cX9_next 297 = .ok (.getfield 195, 3) := by decide +kernel
theorem dX9_next_300 : decode cX9_next 300 = .ok (.ldc2_w 211, 3) := by decide +kernel
theorem dX9_next_303 : decode cX9_next 303 = .ok (.lmul, 1) := by decide +kernel
theorem dX9_next_304 : decode cX9_next 304 = .ok (.aload_n 0, 1) := by decide +kernel
theorem dX9_next_305 : decode cX9_next 305 = .ok (.getfield 71, 3) := by decide +kernel
theorem dX9_next_308 : decode cX9_next 308 = .ok (.aload_n 0, 1) := by decide +kernel
theorem dX9_next_309 : decode cX9_next 309 = .ok (.getfield 189, 3) := by decide +kernel
theorem dX9_next_312 : decode cX9_next 312 = .ok (.iaload, 1) := by decide +kernel
theorem dX9_next_313 : decode cX9_next 313 = .ok (.i2l, 1) := by decide +kernel
theorem dX9_next_314 : decode cX9_next 314 = .ok (.ladd, 1) := by decide +kernel
theorem dX9_next_315 : decode cX9_next 315 = .ok (.ldc2_w 213, 3) := by decide +kernel
theorem dX9_next_318 : decode cX9_next 318 = .ok (.lsub, 1) := by decide +kernel
theorem dX9_next_319 : decode cX9_next 319 = .ok (.putfield 195, 3) := by decide +kernel
theorem dX9_next_322 : decode cX9_next 322 = .ok (.aload_n 0, 1) := by decide +kernel
theorem dX9_next_323 : decode cX9_next 323 = .ok (.dup, 1) := by decide +kernel
theorem dX9_next_324 : decode cX9_next 324 = .ok (.getfield 189, 3) := by decide +kernel
theorem dX9_next_327 : decode cX9_next 327 = .ok (.iconst 1, 1) := by decide +kernel
theorem dX9_next_328 : decode cX9_next 328 = .ok (.iadd, 1) := by decide +kernel
theorem dX9_next_329 : decode cX9_next 329 = .ok (.putfield 189, 3) := by decide +kernel
theorem dX9_next_332 : decode cX9_next 332 = .ok (.goto (-89), 3) := by decide +kernel
theorem dX9_next_335 : decode cX9_next 335 = .ok (.return_, 1) := by decide +kernel
theorem dX9_isWord_0 : decode cX9_isWord 0 = .ok (.iload_n 1, 1) := by decide +kernel
theorem dX9_isWord_1 : decode cX9_isWord 1 = .ok (.i2l, 1) := by decide +kernel
theorem dX9_isWord_2 : decode cX9_isWord 2 = .ok (.ldc2_w 209, 3) := by decide +kernel
theorem dX9_isWord_5 : decode cX9_isWord 5 = .ok (.lsub, 1) := by decide +kernel
theorem dX9_isWord_6 : decode cX9_isWord 6 = .ok (.ldc2_w 207, 3) := by decide +kernel
theorem dX9_isWord_9 : decode cX9_isWord 9 = .ok (.lmul, 1) := by decide +kernel
theorem dX9_isWord_10 : decode cX9_isWord 10 = .ok (.iload_n 2, 1) := by decide +kernel
theorem dX9_isWord_11 : decode cX9_isWord 11 = .ok (.i2l, 1) := by decide +kernel
theorem dX9_isWord_12 : decode cX9_isWord 12 = .ok (.ladd, 1) := by decide +kernel
theorem dX9_isWord_13 : decode cX9_isWord 13 = .ok (.ldc2_w 209, 3) := by decide +kernel
theorem dX9_isWord_16 : decode cX9_isWord 16 = .ok (.lsub, 1) := by decide +kernel
theorem dX9_isWord_17 : decode cX9_isWord 17 = .ok (.lstore 7, 2) := by decide +kernel
theorem dX9_isWord_19 : decode cX9_isWord 19 = .ok (.iload_n 3, 1) := by decide +kernel
theorem dX9_isWord_20 : decode cX9_isWord 20 = .ok (.ifCond .ne 8, 3) := by decide +kernel
theorem dX9_isWord_23 : decode cX9_isWord 23 = .ok (.lload 7, 2) := by decide +kernel
theorem dX9_isWord_25 : decode cX9_isWord 25 = .ok (.goto 16, 3) := by decide +kernel
theorem dX9_isWord_28 : decode cX9_isWord 28 = .ok (.lload 7, 2) := by decide +kernel
theorem dX9_isWord_30 : decode cX9_isWord 30 = .ok (.ldc2_w 207, 3) := by decide +kernel
theorem dX9_isWord_33 : decode cX9_isWord 33 = .ok (.lmul, 1) := by decide +kernel
theorem dX9_isWord_34 : decode cX9_isWord 34 = .ok (.iload_n 3, 1) := by decide +kernel
theorem dX9_isWord_35 : decode cX9_isWord 35 = .ok (.i2l, 1) := by decide +kernel
theorem dX9_isWord_36 : decode cX9_isWord 36 = .ok (.ladd, 1) := by decide +kernel
theorem dX9_isWord_37 : decode cX9_isWord 37 = .ok (.ldc2_w 209, 3) := by decide +kernel
theorem dX9_isWord_40 : decode cX9_isWord 40 = .ok (.lsub, 1) := by decide +kernel
theorem dX9_isWord_41 : decode cX9_isWord 41 = .ok (.lstore 7, 2) := by decide +kernel
theorem dX9_isWord_43 : decode cX9_isWord 43 = .ok (.iload 4, 2) := by decide +kernel
theorem dX9_isWord_45 : decode cX9_isWord 45 = .ok (.ifCond .ne 8, 3) := by decide +kernel
theorem dX9_isWord_48 : decode cX9_isWord 48 = .ok (.lload 7, 2) := by decide +kernel
theorem dX9_isWord_50 : decode cX9_isWord 50 = .ok (.goto 17, 3) := by decide +kernel
theorem dX9_isWord_53 : decode cX9_isWord 53 = .ok (.lload 7, 2) := by decide +kernel
theorem dX9_isWord_55 : decode cX9_isWord 55 = .ok (.ldc2_w 207, 3) := by decide +kernel
theorem dX9_isWord_58 : decode cX9_isWord 58 = .ok (.lmul, 1) := by decide +kernel
theorem dX9_isWord_59 : decode cX9_isWord 59 = .ok (.iload 4, 2) := by decide +kernel
theorem dX9_isWord_61 : decode cX9_isWord 61 = .ok (.i2l, 1) := by decide +kernel
theorem dX9_isWord_62 : decode cX9_isWord 62 = .ok (.ladd, 1) := by decide +kernel
theorem dX9_isWord_63 : decode cX9_isWord 63 = .ok (.ldc2_w 209, 3) := by decide +kernel
theorem dX9_isWord_66 : decode cX9_isWord 66 = .ok (.lsub, 1) := by decide +kernel
theorem dX9_isWord_67 : decode cX9_isWord 67 = .ok (.lstore 7, 2) := by decide +kernel
theorem dX9_isWord_69 : decode cX9_isWord 69 = .ok (.iload 5, 2) := by decide +kernel
theorem dX9_isWord_71 : decode cX9_isWord 71 = .ok (.ifCond .ne 8, 3) := by decide +kernel
theorem dX9_isWord_74 : decode cX9_isWord 74 = .ok (.lload 7, 2) := by decide +kernel
theorem dX9_isWord_76 : decode cX9_isWord 76 = .ok (.goto 17, 3) := by decide +kernel
theorem dX9_isWord_79 : decode cX9_isWord 79 = .ok (.lload 7, 2) := by decide +kernel
theorem dX9_isWord_81 : decode cX9_isWord 81 = .ok (.ldc2_w 207, 3) := by decide +kernel
theorem dX9_isWord_84 : decode cX9_isWord 84 = .ok (.lmul, 1) := by decide +kernel
theorem dX9_isWord_85 : decode cX9_isWord 85 = .ok (.iload 5, 2) := by decide +kernel
theorem dX9_isWord_87 : decode cX9_isWord 87 = .ok (.i2l, 1) := by decide +kernel
theorem dX9_isWord_88 : decode cX9_isWord 88 = .ok (.ladd, 1) := by decide +kernel
theorem dX9_isWord_89 : decode cX9_isWord 89 = .ok (.ldc2_w 209, 3) := by decide +kernel
theorem dX9_isWord_92 : decode cX9_isWord 92 = .ok (.lsub, 1) := by decide +kernel
theorem dX9_isWord_93 : decode cX9_isWord 93 = .ok (.lstore 7, 2) := by decide +kernel
theorem dX9_isWord_95 : decode cX9_isWord 95 = .ok (.iload 6, 2) := by decide +kernel
theorem dX9_isWord_97 : decode cX9_isWord 97 = .ok (.ifCond .ne 8, 3) := by decide +kernel
theorem dX9_isWord_100 : decode cX9_isWord 100 = .ok (.lload 7, 2) := by decide +kernel
theorem dX9_isWord_102 : decode cX9_isWord 102 = .ok (.goto 17, 3) := by decide +kernel
theorem dX9_isWord_105 : decode cX9_isWord 105 = .ok (.lload 7, 2) := by decide +kernel
theorem dX9_isWord_107 : decode cX9_isWord 107 = .ok (.ldc2_w 207, 3) := by decide +kernel
theorem dX9_isWord_110 : decode cX9_isWord 110 = .ok (.lmul, 1) := by decide +kernel
theorem dX9_isWord_111 : decode cX9_isWord 111 = .ok (.iload 6, 2) := by decide +kernel
theorem dX9_isWord_113 : decode cX9_isWord 113 = .ok (.i2l, 1) := by decide +kernel
theorem dX9_isWord_114 : decode cX9_isWord 114 = .ok (.ladd, 1) := by decide +kernel
theorem dX9_isWord_115 : decode cX9_isWord 115 = .ok (.ldc2_w 209, 3) := by decide +kernel
theorem dX9_isWord_118 : decode cX9_isWord 118 = .ok (.lsub, 1) := by decide +kernel
theorem dX9_isWord_119 : decode cX9_isWord 119 = .ok (.lstore 7, 2) := by decide +kernel
theorem dX9_isWord_121 : decode cX9_isWord 121 = .ok (.aload_n 0, 1) := by decide +kernel
theorem dX9_isWord_122 : decode cX9_isWord 122 = .ok (.getfield 204, 3) := by decide +kernel
theorem dX9_isWord_125 : decode cX9_isWord 125 = .ok (.iconst 1, 1) := by decide +kernel
theorem dX9_isWord_126 : decode cX9_isWord 126 = .ok (.if_icmp .ne 17, 3) := by decide +kernel
theorem dX9_isWord_129 : decode cX9_isWord 129 = .ok (.aload_n 0, 1) := by decide +kernel
theorem dX9_isWord_130 : decode cX9_isWord 130 = .ok (.getfield 195, 3) := by decide +kernel
theorem dX9_isWord_133 : decode cX9_isWord 133 = .ok (.lload 7, 2) := by decide +kernel
theorem dX9_isWord_135 : decode cX9_isWord 135 = .ok (.lcmp, 1) := by decide +kernel
theorem dX9_isWord_136 : decode cX9_isWord 136 = .ok (.ifCond .ne 7, 3) := by decide +kernel
theorem dX9_isWord_139 : decode cX9_isWord 139 = .ok (.iconst 1, 1) := by decide +kernel
theorem dX9_isWord_140 : decode cX9_isWord 140 = .ok (.goto 4, 3) := by decide +kernel
theorem dX9_isWord_143 : decode cX9_isWord 143 = .ok (.iconst 0, 1) := by decide +kernel
theorem dX9_isWord_144 : decode cX9_isWord 144 = .ok (.ireturn, 1) := by decide +kernel
set_option maxRecDepth 20000 in
theorem ggX9_must_X9_next : GoodIn wsX9_must wsX9_next := goodIn_r _ [8, 9, 2, 10, 11, 12, 13, 14, 15, 16, 17, 18, 19, 20, 21, 7, 22, 23, 24, 25, 26, 27, 28, 29, 30, 31, 32, 33, 34, 35, 36, 37, 38, 39, 40, 41, 42, 43, 44, 45, 46, 47, 48, 49, 50, 51, 52, 53, 54, 55, 56, 57, 58, 59, 60, 61, 62, 63, 64, 65, 66] (by decide +kernel) (by decide +kernel)
set_option maxRecDepth 20000 in
theorem gX9_must_X9_next : GoodIn wsX9_must (wsV RX9 219 RX9 yX9_next wsX9_next) := goodIn_app (goodIn_of _ (by decide +kernel)) ggX9_must_X9_next
theorem dX9_must_0 : decode cX9_must 0 = .ok (.aload_n 0, 1) := by decide +kernel
theorem dX9_must_1 : decode cX9_must 1 = .ok (.getfield 215, 3) := by decide +kernel
theorem dX9_must_4 : decode cX9_must 4 = .ok (.ifCond .ne 20, 3) := by decide +kernel
theorem dX9_must_7 : decode cX9_must 7 = .ok (.iload_n 1, 1) := by decide +kernel
theorem dX9_must_8 : decode cX9_must 8 = .ok (.ifCond .ne 16, 3) := by decide +kernel
theorem dX9_must_11 : decode cX9_must 11 = .ok (.aload_n 0, 1) := by decide +kernel
theorem dX9_must_12 : decode cX9_must 12 = .ok (.iconst 1, 1) := by decide +kernel
theorem dX9_must_13 : decode cX9_must 13 = .ok (.putfield 215, 3) := by decide +kernel
theorem dX9_must_16 : decode cX9_must 16 = .ok (.aload_n 0, 1) := by decide +kernel
theorem dX9_must_17 : decode cX9_must 17 = .ok (.aload_n 0, 1) := by decide +kernel
theorem dX9_must_18 : decode cX9_must 18 = .ok (.getfield 192, 3) := by decide +kernel
theorem dX9_must_21 : decode cX9_must 21 = .ok (.putfield 74, 3) := by decide +kernel
theorem dX9_must_24 : decode cX9_must 24 = .ok (.aload_n 0, 1) := by decide +kernel
theorem dX9_must_25 : decode cX9_must 25 = .ok (.getfield 215, 3) := by decide +kernel
theorem dX9_must_28 : decode cX9_must 28 = .ok (.ifCond .ne 7, 3) := by decide +kernel
theorem dX9_must_31 : decode cX9_must 31 = .ok (.aload_n 0, 1) := by decide +kernel
theorem dX9_must_32 : decode cX9_must 32 = .ok (.invokevirtual 219, 3) := by decide +kernel
theorem dX9_must_35 : decode cX9_must 35 = .ok (.return_, 1) := by decide +kernel
set_option maxRecDepth 20000 in
theorem ggX9_number_X9_must : GoodIn wsX9_number wsX9_must := goodIn_r _ [8, 9, 10, 11, 12, 13, 14, 7, 15, 16, 17, 18, 1, 2, 19, 20, 21, 3, 22, 23, 24, 25, 26, 27, 28, 29, 30, 31, 32, 33, 34, 35, 36, 37, 38, 39, 40, 41, 42, 43, 44, 45, 46, 47, 48, 49, 50, 51, 52, 53, 54, 55, 56, 57, 58, 59, 60, 61, 62, 63, 64, 65, 66, 67, 68, 69, 70] (by decide +kernel) (by decide +kernel)
set_option maxRecDepth 20000 in
theorem gX9_number_X9_must : GoodIn wsX9_number (wsV RX9 222 RX9 yX9_must wsX9_must) := goodIn_app (goodIn_of _ (by decide +kernel)) ggX9_number_X9_must
theorem dX9_number_0 : decode cX9_number 0 = .ok (.aload_n 0, 1) := by decide +kernel
theorem dX9_number_1 : decode cX9_number 1 = .ok (.getfield 195, 3) := by decide +kernel
theorem dX9_number_4 : decode cX9_number 4 = .ok (.l2i, 1) := by decide +kernel
theorem dX9_number_5 : decode cX9_number 5 = .ok (.istore_n 1, 1) := by decide +kernel
theorem dX9_number_6 : decode cX9_number 6 = .ok (.aload_n 0, 1) := by decide +kernel
theorem dX9_number_7 : decode cX9_number 7 = .ok (.aload_n 0, 1) := by decide +kernel
theorem dX9_number_8 : decode cX9_number 8 = .ok (.getfield 204, 3) := by decide +kernel
theorem dX9_number_11 : decode cX9_number 11 = .ok (.iconst 2, 1) := by decide +kernel
theorem dX9_number_12 : decode cX9_number 12 = .ok (.if_icmp .ne 18, 3) := by decide +kernel
theorem dX9_number_15 : decode cX9_number 15 = .ok (.aload_n 0, 1) := by decide +kernel
theorem dX9_number_16 : decode cX9_number 16 = .ok (.getfield 195, 3) := by decide +kernel
theorem dX9_number_19 : decode cX9_number 19 = .ok (.ldc2_w 158, 3) := by decide +kernel
theorem dX9_number_22 : decode cX9_number 22 = .ok (.lcmp, 1) := by decide +kernel
theorem dX9_number_23 : decode cX9_number 23 = .ok (.ifCond .gt 7, 3) := by decide +kernel
theorem dX9_number_26 : decode cX9_number 26 = .ok (.iconst 1, 1) := by decide +kernel
theorem dX9_number_27 : decode cX9_number 27 = .ok (.goto 4, 3) := by decide +kernel
theorem dX9_number_30 : decode cX9_number 30 = .ok (.iconst 0, 1) := by decide +kernel
theorem dX9_number_31 : decode cX9_number 31 = .ok (.invokevirtual 222, 3) := by decide +kernel
theorem dX9_number_34 : decode cX9_number 34 = .ok (.iload_n 1, 1) := by decide +kernel
theorem dX9_number_35 : decode cX9_number 35 = .ok (.ireturn, 1) := by decide +kernel
set_option maxRecDepth 20000 in
theorem ggX9_sortAt_X9_isWord : GoodIn wsX9_sortAt wsX9_isWord := goodIn_r _ [5, 6, 7, 8, 9, 10, 11, 12, 13, 14, 15, 16, 17, 18, 19, 20, 21, 22, 23, 24, 25, 26, 27, 28, 29, 30, 31, 32, 33, 34, 35, 36, 37, 38, 39, 40, 41, 42, 43, 44, 45, 46, 47, 48, 49, 50] (by decide +kernel) (by decide +kernel)
set_option maxRecDepth 20000 in
theorem gX9_sortAt_X9_isWord : GoodIn wsX9_sortAt (wsV RX9 226 RX9 yX9_isWord wsX9_isWord) := goodIn_app (goodIn_of _ (by decide +kernel)) ggX9_sortAt_X9_isWord
theorem dX9_sortAt_0 : decode cX9_sortAt 0 = .ok (.aload_n 0, 1) := by decide +kernel
theorem dX9_sortAt_1 : decode cX9_sortAt 1 = .ok (.bipush 112, 2) := by decide +kernel
theorem dX9_sortAt_3 : decode cX9_sortAt 3 = .ok (.bipush 97, 2) := by decide +kernel
theorem dX9_sortAt_5 : decode cX9_sortAt 5 = .ok (.bipush 121, 2) := by decide +kernel
theorem dX9_sortAt_7 : decode cX9_sortAt 7 = .ok (.iconst 0, 1) := by decide +kernel
theorem dX9_sortAt_8 : decode cX9_sortAt 8 = .ok (.iconst 0, 1) := by decide +kernel
theorem dX9_sortAt_9 : decode cX9_sortAt 9 = .ok (.iconst 0, 1) := by decide +kernel
theorem dX9_sortAt_10 : decode cX9_sortAt 10 = .ok (.invokevirtual 226, 3) := by decide +kernel
theorem dX9_sortAt_13 : decode cX9_sortAt 13 = .ok (.ifCond .ne 19, 3) := by decide +kernel
theorem dX9_sortAt_16 : decode cX9_sortAt 16 = .ok (.aload_n 0, 1) := by decide +kernel
theorem dX9_sortAt_17 : decode cX9_sortAt 17 = .ok (.bipush 112, 2) := by decide +kernel
theorem dX9_sortAt_19 : decode cX9_sortAt 19 = .ok (.bipush 101, 2) := by decide +kernel
theorem dX9_sortAt_21 : decode cX9_sortAt 21 = .ok (.bipush 114, 2) := by decide +kernel
theorem dX9_sortAt_23 : decode cX9_sortAt 23 = .ok (.iconst 0, 1) := by decide +kernel
theorem dX9_sortAt_24 : decode cX9_sortAt 24 = .ok (.iconst 0, 1) := by decide +kernel
theorem dX9_sortAt_25 : decode cX9_sortAt 25 = .ok (.iconst 0, 1) := by decide +kernel
theorem dX9_sortAt_26 : decode cX9_sortAt 26 = .ok (.invokevirtual 226, 3) := by decide +kernel
theorem dX9_sortAt_29 : decode cX9_sortAt 29 = .ok (.ifCond .eq 25, 3) := by decide +kernel
theorem dX9_sortAt_32 : decode cX9_sortAt 32 = .ok (.aload_n 0, 1) := by decide +kernel
theorem dX9_sortAt_33 : decode cX9_sortAt 33 = .ok (.bipush 112, 2) := by decide +kernel
theorem dX9_sortAt_35 : decode cX9_sortAt 35 = .ok (.bipush 97, 2) := by decide +kernel
theorem dX9_sortAt_37 : decode cX9_sortAt 37 = .ok (.bipush 121, 2) := by decide +kernel
theorem dX9_sortAt_39 : decode cX9_sortAt 39 = .ok (.iconst 0, 1) := by decide +kernel
theorem dX9_sortAt_40 : decode cX9_sortAt 40 = .ok (.iconst 0, 1) := by decide +kernel
theorem dX9_sortAt_41 : decode cX9_sortAt 41 = .ok (.iconst 0, 1) := by decide +kernel
theorem dX9_sortAt_42 : decode cX9_sortAt 42 = .ok (.invokevirtual 226, 3) := by decide +kernel
theorem dX9_sortAt_45 : decode cX9_sortAt 45 = .ok (.ifCond .eq 7, 3) := by decide +kernel
theorem dX9_sortAt_48 : decode cX9_sortAt 48 = .ok (.iconst 0, 1) := by decide +kernel
theorem dX9_sortAt_49 : decode cX9_sortAt 49 = .ok (.goto 4, 3) := by decide +kernel
theorem dX9_sortAt_52 : decode cX9_sortAt 52 = .ok (.iconst 1, 1) := by decide +kernel
theorem dX9_sortAt_53 : decode cX9_sortAt 53 = .ok (.ireturn, 1) := by decide +kernel
theorem dX9_sortAt_54 : decode cX9_sortAt 54 = .ok (.aload_n 0, 1) := by decide +kernel
theorem dX9_sortAt_55 : decode cX9_sortAt 55 = .ok (.bipush 108, 2) := by decide +kernel
theorem dX9_sortAt_57 : decode cX9_sortAt 57 = .ok (.bipush 97, 2) := by decide +kernel
theorem dX9_sortAt_59 : decode cX9_sortAt 59 = .ok (.bipush 116, 2) := by decide +kernel
theorem dX9_sortAt_61 : decode cX9_sortAt 61 = .ok (.bipush 101, 2) := by decide +kernel
theorem dX9_sortAt_63 : decode cX9_sortAt 63 = .ok (.iconst 0, 1) := by decide +kernel
theorem dX9_sortAt_64 : decode cX9_sortAt 64 = .ok (.iconst 0, 1) := by decide +kernel
theorem dX9_sortAt_65 : decode cX9_sortAt 65 = .ok (.invokevirtual 226, 3) := by decide +kernel
theorem dX9_sortAt_68 : decode cX9_sortAt 68 = .ok (.ifCond .ne 21, 3) := by decide +kernel
theorem dX9_sortAt_71 : decode cX9_sortAt 71 = .ok (.aload_n 0, 1) := by decide +kernel
theorem dX9_sortAt_72 : decode cX9_sortAt 72 = .ok (.bipush 101, 2) := by decide +kernel
theorem dX9_sortAt_74 : decode cX9_sortAt 74 = .ok (.bipush 97, 2) := by decide +kernel
theorem dX9_sortAt_76 : decode cX9_sortAt 76 = .ok (.bipush 114, 2) := by decide +kernel
theorem dX9_sortAt_78 : decode cX9_sortAt 78 = .ok (.bipush 108, 2) := by decide +kernel
theorem dX9_sortAt_80 : decode cX9_sortAt 80 = .ok (.bipush 121, 2) := by decide +kernel
theorem dX9_sortAt_82 : decode cX9_sortAt 82 = .ok (.iconst 0, 1) := by decide +kernel
theorem dX9_sortAt_83 : decode cX9_sortAt 83 = .ok (.invokevirtual 226, 3) := by decide +kernel
theorem dX9_sortAt_86 : decode cX9_sortAt 86 = .ok (.ifCond .eq 26, 3) := by decide +kernel
theorem dX9_sortAt_89 : decode cX9_sortAt 89 = .ok (.aload_n 0, 1) := by decide +kernel
theorem dX9_sortAt_90 : decode cX9_sortAt 90 = .ok (.bipush 108, 2) := by decide +kernel
theorem dX9_sortAt_92 : decode cX9_sortAt 92 = .ok (.bipush 97, 2) := by decide +kernel
theorem dX9_sortAt_94 : decode cX9_sortAt 94 = .ok (.bipush 116, 2) := by decide +kernel
theorem dX9_sortAt_96 : decode cX9_sortAt 96 = .ok (.bipush 101, 2) := by decide +kernel
theorem dX9_sortAt_98 : decode cX9_sortAt 98 = .ok (.iconst 0, 1) := by decide +kernel
theorem dX9_sortAt_99 : decode cX9_sortAt 99 = .ok (.iconst 0, 1) := by decide +kernel
theorem dX9_sortAt_100 : decode cX9_sortAt 100 = .ok (.invokevirtual 226, 3) := by decide +kernel
theorem dX9_sortAt_103 : decode cX9_sortAt 103 = .ok (.ifCond .eq 7, 3) := by decide +kernel
theorem dX9_sortAt_106 : decode cX9_sortAt 106 = .ok (.iconst 2, 1) := by decide +kernel
theorem dX9_sortAt_107 : decode cX9_sortAt 107 = .ok (.goto 4, 3) := by decide +kernel
theorem dX9_sortAt_110 : decode cX9_sortAt 110 = .ok (.iconst 3, 1) := by decide +kernel
theorem dX9_sortAt_111 : decode cX9_sortAt 111 = .ok (.ireturn, 1) := by decide +kernel
theorem dX9_sortAt_112 : decode cX9_sortAt 112 = .ok (.aload_n 0, 1) := by decide +kernel
theorem dX9_sortAt_113 : decode cX9_sortAt 113 = .ok (.bipush 115, 2) := by decide +kernel
theorem dX9_sortAt_115 : decode cX9_sortAt 115 = .ok (.bipush 109, 2) := by decide +kernel
theorem dX9_sortAt_117 : decode cX9_sortAt 117 = .ok (.bipush 111, 2) := by decide +kernel
theorem dX9_sortAt_119 : decode cX9_sortAt 119 = .ok (.bipush 107, 2) := by decide +kernel
theorem dX9_sortAt_121 : decode cX9_sortAt 121 = .ok (.bipush 101, 2) := by decide +kernel
theorem dX9_sortAt_123 : decode cX9_sortAt 123 = .ok (.iconst 0, 1) := by decide +kernel
theorem dX9_sortAt_124 : decode cX9_sortAt 124 = .ok (.invokevirtual 226, 3) := by decide +kernel
theorem dX9_sortAt_127 : decode cX9_sortAt 127 = .ok (.ifCond .ne 20, 3) := by decide +kernel
theorem dX9_sortAt_130 : decode cX9_sortAt 130 = .ok (.aload_n 0, 1) := by decide +kernel
theorem dX9_sortAt_131 : decode cX9_sortAt 131 = .ok (.bipush 109, 2) := by decide +kernel
theorem dX9_sortAt_133 : decode cX9_sortAt 133 = .ok (.bipush 111, 2) := by decide +kernel
theorem dX9_sortAt_135 : decode cX9_sortAt 135 = .ok (.bipush 115, 2) := by decide +kernel
theorem dX9_sortAt_137 : decode cX9_sortAt 137 = .ok (.bipush 116, 2) := by decide +kernel
theorem dX9_sortAt_139 : decode cX9_sortAt 139 = .ok (.iconst 0, 1) := by decide +kernel
theorem dX9_sortAt_140 : decode cX9_sortAt 140 = .ok (.iconst 0, 1) := by decide +kernel
theorem dX9_sortAt_141 : decode cX9_sortAt 141 = .ok (.invokevirtual 226, 3) := by decide +kernel
theorem dX9_sortAt_144 : decode cX9_sortAt 144 = .ok (.ifCond .eq 27, 3) := by decide +kernel
theorem dX9_sortAt_147 : decode cX9_sortAt 147 = .ok (.aload_n 0, 1) := by decide +kernel
theorem dX9_sortAt_148 : decode cX9_sortAt 148 = .ok (.bipush 115, 2) := by decide +kernel
theorem dX9_sortAt_150 : decode cX9_sortAt 150 = .ok (.bipush 109, 2) := by decide +kernel
theorem dX9_sortAt_152 : decode cX9_sortAt 152 = .ok (.bipush 111, 2) := by decide +kernel
theorem dX9_sortAt_154 : decode cX9_sortAt 154 = .ok (.bipush 107, 2) := by decide +kernel
theorem dX9_sortAt_156 : decode cX9_sortAt 156 = .ok (.bipush 101, 2) := by decide +kernel
theorem dX9_sortAt_158 : decode cX9_sortAt 158 = .ok (.iconst 0, 1) := by decide +kernel
theorem dX9_sortAt_159 : decode cX9_sortAt 159 = .ok (.invokevirtual 226, 3) := by decide +kernel
theorem dX9_sortAt_162 : decode cX9_sortAt 162 = .ok (.ifCond .eq 7, 3) := by decide +kernel
theorem dX9_sortAt_165 : decode cX9_sortAt 165 = .ok (.iconst 4, 1) := by decide +kernel
theorem dX9_sortAt_166 : decode cX9_sortAt 166 = .ok (.goto 4, 3) := by decide +kernel
theorem dX9_sortAt_169 : decode cX9_sortAt 169 = .ok (.iconst 5, 1) := by decide +kernel
theorem dX9_sortAt_170 : decode cX9_sortAt 170 = .ok (.ireturn, 1) := by decide +kernel
theorem dX9_sortAt_171 : decode cX9_sortAt 171 = .ok (.aload_n 0, 1) := by decide +kernel
theorem dX9_sortAt_172 : decode cX9_sortAt 172 = .ok (.bipush 108, 2) := by decide +kernel
theorem dX9_sortAt_174 : decode cX9_sortAt 174 = .ok (.bipush 101, 2) := by decide +kernel
theorem dX9_sortAt_176 : decode cX9_sortAt 176 = .ok (.bipush 97, 2) := by decide +kernel
theorem dX9_sortAt_178 : decode cX9_sortAt 178 = .ok (.bipush 115, 2) := by decide +kernel
theorem dX9_sortAt_180 : decode cX9_sortAt 180 = .ok (.bipush 116, 2) := by decide +kernel
theorem dX9_sortAt_182 : decode cX9_sortAt 182 = .ok (.iconst 0, 1) := by decide +kernel
theorem dX9_sortAt_183 : decode cX9_sortAt 183 = .ok (.invokevirtual 226, 3) := by decide +kernel
theorem dX9_sortAt_186 : decode cX9_sortAt 186 = .ok (.ifCond .eq 8, 3) := by decide +kernel
theorem dX9_sortAt_189 : decode cX9_sortAt 189 = .ok (.bipush 6, 2) := by decide +kernel
theorem dX9_sortAt_191 : decode cX9_sortAt 191 = .ok (.goto 4, 3) := by decide +kernel
theorem dX9_sortAt_194 : decode cX9_sortAt 194 = .ok (.iconst (-1), 1) := by decide +kernel
theorem dX9_sortAt_195 : decode cX9_sortAt 195 = .ok (.ireturn, 1) := by decide +kernel
set_option maxRecDepth 20000 in
theorem ggX9_readClause_X9_sortAt : GoodIn wsX9_readClause wsX9_sortAt := goodIn_r _ [8, 9, 10, 11, 7, 12, 13, 14, 15, 16, 44, 45, 46, 47, 48, 49, 50, 51, 52, 53, 54, 55, 56, 57, 58, 59, 60, 61, 62, 63, 64, 65, 66, 67, 68, 69, 70, 71, 72, 73, 74, 75, 76, 77, 78, 79, 80, 81, 82, 83, 84] (by decide +kernel) (by decide +kernel)
set_option maxRecDepth 20000 in
theorem gX9_readClause_X9_sortAt : GoodIn wsX9_readClause (wsV RX9 230 RX9 yX9_sortAt wsX9_sortAt) := goodIn_app (goodIn_of _ (by decide +kernel)) ggX9_readClause_X9_sortAt
set_option maxRecDepth 20000 in
theorem ggX9_readClause_X9_must : GoodIn wsX9_readClause wsX9_must := goodIn_r _ [20, 2, 21, 22, 23, 24, 25, 7, 26, 27, 28, 29, 16, 15, 14, 13, 30, 31, 32, 33, 34, 35, 36, 37, 38, 39, 44, 45, 46, 47, 48, 49, 50, 51, 52, 53, 54, 55, 56, 57, 58, 59, 60, 61, 62, 63, 64, 65, 66, 67, 68, 69, 70, 71, 72, 73, 74, 75, 76, 77, 78, 79, 80, 81, 82, 83, 84] (by decide +kernel) (by decide +kernel)
set_option maxRecDepth 20000 in
theorem gX9_readClause_X9_must : GoodIn wsX9_readClause (wsV RX9 222 RX9 yX9_must wsX9_must) := goodIn_app (goodIn_of _ (by decide +kernel)) ggX9_readClause_X9_must
set_option maxRecDepth 20000 in
theorem ggX9_readClause_X9_isWord : GoodIn wsX9_readClause wsX9_isWord := goodIn_r _ [12, 13, 14, 15, 16, 44, 45, 46, 47, 48, 49, 50, 51, 52, 53, 54, 55, 56, 57, 58, 59, 60, 61, 62, 63, 64, 65, 66, 67, 68, 69, 70, 71, 72, 73, 74, 75, 76, 77, 78, 79, 80, 81, 82, 83, 84] (by decide +kernel) (by decide +kernel)
set_option maxRecDepth 20000 in
theorem gX9_readClause_X9_isWord : GoodIn wsX9_readClause (wsV RX9 226 RX9 yX9_isWord wsX9_isWord) := goodIn_app (goodIn_of _ (by decide +kernel)) ggX9_readClause_X9_isWord
set_option maxRecDepth 20000 in
theorem ggX9_readClause_X9_number : GoodIn wsX9_readClause wsX9_number := goodIn_r _ [43, 16, 15, 31, 17, 18, 19, 7, 20, 2, 21, 22, 23, 24, 25, 26, 27, 28, 29, 14, 13, 30, 32, 33, 34, 35, 36, 37, 38, 39, 44, 45, 46, 47, 48, 49, 50, 51, 52, 53, 54, 55, 56, 57, 58, 59, 60, 61, 62, 63, 64, 65, 66, 67, 68, 69, 70, 71, 72, 73, 74, 75, 76, 77, 78, 79, 80, 81, 82, 83, 84] (by decide +kernel) (by decide +kernel)
set_option maxRecDepth 20000 in
theorem gX9_readClause_X9_number : GoodIn wsX9_readClause (wsV RX9 237 RX9 yX9_number wsX9_number) := goodIn_app (goodIn_of _ (by decide +kernel)) ggX9_readClause_X9_number
theorem dX9_readClause_0 : decode cX9_readClause 0 = .ok (.aload_n 0, 1) := by decide +kernel
theorem dX9_readClause_1 : decode cX9_readClause 1 = .ok (.invokevirtual 230, 3) := by decide +kernel
theorem dX9_readClause_4 : decode cX9_readClause 4 = .ok (.istore_n 1, 1) := by decide +kernel
theorem dX9_readClause_5 : decode cX9_readClause 5 = .ok (.aload_n 0, 1) := by decide +kernel
theorem dX9_readClause_6 : decode cX9_readClause 6 = .ok (.iload_n 1, 1) := by decide +kernel
theorem dX9_readClause_7 : decode cX9_readClause 7 = .ok (.ifCond .lt 16, 3) := by decide +kernel
theorem dX9_readClause_10 : decode cX9_readClause 10 = .ok (.aload_n 0, 1) := by decide +kernel
theorem dX9_readClause_11 : decode cX9_readClause 11 = .ok (.getfield 234, 3) := by decide +kernel
theorem dX9_readClause_14 : decode cX9_readClause 14 = .ok (.bipush 20, 2) := by decide +kernel
theorem dX9_readClause_16 : decode cX9_readClause 16 = .ok (.if_icmp .ge 7, 3) := by decide +kernel
theorem dX9_readClause_19 : decode cX9_readClause 19 = .ok (.iconst 1, 1) := by decide +kernel
theorem dX9_readClause_20 : decode cX9_readClause 20 = .ok (.goto 4, 3) := by decide +kernel
theorem dX9_readClause_23 : decode cX9_readClause 23 = .ok (.iconst 0, 1) := by decide +kernel
theorem dX9_readClause_24 : decode cX9_readClause 24 = .ok (.invokevirtual 222, 3) := by decide +kernel
theorem dX9_readClause_27 : decode cX9_readClause 27 = .ok (.iload_n 1, 1) := by decide +kernel
theorem dX9_readClause_28 : decode cX9_readClause 28 = .ok (.iconst 1, 1) := by decide +kernel
theorem dX9_readClause_29 : decode cX9_readClause 29 = .ok (.if_icmp .ne 20, 3) := by decide +kernel
theorem dX9_readClause_32 : decode cX9_readClause 32 = .ok (.aload_n 0, 1) := by decide +kernel
theorem dX9_readClause_33 : decode cX9_readClause 33 = .ok (.aload_n 0, 1) := by decide +kernel
theorem dX9_readClause_34 : decode cX9_readClause 34 = .ok (.bipush 116, 2) := by decide +kernel
theorem dX9_readClause_36 : decode cX9_readClause 36 = .ok (.bipush 111, 2) := by decide +kernel
theorem dX9_readClause_38 : decode cX9_readClause 38 = .ok (.bipush 110, 2) := by decide +kernel
theorem dX9_readClause_40 : decode cX9_readClause 40 = .ok (.iconst 0, 1) := by decide +kernel
theorem dX9_readClause_41 : decode cX9_readClause 41 = .ok (.iconst 0, 1) := by decide +kernel
theorem dX9_readClause_42 : decode cX9_readClause 42 = .ok (.iconst 0, 1) := by decide +kernel
theorem dX9_readClause_43 : decode cX9_readClause 43 = .ok (.invokevirtual 226, 3) := by decide +kernel
theorem dX9_readClause_46 : decode cX9_readClause 46 = .ok (.invokevirtual 222, 3) := by decide +kernel
theorem dX9_readClause_49 : decode cX9_readClause 49 = .ok (.aload_n 0, 1) := by decide +kernel
theorem dX9_readClause_50 : decode cX9_readClause 50 = .ok (.invokevirtual 237, 3) := by decide +kernel
theorem dX9_readClause_53 : decode cX9_readClause 53 = .ok (.istore_n 2, 1) := by decide +kernel
theorem dX9_readClause_54 : decode cX9_readClause 54 = .ok (.iconst 0, 1) := by decide +kernel
theorem dX9_readClause_55 : decode cX9_readClause 55 = .ok (.istore_n 3, 1) := by decide +kernel
theorem dX9_readClause_56 : decode cX9_readClause 56 = .ok (.iload_n 1, 1) := by decide +kernel
theorem dX9_readClause_57 : decode cX9_readClause 57 = .ok (.iconst 2, 1) := by decide +kernel
theorem dX9_readClause_58 : decode cX9_readClause 58 = .ok (.if_icmp .lt 79, 3) := by decide +kernel
theorem dX9_readClause_61 : decode cX9_readClause 61 = .ok (.iload_n 1, 1) := by decide +kernel
theorem dX9_readClause_62 : decode cX9_readClause 62 = .ok (.iconst 4, 1) := by decide +kernel
theorem dX9_readClause_63 : decode cX9_readClause 63 = .ok (.if_icmp .gt 74, 3) := by decide +kernel
theorem dX9_readClause_66 : decode cX9_readClause 66 = .ok (.aload_n 0, 1) := by decide +kernel
theorem dX9_readClause_67 : decode cX9_readClause 67 = .ok (.iload_n 1, 1) := by decide +kernel
theorem dX9_readClause_68 : decode cX9_readClause 68 = .ok (.iconst 2, 1) := by decide +kernel
theorem dX9_readClause_69 : decode cX9_readClause 69 = .ok (.if_icmp .ne 22, 3) := by decide +kernel
theorem dX9_readClause_72 : decode cX9_readClause 72 = .ok (.aload_n 0, 1) := by decide +kernel
theorem dX9_readClause_73 : decode cX9_readClause 73 = .ok (.bipush 98, 2) := by decide +kernel
theorem dX9_readClause_75 : decode cX9_readClause 75 = .ok (.bipush 101, 2) := by decide +kernel
theorem dX9_readClause_77 : decode cX9_readClause 77 = .ok (.bipush 104, 2) := by decide +kernel
theorem dX9_readClause_79 : decode cX9_readClause 79 = .ok (.bipush 105, 2) := by decide +kernel
theorem dX9_readClause_81 : decode cX9_readClause 81 = .ok (.bipush 110, 2) := by decide +kernel
theorem dX9_readClause_83 : decode cX9_readClause 83 = .ok (.bipush 100, 2) := by decide +kernel
theorem dX9_readClause_85 : decode cX9_readClause 85 = .ok (.invokevirtual 226, 3) := by decide +kernel
theorem dX9_readClause_88 : decode cX9_readClause 88 = .ok (.goto 41, 3) := by decide +kernel
theorem dX9_readClause_91 : decode cX9_readClause 91 = .ok (.iload_n 1, 1) := by decide +kernel
theorem dX9_readClause_92 : decode cX9_readClause 92 = .ok (.iconst 3, 1) := by decide +kernel
theorem dX9_readClause_93 : decode cX9_readClause 93 = .ok (.if_icmp .ne 21, 3) := by decide +kernel
theorem dX9_readClause_96 : decode cX9_readClause 96 = .ok (.aload_n 0, 1) := by decide +kernel
theorem dX9_readClause_97 : decode cX9_readClause 97 = .ok (.bipush 97, 2) := by decide +kernel
theorem dX9_readClause_99 : decode cX9_readClause 99 = .ok (.bipush 104, 2) := by decide +kernel
theorem dX9_readClause_101 : decode cX9_readClause 101 = .ok (.bipush 101, 2) := by decide +kernel
theorem dX9_readClause_103 : decode cX9_readClause 103 = .ok (.bipush 97, 2) := by decide +kernel
theorem dX9_readClause_105 : decode cX9_readClause 105 = .ok (.bipush 100, 2) := by decide +kernel
theorem dX9_readClause_107 : decode cX9_readClause 107 = .ok (.iconst 0, 1) := by decide +kernel
theorem dX9_readClause_108 : decode cX9_readClause 108 = .ok (.invokevirtual 226, 3) := by decide +kernel
theorem dX9_readClause_111 : decode cX9_readClause 111 = .ok (.goto 18, 3) := by decide +kernel
theorem dX9_readClause_114 : decode cX9_readClause 114 = .ok (.aload_n 0, 1) := by decide +kernel
theorem dX9_readClause_115 : decode cX9_readClause 115 = .ok (.bipush 98, 2) := by decide +kernel
theorem dX9_readClause_117 : decode cX9_readClause 117 = .ok (.bipush 101, 2) := by decide +kernel
theorem dX9_readClause_119 : decode cX9_readClause 119 = .ok (.bipush 108, 2) := by decide +kernel
theorem dX9_readClause_121 : decode cX9_readClause 121 = .ok (.bipush 111, 2) := by decide +kernel
theorem dX9_readClause_123 : decode cX9_readClause 123 = .ok (.bipush 119, 2) := by decide +kernel
theorem dX9_readClause_125 : decode cX9_readClause 125 = .ok (.iconst 0, 1) := by decide +kernel
theorem dX9_readClause_126 : decode cX9_readClause 126 = .ok (.invokevirtual 226, 3) := by decide +kernel
theorem dX9_readClause_129 : decode cX9_readClause 129 = .ok (.invokevirtual 222, 3) := by decide +kernel
theorem dX9_readClause_132 : decode cX9_readClause 132 = .ok (.aload_n 0, 1) := by decide +kernel
theorem dX9_readClause_133 : decode cX9_readClause 133 = .ok (.invokevirtual 237, 3) := by decide +kernel
theorem dX9_readClause_136 : decode cX9_readClause 136 = .ok (.istore_n 3, 1) := by decide +kernel
theorem dX9_readClause_137 : decode cX9_readClause 137 = .ok (.aload_n 0, 1) := by decide +kernel
theorem dX9_readClause_138 : decode cX9_readClause 138 = .ok (.getfield 215, 3) := by decide +kernel
theorem dX9_readClause_141 : decode cX9_readClause 141 = .ok (.ifCond .eq 4, 3) := by decide +kernel
theorem dX9_readClause_144 : decode cX9_readClause 144 = .ok (.return_, 1) := by decide +kernel
theorem dX9_readClause_145 : decode cX9_readClause 145 = .ok (.aload_n 0, 1) := by decide +kernel
theorem dX9_readClause_146 : decode cX9_readClause 146 = .ok (.getfield 68, 3) := by decide +kernel
theorem dX9_readClause_149 : decode cX9_readClause 149 = .ok (.iconst 3, 1) := by decide +kernel
theorem dX9_readClause_150 : decode cX9_readClause 150 = .ok (.aload_n 0, 1) := by decide +kernel
theorem dX9_readClause_151 : decode cX9_readClause 151 = .ok (.getfield 234, 3) := by decide +kernel
theorem dX9_readClause_154 : decode cX9_readClause 154 = .ok (.imul, 1) := by decide +kernel
theorem dX9_readClause_155 : decode cX9_readClause 155 = .ok (.iload_n 1, 1) := by decide +kernel
theorem dX9_readClause_156 : decode cX9_readClause 156 = .ok (.iastore, 1) := by decide +kernel
theorem dX9_readClause_157 : decode cX9_readClause 157 = .ok (.aload_n 0, 1) := by decide +kernel
theorem dX9_readClause_158 : decode cX9_readClause 158 = .ok (.getfield 68, 3) := by decide +kernel
theorem dX9_readClause_161 : decode cX9_readClause 161 = .ok (.iconst 3, 1) := by decide +kernel
theorem dX9_readClause_162 : decode cX9_readClause 162 = .ok (.aload_n 0, 1) := by decide +kernel
theorem dX9_readClause_163 : decode cX9_readClause 163 = .ok (.getfield 234, 3) := by decide +kernel
theorem dX9_readClause_166 : decode cX9_readClause 166 = .ok (.imul, 1) := by decide +kernel
theorem dX9_readClause_167 : decode cX9_readClause 167 = .ok (.iconst 1, 1) := by decide +kernel
theorem dX9_readClause_168 : decode cX9_readClause 168 = .ok (.iadd, 1) := by decide +kernel
theorem dX9_readClause_169 : decode cX9_readClause 169 = .ok (.iload_n 2, 1) := by decide +kernel
theorem dX9_readClause_170 : decode cX9_readClause 170 = .ok (.iastore, 1) := by decide +kernel
theorem dX9_readClause_171 : decode cX9_readClause 171 = .ok (.aload_n 0, 1) := by decide +kernel
theorem dX9_readClause_172 : decode cX9_readClause 172 = .ok (.getfield 68, 3) := by decide +kernel
theorem dX9_readClause_175 : decode cX9_readClause 175 = .ok (.iconst 3, 1) := by decide +kernel
theorem dX9_readClause_176 : decode cX9_readClause 176 = .ok (.aload_n 0, 1) := by decide +kernel
theorem dX9_readClause_177 : decode cX9_readClause 177 = .ok (.getfield 234, 3) := by decide +kernel
theorem dX9_readClause_180 : decode cX9_readClause 180 = .ok (.imul, 1) := by decide +kernel
theorem dX9_readClause_181 : decode cX9_readClause 181 = .ok (.iconst 2, 1) := by decide +kernel
theorem dX9_readClause_182 : decode cX9_readClause 182 = .ok (.iadd, 1) := by decide +kernel
theorem dX9_readClause_183 : decode cX9_readClause 183 = .ok (.iload_n 3, 1) := by decide +kernel
theorem dX9_readClause_184 : decode cX9_readClause 184 = .ok (.iastore, 1) := by decide +kernel
theorem dX9_readClause_185 : decode cX9_readClause 185 = .ok (.aload_n 0, 1) := by decide +kernel
theorem dX9_readClause_186 : decode cX9_readClause 186 = .ok (.dup, 1) := by decide +kernel
theorem dX9_readClause_187 : decode cX9_readClause 187 = .ok (.getfield 234, 3) := by decide +kernel
theorem dX9_readClause_190 : decode cX9_readClause 190 = .ok (.iconst 1, 1) := by decide +kernel
theorem dX9_readClause_191 : decode cX9_readClause 191 = .ok (.iadd, 1) := by decide +kernel
theorem dX9_readClause_192 : decode cX9_readClause 192 = .ok (.putfield 234, 3) := by decide +kernel
theorem dX9_readClause_195 : decode cX9_readClause 195 = .ok (.return_, 1) := by decide +kernel
set_option maxRecDepth 20000 in
theorem ggX9_contract_X9_next : GoodIn wsX9_contract wsX9_next := goodIn_r _ [19, 2, 20, 9, 21, 7, 6, 22, 23, 24, 25, 26, 27, 28, 29, 18, 30, 31, 32, 33, 59, 60, 61, 62, 63, 64, 65, 66, 67, 68, 69, 70, 71, 72, 73, 74, 75, 76, 77, 78, 79, 80, 81, 82, 83, 84, 85, 86, 87, 88, 89, 90, 91, 92, 93, 94, 95, 96, 97, 98, 99] (by decide +kernel) (by decide +kernel)
set_option maxRecDepth 20000 in
theorem gX9_contract_X9_next : GoodIn wsX9_contract (wsV RX9 219 RX9 yX9_next wsX9_next) := goodIn_app (goodIn_of _ (by decide +kernel)) ggX9_contract_X9_next
set_option maxRecDepth 20000 in
theorem ggX9_contract_X9_readClause : GoodIn wsX9_contract wsX9_readClause := goodIn_r _ [37, 5, 3, 12, 38, 39, 40, 18, 41, 42, 43, 44, 45, 23, 22, 6, 7, 46, 47, 48, 49, 20, 4, 15, 16, 17, 19, 2, 9, 21, 24, 25, 26, 27, 28, 29, 30, 31, 32, 33, 50, 51, 52, 53, 59, 60, 61, 62, 63, 64, 65, 66, 67, 68, 69, 70, 71, 72, 73, 74, 75, 76, 77, 78, 79, 80, 81, 82, 83, 84, 85, 86, 87, 88, 89, 90, 91, 92, 93, 94, 95, 96, 97, 98, 99] (by decide +kernel) (by decide +kernel)
set_option maxRecDepth 20000 in
theorem gX9_contract_X9_readClause : GoodIn wsX9_contract (wsV RX9 240 RX9 yX9_readClause wsX9_readClause) := goodIn_app (goodIn_of _ (by decide +kernel)) ggX9_contract_X9_readClause
set_option maxRecDepth 20000 in
theorem ggX9_contract_X9_must : GoodIn wsX9_contract wsX9_must := goodIn_r _ [49, 3, 20, 4, 15, 16, 17, 18, 19, 2, 9, 21, 7, 6, 22, 23, 24, 25, 26, 27, 28, 29, 30, 31, 32, 33, 59, 60, 61, 62, 63, 64, 65, 66, 67, 68, 69, 70, 71, 72, 73, 74, 75, 76, 77, 78, 79, 80, 81, 82, 83, 84, 85, 86, 87, 88, 89, 90, 91, 92, 93, 94, 95, 96, 97, 98, 99] (by decide +kernel) (by decide +kernel)
set_option maxRecDepth 20000 in
theorem gX9_contract_X9_must : GoodIn wsX9_contract (wsV RX9 222 RX9 yX9_must wsX9_must) := goodIn_app (goodIn_of _ (by decide +kernel)) ggX9_contract_X9_must
set_option maxRecDepth 20000 in
theorem ggX9_contract_X9_told : GoodIn wsX9_contract wsX9_told := goodIn_r _ [57, 58, 59, 60, 61, 62, 63, 64, 65, 66, 67, 68, 69, 70, 71, 72, 73, 74, 75, 76, 77, 78, 79, 80, 81, 82, 83, 84, 85, 86, 87, 88, 89, 90, 91, 92, 93, 94, 95, 96, 97, 98, 99] (by decide +kernel) (by decide +kernel)
set_option maxRecDepth 20000 in
theorem gX9_contract_X9_told : GoodIn wsX9_contract (wsV RX9 99 RX9 yX9_told wsX9_told) := goodIn_app (goodIn_of _ (by decide +kernel)) ggX9_contract_X9_told
theorem dX9_contract_0 : decode cX9_contract 0 = .ok (.aload_n 0, 1) := by decide +kernel
theorem dX9_contract_1 : decode cX9_contract 1 = .ok (.iconst 0, 1) := by decide +kernel
theorem dX9_contract_2 : decode cX9_contract 2 = .ok (.putfield 81, 3) := by decide +kernel
theorem dX9_contract_5 : decode cX9_contract 5 = .ok (.aload_n 0, 1) := by decide +kernel
theorem dX9_contract_6 : decode cX9_contract 6 = .ok (.iconst 0, 1) := by decide +kernel
theorem dX9_contract_7 : decode cX9_contract 7 = .ok (.putfield 189, 3) := by decide +kernel
theorem dX9_contract_10 : decode cX9_contract 10 = .ok (.aload_n 0, 1) := by decide +kernel
theorem dX9_contract_11 : decode cX9_contract 11 = .ok (.iconst 0, 1) := by decide +kernel
theorem dX9_contract_12 : decode cX9_contract 12 = .ok (.putfield 215, 3) := by decide +kernel
theorem dX9_contract_15 : decode cX9_contract 15 = .ok (.aload_n 0, 1) := by decide +kernel
theorem dX9_contract_16 : decode cX9_contract 16 = .ok (.iconst (-1), 1) := by decide +kernel
theorem dX9_contract_17 : decode cX9_contract 17 = .ok (.putfield 74, 3) := by decide +kernel
theorem dX9_contract_20 : decode cX9_contract 20 = .ok (.aload_n 0, 1) := by decide +kernel
theorem dX9_contract_21 : decode cX9_contract 21 = .ok (.iconst 0, 1) := by decide +kernel
theorem dX9_contract_22 : decode cX9_contract 22 = .ok (.putfield 234, 3) := by decide +kernel
theorem dX9_contract_25 : decode cX9_contract 25 = .ok (.aload_n 0, 1) := by decide +kernel
theorem dX9_contract_26 : decode cX9_contract 26 = .ok (.invokevirtual 219, 3) := by decide +kernel
theorem dX9_contract_29 : decode cX9_contract 29 = .ok (.aload_n 0, 1) := by decide +kernel
theorem dX9_contract_30 : decode cX9_contract 30 = .ok (.getfield 204, 3) := by decide +kernel
theorem dX9_contract_33 : decode cX9_contract 33 = .ok (.ifCond .eq 63, 3) := by decide +kernel
theorem dX9_contract_36 : decode cX9_contract 36 = .ok (.aload_n 0, 1) := by decide +kernel
theorem dX9_contract_37 : decode cX9_contract 37 = .ok (.invokevirtual 240, 3) := by decide +kernel
theorem dX9_contract_40 : decode cX9_contract 40 = .ok (.aload_n 0, 1) := by decide +kernel
theorem dX9_contract_41 : decode cX9_contract 41 = .ok (.getfield 215, 3) := by decide +kernel
theorem dX9_contract_44 : decode cX9_contract 44 = .ok (.ifCond .ne 33, 3) := by decide +kernel
theorem dX9_contract_47 : decode cX9_contract 47 = .ok (.aload_n 0, 1) := by decide +kernel
theorem dX9_contract_48 : decode cX9_contract 48 = .ok (.getfield 204, 3) := by decide +kernel
theorem dX9_contract_51 : decode cX9_contract 51 = .ok (.iconst 3, 1) := by decide +kernel
theorem dX9_contract_52 : decode cX9_contract 52 = .ok (.if_icmp .ne 25, 3) := by decide +kernel
theorem dX9_contract_55 : decode cX9_contract 55 = .ok (.aload_n 0, 1) := by decide +kernel
theorem dX9_contract_56 : decode cX9_contract 56 = .ok (.getfield 195, 3) := by decide +kernel
theorem dX9_contract_59 : decode cX9_contract 59 = .ok (.ldc2_w 243, 3) := by decide +kernel
theorem dX9_contract_62 : decode cX9_contract 62 = .ok (.lcmp, 1) := by decide +kernel
theorem dX9_contract_63 : decode cX9_contract 63 = .ok (.ifCond .ne 14, 3) := by decide +kernel
theorem dX9_contract_66 : decode cX9_contract 66 = .ok (.aload_n 0, 1) := by decide +kernel
theorem dX9_contract_67 : decode cX9_contract 67 = .ok (.invokevirtual 219, 3) := by decide +kernel
theorem dX9_contract_70 : decode cX9_contract 70 = .ok (.aload_n 0, 1) := by decide +kernel
theorem dX9_contract_71 : decode cX9_contract 71 = .ok (.invokevirtual 240, 3) := by decide +kernel
theorem dX9_contract_74 : decode cX9_contract 74 = .ok (.goto (-34), 3) := by decide +kernel
theorem dX9_contract_77 : decode cX9_contract 77 = .ok (.aload_n 0, 1) := by decide +kernel
theorem dX9_contract_78 : decode cX9_contract 78 = .ok (.getfield 215, 3) := by decide +kernel
theorem dX9_contract_81 : decode cX9_contract 81 = .ok (.ifCond .ne 15, 3) := by decide +kernel
theorem dX9_contract_84 : decode cX9_contract 84 = .ok (.aload_n 0, 1) := by decide +kernel
theorem dX9_contract_85 : decode cX9_contract 85 = .ok (.getfield 204, 3) := by decide +kernel
theorem dX9_contract_88 : decode cX9_contract 88 = .ok (.ifCond .eq 8, 3) := by decide +kernel
theorem dX9_contract_91 : decode cX9_contract 91 = .ok (.aload_n 0, 1) := by decide +kernel
theorem dX9_contract_92 : decode cX9_contract 92 = .ok (.iconst 0, 1) := by decide +kernel
theorem dX9_contract_93 : decode cX9_contract 93 = .ok (.invokevirtual 222, 3) := by decide +kernel
theorem dX9_contract_96 : decode cX9_contract 96 = .ok (.aload_n 0, 1) := by decide +kernel
theorem dX9_contract_97 : decode cX9_contract 97 = .ok (.iconst 0, 1) := by decide +kernel
theorem dX9_contract_98 : decode cX9_contract 98 = .ok (.putfield 183, 3) := by decide +kernel
theorem dX9_contract_101 : decode cX9_contract 101 = .ok (.aload_n 0, 1) := by decide +kernel
theorem dX9_contract_102 : decode cX9_contract 102 = .ok (.getfield 215, 3) := by decide +kernel
theorem dX9_contract_105 : decode cX9_contract 105 = .ok (.ifCond .eq 10, 3) := by decide +kernel
theorem dX9_contract_108 : decode cX9_contract 108 = .ok (.aload_n 0, 1) := by decide +kernel
theorem dX9_contract_109 : decode cX9_contract 109 = .ok (.bipush (-6), 2) := by decide +kernel
theorem dX9_contract_111 : decode cX9_contract 111 = .ok (.invokevirtual 99, 3) := by decide +kernel
theorem dX9_contract_114 : decode cX9_contract 114 = .ok (.ireturn, 1) := by decide +kernel
theorem dX9_contract_115 : decode cX9_contract 115 = .ok (.aload_n 0, 1) := by decide +kernel
theorem dX9_contract_116 : decode cX9_contract 116 = .ok (.aload_n 0, 1) := by decide +kernel
theorem dX9_contract_117 : decode cX9_contract 117 = .ok (.getfield 234, 3) := by decide +kernel
theorem dX9_contract_120 : decode cX9_contract 120 = .ok (.putfield 245, 3) := by decide +kernel
theorem dX9_contract_123 : decode cX9_contract 123 = .ok (.iconst 0, 1) := by decide +kernel
theorem dX9_contract_124 : decode cX9_contract 124 = .ok (.istore_n 1, 1) := by decide +kernel
theorem dX9_contract_125 : decode cX9_contract 125 = .ok (.iload_n 1, 1) := by decide +kernel
theorem dX9_contract_126 : decode cX9_contract 126 = .ok (.aload_n 0, 1) := by decide +kernel
theorem dX9_contract_127 : decode cX9_contract 127 = .ok (.getfield 245, 3) := by decide +kernel
theorem dX9_contract_130 : decode cX9_contract 130 = .ok (.if_icmp .ge 55, 3) := by decide +kernel
theorem dX9_contract_133 : decode cX9_contract 133 = .ok (.aload_n 0, 1) := by decide +kernel
theorem dX9_contract_134 : decode cX9_contract 134 = .ok (.getfield 59, 3) := by decide +kernel
theorem dX9_contract_137 : decode cX9_contract 137 = .ok (.iload_n 1, 1) := by decide +kernel
theorem dX9_contract_138 : decode cX9_contract 138 = .ok (.aload_n 0, 1) := by decide +kernel
theorem dX9_contract_139 : decode cX9_contract 139 = .ok (.getfield 68, 3) := by decide +kernel
theorem dX9_contract_142 : decode cX9_contract 142 = .ok (.iconst 3, 1) := by decide +kernel
theorem dX9_contract_143 : decode cX9_contract 143 = .ok (.iload_n 1, 1) := by decide +kernel
theorem dX9_contract_144 : decode cX9_contract 144 = .ok (.imul, 1) := by decide +kernel
theorem dX9_contract_145 : decode cX9_contract 145 = .ok (.iaload, 1) := by decide +kernel
theorem dX9_contract_146 : decode cX9_contract 146 = .ok (.iastore, 1) := by decide +kernel
theorem dX9_contract_147 : decode cX9_contract 147 = .ok (.aload_n 0, 1) := by decide +kernel
theorem dX9_contract_148 : decode cX9_contract 148 = .ok (.getfield 62, 3) := by decide +kernel
theorem dX9_contract_151 : decode cX9_contract 151 = .ok (.iload_n 1, 1) := by decide +kernel
theorem dX9_contract_152 : decode cX9_contract 152 = .ok (.aload_n 0, 1) := by decide +kernel
theorem dX9_contract_153 : decode cX9_contract 153 = .ok (.getfield 68, 3) := by decide +kernel
theorem dX9_contract_156 : decode cX9_contract 156 = .ok (.iconst 3, 1) := by decide +kernel
theorem dX9_contract_157 : decode cX9_contract 157 = .ok (.iload_n 1, 1) := by decide +kernel
theorem dX9_contract_158 : decode cX9_contract 158 = .ok (.imul, 1) := by decide +kernel
theorem dX9_contract_159 : decode cX9_contract 159 = .ok (.iconst 1, 1) := by decide +kernel
theorem dX9_contract_160 : decode cX9_contract 160 = .ok (.iadd, 1) := by decide +kernel
theorem dX9_contract_161 : decode cX9_contract 161 = .ok (.iaload, 1) := by decide +kernel
theorem dX9_contract_162 : decode cX9_contract 162 = .ok (.iastore, 1) := by decide +kernel
theorem dX9_contract_163 : decode cX9_contract 163 = .ok (.aload_n 0, 1) := by decide +kernel
theorem dX9_contract_164 : decode cX9_contract 164 = .ok (.getfield 65, 3) := by decide +kernel
theorem dX9_contract_167 : decode cX9_contract 167 = .ok (.iload_n 1, 1) := by decide +kernel
theorem dX9_contract_168 : decode cX9_contract 168 = .ok (.aload_n 0, 1) := by decide +kernel
theorem dX9_contract_169 : decode cX9_contract 169 = .ok (.getfield 68, 3) := by decide +kernel
theorem dX9_contract_172 : decode cX9_contract 172 = .ok (.iconst 3, 1) := by decide +kernel
theorem dX9_contract_173 : decode cX9_contract 173 = .ok (.iload_n 1, 1) := by decide +kernel
theorem dX9_contract_174 : decode cX9_contract 174 = .ok (.imul, 1) := by decide +kernel
theorem dX9_contract_175 : decode cX9_contract 175 = .ok (.iconst 2, 1) := by decide +kernel
theorem dX9_contract_176 : decode cX9_contract 176 = .ok (.iadd, 1) := by decide +kernel
theorem dX9_contract_177 : decode cX9_contract 177 = .ok (.iaload, 1) := by decide +kernel
theorem dX9_contract_178 : decode cX9_contract 178 = .ok (.iastore, 1) := by decide +kernel
theorem dX9_contract_179 : decode cX9_contract 179 = .ok (.iinc 1 1, 3) := by decide +kernel
theorem dX9_contract_182 : decode cX9_contract 182 = .ok (.goto (-57), 3) := by decide +kernel
theorem dX9_contract_185 : decode cX9_contract 185 = .ok (.aload_n 0, 1) := by decide +kernel
theorem dX9_contract_186 : decode cX9_contract 186 = .ok (.aload_n 0, 1) := by decide +kernel
theorem dX9_contract_187 : decode cX9_contract 187 = .ok (.getfield 245, 3) := by decide +kernel
theorem dX9_contract_190 : decode cX9_contract 190 = .ok (.invokevirtual 99, 3) := by decide +kernel
theorem dX9_contract_193 : decode cX9_contract 193 = .ok (.ireturn, 1) := by decide +kernel
theorem dX9_fault_0 : decode cX9_fault 0 = .ok (.aload_n 0, 1) := by decide +kernel
theorem dX9_fault_1 : decode cX9_fault 1 = .ok (.iconst 0, 1) := by decide +kernel
theorem dX9_fault_2 : decode cX9_fault 2 = .ok (.putfield 81, 3) := by decide +kernel
theorem dX9_fault_5 : decode cX9_fault 5 = .ok (.aload_n 0, 1) := by decide +kernel
theorem dX9_fault_6 : decode cX9_fault 6 = .ok (.getfield 74, 3) := by decide +kernel
theorem dX9_fault_9 : decode cX9_fault 9 = .ok (.ireturn, 1) := by decide +kernel
set_option maxRecDepth 20000 in
theorem ggX9_due_X9_in : GoodIn wsX9_due wsX9_in := goodIn_r _ [12] (by decide +kernel) (by decide +kernel)
set_option maxRecDepth 20000 in
theorem gX9_due_X9_in : GoodIn wsX9_due (va_wsS RX9 89 yX9_in wsX9_in) := goodIn_app (goodIn_of _ (by decide +kernel)) ggX9_due_X9_in
theorem dX9_due_0 : decode cX9_due 0 = .ok (.aload_n 0, 1) := by decide +kernel
theorem dX9_due_1 : decode cX9_due 1 = .ok (.iconst 0, 1) := by decide +kernel
theorem dX9_due_2 : decode cX9_due 2 = .ok (.putfield 81, 3) := by decide +kernel
theorem dX9_due_5 : decode cX9_due 5 = .ok (.iload_n 1, 1) := by decide +kernel
theorem dX9_due_6 : decode cX9_due 6 = .ok (.i2l, 1) := by decide +kernel
theorem dX9_due_7 : decode cX9_due 7 = .ok (.lconst 0, 1) := by decide +kernel
theorem dX9_due_8 : decode cX9_due 8 = .ok (.ldc2_w 158, 3) := by decide +kernel
theorem dX9_due_11 : decode cX9_due 11 = .ok (.invokestatic 89, 3) := by decide +kernel
theorem dX9_due_14 : decode cX9_due 14 = .ok (.ifCond .eq 27, 3) := by decide +kernel
theorem dX9_due_17 : decode cX9_due 17 = .ok (.iload_n 2, 1) := by decide +kernel
theorem dX9_due_18 : decode cX9_due 18 = .ok (.i2l, 1) := by decide +kernel
theorem dX9_due_19 : decode cX9_due 19 = .ok (.lconst 0, 1) := by decide +kernel
theorem dX9_due_20 : decode cX9_due 20 = .ok (.ldc2_w 158, 3) := by decide +kernel
theorem dX9_due_23 : decode cX9_due 23 = .ok (.invokestatic 89, 3) := by decide +kernel
theorem dX9_due_26 : decode cX9_due 26 = .ok (.ifCond .eq 15, 3) := by decide +kernel
theorem dX9_due_29 : decode cX9_due 29 = .ok (.iload_n 3, 1) := by decide +kernel
theorem dX9_due_30 : decode cX9_due 30 = .ok (.i2l, 1) := by decide +kernel
theorem dX9_due_31 : decode cX9_due 31 = .ok (.lconst 0, 1) := by decide +kernel
theorem dX9_due_32 : decode cX9_due 32 = .ok (.ldc2_w 248, 3) := by decide +kernel
theorem dX9_due_35 : decode cX9_due 35 = .ok (.invokestatic 89, 3) := by decide +kernel
theorem dX9_due_38 : decode cX9_due 38 = .ok (.ifCond .ne 7, 3) := by decide +kernel
theorem dX9_due_41 : decode cX9_due 41 = .ok (.ldc2_w 147, 3) := by decide +kernel
theorem dX9_due_44 : decode cX9_due 44 = .ok (.lreturn, 1) := by decide +kernel
theorem dX9_due_45 : decode cX9_due 45 = .ok (.lconst 0, 1) := by decide +kernel
theorem dX9_due_46 : decode cX9_due 46 = .ok (.lstore 4, 2) := by decide +kernel
theorem dX9_due_48 : decode cX9_due 48 = .ok (.iconst 0, 1) := by decide +kernel
theorem dX9_due_49 : decode cX9_due 49 = .ok (.istore 6, 2) := by decide +kernel
theorem dX9_due_51 : decode cX9_due 51 = .ok (.iload 6, 2) := by decide +kernel
theorem dX9_due_53 : decode cX9_due 53 = .ok (.aload_n 0, 1) := by decide +kernel
theorem dX9_due_54 : decode cX9_due 54 = .ok (.getfield 245, 3) := by decide +kernel
theorem dX9_due_57 : decode cX9_due 57 = .ok (.if_icmp .ge 211, 3) := by decide +kernel
theorem dX9_due_60 : decode cX9_due 60 = .ok (.aload_n 0, 1) := by decide +kernel
theorem dX9_due_61 : decode cX9_due 61 = .ok (.getfield 62, 3) := by decide +kernel
theorem dX9_due_64 : decode cX9_due 64 = .ok (.iload 6, 2) := by decide +kernel
theorem dX9_due_66 : decode cX9_due 66 = .ok (.iaload, 1) := by decide +kernel
theorem dX9_due_67 : decode cX9_due 67 = .ok (.i2l, 1) := by decide +kernel
theorem dX9_due_68 : decode cX9_due 68 = .ok (.lstore 7, 2) := by decide +kernel
theorem dX9_due_70 : decode cX9_due 70 = .ok (.aload_n 0, 1) := by decide +kernel
theorem dX9_due_71 : decode cX9_due 71 = .ok (.getfield 65, 3) := by decide +kernel
theorem dX9_due_74 : decode cX9_due 74 = .ok (.iload 6, 2) := by decide +kernel
theorem dX9_due_76 : decode cX9_due 76 = .ok (.iaload, 1) := by decide +kernel
theorem dX9_due_77 : decode cX9_due 77 = .ok (.istore 9, 2) := by decide +kernel
theorem dX9_due_79 : decode cX9_due 79 = .ok (.aload_n 0, 1) := by decide +kernel
theorem dX9_due_80 : decode cX9_due 80 = .ok (.getfield 59, 3) := by decide +kernel
theorem dX9_due_83 : decode cX9_due 83 = .ok (.iload 6, 2) := by decide +kernel
theorem dX9_due_85 : decode cX9_due 85 = .ok (.iaload, 1) := by decide +kernel
theorem dX9_due_86 : decode cX9_due 86 = .ok (.tableswitch 159 0 5 #[38, 48, 61, 87, 113, 139], 38) := by decide +kernel
theorem dX9_due_124 : decode cX9_due 124 = .ok (.lload 4, 2) := by decide +kernel
theorem dX9_due_126 : decode cX9_due 126 = .ok (.lload 7, 2) := by decide +kernel
theorem dX9_due_128 : decode cX9_due 128 = .ok (.ladd, 1) := by decide +kernel
theorem dX9_due_129 : decode cX9_due 129 = .ok (.lstore 4, 2) := by decide +kernel
theorem dX9_due_131 : decode cX9_due 131 = .ok (.goto 131, 3) := by decide +kernel
theorem dX9_due_134 : decode cX9_due 134 = .ok (.lload 4, 2) := by decide +kernel
theorem dX9_due_136 : decode cX9_due 136 = .ok (.lload 7, 2) := by decide +kernel
theorem dX9_due_138 : decode cX9_due 138 = .ok (.iload_n 1, 1) := by decide +kernel
theorem dX9_due_139 : decode cX9_due 139 = .ok (.i2l, 1) := by decide +kernel
theorem dX9_due_140 : decode cX9_due 140 = .ok (.lmul, 1) := by decide +kernel
theorem dX9_due_141 : decode cX9_due 141 = .ok (.ladd, 1) := by decide +kernel
theorem dX9_due_142 : decode cX9_due 142 = .ok (.lstore 4, 2) := by decide +kernel
theorem dX9_due_144 : decode cX9_due 144 = .ok (.goto 118, 3) := by decide +kernel
theorem dX9_due_147 : decode cX9_due 147 = .ok (.lload 4, 2) := by decide +kernel
theorem dX9_due_149 : decode cX9_due 149 = .ok (.iload_n 2, 1) := by decide +kernel
theorem dX9_due_150 : decode cX9_due 150 = .ok (.iload 9, 2) := by decide +kernel
theorem dX9_due_152 : decode cX9_due 152 = .ok (.if_icmp .le 14, 3) := by decide +kernel
theorem dX9_due_155 : decode cX9_due 155 = .ok (.lload 7, 2) := by decide +kernel
theorem dX9_due_157 : decode cX9_due 157 = .ok (.iload_n 2, 1) := by decide +kernel
theorem dX9_due_158 : decode cX9_due 158 = .ok (.iload 9, 2) := by decide +kernel
theorem dX9_due_160 : decode cX9_due 160 = .ok (.isub, 1) := by decide +kernel
theorem dX9_due_161 : decode cX9_due 161 = .ok (.i2l, 1) := by decide +kernel
theorem dX9_due_162 : decode cX9_due 162 = .ok (.lmul, 1) := by decide +kernel
theorem dX9_due_163 : decode cX9_due 163 = .ok (.goto 4, 3) := by decide +kernel
theorem dX9_due_166 : decode cX9_due 166 = .ok (.lconst 0, 1) := by decide +kernel
theorem dX9_due_167 : decode cX9_due 167 = .ok (.lsub, 1) := by decide +kernel
theorem dX9_due_168 : decode cX9_due 168 = .ok (.lstore 4, 2) := by decide +kernel
theorem dX9_due_170 : decode cX9_due 170 = .ok (.goto 92, 3) := by decide +kernel
theorem dX9_due_173 : decode cX9_due 173 = .ok (.lload 4, 2) := by decide +kernel
theorem dX9_due_175 : decode cX9_due 175 = .ok (.iload_n 2, 1) := by decide +kernel
theorem dX9_due_176 : decode cX9_due 176 = .ok (.iload 9, 2) := by decide +kernel
theorem dX9_due_178 : decode cX9_due 178 = .ok (.if_icmp .ge 14, 3) := by decide +kernel
theorem dX9_due_181 : decode cX9_due 181 = .ok (.lload 7, 2) := by decide +kernel
theorem dX9_due_183 : decode cX9_due 183 = .ok (.iload 9, 2) := by decide +kernel
theorem dX9_due_185 : decode cX9_due 185 = .ok (.iload_n 2, 1) := by decide +kernel
theorem dX9_due_186 : decode cX9_due 186 = .ok (.isub, 1) := by decide +kernel
theorem dX9_due_187 : decode cX9_due 187 = .ok (.i2l, 1) := by decide +kernel
theorem dX9_due_188 : decode cX9_due 188 = .ok (.lmul, 1) := by decide +kernel
theorem dX9_due_189 : decode cX9_due 189 = .ok (.goto 4, 3) := by decide +kernel
theorem dX9_due_192 : decode cX9_due 192 = .ok (.lconst 0, 1) := by decide +kernel
theorem dX9_due_193 : decode cX9_due 193 = .ok (.ladd, 1) := by decide +kernel
theorem dX9_due_194 : decode cX9_due 194 = .ok (.lstore 4, 2) := by decide +kernel
theorem dX9_due_196 : decode cX9_due 196 = .ok (.goto 66, 3) := by decide +kernel
theorem dX9_due_199 : decode cX9_due 199 = .ok (.lload 4, 2) := by decide +kernel
theorem dX9_due_201 : decode cX9_due 201 = .ok (.iload_n 3, 1) := by decide +kernel
theorem dX9_due_202 : decode cX9_due 202 = .ok (.i2l, 1) := by decide +kernel
theorem dX9_due_203 : decode cX9_due 203 = .ok (.iload 9, 2) := by decide +kernel
theorem dX9_due_205 : decode cX9_due 205 = .ok (.i2l, 1) := by decide +kernel
theorem dX9_due_206 : decode cX9_due 206 = .ok (.iload_n 1, 1) := by decide +kernel
theorem dX9_due_207 : decode cX9_due 207 = .ok (.i2l, 1) := by decide +kernel
theorem dX9_due_208 : decode cX9_due 208 = .ok (.lmul, 1) := by decide +kernel
theorem dX9_due_209 : decode cX9_due 209 = .ok (.lcmp, 1) := by decide +kernel
theorem dX9_due_210 : decode cX9_due 210 = .ok (.ifCond .ge 8, 3) := by decide +kernel
theorem dX9_due_213 : decode cX9_due 213 = .ok (.lload 7, 2) := by decide +kernel
theorem dX9_due_215 : decode cX9_due 215 = .ok (.goto 4, 3) := by decide +kernel
theorem dX9_due_218 : decode cX9_due 218 = .ok (.lconst 0, 1) := by decide +kernel
theorem dX9_due_219 : decode cX9_due 219 = .ok (.ladd, 1) := by decide +kernel
theorem dX9_due_220 : decode cX9_due 220 = .ok (.lstore 4, 2) := by decide +kernel
theorem dX9_due_222 : decode cX9_due 222 = .ok (.goto 40, 3) := by decide +kernel
theorem dX9_due_225 : decode cX9_due 225 = .ok (.lload 4, 2) := by decide +kernel
theorem dX9_due_227 : decode cX9_due 227 = .ok (.lload 7, 2) := by decide +kernel
theorem dX9_due_229 : decode cX9_due 229 = .ok (.lcmp, 1) := by decide +kernel
theorem dX9_due_230 : decode cX9_due 230 = .ok (.ifCond .le 8, 3) := by decide +kernel
theorem dX9_due_233 : decode cX9_due 233 = .ok (.lload 7, 2) := by decide +kernel
theorem dX9_due_235 : decode cX9_due 235 = .ok (.goto 5, 3) := by decide +kernel
theorem dX9_due_238 : decode cX9_due 238 = .ok (.lload 4, 2) := by decide +kernel
theorem dX9_due_240 : decode cX9_due 240 = .ok (.lstore 4, 2) := by decide +kernel
theorem dX9_due_242 : decode cX9_due 242 = .ok (.goto 20, 3) := by decide +kernel
theorem dX9_due_245 : decode cX9_due 245 = .ok (.lload 4, 2) := by decide +kernel
theorem dX9_due_247 : decode cX9_due 247 = .ok (.lload 7, 2) := by decide +kernel
theorem dX9_due_249 : decode cX9_due 249 = .ok (.lcmp, 1) := by decide +kernel
theorem dX9_due_250 : decode cX9_due 250 = .ok (.ifCond .ge 8, 3) := by decide +kernel
theorem dX9_due_253 : decode cX9_due 253 = .ok (.lload 7, 2) := by decide +kernel
theorem dX9_due_255 : decode cX9_due 255 = .ok (.goto 5, 3) := by decide +kernel
theorem dX9_due_258 : decode cX9_due 258 = .ok (.lload 4, 2) := by decide +kernel
theorem dX9_due_260 : decode cX9_due 260 = .ok (.lstore 4, 2) := by decide +kernel
theorem dX9_due_262 : decode cX9_due 262 = .ok (.iinc 6 1, 3) := by decide +kernel
theorem dX9_due_265 : decode cX9_due 265 = .ok (.goto (-214), 3) := by decide +kernel
theorem dX9_due_268 : decode cX9_due 268 = .ok (.lload 4, 2) := by decide +kernel
theorem dX9_due_270 : decode cX9_due 270 = .ok (.lreturn, 1) := by decide +kernel
set_option maxRecDepth 20000 in
theorem ggX9_isLeg_X9_in : GoodIn wsX9_isLeg wsX9_in := goodIn_r _ [5] (by decide +kernel) (by decide +kernel)
set_option maxRecDepth 20000 in
theorem gX9_isLeg_X9_in : GoodIn wsX9_isLeg (va_wsS RX9 89 yX9_in wsX9_in) := goodIn_app (goodIn_of _ (by decide +kernel)) ggX9_isLeg_X9_in
theorem dX9_isLeg_0 : decode cX9_isLeg 0 = .ok (.iload_n 1, 1) := by decide +kernel
theorem dX9_isLeg_1 : decode cX9_isLeg 1 = .ok (.i2l, 1) := by decide +kernel
theorem dX9_isLeg_2 : decode cX9_isLeg 2 = .ok (.lconst 0, 1) := by decide +kernel
theorem dX9_isLeg_3 : decode cX9_isLeg 3 = .ok (.aload_n 0, 1) := by decide +kernel
theorem dX9_isLeg_4 : decode cX9_isLeg 4 = .ok (.getfield 250, 3) := by decide +kernel
theorem dX9_isLeg_7 : decode cX9_isLeg 7 = .ok (.i2l, 1) := by decide +kernel
theorem dX9_isLeg_8 : decode cX9_isLeg 8 = .ok (.lconst 1, 1) := by decide +kernel
theorem dX9_isLeg_9 : decode cX9_isLeg 9 = .ok (.lsub, 1) := by decide +kernel
theorem dX9_isLeg_10 : decode cX9_isLeg 10 = .ok (.invokestatic 89, 3) := by decide +kernel
theorem dX9_isLeg_13 : decode cX9_isLeg 13 = .ok (.ireturn, 1) := by decide +kernel
set_option maxRecDepth 20000 in
theorem ggX9_leg_X9_in : GoodIn wsX9_leg wsX9_in := goodIn_r _ [8] (by decide +kernel) (by decide +kernel)
set_option maxRecDepth 20000 in
theorem gX9_leg_X9_in : GoodIn wsX9_leg (va_wsS RX9 89 yX9_in wsX9_in) := goodIn_app (goodIn_of _ (by decide +kernel)) ggX9_leg_X9_in
set_option maxRecDepth 20000 in
theorem ggX9_leg_X9_told : GoodIn wsX9_leg wsX9_told := goodIn_r _ [12, 13, 14, 15, 16, 17, 18, 19, 20, 21, 22, 23, 24, 25, 26, 27, 28, 29, 30, 31, 32, 33, 34, 35, 36, 37, 38, 39, 40, 41, 42, 43, 44, 45, 46, 47, 48, 49, 50, 51, 52, 53, 54] (by decide +kernel) (by decide +kernel)
set_option maxRecDepth 20000 in
theorem gX9_leg_X9_told : GoodIn wsX9_leg (wsV RX9 99 RX9 yX9_told wsX9_told) := goodIn_app (goodIn_of _ (by decide +kernel)) ggX9_leg_X9_told
theorem dX9_leg_0 : decode cX9_leg 0 = .ok (.aload_n 0, 1) := by decide +kernel
theorem dX9_leg_1 : decode cX9_leg 1 = .ok (.iconst 0, 1) := by decide +kernel
theorem dX9_leg_2 : decode cX9_leg 2 = .ok (.putfield 81, 3) := by decide +kernel
theorem dX9_leg_5 : decode cX9_leg 5 = .ok (.iload_n 1, 1) := by decide +kernel
theorem dX9_leg_6 : decode cX9_leg 6 = .ok (.i2l, 1) := by decide +kernel
theorem dX9_leg_7 : decode cX9_leg 7 = .ok (.lconst 0, 1) := by decide +kernel
theorem dX9_leg_8 : decode cX9_leg 8 = .ok (.ldc2_w 253, 3) := by decide +kernel
theorem dX9_leg_11 : decode cX9_leg 11 = .ok (.invokestatic 89, 3) := by decide +kernel
theorem dX9_leg_14 : decode cX9_leg 14 = .ok (.ifCond .ne 9, 3) := by decide +kernel
theorem dX9_leg_17 : decode cX9_leg 17 = .ok (.aload_n 0, 1) := by decide +kernel
theorem dX9_leg_18 : decode cX9_leg 18 = .ok (.iconst (-1), 1) := by decide +kernel
theorem dX9_leg_19 : decode cX9_leg 19 = .ok (.invokevirtual 99, 3) := by decide +kernel
theorem dX9_leg_22 : decode cX9_leg 22 = .ok (.ireturn, 1) := by decide +kernel
theorem dX9_leg_23 : decode cX9_leg 23 = .ok (.aload_n 0, 1) := by decide +kernel
theorem dX9_leg_24 : decode cX9_leg 24 = .ok (.getfield 250, 3) := by decide +kernel
theorem dX9_leg_27 : decode cX9_leg 27 = .ok (.bipush 10, 2) := by decide +kernel
theorem dX9_leg_29 : decode cX9_leg 29 = .ok (.if_icmp .ne 10, 3) := by decide +kernel
theorem dX9_leg_32 : decode cX9_leg 32 = .ok (.aload_n 0, 1) := by decide +kernel
theorem dX9_leg_33 : decode cX9_leg 33 = .ok (.bipush (-5), 2) := by decide +kernel
theorem dX9_leg_35 : decode cX9_leg 35 = .ok (.invokevirtual 99, 3) := by decide +kernel
theorem dX9_leg_38 : decode cX9_leg 38 = .ok (.ireturn, 1) := by decide +kernel
theorem dX9_leg_39 : decode cX9_leg 39 = .ok (.aload_n 0, 1) := by decide +kernel
theorem dX9_leg_40 : decode cX9_leg 40 = .ok (.getfield 78, 3) := by decide +kernel
theorem dX9_leg_43 : decode cX9_leg 43 = .ok (.aload_n 0, 1) := by decide +kernel
theorem dX9_leg_44 : decode cX9_leg 44 = .ok (.getfield 250, 3) := by decide +kernel
theorem dX9_leg_47 : decode cX9_leg 47 = .ok (.iload_n 1, 1) := by decide +kernel
theorem dX9_leg_48 : decode cX9_leg 48 = .ok (.iastore, 1) := by decide +kernel
theorem dX9_leg_49 : decode cX9_leg 49 = .ok (.aload_n 0, 1) := by decide +kernel
theorem dX9_leg_50 : decode cX9_leg 50 = .ok (.dup, 1) := by decide +kernel
theorem dX9_leg_51 : decode cX9_leg 51 = .ok (.getfield 250, 3) := by decide +kernel
theorem dX9_leg_54 : decode cX9_leg 54 = .ok (.iconst 1, 1) := by decide +kernel
theorem dX9_leg_55 : decode cX9_leg 55 = .ok (.iadd, 1) := by decide +kernel
theorem dX9_leg_56 : decode cX9_leg 56 = .ok (.putfield 250, 3) := by decide +kernel
theorem dX9_leg_59 : decode cX9_leg 59 = .ok (.aload_n 0, 1) := by decide +kernel
theorem dX9_leg_60 : decode cX9_leg 60 = .ok (.aload_n 0, 1) := by decide +kernel
theorem dX9_leg_61 : decode cX9_leg 61 = .ok (.getfield 250, 3) := by decide +kernel
theorem dX9_leg_64 : decode cX9_leg 64 = .ok (.iconst 1, 1) := by decide +kernel
theorem dX9_leg_65 : decode cX9_leg 65 = .ok (.isub, 1) := by decide +kernel
theorem dX9_leg_66 : decode cX9_leg 66 = .ok (.invokevirtual 99, 3) := by decide +kernel
theorem dX9_leg_69 : decode cX9_leg 69 = .ok (.ireturn, 1) := by decide +kernel
set_option maxRecDepth 20000 in
theorem ggX9_aboard_X9_told : GoodIn wsX9_aboard wsX9_told := goodIn_r _ [8, 9, 23, 24, 25, 26, 27, 28, 29, 30, 31, 32, 33, 34, 35, 36, 37, 38, 39, 40, 41, 42, 43, 44, 45, 46, 47, 48, 49, 50, 51, 52, 53, 54, 55, 56, 57, 58, 59, 60, 61, 62, 63] (by decide +kernel) (by decide +kernel)
set_option maxRecDepth 20000 in
theorem gX9_aboard_X9_told : GoodIn wsX9_aboard (wsV RX9 99 RX9 yX9_told wsX9_told) := goodIn_app (goodIn_of _ (by decide +kernel)) ggX9_aboard_X9_told
set_option maxRecDepth 20000 in
theorem ggX9_aboard_X9_isLoad : GoodIn wsX9_aboard wsX9_isLoad := goodIn_r _ [13, 14, 15, 16, 7, 17, 23, 24, 25, 26, 27, 28, 29, 30, 31, 32, 33, 34, 35, 36, 37, 38, 39, 40, 41, 42, 43, 44, 45, 46, 47, 48, 49, 50, 51, 52, 53, 54, 55, 56, 57, 58, 59, 60, 61, 62, 63] (by decide +kernel) (by decide +kernel)
set_option maxRecDepth 20000 in
theorem gX9_aboard_X9_isLoad : GoodIn wsX9_aboard (wsV RX9 160 RX9 yX9_isLoad wsX9_isLoad) := goodIn_app (goodIn_of _ (by decide +kernel)) ggX9_aboard_X9_isLoad
set_option maxRecDepth 20000 in
theorem ggX9_aboard_X9_isLeg : GoodIn wsX9_aboard wsX9_isLeg := goodIn_r _ [21, 22, 15, 16, 7, 17, 23, 24, 25, 26, 27, 28, 29, 30, 31, 32, 33, 34, 35, 36, 37, 38, 39, 40, 41, 42, 43, 44, 45, 46, 47, 48, 49, 50, 51, 52, 53, 54, 55, 56, 57, 58, 59, 60, 61, 62, 63] (by decide +kernel) (by decide +kernel)
set_option maxRecDepth 20000 in
theorem gX9_aboard_X9_isLeg : GoodIn wsX9_aboard (wsV RX9 255 RX9 yX9_isLeg wsX9_isLeg) := goodIn_app (goodIn_of _ (by decide +kernel)) ggX9_aboard_X9_isLeg
theorem dX9_aboard_0 : decode cX9_aboard 0 = .ok (.aload_n 0, 1) := by decide +kernel
theorem dX9_aboard_1 : decode cX9_aboard 1 = .ok (.iconst 0, 1) := by decide +kernel
theorem dX9_aboard_2 : decode cX9_aboard 2 = .ok (.putfield 81, 3) := by decide +kernel
theorem dX9_aboard_5 : decode cX9_aboard 5 = .ok (.iload_n 3, 1) := by decide +kernel
theorem dX9_aboard_6 : decode cX9_aboard 6 = .ok (.iload_n 2, 1) := by decide +kernel
theorem dX9_aboard_7 : decode cX9_aboard 7 = .ok (.if_icmp .ge 9, 3) := by decide +kernel
theorem dX9_aboard_10 : decode cX9_aboard 10 = .ok (.aload_n 0, 1) := by decide +kernel
theorem dX9_aboard_11 : decode cX9_aboard 11 = .ok (.iconst (-1), 1) := by decide +kernel
theorem dX9_aboard_12 : decode cX9_aboard 12 = .ok (.invokevirtual 99, 3) := by decide +kernel
theorem dX9_aboard_15 : decode cX9_aboard 15 = .ok (.ireturn, 1) := by decide +kernel
theorem dX9_aboard_16 : decode cX9_aboard 16 = .ok (.aload_n 0, 1) := by decide +kernel
theorem dX9_aboard_17 : decode cX9_aboard 17 = .ok (.iload_n 1, 1) := by decide +kernel
theorem dX9_aboard_18 : decode cX9_aboard 18 = .ok (.invokevirtual 160, 3) := by decide +kernel
theorem dX9_aboard_21 : decode cX9_aboard 21 = .ok (.ifCond .eq 19, 3) := by decide +kernel
theorem dX9_aboard_24 : decode cX9_aboard 24 = .ok (.aload_n 0, 1) := by decide +kernel
theorem dX9_aboard_25 : decode cX9_aboard 25 = .ok (.iload_n 2, 1) := by decide +kernel
theorem dX9_aboard_26 : decode cX9_aboard 26 = .ok (.invokevirtual 255, 3) := by decide +kernel
theorem dX9_aboard_29 : decode cX9_aboard 29 = .ok (.ifCond .eq 11, 3) := by decide +kernel
theorem dX9_aboard_32 : decode cX9_aboard 32 = .ok (.aload_n 0, 1) := by decide +kernel
theorem dX9_aboard_33 : decode cX9_aboard 33 = .ok (.iload_n 3, 1) := by decide +kernel
theorem dX9_aboard_34 : decode cX9_aboard 34 = .ok (.invokevirtual 255, 3) := by decide +kernel
theorem dX9_aboard_37 : decode cX9_aboard 37 = .ok (.ifCond .ne 10, 3) := by decide +kernel
theorem dX9_aboard_40 : decode cX9_aboard 40 = .ok (.aload_n 0, 1) := by decide +kernel
theorem dX9_aboard_41 : decode cX9_aboard 41 = .ok (.bipush (-2), 2) := by decide +kernel
theorem dX9_aboard_43 : decode cX9_aboard 43 = .ok (.invokevirtual 99, 3) := by decide +kernel
theorem dX9_aboard_46 : decode cX9_aboard 46 = .ok (.ireturn, 1) := by decide +kernel
theorem dX9_aboard_47 : decode cX9_aboard 47 = .ok (.aload_n 0, 1) := by decide +kernel
theorem dX9_aboard_48 : decode cX9_aboard 48 = .ok (.getfield 38, 3) := by decide +kernel
theorem dX9_aboard_51 : decode cX9_aboard 51 = .ok (.iload_n 1, 1) := by decide +kernel
theorem dX9_aboard_52 : decode cX9_aboard 52 = .ok (.iload_n 2, 1) := by decide +kernel
theorem dX9_aboard_53 : decode cX9_aboard 53 = .ok (.iastore, 1) := by decide +kernel
theorem dX9_aboard_54 : decode cX9_aboard 54 = .ok (.aload_n 0, 1) := by decide +kernel
theorem dX9_aboard_55 : decode cX9_aboard 55 = .ok (.getfield 41, 3) := by decide +kernel
theorem dX9_aboard_58 : decode cX9_aboard 58 = .ok (.iload_n 1, 1) := by decide +kernel
theorem dX9_aboard_59 : decode cX9_aboard 59 = .ok (.iload_n 3, 1) := by decide +kernel
theorem dX9_aboard_60 : decode cX9_aboard 60 = .ok (.iastore, 1) := by decide +kernel
theorem dX9_aboard_61 : decode cX9_aboard 61 = .ok (.aload_n 0, 1) := by decide +kernel
theorem dX9_aboard_62 : decode cX9_aboard 62 = .ok (.iconst 0, 1) := by decide +kernel
theorem dX9_aboard_63 : decode cX9_aboard 63 = .ok (.invokevirtual 99, 3) := by decide +kernel
theorem dX9_aboard_66 : decode cX9_aboard 66 = .ok (.ireturn, 1) := by decide +kernel
set_option maxRecDepth 20000 in
theorem ggX9_isAboard_X9_in : GoodIn wsX9_isAboard wsX9_in := goodIn_r _ [6] (by decide +kernel) (by decide +kernel)
set_option maxRecDepth 20000 in
theorem gX9_isAboard_X9_in : GoodIn wsX9_isAboard (va_wsS RX9 89 yX9_in wsX9_in) := goodIn_app (goodIn_of _ (by decide +kernel)) ggX9_isAboard_X9_in
theorem dX9_isAboard_0 : decode cX9_isAboard 0 = .ok (.aload_n 0, 1) := by decide +kernel
theorem dX9_isAboard_1 : decode cX9_isAboard 1 = .ok (.getfield 38, 3) := by decide +kernel
theorem dX9_isAboard_4 : decode cX9_isAboard 4 = .ok (.iload_n 1, 1) := by decide +kernel
theorem dX9_isAboard_5 : decode cX9_isAboard 5 = .ok (.iaload, 1) := by decide +kernel
theorem dX9_isAboard_6 : decode cX9_isAboard 6 = .ok (.iconst (-1), 1) := by decide +kernel
theorem dX9_isAboard_7 : decode cX9_isAboard 7 = .ok (.if_icmp .eq 29, 3) := by decide +kernel
theorem dX9_isAboard_10 : decode cX9_isAboard 10 = .ok (.iload_n 2, 1) := by decide +kernel
theorem dX9_isAboard_11 : decode cX9_isAboard 11 = .ok (.i2l, 1) := by decide +kernel
theorem dX9_isAboard_12 : decode cX9_isAboard 12 = .ok (.aload_n 0, 1) := by decide +kernel
theorem dX9_isAboard_13 : decode cX9_isAboard 13 = .ok (.getfield 38, 3) := by decide +kernel
theorem dX9_isAboard_16 : decode cX9_isAboard 16 = .ok (.iload_n 1, 1) := by decide +kernel
theorem dX9_isAboard_17 : decode cX9_isAboard 17 = .ok (.iaload, 1) := by decide +kernel
theorem dX9_isAboard_18 : decode cX9_isAboard 18 = .ok (.i2l, 1) := by decide +kernel
theorem dX9_isAboard_19 : decode cX9_isAboard 19 = .ok (.aload_n 0, 1) := by decide +kernel
theorem dX9_isAboard_20 : decode cX9_isAboard 20 = .ok (.getfield 41, 3) := by decide +kernel
theorem dX9_isAboard_23 : decode cX9_isAboard 23 = .ok (.iload_n 1, 1) := by decide +kernel
theorem dX9_isAboard_24 : decode cX9_isAboard 24 = .ok (.iaload, 1) := by decide +kernel
theorem dX9_isAboard_25 : decode cX9_isAboard 25 = .ok (.i2l, 1) := by decide +kernel
theorem dX9_isAboard_26 : decode cX9_isAboard 26 = .ok (.invokestatic 89, 3) := by decide +kernel
theorem dX9_isAboard_29 : decode cX9_isAboard 29 = .ok (.ifCond .eq 7, 3) := by decide +kernel
theorem dX9_isAboard_32 : decode cX9_isAboard 32 = .ok (.iconst 1, 1) := by decide +kernel
theorem dX9_isAboard_33 : decode cX9_isAboard 33 = .ok (.goto 4, 3) := by decide +kernel
theorem dX9_isAboard_36 : decode cX9_isAboard 36 = .ok (.iconst 0, 1) := by decide +kernel
theorem dX9_isAboard_37 : decode cX9_isAboard 37 = .ok (.ireturn, 1) := by decide +kernel
set_option maxRecDepth 20000 in
theorem ggX9_tonsOn_X9_isAboard : GoodIn wsX9_tonsOn wsX9_isAboard := goodIn_r _ [7, 8, 9, 10, 11, 6, 12, 13, 14, 15, 16, 17, 18, 19, 20, 21, 22, 23, 24, 25, 26, 27, 28, 29, 30, 31, 32, 33, 34, 35, 36, 37, 38, 39, 40, 41, 42, 43, 44, 45, 46, 47, 48, 49, 50, 51, 52, 53] (by decide +kernel) (by decide +kernel)
set_option maxRecDepth 20000 in
theorem gX9_tonsOn_X9_isAboard : GoodIn wsX9_tonsOn (wsV RX9 258 RX9 yX9_isAboard wsX9_isAboard) := goodIn_app (goodIn_of _ (by decide +kernel)) ggX9_tonsOn_X9_isAboard
theorem dX9_tonsOn_0 : decode cX9_tonsOn 0 = .ok (.iconst 0, 1) := by decide +kernel
theorem dX9_tonsOn_1 : decode cX9_tonsOn 1 = .ok (.istore_n 2, 1) := by decide +kernel
theorem dX9_tonsOn_2 : decode cX9_tonsOn 2 = .ok (.iconst 0, 1) := by decide +kernel
theorem dX9_tonsOn_3 : decode cX9_tonsOn 3 = .ok (.istore_n 3, 1) := by decide +kernel
theorem dX9_tonsOn_4 : decode cX9_tonsOn 4 = .ok (.iload_n 3, 1) := by decide +kernel
theorem dX9_tonsOn_5 : decode cX9_tonsOn 5 = .ok (.aload_n 0, 1) := by decide +kernel
theorem dX9_tonsOn_6 : decode cX9_tonsOn 6 = .ok (.getfield 153, 3) := by decide +kernel
theorem dX9_tonsOn_9 : decode cX9_tonsOn 9 = .ok (.if_icmp .ge 31, 3) := by decide +kernel
theorem dX9_tonsOn_12 : decode cX9_tonsOn 12 = .ok (.iload_n 2, 1) := by decide +kernel
theorem dX9_tonsOn_13 : decode cX9_tonsOn 13 = .ok (.aload_n 0, 1) := by decide +kernel
theorem dX9_tonsOn_14 : decode cX9_tonsOn 14 = .ok (.iload_n 3, 1) := by decide +kernel
theorem dX9_tonsOn_15 : decode cX9_tonsOn 15 = .ok (.iload_n 1, 1) := by decide +kernel
theorem dX9_tonsOn_16 : decode cX9_tonsOn 16 = .ok (.invokevirtual 258, 3) := by decide +kernel
theorem dX9_tonsOn_19 : decode cX9_tonsOn 19 = .ok (.ifCond .eq 12, 3) := by decide +kernel
theorem dX9_tonsOn_22 : decode cX9_tonsOn 22 = .ok (.aload_n 0, 1) := by decide +kernel
theorem dX9_tonsOn_23 : decode cX9_tonsOn 23 = .ok (.getfield 29, 3) := by decide +kernel
theorem dX9_tonsOn_26 : decode cX9_tonsOn 26 = .ok (.iload_n 3, 1) := by decide +kernel
theorem dX9_tonsOn_27 : decode cX9_tonsOn 27 = .ok (.iaload, 1) := by decide +kernel
theorem dX9_tonsOn_28 : decode cX9_tonsOn 28 = .ok (.goto 4, 3) := by decide +kernel
theorem dX9_tonsOn_31 : decode cX9_tonsOn 31 = .ok (.iconst 0, 1) := by decide +kernel
theorem dX9_tonsOn_32 : decode cX9_tonsOn 32 = .ok (.iadd, 1) := by decide +kernel
theorem dX9_tonsOn_33 : decode cX9_tonsOn 33 = .ok (.istore_n 2, 1) := by decide +kernel
theorem dX9_tonsOn_34 : decode cX9_tonsOn 34 = .ok (.iinc 3 1, 3) := by decide +kernel
theorem dX9_tonsOn_37 : decode cX9_tonsOn 37 = .ok (.goto (-33), 3) := by decide +kernel
theorem dX9_tonsOn_40 : decode cX9_tonsOn 40 = .ok (.iload_n 2, 1) := by decide +kernel
theorem dX9_tonsOn_41 : decode cX9_tonsOn 41 = .ok (.ireturn, 1) := by decide +kernel
set_option maxRecDepth 20000 in
theorem ggX9_partOf_X9_isAboard : GoodIn wsX9_partOf wsX9_isAboard := goodIn_r _ [8, 9, 10, 11, 12, 7, 13, 18, 19, 20, 21, 22, 23, 24, 25, 26, 27, 28, 29, 30, 31, 32, 33, 34, 35, 36, 37, 38, 39, 40, 41, 42, 43, 44, 45, 46, 47, 48, 49, 50, 51, 52, 53, 54, 55, 56, 57, 58] (by decide +kernel) (by decide +kernel)
set_option maxRecDepth 20000 in
theorem gX9_partOf_X9_isAboard : GoodIn wsX9_partOf (wsV RX9 258 RX9 yX9_isAboard wsX9_isAboard) := goodIn_app (goodIn_of _ (by decide +kernel)) ggX9_partOf_X9_isAboard
set_option maxRecDepth 20000 in
theorem ggX9_partOf_X9_tonsOn : GoodIn wsX9_partOf wsX9_tonsOn := goodIn_r _ [17, 3, 2, 4, 5, 6, 7, 8, 9, 10, 11, 12, 13, 18, 19, 20, 21, 22, 23, 24, 25, 26, 27, 28, 29, 30, 31, 32, 33, 34, 35, 36, 37, 38, 39, 40, 41, 42, 43, 44, 45, 46, 47, 48, 49, 50, 51, 52, 53, 54, 55, 56, 57, 58] (by decide +kernel) (by decide +kernel)
set_option maxRecDepth 20000 in
theorem gX9_partOf_X9_tonsOn : GoodIn wsX9_partOf (wsV RX9 262 RX9 yX9_tonsOn wsX9_tonsOn) := goodIn_app (goodIn_of _ (by decide +kernel)) ggX9_partOf_X9_tonsOn
theorem dX9_partOf_0 : decode cX9_partOf 0 = .ok (.aload_n 0, 1) := by decide +kernel
theorem dX9_partOf_1 : decode cX9_partOf 1 = .ok (.iload_n 1, 1) := by decide +kernel
theorem dX9_partOf_2 : decode cX9_partOf 2 = .ok (.iload_n 2, 1) := by decide +kernel
theorem dX9_partOf_3 : decode cX9_partOf 3 = .ok (.invokevirtual 258, 3) := by decide +kernel
theorem dX9_partOf_6 : decode cX9_partOf 6 = .ok (.ifCond .ne 5, 3) := by decide +kernel
theorem dX9_partOf_9 : decode cX9_partOf 9 = .ok (.iconst 0, 1) := by decide +kernel
theorem dX9_partOf_10 : decode cX9_partOf 10 = .ok (.ireturn, 1) := by decide +kernel
theorem dX9_partOf_11 : decode cX9_partOf 11 = .ok (.aload_n 0, 1) := by decide +kernel
theorem dX9_partOf_12 : decode cX9_partOf 12 = .ok (.iload_n 2, 1) := by decide +kernel
theorem dX9_partOf_13 : decode cX9_partOf 13 = .ok (.invokevirtual 262, 3) := by decide +kernel
theorem dX9_partOf_16 : decode cX9_partOf 16 = .ok (.i2l, 1) := by decide +kernel
theorem dX9_partOf_17 : decode cX9_partOf 17 = .ok (.lstore_n 3, 1) := by decide +kernel
theorem dX9_partOf_18 : decode cX9_partOf 18 = .ok (.aload_n 0, 1) := by decide +kernel
theorem dX9_partOf_19 : decode cX9_partOf 19 = .ok (.getfield 78, 3) := by decide +kernel
theorem dX9_partOf_22 : decode cX9_partOf 22 = .ok (.iload_n 2, 1) := by decide +kernel
theorem dX9_partOf_23 : decode cX9_partOf 23 = .ok (.iaload, 1) := by decide +kernel
theorem dX9_partOf_24 : decode cX9_partOf 24 = .ok (.i2l, 1) := by decide +kernel
theorem dX9_partOf_25 : decode cX9_partOf 25 = .ok (.lstore 5, 2) := by decide +kernel
theorem dX9_partOf_27 : decode cX9_partOf 27 = .ok (.iconst 0, 1) := by decide +kernel
theorem dX9_partOf_28 : decode cX9_partOf 28 = .ok (.istore 7, 2) := by decide +kernel
theorem dX9_partOf_30 : decode cX9_partOf 30 = .ok (.aload_n 0, 1) := by decide +kernel
theorem dX9_partOf_31 : decode cX9_partOf 31 = .ok (.getfield 78, 3) := by decide +kernel
theorem dX9_partOf_34 : decode cX9_partOf 34 = .ok (.iload_n 2, 1) := by decide +kernel
theorem dX9_partOf_35 : decode cX9_partOf 35 = .ok (.iaload, 1) := by decide +kernel
theorem dX9_partOf_36 : decode cX9_partOf 36 = .ok (.i2l, 1) := by decide +kernel
theorem dX9_partOf_37 : decode cX9_partOf 37 = .ok (.aload_n 0, 1) := by decide +kernel
theorem dX9_partOf_38 : decode cX9_partOf 38 = .ok (.getfield 29, 3) := by decide +kernel
theorem dX9_partOf_41 : decode cX9_partOf 41 = .ok (.iload_n 1, 1) := by decide +kernel
theorem dX9_partOf_42 : decode cX9_partOf 42 = .ok (.iaload, 1) := by decide +kernel
theorem dX9_partOf_43 : decode cX9_partOf 43 = .ok (.i2l, 1) := by decide +kernel
theorem dX9_partOf_44 : decode cX9_partOf 44 = .ok (.lmul, 1) := by decide +kernel
theorem dX9_partOf_45 : decode cX9_partOf 45 = .ok (.lload_n 3, 1) := by decide +kernel
theorem dX9_partOf_46 : decode cX9_partOf 46 = .ok (.lrem, 1) := by decide +kernel
theorem dX9_partOf_47 : decode cX9_partOf 47 = .ok (.lstore 8, 2) := by decide +kernel
theorem dX9_partOf_49 : decode cX9_partOf 49 = .ok (.iconst 0, 1) := by decide +kernel
theorem dX9_partOf_50 : decode cX9_partOf 50 = .ok (.istore 10, 2) := by decide +kernel
theorem dX9_partOf_52 : decode cX9_partOf 52 = .ok (.iload 10, 2) := by decide +kernel
theorem dX9_partOf_54 : decode cX9_partOf 54 = .ok (.aload_n 0, 1) := by decide +kernel
theorem dX9_partOf_55 : decode cX9_partOf 55 = .ok (.getfield 153, 3) := by decide +kernel
theorem dX9_partOf_58 : decode cX9_partOf 58 = .ok (.if_icmp .ge 82, 3) := by decide +kernel
theorem dX9_partOf_61 : decode cX9_partOf 61 = .ok (.aload_n 0, 1) := by decide +kernel
theorem dX9_partOf_62 : decode cX9_partOf 62 = .ok (.iload 10, 2) := by decide +kernel
theorem dX9_partOf_64 : decode cX9_partOf 64 = .ok (.iload_n 2, 1) := by decide +kernel
theorem dX9_partOf_65 : decode cX9_partOf 65 = .ok (.invokevirtual 258, 3) := by decide +kernel
theorem dX9_partOf_68 : decode cX9_partOf 68 = .ok (.ifCond .eq 66, 3) := by decide +kernel
theorem dX9_partOf_71 : decode cX9_partOf 71 = .ok (.aload_n 0, 1) := by decide +kernel
theorem dX9_partOf_72 : decode cX9_partOf 72 = .ok (.getfield 78, 3) := by decide +kernel
theorem dX9_partOf_75 : decode cX9_partOf 75 = .ok (.iload_n 2, 1) := by decide +kernel
theorem dX9_partOf_76 : decode cX9_partOf 76 = .ok (.iaload, 1) := by decide +kernel
theorem dX9_partOf_77 : decode cX9_partOf 77 = .ok (.i2l, 1) := by decide +kernel
theorem dX9_partOf_78 : decode cX9_partOf 78 = .ok (.aload_n 0, 1) := by decide +kernel
theorem dX9_partOf_79 : decode cX9_partOf 79 = .ok (.getfield 29, 3) := by decide +kernel
theorem dX9_partOf_82 : decode cX9_partOf 82 = .ok (.iload 10, 2) := by decide +kernel
theorem dX9_partOf_84 : decode cX9_partOf 84 = .ok (.iaload, 1) := by decide +kernel
theorem dX9_partOf_85 : decode cX9_partOf 85 = .ok (.i2l, 1) := by decide +kernel
theorem dX9_partOf_86 : decode cX9_partOf 86 = .ok (.lmul, 1) := by decide +kernel
theorem dX9_partOf_87 : decode cX9_partOf 87 = .ok (.lstore 11, 2) := by decide +kernel
theorem dX9_partOf_89 : decode cX9_partOf 89 = .ok (.lload 5, 2) := by decide +kernel
theorem dX9_partOf_91 : decode cX9_partOf 91 = .ok (.lload 11, 2) := by decide +kernel
theorem dX9_partOf_93 : decode cX9_partOf 93 = .ok (.lload_n 3, 1) := by decide +kernel
theorem dX9_partOf_94 : decode cX9_partOf 94 = .ok (.ldiv, 1) := by decide +kernel
theorem dX9_partOf_95 : decode cX9_partOf 95 = .ok (.lsub, 1) := by decide +kernel
theorem dX9_partOf_96 : decode cX9_partOf 96 = .ok (.lstore 5, 2) := by decide +kernel
theorem dX9_partOf_98 : decode cX9_partOf 98 = .ok (.iload 7, 2) := by decide +kernel
theorem dX9_partOf_100 : decode cX9_partOf 100 = .ok (.lload 11, 2) := by decide +kernel
theorem dX9_partOf_102 : decode cX9_partOf 102 = .ok (.lload_n 3, 1) := by decide +kernel
theorem dX9_partOf_103 : decode cX9_partOf 103 = .ok (.lrem, 1) := by decide +kernel
theorem dX9_partOf_104 : decode cX9_partOf 104 = .ok (.lload 8, 2) := by decide +kernel
theorem dX9_partOf_106 : decode cX9_partOf 106 = .ok (.lcmp, 1) := by decide +kernel
theorem dX9_partOf_107 : decode cX9_partOf 107 = .ok (.ifCond .gt 19, 3) := by decide +kernel
theorem dX9_partOf_110 : decode cX9_partOf 110 = .ok (.lload 11, 2) := by decide +kernel
theorem dX9_partOf_112 : decode cX9_partOf 112 = .ok (.lload_n 3, 1) := by decide +kernel
theorem dX9_partOf_113 : decode cX9_partOf 113 = .ok (.lrem, 1) := by decide +kernel
theorem dX9_partOf_114 : decode cX9_partOf 114 = .ok (.lload 8, 2) := by decide +kernel
theorem dX9_partOf_116 : decode cX9_partOf 116 = .ok (.lcmp, 1) := by decide +kernel
theorem dX9_partOf_117 : decode cX9_partOf 117 = .ok (.ifCond .ne 13, 3) := by decide +kernel
theorem dX9_partOf_120 : decode cX9_partOf 120 = .ok (.iload 10, 2) := by decide +kernel
theorem dX9_partOf_122 : decode cX9_partOf 122 = .ok (.iload_n 1, 1) := by decide +kernel
theorem dX9_partOf_123 : decode cX9_partOf 123 = .ok (.if_icmp .ge 7, 3) := by decide +kernel
theorem dX9_partOf_126 : decode cX9_partOf 126 = .ok (.iconst 1, 1) := by decide +kernel
theorem dX9_partOf_127 : decode cX9_partOf 127 = .ok (.goto 4, 3) := by decide +kernel
theorem dX9_partOf_130 : decode cX9_partOf 130 = .ok (.iconst 0, 1) := by decide +kernel
theorem dX9_partOf_131 : decode cX9_partOf 131 = .ok (.iadd, 1) := by decide +kernel
theorem dX9_partOf_132 : decode cX9_partOf 132 = .ok (.istore 7, 2) := by decide +kernel
theorem dX9_partOf_134 : decode cX9_partOf 134 = .ok (.iinc 10 1, 3) := by decide +kernel
theorem dX9_partOf_137 : decode cX9_partOf 137 = .ok (.goto (-85), 3) := by decide +kernel
theorem dX9_partOf_140 : decode cX9_partOf 140 = .ok (.aload_n 0, 1) := by decide +kernel
theorem dX9_partOf_141 : decode cX9_partOf 141 = .ok (.getfield 78, 3) := by decide +kernel
theorem dX9_partOf_144 : decode cX9_partOf 144 = .ok (.iload_n 2, 1) := by decide +kernel
theorem dX9_partOf_145 : decode cX9_partOf 145 = .ok (.iaload, 1) := by decide +kernel
theorem dX9_partOf_146 : decode cX9_partOf 146 = .ok (.i2l, 1) := by decide +kernel
theorem dX9_partOf_147 : decode cX9_partOf 147 = .ok (.aload_n 0, 1) := by decide +kernel
theorem dX9_partOf_148 : decode cX9_partOf 148 = .ok (.getfield 29, 3) := by decide +kernel
theorem dX9_partOf_151 : decode cX9_partOf 151 = .ok (.iload_n 1, 1) := by decide +kernel
theorem dX9_partOf_152 : decode cX9_partOf 152 = .ok (.iaload, 1) := by decide +kernel
theorem dX9_partOf_153 : decode cX9_partOf 153 = .ok (.i2l, 1) := by decide +kernel
theorem dX9_partOf_154 : decode cX9_partOf 154 = .ok (.lmul, 1) := by decide +kernel
theorem dX9_partOf_155 : decode cX9_partOf 155 = .ok (.lload_n 3, 1) := by decide +kernel
theorem dX9_partOf_156 : decode cX9_partOf 156 = .ok (.ldiv, 1) := by decide +kernel
theorem dX9_partOf_157 : decode cX9_partOf 157 = .ok (.l2i, 1) := by decide +kernel
theorem dX9_partOf_158 : decode cX9_partOf 158 = .ok (.iload 7, 2) := by decide +kernel
theorem dX9_partOf_160 : decode cX9_partOf 160 = .ok (.i2l, 1) := by decide +kernel
theorem dX9_partOf_161 : decode cX9_partOf 161 = .ok (.lload 5, 2) := by decide +kernel
theorem dX9_partOf_163 : decode cX9_partOf 163 = .ok (.lcmp, 1) := by decide +kernel
theorem dX9_partOf_164 : decode cX9_partOf 164 = .ok (.ifCond .ge 7, 3) := by decide +kernel
theorem dX9_partOf_167 : decode cX9_partOf 167 = .ok (.iconst 1, 1) := by decide +kernel
theorem dX9_partOf_168 : decode cX9_partOf 168 = .ok (.goto 4, 3) := by decide +kernel
theorem dX9_partOf_171 : decode cX9_partOf 171 = .ok (.iconst 0, 1) := by decide +kernel
theorem dX9_partOf_172 : decode cX9_partOf 172 = .ok (.iadd, 1) := by decide +kernel
theorem dX9_partOf_173 : decode cX9_partOf 173 = .ok (.ireturn, 1) := by decide +kernel
set_option maxRecDepth 20000 in
theorem ggX9_part_X9_isLoad : GoodIn wsX9_part wsX9_isLoad := goodIn_r _ [6, 7, 8, 9, 5, 10, 32, 33, 34, 35, 36, 37, 38, 39, 40, 41, 42, 43, 44, 45, 46, 47, 48, 49, 50, 51, 52, 53, 54, 55, 56, 57, 58, 59, 60, 61, 62, 63, 64, 65, 66, 67, 68, 69, 70, 71, 72] (by decide +kernel) (by decide +kernel)
set_option maxRecDepth 20000 in
theorem gX9_part_X9_isLoad : GoodIn wsX9_part (wsV RX9 160 RX9 yX9_isLoad wsX9_isLoad) := goodIn_app (goodIn_of _ (by decide +kernel)) ggX9_part_X9_isLoad
set_option maxRecDepth 20000 in
theorem ggX9_part_X9_isLeg : GoodIn wsX9_part wsX9_isLeg := goodIn_r _ [14, 15, 8, 9, 5, 10, 32, 33, 34, 35, 36, 37, 38, 39, 40, 41, 42, 43, 44, 45, 46, 47, 48, 49, 50, 51, 52, 53, 54, 55, 56, 57, 58, 59, 60, 61, 62, 63, 64, 65, 66, 67, 68, 69, 70, 71, 72] (by decide +kernel) (by decide +kernel)
set_option maxRecDepth 20000 in
theorem gX9_part_X9_isLeg : GoodIn wsX9_part (wsV RX9 255 RX9 yX9_isLeg wsX9_isLeg) := goodIn_app (goodIn_of _ (by decide +kernel)) ggX9_part_X9_isLeg
set_option maxRecDepth 20000 in
theorem ggX9_part_X9_partOf : GoodIn wsX9_part wsX9_partOf := goodIn_r _ [19, 20, 21, 7, 22, 23, 24, 5, 25, 26, 27, 8, 9, 10, 28, 29, 30, 31, 32, 33, 34, 35, 36, 37, 38, 39, 40, 41, 42, 43, 44, 45, 46, 47, 48, 49, 50, 51, 52, 53, 54, 55, 56, 57, 58, 59, 60, 61, 62, 63, 64, 65, 66, 67, 68, 69, 70, 71, 72] (by decide +kernel) (by decide +kernel)
set_option maxRecDepth 20000 in
theorem gX9_part_X9_partOf : GoodIn wsX9_part (wsV RX9 265 RX9 yX9_partOf wsX9_partOf) := goodIn_app (goodIn_of _ (by decide +kernel)) ggX9_part_X9_partOf
theorem dX9_part_0 : decode cX9_part 0 = .ok (.aload_n 0, 1) := by decide +kernel
theorem dX9_part_1 : decode cX9_part 1 = .ok (.iconst 0, 1) := by decide +kernel
theorem dX9_part_2 : decode cX9_part 2 = .ok (.putfield 81, 3) := by decide +kernel
theorem dX9_part_5 : decode cX9_part 5 = .ok (.aload_n 0, 1) := by decide +kernel
theorem dX9_part_6 : decode cX9_part 6 = .ok (.iload_n 1, 1) := by decide +kernel
theorem dX9_part_7 : decode cX9_part 7 = .ok (.invokevirtual 160, 3) := by decide +kernel
theorem dX9_part_10 : decode cX9_part 10 = .ok (.ifCond .eq 20, 3) := by decide +kernel
theorem dX9_part_13 : decode cX9_part 13 = .ok (.aload_n 0, 1) := by decide +kernel
theorem dX9_part_14 : decode cX9_part 14 = .ok (.iload_n 2, 1) := by decide +kernel
theorem dX9_part_15 : decode cX9_part 15 = .ok (.invokevirtual 255, 3) := by decide +kernel
theorem dX9_part_18 : decode cX9_part 18 = .ok (.ifCond .eq 12, 3) := by decide +kernel
theorem dX9_part_21 : decode cX9_part 21 = .ok (.aload_n 0, 1) := by decide +kernel
theorem dX9_part_22 : decode cX9_part 22 = .ok (.iload_n 1, 1) := by decide +kernel
theorem dX9_part_23 : decode cX9_part 23 = .ok (.iload_n 2, 1) := by decide +kernel
theorem dX9_part_24 : decode cX9_part 24 = .ok (.invokevirtual 265, 3) := by decide +kernel
theorem dX9_part_27 : decode cX9_part 27 = .ok (.goto 4, 3) := by decide +kernel
theorem dX9_part_30 : decode cX9_part 30 = .ok (.iconst (-1), 1) := by decide +kernel
theorem dX9_part_31 : decode cX9_part 31 = .ok (.ireturn, 1) := by decide +kernel
set_option maxRecDepth 20000 in
theorem ggX9_smoke_X9_isLoad : GoodIn wsX9_smoke wsX9_isLoad := goodIn_r _ [8, 9, 10, 11, 7, 12, 28, 29, 30, 31, 32, 33, 34, 35, 36, 37, 38, 39, 40, 41, 42, 43, 44, 45, 46, 47, 48, 49, 50, 51, 52, 53, 54, 55, 56, 57, 58, 59, 60, 61, 62, 63, 64, 65, 66, 67, 68] (by decide +kernel) (by decide +kernel)
set_option maxRecDepth 20000 in
theorem gX9_smoke_X9_isLoad : GoodIn wsX9_smoke (wsV RX9 160 RX9 yX9_isLoad wsX9_isLoad) := goodIn_app (goodIn_of _ (by decide +kernel)) ggX9_smoke_X9_isLoad
set_option maxRecDepth 20000 in
theorem ggX9_smoke_X9_partOf : GoodIn wsX9_smoke wsX9_partOf := goodIn_r _ [16, 3, 17, 9, 18, 19, 20, 7, 21, 22, 23, 10, 11, 12, 24, 25, 26, 27, 28, 29, 30, 31, 32, 33, 34, 35, 36, 37, 38, 39, 40, 41, 42, 43, 44, 45, 46, 47, 48, 49, 50, 51, 52, 53, 54, 55, 56, 57, 58, 59, 60, 61, 62, 63, 64, 65, 66, 67, 68] (by decide +kernel) (by decide +kernel)
set_option maxRecDepth 20000 in
theorem gX9_smoke_X9_partOf : GoodIn wsX9_smoke (wsV RX9 265 RX9 yX9_partOf wsX9_partOf) := goodIn_app (goodIn_of _ (by decide +kernel)) ggX9_smoke_X9_partOf
set_option maxRecDepth 20000 in
theorem ggX9_smoke_X9_tonsOn : GoodIn wsX9_smoke wsX9_tonsOn := goodIn_r _ [27, 9, 17, 18, 19, 20, 7, 21, 22, 23, 10, 11, 12, 28, 29, 30, 31, 32, 33, 34, 35, 36, 37, 38, 39, 40, 41, 42, 43, 44, 45, 46, 47, 48, 49, 50, 51, 52, 53, 54, 55, 56, 57, 58, 59, 60, 61, 62, 63, 64, 65, 66, 67, 68] (by decide +kernel) (by decide +kernel)
set_option maxRecDepth 20000 in
theorem gX9_smoke_X9_tonsOn : GoodIn wsX9_smoke (wsV RX9 262 RX9 yX9_tonsOn wsX9_tonsOn) := goodIn_app (goodIn_of _ (by decide +kernel)) ggX9_smoke_X9_tonsOn
theorem dX9_smoke_0 : decode cX9_smoke 0 = .ok (.aload_n 0, 1) := by decide +kernel
theorem dX9_smoke_1 : decode cX9_smoke 1 = .ok (.iconst 0, 1) := by decide +kernel
theorem dX9_smoke_2 : decode cX9_smoke 2 = .ok (.putfield 81, 3) := by decide +kernel
theorem dX9_smoke_5 : decode cX9_smoke 5 = .ok (.iload_n 1, 1) := by decide +kernel
theorem dX9_smoke_6 : decode cX9_smoke 6 = .ok (.iconst (-1), 1) := by decide +kernel
theorem dX9_smoke_7 : decode cX9_smoke 7 = .ok (.if_icmp .eq 14, 3) := by decide +kernel
theorem dX9_smoke_10 : decode cX9_smoke 10 = .ok (.aload_n 0, 1) := by decide +kernel
theorem dX9_smoke_11 : decode cX9_smoke 11 = .ok (.iload_n 1, 1) := by decide +kernel
theorem dX9_smoke_12 : decode cX9_smoke 12 = .ok (.invokevirtual 160, 3) := by decide +kernel
theorem dX9_smoke_15 : decode cX9_smoke 15 = .ok (.ifCond .ne 6, 3) := by decide +kernel
theorem dX9_smoke_18 : decode cX9_smoke 18 = .ok (.bipush (-2), 2) := by decide +kernel
theorem dX9_smoke_20 : decode cX9_smoke 20 = .ok (.ireturn, 1) := by decide +kernel
theorem dX9_smoke_21 : decode cX9_smoke 21 = .ok (.iconst 0, 1) := by decide +kernel
theorem dX9_smoke_22 : decode cX9_smoke 22 = .ok (.istore_n 2, 1) := by decide +kernel
theorem dX9_smoke_23 : decode cX9_smoke 23 = .ok (.iconst 0, 1) := by decide +kernel
theorem dX9_smoke_24 : decode cX9_smoke 24 = .ok (.istore_n 3, 1) := by decide +kernel
theorem dX9_smoke_25 : decode cX9_smoke 25 = .ok (.iload_n 3, 1) := by decide +kernel
theorem dX9_smoke_26 : decode cX9_smoke 26 = .ok (.aload_n 0, 1) := by decide +kernel
theorem dX9_smoke_27 : decode cX9_smoke 27 = .ok (.getfield 250, 3) := by decide +kernel
theorem dX9_smoke_30 : decode cX9_smoke 30 = .ok (.if_icmp .ge 44, 3) := by decide +kernel
theorem dX9_smoke_33 : decode cX9_smoke 33 = .ok (.iload_n 2, 1) := by decide +kernel
theorem dX9_smoke_34 : decode cX9_smoke 34 = .ok (.iload_n 1, 1) := by decide +kernel
theorem dX9_smoke_35 : decode cX9_smoke 35 = .ok (.iconst (-1), 1) := by decide +kernel
theorem dX9_smoke_36 : decode cX9_smoke 36 = .ok (.if_icmp .eq 12, 3) := by decide +kernel
theorem dX9_smoke_39 : decode cX9_smoke 39 = .ok (.aload_n 0, 1) := by decide +kernel
theorem dX9_smoke_40 : decode cX9_smoke 40 = .ok (.iload_n 1, 1) := by decide +kernel
theorem dX9_smoke_41 : decode cX9_smoke 41 = .ok (.iload_n 3, 1) := by decide +kernel
theorem dX9_smoke_42 : decode cX9_smoke 42 = .ok (.invokevirtual 265, 3) := by decide +kernel
theorem dX9_smoke_45 : decode cX9_smoke 45 = .ok (.goto 21, 3) := by decide +kernel
theorem dX9_smoke_48 : decode cX9_smoke 48 = .ok (.aload_n 0, 1) := by decide +kernel
theorem dX9_smoke_49 : decode cX9_smoke 49 = .ok (.iload_n 3, 1) := by decide +kernel
theorem dX9_smoke_50 : decode cX9_smoke 50 = .ok (.invokevirtual 262, 3) := by decide +kernel
theorem dX9_smoke_53 : decode cX9_smoke 53 = .ok (.ifCond .ne 12, 3) := by decide +kernel
theorem dX9_smoke_56 : decode cX9_smoke 56 = .ok (.aload_n 0, 1) := by decide +kernel
theorem dX9_smoke_57 : decode cX9_smoke 57 = .ok (.getfield 78, 3) := by decide +kernel
theorem dX9_smoke_60 : decode cX9_smoke 60 = .ok (.iload_n 3, 1) := by decide +kernel
theorem dX9_smoke_61 : decode cX9_smoke 61 = .ok (.iaload, 1) := by decide +kernel
theorem dX9_smoke_62 : decode cX9_smoke 62 = .ok (.goto 4, 3) := by decide +kernel
theorem dX9_smoke_65 : decode cX9_smoke 65 = .ok (.iconst 0, 1) := by decide +kernel
theorem dX9_smoke_66 : decode cX9_smoke 66 = .ok (.iadd, 1) := by decide +kernel
theorem dX9_smoke_67 : decode cX9_smoke 67 = .ok (.istore_n 2, 1) := by decide +kernel
theorem dX9_smoke_68 : decode cX9_smoke 68 = .ok (.iinc 3 1, 3) := by decide +kernel
theorem dX9_smoke_71 : decode cX9_smoke 71 = .ok (.goto (-46), 3) := by decide +kernel
theorem dX9_smoke_74 : decode cX9_smoke 74 = .ok (.iload_n 2, 1) := by decide +kernel
theorem dX9_smoke_75 : decode cX9_smoke 75 = .ok (.ireturn, 1) := by decide +kernel
theorem dX9_count_0 : decode cX9_count 0 = .ok (.aload_n 0, 1) := by decide +kernel
theorem dX9_count_1 : decode cX9_count 1 = .ok (.iconst 0, 1) := by decide +kernel
theorem dX9_count_2 : decode cX9_count 2 = .ok (.putfield 81, 3) := by decide +kernel
theorem dX9_count_5 : decode cX9_count 5 = .ok (.iload_n 1, 1) := by decide +kernel
theorem dX9_count_6 : decode cX9_count 6 = .ok (.tableswitch 110 0 6 #[42, 47, 52, 57, 62, 67, 72], 42) := by decide +kernel
theorem dX9_count_48 : decode cX9_count 48 = .ok (.aload_n 0, 1) := by decide +kernel
theorem dX9_count_49 : decode cX9_count 49 = .ok (.getfield 103, 3) := by decide +kernel
theorem dX9_count_52 : decode cX9_count 52 = .ok (.ireturn, 1) := by decide +kernel
theorem dX9_count_53 : decode cX9_count 53 = .ok (.aload_n 0, 1) := by decide +kernel
theorem dX9_count_54 : decode cX9_count 54 = .ok (.getfield 153, 3) := by decide +kernel
theorem dX9_count_57 : decode cX9_count 57 = .ok (.ireturn, 1) := by decide +kernel
theorem dX9_count_58 : decode cX9_count 58 = .ok (.aload_n 0, 1) := by decide +kernel
theorem dX9_count_59 : decode cX9_count 59 = .ok (.getfield 167, 3) := by decide +kernel
theorem dX9_count_62 : decode cX9_count 62 = .ok (.ireturn, 1) := by decide +kernel
theorem dX9_count_63 : decode cX9_count 63 = .ok (.aload_n 0, 1) := by decide +kernel
theorem dX9_count_64 : decode cX9_count 64 = .ok (.getfield 245, 3) := by decide +kernel
theorem dX9_count_67 : decode cX9_count 67 = .ok (.ireturn, 1) := by decide +kernel
theorem dX9_count_68 : decode cX9_count 68 = .ok (.aload_n 0, 1) := by decide +kernel
theorem dX9_count_69 : decode cX9_count 69 = .ok (.getfield 250, 3) := by decide +kernel
theorem dX9_count_72 : decode cX9_count 72 = .ok (.ireturn, 1) := by decide +kernel
theorem dX9_count_73 : decode cX9_count 73 = .ok (.aload_n 0, 1) := by decide +kernel
theorem dX9_count_74 : decode cX9_count 74 = .ok (.getfield 183, 3) := by decide +kernel
theorem dX9_count_77 : decode cX9_count 77 = .ok (.ireturn, 1) := by decide +kernel
theorem dX9_count_78 : decode cX9_count 78 = .ok (.iconst 0, 1) := by decide +kernel
theorem dX9_count_79 : decode cX9_count 79 = .ok (.istore_n 2, 1) := by decide +kernel
theorem dX9_count_80 : decode cX9_count 80 = .ok (.iconst 0, 1) := by decide +kernel
theorem dX9_count_81 : decode cX9_count 81 = .ok (.istore_n 3, 1) := by decide +kernel
theorem dX9_count_82 : decode cX9_count 82 = .ok (.iload_n 3, 1) := by decide +kernel
theorem dX9_count_83 : decode cX9_count 83 = .ok (.aload_n 0, 1) := by decide +kernel
theorem dX9_count_84 : decode cX9_count 84 = .ok (.getfield 167, 3) := by decide +kernel
theorem dX9_count_87 : decode cX9_count 87 = .ok (.if_icmp .ge 27, 3) := by decide +kernel
theorem dX9_count_90 : decode cX9_count 90 = .ok (.iload_n 2, 1) := by decide +kernel
theorem dX9_count_91 : decode cX9_count 91 = .ok (.aload_n 0, 1) := by decide +kernel
theorem dX9_count_92 : decode cX9_count 92 = .ok (.getfield 47, 3) := by decide +kernel
theorem dX9_count_95 : decode cX9_count 95 = .ok (.iload_n 3, 1) := by decide +kernel
theorem dX9_count_96 : decode cX9_count 96 = .ok (.iaload, 1) := by decide +kernel
theorem dX9_count_97 : decode cX9_count 97 = .ok (.iconst (-1), 1) := by decide +kernel
theorem dX9_count_98 : decode cX9_count 98 = .ok (.if_icmp .eq 7, 3) := by decide +kernel
theorem dX9_count_101 : decode cX9_count 101 = .ok (.iconst 1, 1) := by decide +kernel
theorem dX9_count_102 : decode cX9_count 102 = .ok (.goto 4, 3) := by decide +kernel
theorem dX9_count_105 : decode cX9_count 105 = .ok (.iconst 0, 1) := by decide +kernel
theorem dX9_count_106 : decode cX9_count 106 = .ok (.iadd, 1) := by decide +kernel
theorem dX9_count_107 : decode cX9_count 107 = .ok (.istore_n 2, 1) := by decide +kernel
theorem dX9_count_108 : decode cX9_count 108 = .ok (.iinc 3 1, 3) := by decide +kernel
theorem dX9_count_111 : decode cX9_count 111 = .ok (.goto (-29), 3) := by decide +kernel
theorem dX9_count_114 : decode cX9_count 114 = .ok (.iload_n 2, 1) := by decide +kernel
theorem dX9_count_115 : decode cX9_count 115 = .ok (.ireturn, 1) := by decide +kernel
theorem dX9_count_116 : decode cX9_count 116 = .ok (.iconst (-1), 1) := by decide +kernel
theorem dX9_count_117 : decode cX9_count 117 = .ok (.ireturn, 1) := by decide +kernel
theorem dX9_status_0 : decode cX9_status 0 = .ok (.aload_n 0, 1) := by decide +kernel
theorem dX9_status_1 : decode cX9_status 1 = .ok (.iconst 0, 1) := by decide +kernel
theorem dX9_status_2 : decode cX9_status 2 = .ok (.putfield 81, 3) := by decide +kernel
theorem dX9_status_5 : decode cX9_status 5 = .ok (.aload_n 0, 1) := by decide +kernel
theorem dX9_status_6 : decode cX9_status 6 = .ok (.getfield 84, 3) := by decide +kernel
theorem dX9_status_9 : decode cX9_status 9 = .ok (.ireturn, 1) := by decide +kernel
theorem dJ9_max_7cf53_0 : decode cJ9_max_7cf53 0 = .ok (.iload_n 0, 1) := by decide +kernel
theorem dJ9_max_7cf53_1 : decode cJ9_max_7cf53 1 = .ok (.iload_n 1, 1) := by decide +kernel
theorem dJ9_max_7cf53_2 : decode cJ9_max_7cf53 2 = .ok (.if_icmp .lt 7, 3) := by decide +kernel
theorem dJ9_max_7cf53_5 : decode cJ9_max_7cf53 5 = .ok (.iload_n 0, 1) := by decide +kernel
theorem dJ9_max_7cf53_6 : decode cJ9_max_7cf53 6 = .ok (.goto 4, 3) := by decide +kernel
theorem dJ9_max_7cf53_9 : decode cJ9_max_7cf53 9 = .ok (.iload_n 1, 1) := by decide +kernel
theorem dJ9_max_7cf53_10 : decode cJ9_max_7cf53 10 = .ok (.ireturn, 1) := by decide +kernel
theorem dJ9_max_f86c9_0 : decode cJ9_max_f86c9 0 = .ok (.lload_n 0, 1) := by decide +kernel
theorem dJ9_max_f86c9_1 : decode cJ9_max_f86c9 1 = .ok (.lload_n 2, 1) := by decide +kernel
theorem dJ9_max_f86c9_2 : decode cJ9_max_f86c9 2 = .ok (.lcmp, 1) := by decide +kernel
theorem dJ9_max_f86c9_3 : decode cJ9_max_f86c9 3 = .ok (.ifCond .lt 7, 3) := by decide +kernel
theorem dJ9_max_f86c9_6 : decode cJ9_max_f86c9 6 = .ok (.lload_n 0, 1) := by decide +kernel
theorem dJ9_max_f86c9_7 : decode cJ9_max_f86c9 7 = .ok (.goto 4, 3) := by decide +kernel
theorem dJ9_max_f86c9_10 : decode cJ9_max_f86c9 10 = .ok (.lload_n 2, 1) := by decide +kernel
theorem dJ9_max_f86c9_11 : decode cJ9_max_f86c9 11 = .ok (.lreturn, 1) := by decide +kernel
theorem dJ9_min_7cf53_0 : decode cJ9_min_7cf53 0 = .ok (.iload_n 0, 1) := by decide +kernel
theorem dJ9_min_7cf53_1 : decode cJ9_min_7cf53 1 = .ok (.iload_n 1, 1) := by decide +kernel
theorem dJ9_min_7cf53_2 : decode cJ9_min_7cf53 2 = .ok (.if_icmp .gt 7, 3) := by decide +kernel
theorem dJ9_min_7cf53_5 : decode cJ9_min_7cf53 5 = .ok (.iload_n 0, 1) := by decide +kernel
theorem dJ9_min_7cf53_6 : decode cJ9_min_7cf53 6 = .ok (.goto 4, 3) := by decide +kernel
theorem dJ9_min_7cf53_9 : decode cJ9_min_7cf53 9 = .ok (.iload_n 1, 1) := by decide +kernel
theorem dJ9_min_7cf53_10 : decode cJ9_min_7cf53 10 = .ok (.ireturn, 1) := by decide +kernel
theorem dJ9_min_f86c9_0 : decode cJ9_min_f86c9 0 = .ok (.lload_n 0, 1) := by decide +kernel
theorem dJ9_min_f86c9_1 : decode cJ9_min_f86c9 1 = .ok (.lload_n 2, 1) := by decide +kernel
theorem dJ9_min_f86c9_2 : decode cJ9_min_f86c9 2 = .ok (.lcmp, 1) := by decide +kernel
theorem dJ9_min_f86c9_3 : decode cJ9_min_f86c9 3 = .ok (.ifCond .gt 7, 3) := by decide +kernel
theorem dJ9_min_f86c9_6 : decode cJ9_min_f86c9 6 = .ok (.lload_n 0, 1) := by decide +kernel
theorem dJ9_min_f86c9_7 : decode cJ9_min_f86c9 7 = .ok (.goto 4, 3) := by decide +kernel
theorem dJ9_min_f86c9_10 : decode cJ9_min_f86c9 10 = .ok (.lload_n 2, 1) := by decide +kernel
theorem dJ9_min_f86c9_11 : decode cJ9_min_f86c9 11 = .ok (.lreturn, 1) := by decide +kernel
set_option maxRecDepth 20000 in
theorem ggJ0_length_8abf5_J0_coder_7d493 : GoodIn wsJ0_length_8abf5 wsJ0_coder_7d493 := goodIn_r _ [6, 7, 8] (by decide +kernel) (by decide +kernel)
set_option maxRecDepth 20000 in
theorem gJ0_length_8abf5_J0_coder_7d493 : GoodIn wsJ0_length_8abf5 (wsV RJ0 335 RJ0 yJ0_coder_7d493 wsJ0_coder_7d493) := goodIn_app (goodIn_of _ (by decide +kernel)) ggJ0_length_8abf5_J0_coder_7d493
theorem dJ0_length_8abf5_0 : decode cJ0_length_8abf5 0 = .ok (.aload_n 0, 1) := by decide +kernel
theorem dJ0_length_8abf5_1 : decode cJ0_length_8abf5 1 = .ok (.getfield 9, 3) := by decide +kernel
theorem dJ0_length_8abf5_4 : decode cJ0_length_8abf5 4 = .ok (.arraylength, 1) := by decide +kernel
theorem dJ0_length_8abf5_5 : decode cJ0_length_8abf5 5 = .ok (.aload_n 0, 1) := by decide +kernel
theorem dJ0_length_8abf5_6 : decode cJ0_length_8abf5 6 = .ok (.invokevirtual 335, 3) := by decide +kernel
theorem dJ0_length_8abf5_9 : decode cJ0_length_8abf5 9 = .ok (.ishr, 1) := by decide +kernel
theorem dJ0_length_8abf5_10 : decode cJ0_length_8abf5 10 = .ok (.ireturn, 1) := by decide +kernel
theorem dJ0_isEmpty_aae02_0 : decode cJ0_isEmpty_aae02 0 = .ok (.aload_n 0, 1) := by decide +kernel
theorem dJ0_isEmpty_aae02_1 : decode cJ0_isEmpty_aae02 1 = .ok (.getfield 9, 3) := by decide +kernel
theorem dJ0_isEmpty_aae02_4 : decode cJ0_isEmpty_aae02 4 = .ok (.arraylength, 1) := by decide +kernel
theorem dJ0_isEmpty_aae02_5 : decode cJ0_isEmpty_aae02 5 = .ok (.ifCond .ne 7, 3) := by decide +kernel
theorem dJ0_isEmpty_aae02_8 : decode cJ0_isEmpty_aae02 8 = .ok (.iconst 1, 1) := by decide +kernel
theorem dJ0_isEmpty_aae02_9 : decode cJ0_isEmpty_aae02 9 = .ok (.goto 4, 3) := by decide +kernel
theorem dJ0_isEmpty_aae02_12 : decode cJ0_isEmpty_aae02 12 = .ok (.iconst 0, 1) := by decide +kernel
theorem dJ0_isEmpty_aae02_13 : decode cJ0_isEmpty_aae02 13 = .ok (.ireturn, 1) := by decide +kernel
set_option maxRecDepth 20000 in
theorem ggJ0_charAt_5068e_J0_isLatin1_aae02 : GoodIn wsJ0_charAt_5068e wsJ0_isLatin1_aae02 := goodIn_r _ [6, 7, 8] (by decide +kernel) (by decide +kernel)
set_option maxRecDepth 20000 in
theorem gJ0_charAt_5068e_J0_isLatin1_aae02 : GoodIn wsJ0_charAt_5068e (wsV RJ0 492 RJ0 yJ0_isLatin1_aae02 wsJ0_isLatin1_aae02) := goodIn_app (goodIn_of _ (by decide +kernel)) ggJ0_charAt_5068e_J0_isLatin1_aae02
set_option maxRecDepth 20000 in
theorem ggJ0_charAt_5068e_J1_charAt_3b067 : GoodIn wsJ0_charAt_5068e wsJ1_charAt_3b067 := goodIn_r _ [12, 13, 14, 5, 15, 16, 17, 18, 19, 20] (by decide +kernel) (by decide +kernel)
set_option maxRecDepth 20000 in
theorem gJ0_charAt_5068e_J1_charAt_3b067 : GoodIn wsJ0_charAt_5068e (va_wsS RJ0 495 yJ1_charAt_3b067 wsJ1_charAt_3b067) := goodIn_app (goodIn_of _ (by decide +kernel)) ggJ0_charAt_5068e_J1_charAt_3b067
set_option maxRecDepth 20000 in
theorem ggJ0_charAt_5068e_J2_charAt_3b067 : GoodIn wsJ0_charAt_5068e wsJ2_charAt_3b067 := goodIn_r _ [24, 25, 26, 23, 27, 28, 29, 30, 31, 14, 5, 15, 16, 17, 18, 19, 20, 32, 33, 34, 35, 36, 37] (by decide +kernel) (by decide +kernel)
set_option maxRecDepth 20000 in
theorem gJ0_charAt_5068e_J2_charAt_3b067 : GoodIn wsJ0_charAt_5068e (va_wsS RJ0 498 yJ2_charAt_3b067 wsJ2_charAt_3b067) := goodIn_app (goodIn_of _ (by decide +kernel)) ggJ0_charAt_5068e_J2_charAt_3b067
theorem dJ0_charAt_5068e_0 : decode cJ0_charAt_5068e 0 = .ok (.aload_n 0, 1) := by decide +kernel
theorem dJ0_charAt_5068e_1 : decode cJ0_charAt_5068e 1 = .ok (.invokevirtual 492, 3) := by decide +kernel
theorem dJ0_charAt_5068e_4 : decode cJ0_charAt_5068e 4 = .ok (.ifCond .eq 12, 3) := by decide +kernel
theorem dJ0_charAt_5068e_7 : decode cJ0_charAt_5068e 7 = .ok (.aload_n 0, 1) := by decide +kernel
theorem dJ0_charAt_5068e_8 : decode cJ0_charAt_5068e 8 = .ok (.getfield 9, 3) := by decide +kernel
theorem dJ0_charAt_5068e_11 : decode cJ0_charAt_5068e 11 = .ok (.iload_n 1, 1) := by decide +kernel
theorem dJ0_charAt_5068e_12 : decode cJ0_charAt_5068e 12 = .ok (.invokestatic 495, 3) := by decide +kernel
theorem dJ0_charAt_5068e_15 : decode cJ0_charAt_5068e 15 = .ok (.ireturn, 1) := by decide +kernel
theorem dJ0_charAt_5068e_16 : decode cJ0_charAt_5068e 16 = .ok (.aload_n 0, 1) := by decide +kernel
theorem dJ0_charAt_5068e_17 : decode cJ0_charAt_5068e 17 = .ok (.getfield 9, 3) := by decide +kernel
theorem dJ0_charAt_5068e_20 : decode cJ0_charAt_5068e 20 = .ok (.iload_n 1, 1) := by decide +kernel
theorem dJ0_charAt_5068e_21 : decode cJ0_charAt_5068e 21 = .ok (.invokestatic 498, 3) := by decide +kernel
theorem dJ0_charAt_5068e_24 : decode cJ0_charAt_5068e 24 = .ok (.ireturn, 1) := by decide +kernel
theorem dJ0_coder_7d493_0 : decode cJ0_coder_7d493 0 = .ok (.getstatic 38, 3) := by decide +kernel
theorem dJ0_coder_7d493_3 : decode cJ0_coder_7d493 3 = .ok (.ifCond .eq 10, 3) := by decide +kernel
theorem dJ0_coder_7d493_6 : decode cJ0_coder_7d493 6 = .ok (.aload_n 0, 1) := by decide +kernel
theorem dJ0_coder_7d493_7 : decode cJ0_coder_7d493 7 = .ok (.getfield 15, 3) := by decide +kernel
theorem dJ0_coder_7d493_10 : decode cJ0_coder_7d493 10 = .ok (.goto 4, 3) := by decide +kernel
theorem dJ0_coder_7d493_13 : decode cJ0_coder_7d493 13 = .ok (.iconst 1, 1) := by decide +kernel
theorem dJ0_coder_7d493_14 : decode cJ0_coder_7d493 14 = .ok (.ireturn, 1) := by decide +kernel
theorem dJ0_isLatin1_aae02_0 : decode cJ0_isLatin1_aae02 0 = .ok (.getstatic 38, 3) := by decide +kernel
theorem dJ0_isLatin1_aae02_3 : decode cJ0_isLatin1_aae02 3 = .ok (.ifCond .eq 14, 3) := by decide +kernel
theorem dJ0_isLatin1_aae02_6 : decode cJ0_isLatin1_aae02 6 = .ok (.aload_n 0, 1) := by decide +kernel
theorem dJ0_isLatin1_aae02_7 : decode cJ0_isLatin1_aae02 7 = .ok (.getfield 15, 3) := by decide +kernel
theorem dJ0_isLatin1_aae02_10 : decode cJ0_isLatin1_aae02 10 = .ok (.ifCond .ne 7, 3) := by decide +kernel
theorem dJ0_isLatin1_aae02_13 : decode cJ0_isLatin1_aae02 13 = .ok (.iconst 1, 1) := by decide +kernel
theorem dJ0_isLatin1_aae02_14 : decode cJ0_isLatin1_aae02 14 = .ok (.goto 4, 3) := by decide +kernel
theorem dJ0_isLatin1_aae02_17 : decode cJ0_isLatin1_aae02 17 = .ok (.iconst 0, 1) := by decide +kernel
theorem dJ0_isLatin1_aae02_18 : decode cJ0_isLatin1_aae02 18 = .ok (.ireturn, 1) := by decide +kernel
set_option maxRecDepth 20000 in
theorem ggJ0_checkIndex_df160_J3_checkIndex_8e157 : GoodIn wsJ0_checkIndex_df160 wsJ3_checkIndex_8e157 := goodIn_r _ [5] (by decide +kernel) (by decide +kernel)
set_option maxRecDepth 20000 in
theorem gJ0_checkIndex_df160_J3_checkIndex_8e157 : GoodIn wsJ0_checkIndex_df160 (va_wsS RJ0 1059 yJ3_checkIndex_8e157 wsJ3_checkIndex_8e157) := goodIn_app (goodIn_of _ (by decide +kernel)) ggJ0_checkIndex_df160_J3_checkIndex_8e157
theorem dJ0_checkIndex_df160_0 : decode cJ0_checkIndex_df160 0 = .ok (.iload_n 0, 1) := by decide +kernel
theorem dJ0_checkIndex_df160_1 : decode cJ0_checkIndex_df160 1 = .ok (.iload_n 1, 1) := by decide +kernel
theorem dJ0_checkIndex_df160_2 : decode cJ0_checkIndex_df160 2 = .ok (.getstatic 1053, 3) := by decide +kernel
theorem dJ0_checkIndex_df160_5 : decode cJ0_checkIndex_df160 5 = .ok (.invokestatic 1059, 3) := by decide +kernel
theorem dJ0_checkIndex_df160_8 : decode cJ0_checkIndex_df160 8 = .ok (.pop, 1) := by decide +kernel
theorem dJ0_checkIndex_df160_9 : decode cJ0_checkIndex_df160 9 = .ok (.return_, 1) := by decide +kernel
set_option maxRecDepth 20000 in
theorem ggJ1_charAt_3b067_J0_checkIndex_df160 : GoodIn wsJ1_charAt_3b067 wsJ0_checkIndex_df160 := goodIn_r _ [4, 5, 6, 7, 8, 9] (by decide +kernel) (by decide +kernel)
set_option maxRecDepth 20000 in
theorem gJ1_charAt_3b067_J0_checkIndex_df160 : GoodIn wsJ1_charAt_3b067 (va_wsS RJ1 9 yJ0_checkIndex_df160 wsJ0_checkIndex_df160) := goodIn_app (goodIn_of _ (by decide +kernel)) ggJ1_charAt_3b067_J0_checkIndex_df160
theorem dJ1_charAt_3b067_0 : decode cJ1_charAt_3b067 0 = .ok (.iload_n 1, 1) := by decide +kernel
theorem dJ1_charAt_3b067_1 : decode cJ1_charAt_3b067 1 = .ok (.aload_n 0, 1) := by decide +kernel
theorem dJ1_charAt_3b067_2 : decode cJ1_charAt_3b067 2 = .ok (.arraylength, 1) := by decide +kernel
theorem dJ1_charAt_3b067_3 : decode cJ1_charAt_3b067 3 = .ok (.invokestatic 9, 3) := by decide +kernel
theorem dJ1_charAt_3b067_6 : decode cJ1_charAt_3b067 6 = .ok (.aload_n 0, 1) := by decide +kernel
theorem dJ1_charAt_3b067_7 : decode cJ1_charAt_3b067 7 = .ok (.iload_n 1, 1) := by decide +kernel
theorem dJ1_charAt_3b067_8 : decode cJ1_charAt_3b067 8 = .ok (.baload, 1) := by decide +kernel
