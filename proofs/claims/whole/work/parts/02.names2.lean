theorem dX3_advance_41 : decode cX3_advance 41 = .ok (.getfield 35, 3) := by decide +kernel
theorem dX3_advance_44 : decode cX3_advance 44 = .ok (.iconst 1, 1) := by decide +kernel
theorem dX3_advance_45 : decode cX3_advance 45 = .ok (.iadd, 1) := by decide +kernel
theorem dX3_advance_46 : decode cX3_advance 46 = .ok (.putfield 35, 3) := by decide +kernel
theorem dX3_advance_49 : decode cX3_advance 49 = .ok (.goto (-41), 3) := by decide +kernel
theorem dX3_advance_52 : decode cX3_advance 52 = .ok (.aload_n 0, 1) := by decide +kernel
theorem dX3_advance_53 : decode cX3_advance 53 = .ok (.aload_n 0, 1) := by decide +kernel
theorem dX3_advance_54 : decode cX3_advance 54 = .ok (.getfield 35, 3) := by decide +kernel
theorem dX3_advance_57 : decode cX3_advance 57 = .ok (.putfield 21, 3) := by decide +kernel
theorem dX3_advance_60 : decode cX3_advance 60 = .ok (.aload_n 0, 1) := by decide +kernel
theorem dX3_advance_61 : decode cX3_advance 61 = .ok (.invokevirtual 27, 3) := by decide +kernel
theorem dX3_advance_64 : decode cX3_advance 64 = .ok (.ifCond .eq 4, 3) := by decide +kernel
theorem dX3_advance_67 : decode cX3_advance 67 = .ok (.return_, 1) := by decide +kernel
theorem dX3_advance_68 : decode cX3_advance 68 = .ok (.aload_n 0, 1) := by decide +kernel
theorem dX3_advance_69 : decode cX3_advance 69 = .ok (.getfield 9, 3) := by decide +kernel
theorem dX3_advance_72 : decode cX3_advance 72 = .ok (.getfield 72, 3) := by decide +kernel
theorem dX3_advance_75 : decode cX3_advance 75 = .ok (.aload_n 0, 1) := by decide +kernel
theorem dX3_advance_76 : decode cX3_advance 76 = .ok (.getfield 35, 3) := by decide +kernel
theorem dX3_advance_79 : decode cX3_advance 79 = .ok (.iaload, 1) := by decide +kernel
theorem dX3_advance_80 : decode cX3_advance 80 = .ok (.invokestatic 78, 3) := by decide +kernel
theorem dX3_advance_83 : decode cX3_advance 83 = .ok (.istore_n 1, 1) := by decide +kernel
theorem dX3_advance_84 : decode cX3_advance 84 = .ok (.aload_n 0, 1) := by decide +kernel
theorem dX3_advance_85 : decode cX3_advance 85 = .ok (.dup, 1) := by decide +kernel
theorem dX3_advance_86 : decode cX3_advance 86 = .ok (.getfield 21, 3) := by decide +kernel
theorem dX3_advance_89 : decode cX3_advance 89 = .ok (.iconst 1, 1) := by decide +kernel
theorem dX3_advance_90 : decode cX3_advance 90 = .ok (.iadd, 1) := by decide +kernel
theorem dX3_advance_91 : decode cX3_advance 91 = .ok (.putfield 21, 3) := by decide +kernel
theorem dX3_advance_94 : decode cX3_advance 94 = .ok (.iload_n 1, 1) := by decide +kernel
theorem dX3_advance_95 : decode cX3_advance 95 = .ok (.ifCond .eq 49, 3) := by decide +kernel
theorem dX3_advance_98 : decode cX3_advance 98 = .ok (.aload_n 0, 1) := by decide +kernel
theorem dX3_advance_99 : decode cX3_advance 99 = .ok (.getfield 21, 3) := by decide +kernel
theorem dX3_advance_102 : decode cX3_advance 102 = .ok (.aload_n 0, 1) := by decide +kernel
theorem dX3_advance_103 : decode cX3_advance 103 = .ok (.getfield 9, 3) := by decide +kernel
theorem dX3_advance_106 : decode cX3_advance 106 = .ok (.getfield 89, 3) := by decide +kernel
theorem dX3_advance_109 : decode cX3_advance 109 = .ok (.if_icmp .ge 35, 3) := by decide +kernel
theorem dX3_advance_112 : decode cX3_advance 112 = .ok (.aload_n 0, 1) := by decide +kernel
theorem dX3_advance_113 : decode cX3_advance 113 = .ok (.getfield 9, 3) := by decide +kernel
theorem dX3_advance_116 : decode cX3_advance 116 = .ok (.getfield 72, 3) := by decide +kernel
theorem dX3_advance_119 : decode cX3_advance 119 = .ok (.aload_n 0, 1) := by decide +kernel
theorem dX3_advance_120 : decode cX3_advance 120 = .ok (.getfield 21, 3) := by decide +kernel
theorem dX3_advance_123 : decode cX3_advance 123 = .ok (.iaload, 1) := by decide +kernel
theorem dX3_advance_124 : decode cX3_advance 124 = .ok (.invokestatic 78, 3) := by decide +kernel
theorem dX3_advance_127 : decode cX3_advance 127 = .ok (.iload_n 1, 1) := by decide +kernel
theorem dX3_advance_128 : decode cX3_advance 128 = .ok (.if_icmp .ne 16, 3) := by decide +kernel
theorem dX3_advance_131 : decode cX3_advance 131 = .ok (.aload_n 0, 1) := by decide +kernel
theorem dX3_advance_132 : decode cX3_advance 132 = .ok (.dup, 1) := by decide +kernel
theorem dX3_advance_133 : decode cX3_advance 133 = .ok (.getfield 21, 3) := by decide +kernel
theorem dX3_advance_136 : decode cX3_advance 136 = .ok (.iconst 1, 1) := by decide +kernel
theorem dX3_advance_137 : decode cX3_advance 137 = .ok (.iadd, 1) := by decide +kernel
theorem dX3_advance_138 : decode cX3_advance 138 = .ok (.putfield 21, 3) := by decide +kernel
theorem dX3_advance_141 : decode cX3_advance 141 = .ok (.goto (-47), 3) := by decide +kernel
theorem dX3_advance_144 : decode cX3_advance 144 = .ok (.return_, 1) := by decide +kernel
set_option maxRecDepth 20000 in
theorem ggX3_sortOf_X8_isWithin : GoodIn wsX3_sortOf wsX8_isWithin := goodIn_r _ [3] (by decide +kernel) (by decide +kernel)
set_option maxRecDepth 20000 in
theorem gX3_sortOf_X8_isWithin_n91 : GoodIn wsX3_sortOf (wsX8_isWithin) := ggX3_sortOf_X8_isWithin
theorem dX3_sortOf_0 : decode cX3_sortOf 0 = .ok (.iload_n 0, 1) := by decide +kernel
theorem dX3_sortOf_1 : decode cX3_sortOf 1 = .ok (.bipush 97, 2) := by decide +kernel
theorem dX3_sortOf_3 : decode cX3_sortOf 3 = .ok (.bipush 122, 2) := by decide +kernel
theorem dX3_sortOf_5 : decode cX3_sortOf 5 = .ok (.invokestatic 91, 3) := by decide +kernel
theorem dX3_sortOf_8 : decode cX3_sortOf 8 = .ok (.ifCond .eq 5, 3) := by decide +kernel
theorem dX3_sortOf_11 : decode cX3_sortOf 11 = .ok (.iconst 1, 1) := by decide +kernel
theorem dX3_sortOf_12 : decode cX3_sortOf 12 = .ok (.ireturn, 1) := by decide +kernel
theorem dX3_sortOf_13 : decode cX3_sortOf 13 = .ok (.iload_n 0, 1) := by decide +kernel
theorem dX3_sortOf_14 : decode cX3_sortOf 14 = .ok (.bipush 48, 2) := by decide +kernel
theorem dX3_sortOf_16 : decode cX3_sortOf 16 = .ok (.bipush 57, 2) := by decide +kernel
theorem dX3_sortOf_18 : decode cX3_sortOf 18 = .ok (.invokestatic 91, 3) := by decide +kernel
theorem dX3_sortOf_21 : decode cX3_sortOf 21 = .ok (.ifCond .eq 7, 3) := by decide +kernel
theorem dX3_sortOf_24 : decode cX3_sortOf 24 = .ok (.iconst 2, 1) := by decide +kernel
theorem dX3_sortOf_25 : decode cX3_sortOf 25 = .ok (.goto 4, 3) := by decide +kernel
theorem dX3_sortOf_28 : decode cX3_sortOf 28 = .ok (.iconst 0, 1) := by decide +kernel
theorem dX3_sortOf_29 : decode cX3_sortOf 29 = .ok (.ireturn, 1) := by decide +kernel
theorem dX4_init_0 : decode cX4_init 0 = .ok (.aload_n 0, 1) := by decide +kernel
theorem dX4_init_1 : decode cX4_init 1 = .ok (.invokespecial 1, 3) := by decide +kernel
theorem dX4_init_4 : decode cX4_init 4 = .ok (.aload_n 0, 1) := by decide +kernel
theorem dX4_init_5 : decode cX4_init 5 = .ok (.sipush 200, 3) := by decide +kernel
theorem dX4_init_8 : decode cX4_init 8 = .ok (.newarray .int, 2) := by decide +kernel
theorem dX4_init_10 : decode cX4_init 10 = .ok (.putfield 9, 3) := by decide +kernel
theorem dX4_init_13 : decode cX4_init 13 = .ok (.return_, 1) := by decide +kernel
theorem dX4_hasRoom_0 : decode cX4_hasRoom 0 = .ok (.aload_n 0, 1) := by decide +kernel
theorem dX4_hasRoom_1 : decode cX4_hasRoom 1 = .ok (.getfield 13, 3) := by decide +kernel
theorem dX4_hasRoom_4 : decode cX4_hasRoom 4 = .ok (.bipush 20, 2) := by decide +kernel
theorem dX4_hasRoom_6 : decode cX4_hasRoom 6 = .ok (.iadd, 1) := by decide +kernel
theorem dX4_hasRoom_7 : decode cX4_hasRoom 7 = .ok (.sipush 200, 3) := by decide +kernel
theorem dX4_hasRoom_10 : decode cX4_hasRoom 10 = .ok (.if_icmp .gt 7, 3) := by decide +kernel
theorem dX4_hasRoom_13 : decode cX4_hasRoom 13 = .ok (.iconst 1, 1) := by decide +kernel
theorem dX4_hasRoom_14 : decode cX4_hasRoom 14 = .ok (.goto 4, 3) := by decide +kernel
theorem dX4_hasRoom_17 : decode cX4_hasRoom 17 = .ok (.iconst 0, 1) := by decide +kernel
theorem dX4_hasRoom_18 : decode cX4_hasRoom 18 = .ok (.ireturn, 1) := by decide +kernel
theorem dX4_add_0 : decode cX4_add 0 = .ok (.bipush 24, 2) := by decide +kernel
theorem dX4_add_2 : decode cX4_add 2 = .ok (.istore_n 2, 1) := by decide +kernel
theorem dX4_add_3 : decode cX4_add 3 = .ok (.iload_n 2, 1) := by decide +kernel
theorem dX4_add_4 : decode cX4_add 4 = .ok (.ifCond .lt 45, 3) := by decide +kernel
theorem dX4_add_7 : decode cX4_add 7 = .ok (.aload_n 0, 1) := by decide +kernel
theorem dX4_add_8 : decode cX4_add 8 = .ok (.getfield 13, 3) := by decide +kernel
theorem dX4_add_11 : decode cX4_add 11 = .ok (.sipush 200, 3) := by decide +kernel
theorem dX4_add_14 : decode cX4_add 14 = .ok (.if_icmp .ge 35, 3) := by decide +kernel
theorem dX4_add_17 : decode cX4_add 17 = .ok (.aload_n 0, 1) := by decide +kernel
theorem dX4_add_18 : decode cX4_add 18 = .ok (.getfield 9, 3) := by decide +kernel
theorem dX4_add_21 : decode cX4_add 21 = .ok (.aload_n 0, 1) := by decide +kernel
theorem dX4_add_22 : decode cX4_add 22 = .ok (.getfield 13, 3) := by decide +kernel
theorem dX4_add_25 : decode cX4_add 25 = .ok (.iload_n 1, 1) := by decide +kernel
theorem dX4_add_26 : decode cX4_add 26 = .ok (.iload_n 2, 1) := by decide +kernel
theorem dX4_add_27 : decode cX4_add 27 = .ok (.iushr, 1) := by decide +kernel
theorem dX4_add_28 : decode cX4_add 28 = .ok (.sipush 255, 3) := by decide +kernel
theorem dX4_add_31 : decode cX4_add 31 = .ok (.iand, 1) := by decide +kernel
theorem dX4_add_32 : decode cX4_add 32 = .ok (.iastore, 1) := by decide +kernel
theorem dX4_add_33 : decode cX4_add 33 = .ok (.aload_n 0, 1) := by decide +kernel
theorem dX4_add_34 : decode cX4_add 34 = .ok (.dup, 1) := by decide +kernel
theorem dX4_add_35 : decode cX4_add 35 = .ok (.getfield 13, 3) := by decide +kernel
theorem dX4_add_38 : decode cX4_add 38 = .ok (.iconst 1, 1) := by decide +kernel
theorem dX4_add_39 : decode cX4_add 39 = .ok (.iadd, 1) := by decide +kernel
theorem dX4_add_40 : decode cX4_add 40 = .ok (.putfield 13, 3) := by decide +kernel
theorem dX4_add_43 : decode cX4_add 43 = .ok (.iinc 2 (-8), 3) := by decide +kernel
theorem dX4_add_46 : decode cX4_add 46 = .ok (.goto (-43), 3) := by decide +kernel
theorem dX4_add_49 : decode cX4_add 49 = .ok (.return_, 1) := by decide +kernel
theorem dX5_init_0 : decode cX5_init 0 = .ok (.aload_n 0, 1) := by decide +kernel
theorem dX5_init_1 : decode cX5_init 1 = .ok (.invokespecial 1, 3) := by decide +kernel
theorem dX5_init_4 : decode cX5_init 4 = .ok (.aload_n 0, 1) := by decide +kernel
theorem dX5_init_5 : decode cX5_init 5 = .ok (.bipush 20, 2) := by decide +kernel
theorem dX5_init_7 : decode cX5_init 7 = .ok (.newarray .int, 2) := by decide +kernel
theorem dX5_init_9 : decode cX5_init 9 = .ok (.putfield 9, 3) := by decide +kernel
theorem dX5_init_12 : decode cX5_init 12 = .ok (.aload_n 0, 1) := by decide +kernel
theorem dX5_init_13 : decode cX5_init 13 = .ok (.bipush 20, 2) := by decide +kernel
theorem dX5_init_15 : decode cX5_init 15 = .ok (.newarray .int, 2) := by decide +kernel
theorem dX5_init_17 : decode cX5_init 17 = .ok (.putfield 13, 3) := by decide +kernel
theorem dX5_init_20 : decode cX5_init 20 = .ok (.aload_n 0, 1) := by decide +kernel
theorem dX5_init_21 : decode cX5_init 21 = .ok (.bipush 20, 2) := by decide +kernel
theorem dX5_init_23 : decode cX5_init 23 = .ok (.newarray .int, 2) := by decide +kernel
theorem dX5_init_25 : decode cX5_init 25 = .ok (.putfield 16, 3) := by decide +kernel
theorem dX5_init_28 : decode cX5_init 28 = .ok (.return_, 1) := by decide +kernel
theorem dX5_add_0 : decode cX5_add 0 = .ok (.aload_n 0, 1) := by decide +kernel
theorem dX5_add_1 : decode cX5_add 1 = .ok (.getfield 19, 3) := by decide +kernel
theorem dX5_add_4 : decode cX5_add 4 = .ok (.bipush 20, 2) := by decide +kernel
theorem dX5_add_6 : decode cX5_add 6 = .ok (.if_icmp .ge 43, 3) := by decide +kernel
theorem dX5_add_9 : decode cX5_add 9 = .ok (.aload_n 0, 1) := by decide +kernel
theorem dX5_add_10 : decode cX5_add 10 = .ok (.getfield 9, 3) := by decide +kernel
theorem dX5_add_13 : decode cX5_add 13 = .ok (.aload_n 0, 1) := by decide +kernel
theorem dX5_add_14 : decode cX5_add 14 = .ok (.getfield 19, 3) := by decide +kernel
theorem dX5_add_17 : decode cX5_add 17 = .ok (.iload_n 1, 1) := by decide +kernel
theorem dX5_add_18 : decode cX5_add 18 = .ok (.iastore, 1) := by decide +kernel
theorem dX5_add_19 : decode cX5_add 19 = .ok (.aload_n 0, 1) := by decide +kernel
theorem dX5_add_20 : decode cX5_add 20 = .ok (.getfield 13, 3) := by decide +kernel
theorem dX5_add_23 : decode cX5_add 23 = .ok (.aload_n 0, 1) := by decide +kernel
theorem dX5_add_24 : decode cX5_add 24 = .ok (.getfield 19, 3) := by decide +kernel
theorem dX5_add_27 : decode cX5_add 27 = .ok (.iload_n 2, 1) := by decide +kernel
theorem dX5_add_28 : decode cX5_add 28 = .ok (.iastore, 1) := by decide +kernel
theorem dX5_add_29 : decode cX5_add 29 = .ok (.aload_n 0, 1) := by decide +kernel
theorem dX5_add_30 : decode cX5_add 30 = .ok (.getfield 16, 3) := by decide +kernel
theorem dX5_add_33 : decode cX5_add 33 = .ok (.aload_n 0, 1) := by decide +kernel
theorem dX5_add_34 : decode cX5_add 34 = .ok (.getfield 19, 3) := by decide +kernel
theorem dX5_add_37 : decode cX5_add 37 = .ok (.iload_n 3, 1) := by decide +kernel
theorem dX5_add_38 : decode cX5_add 38 = .ok (.iastore, 1) := by decide +kernel
theorem dX5_add_39 : decode cX5_add 39 = .ok (.aload_n 0, 1) := by decide +kernel
theorem dX5_add_40 : decode cX5_add 40 = .ok (.dup, 1) := by decide +kernel
theorem dX5_add_41 : decode cX5_add 41 = .ok (.getfield 19, 3) := by decide +kernel
theorem dX5_add_44 : decode cX5_add 44 = .ok (.iconst 1, 1) := by decide +kernel
theorem dX5_add_45 : decode cX5_add 45 = .ok (.iadd, 1) := by decide +kernel
theorem dX5_add_46 : decode cX5_add 46 = .ok (.putfield 19, 3) := by decide +kernel
theorem dX5_add_49 : decode cX5_add 49 = .ok (.return_, 1) := by decide +kernel
set_option maxRecDepth 20000 in
theorem ggX5_sum_X5_after : GoodIn wsX5_sum wsX5_after := goodIn_r _ [6, 7, 8, 9, 10, 11, 12, 13, 14, 15, 16, 17, 18, 19, 20] (by decide +kernel) (by decide +kernel)
set_option maxRecDepth 20000 in
theorem gX5_sum_X5_after : GoodIn wsX5_sum (wsV RX5 23 RX5 yX5_after wsX5_after) := goodIn_app (goodIn_of _ (by decide +kernel)) ggX5_sum_X5_after
theorem dX5_sum_0 : decode cX5_sum 0 = .ok (.lconst 0, 1) := by decide +kernel
theorem dX5_sum_1 : decode cX5_sum 1 = .ok (.lstore 4, 2) := by decide +kernel
theorem dX5_sum_3 : decode cX5_sum 3 = .ok (.iconst 0, 1) := by decide +kernel
theorem dX5_sum_4 : decode cX5_sum 4 = .ok (.istore 6, 2) := by decide +kernel
theorem dX5_sum_6 : decode cX5_sum 6 = .ok (.iload 6, 2) := by decide +kernel
theorem dX5_sum_8 : decode cX5_sum 8 = .ok (.aload_n 0, 1) := by decide +kernel
theorem dX5_sum_9 : decode cX5_sum 9 = .ok (.getfield 19, 3) := by decide +kernel
theorem dX5_sum_12 : decode cX5_sum 12 = .ok (.if_icmp .ge 22, 3) := by decide +kernel
theorem dX5_sum_15 : decode cX5_sum 15 = .ok (.aload_n 0, 1) := by decide +kernel
theorem dX5_sum_16 : decode cX5_sum 16 = .ok (.iload 6, 2) := by decide +kernel
theorem dX5_sum_18 : decode cX5_sum 18 = .ok (.lload 4, 2) := by decide +kernel
theorem dX5_sum_20 : decode cX5_sum 20 = .ok (.iload_n 1, 1) := by decide +kernel
theorem dX5_sum_21 : decode cX5_sum 21 = .ok (.iload_n 2, 1) := by decide +kernel
theorem dX5_sum_22 : decode cX5_sum 22 = .ok (.iload_n 3, 1) := by decide +kernel
theorem dX5_sum_23 : decode cX5_sum 23 = .ok (.invokevirtual 23, 3) := by decide +kernel
theorem dX5_sum_26 : decode cX5_sum 26 = .ok (.lstore 4, 2) := by decide +kernel
theorem dX5_sum_28 : decode cX5_sum 28 = .ok (.iinc 6 1, 3) := by decide +kernel
theorem dX5_sum_31 : decode cX5_sum 31 = .ok (.goto (-25), 3) := by decide +kernel
theorem dX5_sum_34 : decode cX5_sum 34 = .ok (.lload 4, 2) := by decide +kernel
theorem dX5_sum_36 : decode cX5_sum 36 = .ok (.lreturn, 1) := by decide +kernel
theorem dX5_after_0 : decode cX5_after 0 = .ok (.aload_n 0, 1) := by decide +kernel
theorem dX5_after_1 : decode cX5_after 1 = .ok (.getfield 13, 3) := by decide +kernel
theorem dX5_after_4 : decode cX5_after 4 = .ok (.iload_n 1, 1) := by decide +kernel
theorem dX5_after_5 : decode cX5_after 5 = .ok (.iaload, 1) := by decide +kernel
theorem dX5_after_6 : decode cX5_after 6 = .ok (.i2l, 1) := by decide +kernel
theorem dX5_after_7 : decode cX5_after 7 = .ok (.lstore 7, 2) := by decide +kernel
theorem dX5_after_9 : decode cX5_after 9 = .ok (.aload_n 0, 1) := by decide +kernel
theorem dX5_after_10 : decode cX5_after 10 = .ok (.getfield 16, 3) := by decide +kernel
theorem dX5_after_13 : decode cX5_after 13 = .ok (.iload_n 1, 1) := by decide +kernel
theorem dX5_after_14 : decode cX5_after 14 = .ok (.iaload, 1) := by decide +kernel
theorem dX5_after_15 : decode cX5_after 15 = .ok (.i2l, 1) := by decide +kernel
theorem dX5_after_16 : decode cX5_after 16 = .ok (.lstore 9, 2) := by decide +kernel
theorem dX5_after_18 : decode cX5_after 18 = .ok (.aload_n 0, 1) := by decide +kernel
theorem dX5_after_19 : decode cX5_after 19 = .ok (.getfield 9, 3) := by decide +kernel
theorem dX5_after_22 : decode cX5_after 22 = .ok (.iload_n 1, 1) := by decide +kernel
theorem dX5_after_23 : decode cX5_after 23 = .ok (.iaload, 1) := by decide +kernel
theorem dX5_after_24 : decode cX5_after 24 = .ok (.tableswitch 126 0 6 #[44, 49, 58, 74, 90, 112, 119], 44) := by decide +kernel
theorem dX5_after_68 : decode cX5_after 68 = .ok (.lload_n 2, 1) := by decide +kernel
theorem dX5_after_69 : decode cX5_after 69 = .ok (.lload 7, 2) := by decide +kernel
theorem dX5_after_71 : decode cX5_after 71 = .ok (.ladd, 1) := by decide +kernel
theorem dX5_after_72 : decode cX5_after 72 = .ok (.lreturn, 1) := by decide +kernel
theorem dX5_after_73 : decode cX5_after 73 = .ok (.lload_n 2, 1) := by decide +kernel
theorem dX5_after_74 : decode cX5_after 74 = .ok (.lload 7, 2) := by decide +kernel
theorem dX5_after_76 : decode cX5_after 76 = .ok (.iload 4, 2) := by decide +kernel
theorem dX5_after_78 : decode cX5_after 78 = .ok (.i2l, 1) := by decide +kernel
theorem dX5_after_79 : decode cX5_after 79 = .ok (.lmul, 1) := by decide +kernel
theorem dX5_after_80 : decode cX5_after 80 = .ok (.ladd, 1) := by decide +kernel
theorem dX5_after_81 : decode cX5_after 81 = .ok (.lreturn, 1) := by decide +kernel
theorem dX5_after_82 : decode cX5_after 82 = .ok (.lload_n 2, 1) := by decide +kernel
theorem dX5_after_83 : decode cX5_after 83 = .ok (.lload 7, 2) := by decide +kernel
theorem dX5_after_85 : decode cX5_after 85 = .ok (.lconst 0, 1) := by decide +kernel
theorem dX5_after_86 : decode cX5_after 86 = .ok (.iload 5, 2) := by decide +kernel
theorem dX5_after_88 : decode cX5_after 88 = .ok (.i2l, 1) := by decide +kernel
theorem dX5_after_89 : decode cX5_after 89 = .ok (.lload 9, 2) := by decide +kernel
theorem dX5_after_91 : decode cX5_after 91 = .ok (.lsub, 1) := by decide +kernel
theorem dX5_after_92 : decode cX5_after 92 = .ok (.invokestatic 27, 3) := by decide +kernel
theorem dX5_after_95 : decode cX5_after 95 = .ok (.lmul, 1) := by decide +kernel
theorem dX5_after_96 : decode cX5_after 96 = .ok (.lsub, 1) := by decide +kernel
theorem dX5_after_97 : decode cX5_after 97 = .ok (.lreturn, 1) := by decide +kernel
theorem dX5_after_98 : decode cX5_after 98 = .ok (.lload_n 2, 1) := by decide +kernel
theorem dX5_after_99 : decode cX5_after 99 = .ok (.lload 7, 2) := by decide +kernel
theorem dX5_after_101 : decode cX5_after 101 = .ok (.lconst 0, 1) := by decide +kernel
theorem dX5_after_102 : decode cX5_after 102 = .ok (.lload 9, 2) := by decide +kernel
theorem dX5_after_104 : decode cX5_after 104 = .ok (.iload 5, 2) := by decide +kernel
theorem dX5_after_106 : decode cX5_after 106 = .ok (.i2l, 1) := by decide +kernel
theorem dX5_after_107 : decode cX5_after 107 = .ok (.lsub, 1) := by decide +kernel
theorem dX5_after_108 : decode cX5_after 108 = .ok (.invokestatic 27, 3) := by decide +kernel
theorem dX5_after_111 : decode cX5_after 111 = .ok (.lmul, 1) := by decide +kernel
theorem dX5_after_112 : decode cX5_after 112 = .ok (.ladd, 1) := by decide +kernel
theorem dX5_after_113 : decode cX5_after 113 = .ok (.lreturn, 1) := by decide +kernel
theorem dX5_after_114 : decode cX5_after 114 = .ok (.iload 6, 2) := by decide +kernel
theorem dX5_after_116 : decode cX5_after 116 = .ok (.i2l, 1) := by decide +kernel
theorem dX5_after_117 : decode cX5_after 117 = .ok (.lload 9, 2) := by decide +kernel
theorem dX5_after_119 : decode cX5_after 119 = .ok (.iload 4, 2) := by decide +kernel
theorem dX5_after_121 : decode cX5_after 121 = .ok (.i2l, 1) := by decide +kernel
theorem dX5_after_122 : decode cX5_after 122 = .ok (.lmul, 1) := by decide +kernel
theorem dX5_after_123 : decode cX5_after 123 = .ok (.lcmp, 1) := by decide +kernel
theorem dX5_after_124 : decode cX5_after 124 = .ok (.ifCond .ge 10, 3) := by decide +kernel
theorem dX5_after_127 : decode cX5_after 127 = .ok (.lload_n 2, 1) := by decide +kernel
theorem dX5_after_128 : decode cX5_after 128 = .ok (.lload 7, 2) := by decide +kernel
theorem dX5_after_130 : decode cX5_after 130 = .ok (.ladd, 1) := by decide +kernel
theorem dX5_after_131 : decode cX5_after 131 = .ok (.goto 4, 3) := by decide +kernel
theorem dX5_after_134 : decode cX5_after 134 = .ok (.lload_n 2, 1) := by decide +kernel
theorem dX5_after_135 : decode cX5_after 135 = .ok (.lreturn, 1) := by decide +kernel
theorem dX5_after_136 : decode cX5_after 136 = .ok (.lload_n 2, 1) := by decide +kernel
theorem dX5_after_137 : decode cX5_after 137 = .ok (.lload 7, 2) := by decide +kernel
theorem dX5_after_139 : decode cX5_after 139 = .ok (.invokestatic 33, 3) := by decide +kernel
theorem dX5_after_142 : decode cX5_after 142 = .ok (.lreturn, 1) := by decide +kernel
theorem dX5_after_143 : decode cX5_after 143 = .ok (.lload_n 2, 1) := by decide +kernel
theorem dX5_after_144 : decode cX5_after 144 = .ok (.lload 7, 2) := by decide +kernel
theorem dX5_after_146 : decode cX5_after 146 = .ok (.invokestatic 27, 3) := by decide +kernel
theorem dX5_after_149 : decode cX5_after 149 = .ok (.lreturn, 1) := by decide +kernel
theorem dX5_after_150 : decode cX5_after 150 = .ok (.lload_n 2, 1) := by decide +kernel
theorem dX5_after_151 : decode cX5_after 151 = .ok (.lreturn, 1) := by decide +kernel
theorem dX5_firstWord_0 : decode cX5_firstWord 0 = .ok (.iload_n 0, 1) := by decide +kernel
theorem dX5_firstWord_1 : decode cX5_firstWord 1 = .ok (.tableswitch 64 0 6 #[43, 46, 49, 52, 55, 58, 61], 43) := by decide +kernel
theorem dX5_firstWord_44 : decode cX5_firstWord 44 = .ok (.ldc 36, 2) := by decide +kernel
theorem dX5_firstWord_46 : decode cX5_firstWord 46 = .ok (.areturn, 1) := by decide +kernel
theorem dX5_firstWord_47 : decode cX5_firstWord 47 = .ok (.ldc 38, 2) := by decide +kernel
theorem dX5_firstWord_49 : decode cX5_firstWord 49 = .ok (.areturn, 1) := by decide +kernel
theorem dX5_firstWord_50 : decode cX5_firstWord 50 = .ok (.ldc 40, 2) := by decide +kernel
theorem dX5_firstWord_52 : decode cX5_firstWord 52 = .ok (.areturn, 1) := by decide +kernel
theorem dX5_firstWord_53 : decode cX5_firstWord 53 = .ok (.ldc 42, 2) := by decide +kernel
theorem dX5_firstWord_55 : decode cX5_firstWord 55 = .ok (.areturn, 1) := by decide +kernel
theorem dX5_firstWord_56 : decode cX5_firstWord 56 = .ok (.ldc 44, 2) := by decide +kernel
theorem dX5_firstWord_58 : decode cX5_firstWord 58 = .ok (.areturn, 1) := by decide +kernel
theorem dX5_firstWord_59 : decode cX5_firstWord 59 = .ok (.ldc 46, 2) := by decide +kernel
theorem dX5_firstWord_61 : decode cX5_firstWord 61 = .ok (.areturn, 1) := by decide +kernel
theorem dX5_firstWord_62 : decode cX5_firstWord 62 = .ok (.ldc 48, 2) := by decide +kernel
theorem dX5_firstWord_64 : decode cX5_firstWord 64 = .ok (.areturn, 1) := by decide +kernel
theorem dX5_firstWord_65 : decode cX5_firstWord 65 = .ok (.ldc 50, 2) := by decide +kernel
theorem dX5_firstWord_67 : decode cX5_firstWord 67 = .ok (.areturn, 1) := by decide +kernel
theorem dX5_wordBetween_0 : decode cX5_wordBetween 0 = .ok (.iload_n 0, 1) := by decide +kernel
theorem dX5_wordBetween_1 : decode cX5_wordBetween 1 = .ok (.tableswitch 36 2 4 #[27, 30, 33], 27) := by decide +kernel
theorem dX5_wordBetween_28 : decode cX5_wordBetween 28 = .ok (.ldc 52, 2) := by decide +kernel
theorem dX5_wordBetween_30 : decode cX5_wordBetween 30 = .ok (.areturn, 1) := by decide +kernel
theorem dX5_wordBetween_31 : decode cX5_wordBetween 31 = .ok (.ldc 54, 2) := by decide +kernel
theorem dX5_wordBetween_33 : decode cX5_wordBetween 33 = .ok (.areturn, 1) := by decide +kernel
theorem dX5_wordBetween_34 : decode cX5_wordBetween 34 = .ok (.ldc 56, 2) := by decide +kernel
theorem dX5_wordBetween_36 : decode cX5_wordBetween 36 = .ok (.areturn, 1) := by decide +kernel
theorem dX5_wordBetween_37 : decode cX5_wordBetween 37 = .ok (.ldc 50, 2) := by decide +kernel
theorem dX5_wordBetween_39 : decode cX5_wordBetween 39 = .ok (.areturn, 1) := by decide +kernel
theorem dX6_init_0 : decode cX6_init 0 = .ok (.aload_n 0, 1) := by decide +kernel
theorem dX6_init_1 : decode cX6_init 1 = .ok (.invokespecial 3, 3) := by decide +kernel
theorem dX6_init_4 : decode cX6_init 4 = .ok (.aload_n 0, 1) := by decide +kernel
theorem dX6_init_5 : decode cX6_init 5 = .ok (.bipush 10, 2) := by decide +kernel
theorem dX6_init_7 : decode cX6_init 7 = .ok (.newarray .int, 2) := by decide +kernel
theorem dX6_init_9 : decode cX6_init 9 = .ok (.putfield 11, 3) := by decide +kernel
theorem dX6_init_12 : decode cX6_init 12 = .ok (.aload_n 0, 1) := by decide +kernel
theorem dX6_init_13 : decode cX6_init 13 = .ok (.bipush 12, 2) := by decide +kernel
theorem dX6_init_15 : decode cX6_init 15 = .ok (.newarray .int, 2) := by decide +kernel
theorem dX6_init_17 : decode cX6_init 17 = .ok (.putfield 15, 3) := by decide +kernel
theorem dX6_init_20 : decode cX6_init 20 = .ok (.aload_n 0, 1) := by decide +kernel
theorem dX6_init_21 : decode cX6_init 21 = .ok (.bipush 12, 2) := by decide +kernel
theorem dX6_init_23 : decode cX6_init 23 = .ok (.newarray .int, 2) := by decide +kernel
theorem dX6_init_25 : decode cX6_init 25 = .ok (.putfield 18, 3) := by decide +kernel
theorem dX6_init_28 : decode cX6_init 28 = .ok (.aload_n 0, 1) := by decide +kernel
theorem dX6_init_29 : decode cX6_init 29 = .ok (.aload_n 1, 1) := by decide +kernel
theorem dX6_init_30 : decode cX6_init 30 = .ok (.putfield 21, 3) := by decide +kernel
theorem dX6_init_33 : decode cX6_init 33 = .ok (.iconst 0, 1) := by decide +kernel
theorem dX6_init_34 : decode cX6_init 34 = .ok (.istore_n 2, 1) := by decide +kernel
theorem dX6_init_35 : decode cX6_init 35 = .ok (.iload_n 2, 1) := by decide +kernel
theorem dX6_init_36 : decode cX6_init 36 = .ok (.bipush 12, 2) := by decide +kernel
theorem dX6_init_38 : decode cX6_init 38 = .ok (.if_icmp .ge 16, 3) := by decide +kernel
theorem dX6_init_41 : decode cX6_init 41 = .ok (.aload_n 0, 1) := by decide +kernel
theorem dX6_init_42 : decode cX6_init 42 = .ok (.getfield 18, 3) := by decide +kernel
theorem dX6_init_45 : decode cX6_init 45 = .ok (.iload_n 2, 1) := by decide +kernel
theorem dX6_init_46 : decode cX6_init 46 = .ok (.iconst (-1), 1) := by decide +kernel
theorem dX6_init_47 : decode cX6_init 47 = .ok (.iastore, 1) := by decide +kernel
theorem dX6_init_48 : decode cX6_init 48 = .ok (.iinc 2 1, 3) := by decide +kernel
theorem dX6_init_51 : decode cX6_init 51 = .ok (.goto (-16), 3) := by decide +kernel
theorem dX6_init_54 : decode cX6_init 54 = .ok (.return_, 1) := by decide +kernel
set_option maxRecDepth 20000 in
theorem ggX6_has_X8_isWithin : GoodIn wsX6_has wsX8_isWithin := goodIn_r _ [4] (by decide +kernel) (by decide +kernel)
set_option maxRecDepth 20000 in
theorem gX6_has_X8_isWithin_n29 : GoodIn wsX6_has (wsX8_isWithin) := ggX6_has_X8_isWithin
theorem dX6_has_0 : decode cX6_has 0 = .ok (.iload_n 1, 1) := by decide +kernel
theorem dX6_has_1 : decode cX6_has 1 = .ok (.iconst 0, 1) := by decide +kernel
theorem dX6_has_2 : decode cX6_has 2 = .ok (.aload_n 0, 1) := by decide +kernel
theorem dX6_has_3 : decode cX6_has 3 = .ok (.getfield 25, 3) := by decide +kernel
theorem dX6_has_6 : decode cX6_has 6 = .ok (.iconst 1, 1) := by decide +kernel
theorem dX6_has_7 : decode cX6_has 7 = .ok (.isub, 1) := by decide +kernel
theorem dX6_has_8 : decode cX6_has 8 = .ok (.invokestatic 29, 3) := by decide +kernel
theorem dX6_has_11 : decode cX6_has 11 = .ok (.ireturn, 1) := by decide +kernel
set_option maxRecDepth 20000 in
theorem ggX6_add_X8_isWithin : GoodIn wsX6_add wsX8_isWithin := goodIn_r _ [6] (by decide +kernel) (by decide +kernel)
set_option maxRecDepth 20000 in
theorem gX6_add_X8_isWithin_n29 : GoodIn wsX6_add (wsX8_isWithin) := ggX6_add_X8_isWithin
theorem dX6_add_0 : decode cX6_add 0 = .ok (.iload_n 1, 1) := by decide +kernel
theorem dX6_add_1 : decode cX6_add 1 = .ok (.iconst 0, 1) := by decide +kernel
theorem dX6_add_2 : decode cX6_add 2 = .ok (.ldc 33, 2) := by decide +kernel
theorem dX6_add_4 : decode cX6_add 4 = .ok (.invokestatic 29, 3) := by decide +kernel
theorem dX6_add_7 : decode cX6_add 7 = .ok (.ifCond .ne 5, 3) := by decide +kernel
theorem dX6_add_10 : decode cX6_add 10 = .ok (.iconst (-1), 1) := by decide +kernel
theorem dX6_add_11 : decode cX6_add 11 = .ok (.ireturn, 1) := by decide +kernel
theorem dX6_add_12 : decode cX6_add 12 = .ok (.aload_n 0, 1) := by decide +kernel
theorem dX6_add_13 : decode cX6_add 13 = .ok (.getfield 25, 3) := by decide +kernel
theorem dX6_add_16 : decode cX6_add 16 = .ok (.bipush 10, 2) := by decide +kernel
theorem dX6_add_18 : decode cX6_add 18 = .ok (.if_icmp .lt 6, 3) := by decide +kernel
theorem dX6_add_21 : decode cX6_add 21 = .ok (.bipush (-5), 2) := by decide +kernel
theorem dX6_add_23 : decode cX6_add 23 = .ok (.ireturn, 1) := by decide +kernel
theorem dX6_add_24 : decode cX6_add 24 = .ok (.aload_n 0, 1) := by decide +kernel
theorem dX6_add_25 : decode cX6_add 25 = .ok (.getfield 11, 3) := by decide +kernel
theorem dX6_add_28 : decode cX6_add 28 = .ok (.aload_n 0, 1) := by decide +kernel
theorem dX6_add_29 : decode cX6_add 29 = .ok (.getfield 25, 3) := by decide +kernel
theorem dX6_add_32 : decode cX6_add 32 = .ok (.iload_n 1, 1) := by decide +kernel
theorem dX6_add_33 : decode cX6_add 33 = .ok (.iastore, 1) := by decide +kernel
theorem dX6_add_34 : decode cX6_add 34 = .ok (.aload_n 0, 1) := by decide +kernel
theorem dX6_add_35 : decode cX6_add 35 = .ok (.dup, 1) := by decide +kernel
theorem dX6_add_36 : decode cX6_add 36 = .ok (.getfield 25, 3) := by decide +kernel
theorem dX6_add_39 : decode cX6_add 39 = .ok (.iconst 1, 1) := by decide +kernel
theorem dX6_add_40 : decode cX6_add 40 = .ok (.iadd, 1) := by decide +kernel
theorem dX6_add_41 : decode cX6_add 41 = .ok (.putfield 25, 3) := by decide +kernel
theorem dX6_add_44 : decode cX6_add 44 = .ok (.aload_n 0, 1) := by decide +kernel
theorem dX6_add_45 : decode cX6_add 45 = .ok (.getfield 25, 3) := by decide +kernel
theorem dX6_add_48 : decode cX6_add 48 = .ok (.iconst 1, 1) := by decide +kernel
theorem dX6_add_49 : decode cX6_add 49 = .ok (.isub, 1) := by decide +kernel
theorem dX6_add_50 : decode cX6_add 50 = .ok (.ireturn, 1) := by decide +kernel
set_option maxRecDepth 20000 in
theorem ggX6_take_X1_has : GoodIn wsX6_take wsX1_has := goodIn_r _ [8, 9, 10, 11, 12, 24, 25, 26, 27, 28, 29, 30, 31] (by decide +kernel) (by decide +kernel)
set_option maxRecDepth 20000 in
theorem gX6_take_X1_has : GoodIn wsX6_take (wsV RX6 34 RX1 yX1_has wsX1_has) := goodIn_app (goodIn_of _ (by decide +kernel)) ggX6_take_X1_has
set_option maxRecDepth 20000 in
theorem ggX6_take_X6_has : GoodIn wsX6_take wsX6_has := goodIn_r _ [17, 18, 10, 11, 12, 19, 20, 21, 22, 23] (by decide +kernel) (by decide +kernel)
set_option maxRecDepth 20000 in
theorem gX6_take_X6_has : GoodIn wsX6_take (wsV RX6 40 RX6 yX6_has wsX6_has) := goodIn_app (goodIn_of _ (by decide +kernel)) ggX6_take_X6_has
theorem dX6_take_0 : decode cX6_take 0 = .ok (.iload_n 3, 1) := by decide +kernel
theorem dX6_take_1 : decode cX6_take 1 = .ok (.iload_n 2, 1) := by decide +kernel
theorem dX6_take_2 : decode cX6_take 2 = .ok (.if_icmp .ge 5, 3) := by decide +kernel
theorem dX6_take_5 : decode cX6_take 5 = .ok (.iconst (-1), 1) := by decide +kernel
theorem dX6_take_6 : decode cX6_take 6 = .ok (.ireturn, 1) := by decide +kernel
theorem dX6_take_7 : decode cX6_take 7 = .ok (.aload_n 0, 1) := by decide +kernel
theorem dX6_take_8 : decode cX6_take 8 = .ok (.getfield 21, 3) := by decide +kernel
theorem dX6_take_11 : decode cX6_take 11 = .ok (.iload_n 1, 1) := by decide +kernel
theorem dX6_take_12 : decode cX6_take 12 = .ok (.invokevirtual 34, 3) := by decide +kernel
theorem dX6_take_15 : decode cX6_take 15 = .ok (.ifCond .eq 19, 3) := by decide +kernel
theorem dX6_take_18 : decode cX6_take 18 = .ok (.aload_n 0, 1) := by decide +kernel
theorem dX6_take_19 : decode cX6_take 19 = .ok (.iload_n 2, 1) := by decide +kernel
theorem dX6_take_20 : decode cX6_take 20 = .ok (.invokevirtual 40, 3) := by decide +kernel
theorem dX6_take_23 : decode cX6_take 23 = .ok (.ifCond .eq 11, 3) := by decide +kernel
theorem dX6_take_26 : decode cX6_take 26 = .ok (.aload_n 0, 1) := by decide +kernel
theorem dX6_take_27 : decode cX6_take 27 = .ok (.iload_n 3, 1) := by decide +kernel
theorem dX6_take_28 : decode cX6_take 28 = .ok (.invokevirtual 40, 3) := by decide +kernel
theorem dX6_take_31 : decode cX6_take 31 = .ok (.ifCond .ne 6, 3) := by decide +kernel
theorem dX6_take_34 : decode cX6_take 34 = .ok (.bipush (-2), 2) := by decide +kernel
theorem dX6_take_36 : decode cX6_take 36 = .ok (.ireturn, 1) := by decide +kernel
theorem dX6_take_37 : decode cX6_take 37 = .ok (.aload_n 0, 1) := by decide +kernel
theorem dX6_take_38 : decode cX6_take 38 = .ok (.getfield 15, 3) := by decide +kernel
theorem dX6_take_41 : decode cX6_take 41 = .ok (.iload_n 1, 1) := by decide +kernel
theorem dX6_take_42 : decode cX6_take 42 = .ok (.iload_n 2, 1) := by decide +kernel
theorem dX6_take_43 : decode cX6_take 43 = .ok (.iastore, 1) := by decide +kernel
theorem dX6_take_44 : decode cX6_take 44 = .ok (.aload_n 0, 1) := by decide +kernel
theorem dX6_take_45 : decode cX6_take 45 = .ok (.getfield 18, 3) := by decide +kernel
theorem dX6_take_48 : decode cX6_take 48 = .ok (.iload_n 1, 1) := by decide +kernel
theorem dX6_take_49 : decode cX6_take 49 = .ok (.iload_n 3, 1) := by decide +kernel
theorem dX6_take_50 : decode cX6_take 50 = .ok (.iastore, 1) := by decide +kernel
theorem dX6_take_51 : decode cX6_take 51 = .ok (.iconst 0, 1) := by decide +kernel
theorem dX6_take_52 : decode cX6_take 52 = .ok (.ireturn, 1) := by decide +kernel
set_option maxRecDepth 20000 in
theorem ggX6_partOf_X6_tonsAboard : GoodIn wsX6_partOf wsX6_tonsAboard := goodIn_r _ [7, 2, 8, 9, 10, 6, 11, 12, 13, 17, 18, 19, 20, 21, 22, 23, 24, 25, 26, 27, 28, 29] (by decide +kernel) (by decide +kernel)
set_option maxRecDepth 20000 in
theorem gX6_partOf_X6_tonsAboard : GoodIn wsX6_partOf (wsV RX6 41 RX6 yX6_tonsAboard wsX6_tonsAboard) := goodIn_app (goodIn_of _ (by decide +kernel)) ggX6_partOf_X6_tonsAboard
set_option maxRecDepth 20000 in
theorem ggX6_partOf_X6_isAboard : GoodIn wsX6_partOf wsX6_isAboard := goodIn_r _ [11, 12, 13, 17, 18, 19, 20, 21] (by decide +kernel) (by decide +kernel)
set_option maxRecDepth 20000 in
theorem gX6_partOf_X6_isAboard : GoodIn wsX6_partOf (wsV RX6 45 RX6 yX6_isAboard wsX6_isAboard) := goodIn_app (goodIn_of _ (by decide +kernel)) ggX6_partOf_X6_isAboard
set_option maxRecDepth 20000 in
theorem ggX6_partOf_X6_isServedFirst : GoodIn wsX6_partOf wsX6_isServedFirst := goodIn_r _ [16] (by decide +kernel) (by decide +kernel)
set_option maxRecDepth 20000 in
theorem gX6_partOf_X6_isServedFirst : GoodIn wsX6_partOf (va_wsS RX6 55 yX6_isServedFirst wsX6_isServedFirst) := goodIn_app (goodIn_of _ (by decide +kernel)) ggX6_partOf_X6_isServedFirst
theorem dX6_partOf_0 : decode cX6_partOf 0 = .ok (.aload_n 0, 1) := by decide +kernel
theorem dX6_partOf_1 : decode cX6_partOf 1 = .ok (.iload_n 2, 1) := by decide +kernel
theorem dX6_partOf_2 : decode cX6_partOf 2 = .ok (.invokevirtual 41, 3) := by decide +kernel
theorem dX6_partOf_5 : decode cX6_partOf 5 = .ok (.istore_n 3, 1) := by decide +kernel
theorem dX6_partOf_6 : decode cX6_partOf 6 = .ok (.iload_n 3, 1) := by decide +kernel
theorem dX6_partOf_7 : decode cX6_partOf 7 = .ok (.ifCond .eq 12, 3) := by decide +kernel
theorem dX6_partOf_10 : decode cX6_partOf 10 = .ok (.aload_n 0, 1) := by decide +kernel
theorem dX6_partOf_11 : decode cX6_partOf 11 = .ok (.iload_n 1, 1) := by decide +kernel
theorem dX6_partOf_12 : decode cX6_partOf 12 = .ok (.iload_n 2, 1) := by decide +kernel
theorem dX6_partOf_13 : decode cX6_partOf 13 = .ok (.invokevirtual 45, 3) := by decide +kernel
theorem dX6_partOf_16 : decode cX6_partOf 16 = .ok (.ifCond .ne 5, 3) := by decide +kernel
theorem dX6_partOf_19 : decode cX6_partOf 19 = .ok (.iconst 0, 1) := by decide +kernel
theorem dX6_partOf_20 : decode cX6_partOf 20 = .ok (.ireturn, 1) := by decide +kernel
theorem dX6_partOf_21 : decode cX6_partOf 21 = .ok (.aload_n 0, 1) := by decide +kernel
theorem dX6_partOf_22 : decode cX6_partOf 22 = .ok (.getfield 11, 3) := by decide +kernel
theorem dX6_partOf_25 : decode cX6_partOf 25 = .ok (.iload_n 2, 1) := by decide +kernel
theorem dX6_partOf_26 : decode cX6_partOf 26 = .ok (.iaload, 1) := by decide +kernel
theorem dX6_partOf_27 : decode cX6_partOf 27 = .ok (.aload_n 0, 1) := by decide +kernel
theorem dX6_partOf_28 : decode cX6_partOf 28 = .ok (.getfield 21, 3) := by decide +kernel
theorem dX6_partOf_31 : decode cX6_partOf 31 = .ok (.getfield 49, 3) := by decide +kernel
theorem dX6_partOf_34 : decode cX6_partOf 34 = .ok (.iload_n 1, 1) := by decide +kernel
theorem dX6_partOf_35 : decode cX6_partOf 35 = .ok (.iaload, 1) := by decide +kernel
theorem dX6_partOf_36 : decode cX6_partOf 36 = .ok (.imul, 1) := by decide +kernel
theorem dX6_partOf_37 : decode cX6_partOf 37 = .ok (.istore 4, 2) := by decide +kernel
theorem dX6_partOf_39 : decode cX6_partOf 39 = .ok (.aload_n 0, 1) := by decide +kernel
theorem dX6_partOf_40 : decode cX6_partOf 40 = .ok (.getfield 11, 3) := by decide +kernel
theorem dX6_partOf_43 : decode cX6_partOf 43 = .ok (.iload_n 2, 1) := by decide +kernel
theorem dX6_partOf_44 : decode cX6_partOf 44 = .ok (.iaload, 1) := by decide +kernel
theorem dX6_partOf_45 : decode cX6_partOf 45 = .ok (.istore 5, 2) := by decide +kernel
theorem dX6_partOf_47 : decode cX6_partOf 47 = .ok (.iconst 0, 1) := by decide +kernel
theorem dX6_partOf_48 : decode cX6_partOf 48 = .ok (.istore 6, 2) := by decide +kernel
theorem dX6_partOf_50 : decode cX6_partOf 50 = .ok (.iconst 0, 1) := by decide +kernel
theorem dX6_partOf_51 : decode cX6_partOf 51 = .ok (.istore 7, 2) := by decide +kernel
theorem dX6_partOf_53 : decode cX6_partOf 53 = .ok (.iload 7, 2) := by decide +kernel
theorem dX6_partOf_55 : decode cX6_partOf 55 = .ok (.aload_n 0, 1) := by decide +kernel
theorem dX6_partOf_56 : decode cX6_partOf 56 = .ok (.getfield 21, 3) := by decide +kernel
theorem dX6_partOf_59 : decode cX6_partOf 59 = .ok (.getfield 52, 3) := by decide +kernel
theorem dX6_partOf_62 : decode cX6_partOf 62 = .ok (.if_icmp .ge 67, 3) := by decide +kernel
theorem dX6_partOf_65 : decode cX6_partOf 65 = .ok (.aload_n 0, 1) := by decide +kernel
theorem dX6_partOf_66 : decode cX6_partOf 66 = .ok (.iload 7, 2) := by decide +kernel
theorem dX6_partOf_68 : decode cX6_partOf 68 = .ok (.iload_n 2, 1) := by decide +kernel
theorem dX6_partOf_69 : decode cX6_partOf 69 = .ok (.invokevirtual 45, 3) := by decide +kernel
theorem dX6_partOf_72 : decode cX6_partOf 72 = .ok (.ifCond .eq 51, 3) := by decide +kernel
theorem dX6_partOf_75 : decode cX6_partOf 75 = .ok (.aload_n 0, 1) := by decide +kernel
theorem dX6_partOf_76 : decode cX6_partOf 76 = .ok (.getfield 11, 3) := by decide +kernel
theorem dX6_partOf_79 : decode cX6_partOf 79 = .ok (.iload_n 2, 1) := by decide +kernel
theorem dX6_partOf_80 : decode cX6_partOf 80 = .ok (.iaload, 1) := by decide +kernel
theorem dX6_partOf_81 : decode cX6_partOf 81 = .ok (.aload_n 0, 1) := by decide +kernel
theorem dX6_partOf_82 : decode cX6_partOf 82 = .ok (.getfield 21, 3) := by decide +kernel
theorem dX6_partOf_85 : decode cX6_partOf 85 = .ok (.getfield 49, 3) := by decide +kernel
theorem dX6_partOf_88 : decode cX6_partOf 88 = .ok (.iload 7, 2) := by decide +kernel
theorem dX6_partOf_90 : decode cX6_partOf 90 = .ok (.iaload, 1) := by decide +kernel
theorem dX6_partOf_91 : decode cX6_partOf 91 = .ok (.imul, 1) := by decide +kernel
theorem dX6_partOf_92 : decode cX6_partOf 92 = .ok (.istore 8, 2) := by decide +kernel
theorem dX6_partOf_94 : decode cX6_partOf 94 = .ok (.iload 5, 2) := by decide +kernel
theorem dX6_partOf_96 : decode cX6_partOf 96 = .ok (.iload 8, 2) := by decide +kernel
theorem dX6_partOf_98 : decode cX6_partOf 98 = .ok (.iload_n 3, 1) := by decide +kernel
theorem dX6_partOf_99 : decode cX6_partOf 99 = .ok (.idiv, 1) := by decide +kernel
theorem dX6_partOf_100 : decode cX6_partOf 100 = .ok (.isub, 1) := by decide +kernel
theorem dX6_partOf_101 : decode cX6_partOf 101 = .ok (.istore 5, 2) := by decide +kernel
theorem dX6_partOf_103 : decode cX6_partOf 103 = .ok (.iload 8, 2) := by decide +kernel
theorem dX6_partOf_105 : decode cX6_partOf 105 = .ok (.iload_n 3, 1) := by decide +kernel
theorem dX6_partOf_106 : decode cX6_partOf 106 = .ok (.irem, 1) := by decide +kernel
theorem dX6_partOf_107 : decode cX6_partOf 107 = .ok (.iload 7, 2) := by decide +kernel
theorem dX6_partOf_109 : decode cX6_partOf 109 = .ok (.iload 4, 2) := by decide +kernel
theorem dX6_partOf_111 : decode cX6_partOf 111 = .ok (.iload_n 3, 1) := by decide +kernel
theorem dX6_partOf_112 : decode cX6_partOf 112 = .ok (.irem, 1) := by decide +kernel
theorem dX6_partOf_113 : decode cX6_partOf 113 = .ok (.iload_n 1, 1) := by decide +kernel
theorem dX6_partOf_114 : decode cX6_partOf 114 = .ok (.invokestatic 55, 3) := by decide +kernel
theorem dX6_partOf_117 : decode cX6_partOf 117 = .ok (.ifCond .eq 6, 3) := by decide +kernel
theorem dX6_partOf_120 : decode cX6_partOf 120 = .ok (.iinc 6 1, 3) := by decide +kernel
theorem dX6_partOf_123 : decode cX6_partOf 123 = .ok (.iinc 7 1, 3) := by decide +kernel
theorem dX6_partOf_126 : decode cX6_partOf 126 = .ok (.goto (-73), 3) := by decide +kernel
theorem dX6_partOf_129 : decode cX6_partOf 129 = .ok (.iload 4, 2) := by decide +kernel
theorem dX6_partOf_131 : decode cX6_partOf 131 = .ok (.iload_n 3, 1) := by decide +kernel
theorem dX6_partOf_132 : decode cX6_partOf 132 = .ok (.idiv, 1) := by decide +kernel
theorem dX6_partOf_133 : decode cX6_partOf 133 = .ok (.iload 6, 2) := by decide +kernel
theorem dX6_partOf_135 : decode cX6_partOf 135 = .ok (.iload 5, 2) := by decide +kernel
theorem dX6_partOf_137 : decode cX6_partOf 137 = .ok (.if_icmp .ge 7, 3) := by decide +kernel
theorem dX6_partOf_140 : decode cX6_partOf 140 = .ok (.iconst 1, 1) := by decide +kernel
theorem dX6_partOf_141 : decode cX6_partOf 141 = .ok (.goto 4, 3) := by decide +kernel
theorem dX6_partOf_144 : decode cX6_partOf 144 = .ok (.iconst 0, 1) := by decide +kernel
theorem dX6_partOf_145 : decode cX6_partOf 145 = .ok (.iadd, 1) := by decide +kernel
theorem dX6_partOf_146 : decode cX6_partOf 146 = .ok (.ireturn, 1) := by decide +kernel
theorem dX6_isServedFirst_0 : decode cX6_isServedFirst 0 = .ok (.iload_n 0, 1) := by decide +kernel
theorem dX6_isServedFirst_1 : decode cX6_isServedFirst 1 = .ok (.iload_n 2, 1) := by decide +kernel
theorem dX6_isServedFirst_2 : decode cX6_isServedFirst 2 = .ok (.if_icmp .gt 13, 3) := by decide +kernel
theorem dX6_isServedFirst_5 : decode cX6_isServedFirst 5 = .ok (.iload_n 0, 1) := by decide +kernel
theorem dX6_isServedFirst_6 : decode cX6_isServedFirst 6 = .ok (.iload_n 2, 1) := by decide +kernel
theorem dX6_isServedFirst_7 : decode cX6_isServedFirst 7 = .ok (.if_icmp .ne 12, 3) := by decide +kernel
theorem dX6_isServedFirst_10 : decode cX6_isServedFirst 10 = .ok (.iload_n 1, 1) := by decide +kernel
theorem dX6_isServedFirst_11 : decode cX6_isServedFirst 11 = .ok (.iload_n 3, 1) := by decide +kernel
theorem dX6_isServedFirst_12 : decode cX6_isServedFirst 12 = .ok (.if_icmp .ge 7, 3) := by decide +kernel
theorem dX6_isServedFirst_15 : decode cX6_isServedFirst 15 = .ok (.iconst 1, 1) := by decide +kernel
theorem dX6_isServedFirst_16 : decode cX6_isServedFirst 16 = .ok (.goto 4, 3) := by decide +kernel
theorem dX6_isServedFirst_19 : decode cX6_isServedFirst 19 = .ok (.iconst 0, 1) := by decide +kernel
theorem dX6_isServedFirst_20 : decode cX6_isServedFirst 20 = .ok (.ireturn, 1) := by decide +kernel
set_option maxRecDepth 20000 in
theorem ggX6_smokeOf_X6_partOf : GoodIn wsX6_smokeOf wsX6_partOf := goodIn_r _ [6, 7, 8, 9, 10, 11, 5, 12, 13, 14, 15, 16, 17, 18, 19, 20, 21, 22, 23, 24, 25, 26, 27, 28, 29, 30, 31, 32, 33, 34] (by decide +kernel) (by decide +kernel)
set_option maxRecDepth 20000 in
theorem gX6_smokeOf_X6_partOf : GoodIn wsX6_smokeOf (wsV RX6 59 RX6 yX6_partOf wsX6_partOf) := goodIn_app (goodIn_of _ (by decide +kernel)) ggX6_smokeOf_X6_partOf
theorem dX6_smokeOf_0 : decode cX6_smokeOf 0 = .ok (.iconst 0, 1) := by decide +kernel
theorem dX6_smokeOf_1 : decode cX6_smokeOf 1 = .ok (.istore_n 2, 1) := by decide +kernel
theorem dX6_smokeOf_2 : decode cX6_smokeOf 2 = .ok (.iconst 0, 1) := by decide +kernel
theorem dX6_smokeOf_3 : decode cX6_smokeOf 3 = .ok (.istore_n 3, 1) := by decide +kernel
theorem dX6_smokeOf_4 : decode cX6_smokeOf 4 = .ok (.iload_n 3, 1) := by decide +kernel
theorem dX6_smokeOf_5 : decode cX6_smokeOf 5 = .ok (.aload_n 0, 1) := by decide +kernel
theorem dX6_smokeOf_6 : decode cX6_smokeOf 6 = .ok (.getfield 25, 3) := by decide +kernel
theorem dX6_smokeOf_9 : decode cX6_smokeOf 9 = .ok (.if_icmp .ge 18, 3) := by decide +kernel
theorem dX6_smokeOf_12 : decode cX6_smokeOf 12 = .ok (.iload_n 2, 1) := by decide +kernel
theorem dX6_smokeOf_13 : decode cX6_smokeOf 13 = .ok (.aload_n 0, 1) := by decide +kernel
theorem dX6_smokeOf_14 : decode cX6_smokeOf 14 = .ok (.iload_n 1, 1) := by decide +kernel
theorem dX6_smokeOf_15 : decode cX6_smokeOf 15 = .ok (.iload_n 3, 1) := by decide +kernel
theorem dX6_smokeOf_16 : decode cX6_smokeOf 16 = .ok (.invokevirtual 59, 3) := by decide +kernel
theorem dX6_smokeOf_19 : decode cX6_smokeOf 19 = .ok (.iadd, 1) := by decide +kernel
theorem dX6_smokeOf_20 : decode cX6_smokeOf 20 = .ok (.istore_n 2, 1) := by decide +kernel
theorem dX6_smokeOf_21 : decode cX6_smokeOf 21 = .ok (.iinc 3 1, 3) := by decide +kernel
theorem dX6_smokeOf_24 : decode cX6_smokeOf 24 = .ok (.goto (-20), 3) := by decide +kernel
theorem dX6_smokeOf_27 : decode cX6_smokeOf 27 = .ok (.iload_n 2, 1) := by decide +kernel
theorem dX6_smokeOf_28 : decode cX6_smokeOf 28 = .ok (.ireturn, 1) := by decide +kernel
set_option maxRecDepth 20000 in
theorem ggX6_ownSmoke_X6_tonsAboard : GoodIn wsX6_ownSmoke wsX6_tonsAboard := goodIn_r _ [7, 8, 9, 10, 11, 6, 12, 13, 14, 15, 16, 17, 18, 19, 20, 21, 22, 23, 24, 25, 26, 27] (by decide +kernel) (by decide +kernel)
set_option maxRecDepth 20000 in
theorem gX6_ownSmoke_X6_tonsAboard : GoodIn wsX6_ownSmoke (wsV RX6 41 RX6 yX6_tonsAboard wsX6_tonsAboard) := goodIn_app (goodIn_of _ (by decide +kernel)) ggX6_ownSmoke_X6_tonsAboard
theorem dX6_ownSmoke_0 : decode cX6_ownSmoke 0 = .ok (.iconst 0, 1) := by decide +kernel
theorem dX6_ownSmoke_1 : decode cX6_ownSmoke 1 = .ok (.istore_n 1, 1) := by decide +kernel
theorem dX6_ownSmoke_2 : decode cX6_ownSmoke 2 = .ok (.iconst 0, 1) := by decide +kernel
theorem dX6_ownSmoke_3 : decode cX6_ownSmoke 3 = .ok (.istore_n 2, 1) := by decide +kernel
theorem dX6_ownSmoke_4 : decode cX6_ownSmoke 4 = .ok (.iload_n 2, 1) := by decide +kernel
theorem dX6_ownSmoke_5 : decode cX6_ownSmoke 5 = .ok (.aload_n 0, 1) := by decide +kernel
theorem dX6_ownSmoke_6 : decode cX6_ownSmoke 6 = .ok (.getfield 25, 3) := by decide +kernel
theorem dX6_ownSmoke_9 : decode cX6_ownSmoke 9 = .ok (.if_icmp .ge 26, 3) := by decide +kernel
theorem dX6_ownSmoke_12 : decode cX6_ownSmoke 12 = .ok (.aload_n 0, 1) := by decide +kernel
theorem dX6_ownSmoke_13 : decode cX6_ownSmoke 13 = .ok (.iload_n 2, 1) := by decide +kernel
theorem dX6_ownSmoke_14 : decode cX6_ownSmoke 14 = .ok (.invokevirtual 41, 3) := by decide +kernel
theorem dX6_ownSmoke_17 : decode cX6_ownSmoke 17 = .ok (.ifCond .ne 12, 3) := by decide +kernel
theorem dX6_ownSmoke_20 : decode cX6_ownSmoke 20 = .ok (.iload_n 1, 1) := by decide +kernel
theorem dX6_ownSmoke_21 : decode cX6_ownSmoke 21 = .ok (.aload_n 0, 1) := by decide +kernel
theorem dX6_ownSmoke_22 : decode cX6_ownSmoke 22 = .ok (.getfield 11, 3) := by decide +kernel
theorem dX6_ownSmoke_25 : decode cX6_ownSmoke 25 = .ok (.iload_n 2, 1) := by decide +kernel
theorem dX6_ownSmoke_26 : decode cX6_ownSmoke 26 = .ok (.iaload, 1) := by decide +kernel
theorem dX6_ownSmoke_27 : decode cX6_ownSmoke 27 = .ok (.iadd, 1) := by decide +kernel
theorem dX6_ownSmoke_28 : decode cX6_ownSmoke 28 = .ok (.istore_n 1, 1) := by decide +kernel
theorem dX6_ownSmoke_29 : decode cX6_ownSmoke 29 = .ok (.iinc 2 1, 3) := by decide +kernel
theorem dX6_ownSmoke_32 : decode cX6_ownSmoke 32 = .ok (.goto (-28), 3) := by decide +kernel
theorem dX6_ownSmoke_35 : decode cX6_ownSmoke 35 = .ok (.iload_n 1, 1) := by decide +kernel
theorem dX6_ownSmoke_36 : decode cX6_ownSmoke 36 = .ok (.ireturn, 1) := by decide +kernel
set_option maxRecDepth 20000 in
theorem ggX6_tonsAboard_X6_isAboard : GoodIn wsX6_tonsAboard wsX6_isAboard := goodIn_r _ [6, 7, 8, 9, 10, 11, 12, 13] (by decide +kernel) (by decide +kernel)
set_option maxRecDepth 20000 in
theorem gX6_tonsAboard_X6_isAboard : GoodIn wsX6_tonsAboard (wsV RX6 45 RX6 yX6_isAboard wsX6_isAboard) := goodIn_app (goodIn_of _ (by decide +kernel)) ggX6_tonsAboard_X6_isAboard
theorem dX6_tonsAboard_0 : decode cX6_tonsAboard 0 = .ok (.iconst 0, 1) := by decide +kernel
theorem dX6_tonsAboard_1 : decode cX6_tonsAboard 1 = .ok (.istore_n 2, 1) := by decide +kernel
theorem dX6_tonsAboard_2 : decode cX6_tonsAboard 2 = .ok (.iconst 0, 1) := by decide +kernel
theorem dX6_tonsAboard_3 : decode cX6_tonsAboard 3 = .ok (.istore_n 3, 1) := by decide +kernel
theorem dX6_tonsAboard_4 : decode cX6_tonsAboard 4 = .ok (.iload_n 3, 1) := by decide +kernel
theorem dX6_tonsAboard_5 : decode cX6_tonsAboard 5 = .ok (.aload_n 0, 1) := by decide +kernel
theorem dX6_tonsAboard_6 : decode cX6_tonsAboard 6 = .ok (.getfield 21, 3) := by decide +kernel
theorem dX6_tonsAboard_9 : decode cX6_tonsAboard 9 = .ok (.getfield 52, 3) := by decide +kernel
theorem dX6_tonsAboard_12 : decode cX6_tonsAboard 12 = .ok (.if_icmp .ge 30, 3) := by decide +kernel
theorem dX6_tonsAboard_15 : decode cX6_tonsAboard 15 = .ok (.aload_n 0, 1) := by decide +kernel
theorem dX6_tonsAboard_16 : decode cX6_tonsAboard 16 = .ok (.iload_n 3, 1) := by decide +kernel
theorem dX6_tonsAboard_17 : decode cX6_tonsAboard 17 = .ok (.iload_n 1, 1) := by decide +kernel
theorem dX6_tonsAboard_18 : decode cX6_tonsAboard 18 = .ok (.invokevirtual 45, 3) := by decide +kernel
theorem dX6_tonsAboard_21 : decode cX6_tonsAboard 21 = .ok (.ifCond .eq 15, 3) := by decide +kernel
theorem dX6_tonsAboard_24 : decode cX6_tonsAboard 24 = .ok (.iload_n 2, 1) := by decide +kernel
theorem dX6_tonsAboard_25 : decode cX6_tonsAboard 25 = .ok (.aload_n 0, 1) := by decide +kernel
theorem dX6_tonsAboard_26 : decode cX6_tonsAboard 26 = .ok (.getfield 21, 3) := by decide +kernel
theorem dX6_tonsAboard_29 : decode cX6_tonsAboard 29 = .ok (.getfield 49, 3) := by decide +kernel
theorem dX6_tonsAboard_32 : decode cX6_tonsAboard 32 = .ok (.iload_n 3, 1) := by decide +kernel
theorem dX6_tonsAboard_33 : decode cX6_tonsAboard 33 = .ok (.iaload, 1) := by decide +kernel
theorem dX6_tonsAboard_34 : decode cX6_tonsAboard 34 = .ok (.iadd, 1) := by decide +kernel
theorem dX6_tonsAboard_35 : decode cX6_tonsAboard 35 = .ok (.istore_n 2, 1) := by decide +kernel
theorem dX6_tonsAboard_36 : decode cX6_tonsAboard 36 = .ok (.iinc 3 1, 3) := by decide +kernel
theorem dX6_tonsAboard_39 : decode cX6_tonsAboard 39 = .ok (.goto (-35), 3) := by decide +kernel
theorem dX6_tonsAboard_42 : decode cX6_tonsAboard 42 = .ok (.iload_n 2, 1) := by decide +kernel
theorem dX6_tonsAboard_43 : decode cX6_tonsAboard 43 = .ok (.ireturn, 1) := by decide +kernel
theorem dX6_isAboard_0 : decode cX6_isAboard 0 = .ok (.aload_n 0, 1) := by decide +kernel
theorem dX6_isAboard_1 : decode cX6_isAboard 1 = .ok (.getfield 15, 3) := by decide +kernel
theorem dX6_isAboard_4 : decode cX6_isAboard 4 = .ok (.iload_n 1, 1) := by decide +kernel
theorem dX6_isAboard_5 : decode cX6_isAboard 5 = .ok (.iaload, 1) := by decide +kernel
theorem dX6_isAboard_6 : decode cX6_isAboard 6 = .ok (.iload_n 2, 1) := by decide +kernel
theorem dX6_isAboard_7 : decode cX6_isAboard 7 = .ok (.if_icmp .gt 17, 3) := by decide +kernel
theorem dX6_isAboard_10 : decode cX6_isAboard 10 = .ok (.iload_n 2, 1) := by decide +kernel
theorem dX6_isAboard_11 : decode cX6_isAboard 11 = .ok (.aload_n 0, 1) := by decide +kernel
theorem dX6_isAboard_12 : decode cX6_isAboard 12 = .ok (.getfield 18, 3) := by decide +kernel
theorem dX6_isAboard_15 : decode cX6_isAboard 15 = .ok (.iload_n 1, 1) := by decide +kernel
theorem dX6_isAboard_16 : decode cX6_isAboard 16 = .ok (.iaload, 1) := by decide +kernel
theorem dX6_isAboard_17 : decode cX6_isAboard 17 = .ok (.if_icmp .gt 7, 3) := by decide +kernel
theorem dX6_isAboard_20 : decode cX6_isAboard 20 = .ok (.iconst 1, 1) := by decide +kernel
theorem dX6_isAboard_21 : decode cX6_isAboard 21 = .ok (.goto 4, 3) := by decide +kernel
theorem dX6_isAboard_24 : decode cX6_isAboard 24 = .ok (.iconst 0, 1) := by decide +kernel
theorem dX6_isAboard_25 : decode cX6_isAboard 25 = .ok (.ireturn, 1) := by decide +kernel
theorem dX7_init_0 : decode cX7_init 0 = .ok (.aload_n 0, 1) := by decide +kernel
theorem dX7_init_1 : decode cX7_init 1 = .ok (.invokespecial 3, 3) := by decide +kernel
theorem dX7_init_4 : decode cX7_init 4 = .ok (.aload_n 0, 1) := by decide +kernel
theorem dX7_init_5 : decode cX7_init 5 = .ok (.sipush 160, 3) := by decide +kernel
theorem dX7_init_8 : decode cX7_init 8 = .ok (.newarray .int, 2) := by decide +kernel
theorem dX7_init_10 : decode cX7_init 10 = .ok (.putfield 11, 3) := by decide +kernel
theorem dX7_init_13 : decode cX7_init 13 = .ok (.aload_n 0, 1) := by decide +kernel
theorem dX7_init_14 : decode cX7_init 14 = .ok (.bipush 40, 2) := by decide +kernel
theorem dX7_init_16 : decode cX7_init 16 = .ok (.newarray .int, 2) := by decide +kernel
theorem dX7_init_18 : decode cX7_init 18 = .ok (.putfield 15, 3) := by decide +kernel
theorem dX7_init_21 : decode cX7_init 21 = .ok (.return_, 1) := by decide +kernel
set_option maxRecDepth 20000 in
theorem ggX7_tell_X7_isWeight : GoodIn wsX7_tell wsX7_isWeight := goodIn_r _ [7, 8, 9, 10] (by decide +kernel) (by decide +kernel)
set_option maxRecDepth 20000 in
theorem gX7_tell_X7_isWeight : GoodIn wsX7_tell (va_wsS RX7 18 yX7_isWeight wsX7_isWeight) := goodIn_app (goodIn_of _ (by decide +kernel)) ggX7_tell_X7_isWeight
set_option maxRecDepth 20000 in
theorem ggX7_tell_X8_isKnownDay : GoodIn wsX7_tell wsX8_isKnownDay := goodIn_r _ [12, 13, 8, 9, 10] (by decide +kernel) (by decide +kernel)
set_option maxRecDepth 20000 in
theorem gX7_tell_X8_isKnownDay_n22 : GoodIn wsX7_tell (wsX8_isKnownDay) := ggX7_tell_X8_isKnownDay
theorem dX7_tell_0 : decode cX7_tell 0 = .ok (.iload_n 1, 1) := by decide +kernel
theorem dX7_tell_1 : decode cX7_tell 1 = .ok (.invokestatic 18, 3) := by decide +kernel
theorem dX7_tell_4 : decode cX7_tell 4 = .ok (.ifCond .eq 46, 3) := by decide +kernel
theorem dX7_tell_7 : decode cX7_tell 7 = .ok (.iload_n 2, 1) := by decide +kernel
theorem dX7_tell_8 : decode cX7_tell 8 = .ok (.invokestatic 18, 3) := by decide +kernel
theorem dX7_tell_11 : decode cX7_tell 11 = .ok (.ifCond .eq 39, 3) := by decide +kernel
theorem dX7_tell_14 : decode cX7_tell 14 = .ok (.iload_n 3, 1) := by decide +kernel
theorem dX7_tell_15 : decode cX7_tell 15 = .ok (.invokestatic 18, 3) := by decide +kernel
theorem dX7_tell_18 : decode cX7_tell 18 = .ok (.ifCond .eq 32, 3) := by decide +kernel
theorem dX7_tell_21 : decode cX7_tell 21 = .ok (.iload 4, 2) := by decide +kernel
theorem dX7_tell_23 : decode cX7_tell 23 = .ok (.invokestatic 18, 3) := by decide +kernel
theorem dX7_tell_26 : decode cX7_tell 26 = .ok (.ifCond .eq 24, 3) := by decide +kernel
theorem dX7_tell_29 : decode cX7_tell 29 = .ok (.iload_n 1, 1) := by decide +kernel
theorem dX7_tell_30 : decode cX7_tell 30 = .ok (.iload_n 2, 1) := by decide +kernel
theorem dX7_tell_31 : decode cX7_tell 31 = .ok (.iadd, 1) := by decide +kernel
theorem dX7_tell_32 : decode cX7_tell 32 = .ok (.iload_n 3, 1) := by decide +kernel
theorem dX7_tell_33 : decode cX7_tell 33 = .ok (.iadd, 1) := by decide +kernel
theorem dX7_tell_34 : decode cX7_tell 34 = .ok (.iload 4, 2) := by decide +kernel
theorem dX7_tell_36 : decode cX7_tell 36 = .ok (.iadd, 1) := by decide +kernel
theorem dX7_tell_37 : decode cX7_tell 37 = .ok (.bipush 16, 2) := by decide +kernel
theorem dX7_tell_39 : decode cX7_tell 39 = .ok (.if_icmp .ne 11, 3) := by decide +kernel
theorem dX7_tell_42 : decode cX7_tell 42 = .ok (.iload 5, 2) := by decide +kernel
theorem dX7_tell_44 : decode cX7_tell 44 = .ok (.invokestatic 22, 3) := by decide +kernel
theorem dX7_tell_47 : decode cX7_tell 47 = .ok (.ifCond .ne 5, 3) := by decide +kernel
theorem dX7_tell_50 : decode cX7_tell 50 = .ok (.iconst (-1), 1) := by decide +kernel
theorem dX7_tell_51 : decode cX7_tell 51 = .ok (.ireturn, 1) := by decide +kernel
theorem dX7_tell_52 : decode cX7_tell 52 = .ok (.aload_n 0, 1) := by decide +kernel
theorem dX7_tell_53 : decode cX7_tell 53 = .ok (.getfield 25, 3) := by decide +kernel
theorem dX7_tell_56 : decode cX7_tell 56 = .ok (.bipush 40, 2) := by decide +kernel
theorem dX7_tell_58 : decode cX7_tell 58 = .ok (.if_icmp .lt 6, 3) := by decide +kernel
theorem dX7_tell_61 : decode cX7_tell 61 = .ok (.bipush (-5), 2) := by decide +kernel
theorem dX7_tell_63 : decode cX7_tell 63 = .ok (.ireturn, 1) := by decide +kernel
theorem dX7_tell_64 : decode cX7_tell 64 = .ok (.aload_n 0, 1) := by decide +kernel
theorem dX7_tell_65 : decode cX7_tell 65 = .ok (.getfield 25, 3) := by decide +kernel
theorem dX7_tell_68 : decode cX7_tell 68 = .ok (.iconst 4, 1) := by decide +kernel
theorem dX7_tell_69 : decode cX7_tell 69 = .ok (.imul, 1) := by decide +kernel
theorem dX7_tell_70 : decode cX7_tell 70 = .ok (.istore 6, 2) := by decide +kernel
theorem dX7_tell_72 : decode cX7_tell 72 = .ok (.aload_n 0, 1) := by decide +kernel
theorem dX7_tell_73 : decode cX7_tell 73 = .ok (.getfield 11, 3) := by decide +kernel
theorem dX7_tell_76 : decode cX7_tell 76 = .ok (.iload 6, 2) := by decide +kernel
theorem dX7_tell_78 : decode cX7_tell 78 = .ok (.iload_n 1, 1) := by decide +kernel
theorem dX7_tell_79 : decode cX7_tell 79 = .ok (.iastore, 1) := by decide +kernel
theorem dX7_tell_80 : decode cX7_tell 80 = .ok (.aload_n 0, 1) := by decide +kernel
theorem dX7_tell_81 : decode cX7_tell 81 = .ok (.getfield 11, 3) := by decide +kernel
theorem dX7_tell_84 : decode cX7_tell 84 = .ok (.iload 6, 2) := by decide +kernel
theorem dX7_tell_86 : decode cX7_tell 86 = .ok (.iconst 1, 1) := by decide +kernel
theorem dX7_tell_87 : decode cX7_tell 87 = .ok (.iadd, 1) := by decide +kernel
theorem dX7_tell_88 : decode cX7_tell 88 = .ok (.iload_n 2, 1) := by decide +kernel
theorem dX7_tell_89 : decode cX7_tell 89 = .ok (.iastore, 1) := by decide +kernel
theorem dX7_tell_90 : decode cX7_tell 90 = .ok (.aload_n 0, 1) := by decide +kernel
theorem dX7_tell_91 : decode cX7_tell 91 = .ok (.getfield 11, 3) := by decide +kernel
theorem dX7_tell_94 : decode cX7_tell 94 = .ok (.iload 6, 2) := by decide +kernel
theorem dX7_tell_96 : decode cX7_tell 96 = .ok (.iconst 2, 1) := by decide +kernel
theorem dX7_tell_97 : decode cX7_tell 97 = .ok (.iadd, 1) := by decide +kernel
theorem dX7_tell_98 : decode cX7_tell 98 = .ok (.iload_n 3, 1) := by decide +kernel
theorem dX7_tell_99 : decode cX7_tell 99 = .ok (.iastore, 1) := by decide +kernel
theorem dX7_tell_100 : decode cX7_tell 100 = .ok (.aload_n 0, 1) := by decide +kernel
theorem dX7_tell_101 : decode cX7_tell 101 = .ok (.getfield 11, 3) := by decide +kernel
theorem dX7_tell_104 : decode cX7_tell 104 = .ok (.iload 6, 2) := by decide +kernel
theorem dX7_tell_106 : decode cX7_tell 106 = .ok (.iconst 3, 1) := by decide +kernel
theorem dX7_tell_107 : decode cX7_tell 107 = .ok (.iadd, 1) := by decide +kernel
theorem dX7_tell_108 : decode cX7_tell 108 = .ok (.iload 4, 2) := by decide +kernel
theorem dX7_tell_110 : decode cX7_tell 110 = .ok (.iastore, 1) := by decide +kernel
theorem dX7_tell_111 : decode cX7_tell 111 = .ok (.aload_n 0, 1) := by decide +kernel
theorem dX7_tell_112 : decode cX7_tell 112 = .ok (.getfield 15, 3) := by decide +kernel
theorem dX7_tell_115 : decode cX7_tell 115 = .ok (.aload_n 0, 1) := by decide +kernel
theorem dX7_tell_116 : decode cX7_tell 116 = .ok (.getfield 25, 3) := by decide +kernel
theorem dX7_tell_119 : decode cX7_tell 119 = .ok (.iload 5, 2) := by decide +kernel
theorem dX7_tell_121 : decode cX7_tell 121 = .ok (.iastore, 1) := by decide +kernel
theorem dX7_tell_122 : decode cX7_tell 122 = .ok (.aload_n 0, 1) := by decide +kernel
theorem dX7_tell_123 : decode cX7_tell 123 = .ok (.dup, 1) := by decide +kernel
theorem dX7_tell_124 : decode cX7_tell 124 = .ok (.getfield 25, 3) := by decide +kernel
theorem dX7_tell_127 : decode cX7_tell 127 = .ok (.iconst 1, 1) := by decide +kernel
theorem dX7_tell_128 : decode cX7_tell 128 = .ok (.iadd, 1) := by decide +kernel
theorem dX7_tell_129 : decode cX7_tell 129 = .ok (.putfield 25, 3) := by decide +kernel
theorem dX7_tell_132 : decode cX7_tell 132 = .ok (.aload_n 0, 1) := by decide +kernel
theorem dX7_tell_133 : decode cX7_tell 133 = .ok (.getfield 25, 3) := by decide +kernel
theorem dX7_tell_136 : decode cX7_tell 136 = .ok (.ireturn, 1) := by decide +kernel
theorem dX7_weightOf_0 : decode cX7_weightOf 0 = .ok (.aload_n 0, 1) := by decide +kernel
theorem dX7_weightOf_1 : decode cX7_weightOf 1 = .ok (.getfield 25, 3) := by decide +kernel
theorem dX7_weightOf_4 : decode cX7_weightOf 4 = .ok (.iconst 1, 1) := by decide +kernel
theorem dX7_weightOf_5 : decode cX7_weightOf 5 = .ok (.isub, 1) := by decide +kernel
theorem dX7_weightOf_6 : decode cX7_weightOf 6 = .ok (.istore_n 3, 1) := by decide +kernel
theorem dX7_weightOf_7 : decode cX7_weightOf 7 = .ok (.iload_n 3, 1) := by decide +kernel
theorem dX7_weightOf_8 : decode cX7_weightOf 8 = .ok (.ifCond .lt 30, 3) := by decide +kernel
theorem dX7_weightOf_11 : decode cX7_weightOf 11 = .ok (.aload_n 0, 1) := by decide +kernel
theorem dX7_weightOf_12 : decode cX7_weightOf 12 = .ok (.getfield 15, 3) := by decide +kernel
theorem dX7_weightOf_15 : decode cX7_weightOf 15 = .ok (.iload_n 3, 1) := by decide +kernel
theorem dX7_weightOf_16 : decode cX7_weightOf 16 = .ok (.iaload, 1) := by decide +kernel
theorem dX7_weightOf_17 : decode cX7_weightOf 17 = .ok (.iload_n 2, 1) := by decide +kernel
theorem dX7_weightOf_18 : decode cX7_weightOf 18 = .ok (.if_icmp .gt 14, 3) := by decide +kernel
theorem dX7_weightOf_21 : decode cX7_weightOf 21 = .ok (.aload_n 0, 1) := by decide +kernel
theorem dX7_weightOf_22 : decode cX7_weightOf 22 = .ok (.getfield 11, 3) := by decide +kernel
theorem dX7_weightOf_25 : decode cX7_weightOf 25 = .ok (.iload_n 3, 1) := by decide +kernel
theorem dX7_weightOf_26 : decode cX7_weightOf 26 = .ok (.iconst 4, 1) := by decide +kernel
theorem dX7_weightOf_27 : decode cX7_weightOf 27 = .ok (.imul, 1) := by decide +kernel
theorem dX7_weightOf_28 : decode cX7_weightOf 28 = .ok (.iload_n 1, 1) := by decide +kernel
theorem dX7_weightOf_29 : decode cX7_weightOf 29 = .ok (.iadd, 1) := by decide +kernel
theorem dX7_weightOf_30 : decode cX7_weightOf 30 = .ok (.iaload, 1) := by decide +kernel
theorem dX7_weightOf_31 : decode cX7_weightOf 31 = .ok (.ireturn, 1) := by decide +kernel
theorem dX7_weightOf_32 : decode cX7_weightOf 32 = .ok (.iinc 3 (-1), 3) := by decide +kernel
theorem dX7_weightOf_35 : decode cX7_weightOf 35 = .ok (.goto (-28), 3) := by decide +kernel
theorem dX7_weightOf_38 : decode cX7_weightOf 38 = .ok (.iconst 4, 1) := by decide +kernel
theorem dX7_weightOf_39 : decode cX7_weightOf 39 = .ok (.ireturn, 1) := by decide +kernel
set_option maxRecDepth 20000 in
theorem ggX7_isWeight_X8_isWithin : GoodIn wsX7_isWeight wsX8_isWithin := goodIn_r _ [3] (by decide +kernel) (by decide +kernel)
set_option maxRecDepth 20000 in
theorem gX7_isWeight_X8_isWithin_n29 : GoodIn wsX7_isWeight (wsX8_isWithin) := ggX7_isWeight_X8_isWithin
theorem dX7_isWeight_0 : decode cX7_isWeight 0 = .ok (.iload_n 0, 1) := by decide +kernel
theorem dX7_isWeight_1 : decode cX7_isWeight 1 = .ok (.iconst 0, 1) := by decide +kernel
theorem dX7_isWeight_2 : decode cX7_isWeight 2 = .ok (.bipush 16, 2) := by decide +kernel
theorem dX7_isWeight_4 : decode cX7_isWeight 4 = .ok (.invokestatic 29, 3) := by decide +kernel
theorem dX7_isWeight_7 : decode cX7_isWeight 7 = .ok (.ireturn, 1) := by decide +kernel
set_option maxRecDepth 20000 in
theorem ggX8_init_X7_init : GoodIn wsX8_init wsX7_init := goodIn_r _ [40, 41, 2, 3, 42, 43, 44, 100, 101, 102] (by decide +kernel) (by decide +kernel)
set_option maxRecDepth 20000 in
theorem gX8_init_X7_init_n9 : GoodIn wsX8_init (wsX7_init) := ggX8_init_X7_init
set_option maxRecDepth 20000 in
theorem ggX8_init_X2_init : GoodIn wsX8_init wsX2_init := goodIn_r _ [47, 48, 2, 3, 42, 49, 50, 51, 52, 53, 54, 55, 10, 56, 57, 58, 59, 114, 115, 116, 117, 118, 119, 120, 121] (by decide +kernel) (by decide +kernel)
set_option maxRecDepth 20000 in
theorem gX8_init_X2_init : GoodIn wsX8_init (wsX2_init) := ggX8_init_X2_init
set_option maxRecDepth 20000 in
theorem ggX8_init_X1_init : GoodIn wsX8_init wsX1_init := goodIn_r _ [61, 62, 2, 3, 42, 63, 64, 65, 122, 123, 124, 125, 126, 127, 128, 129] (by decide +kernel) (by decide +kernel)
set_option maxRecDepth 20000 in
theorem gX8_init_X1_init_n25 : GoodIn wsX8_init (wsX1_init) := ggX8_init_X1_init
set_option maxRecDepth 20000 in
theorem ggX8_init_X0_init : GoodIn wsX8_init wsX0_init := goodIn_r _ [68, 69, 2, 3, 42, 70, 71, 72, 73, 74, 75, 76, 130, 131, 132, 133, 134, 135, 136, 137] (by decide +kernel) (by decide +kernel)
set_option maxRecDepth 20000 in
theorem gX8_init_X0_init : GoodIn wsX8_init (wsX0_init) := ggX8_init_X0_init
set_option maxRecDepth 20000 in
theorem ggX8_init_X4_init : GoodIn wsX8_init wsX4_init := goodIn_r _ [78, 79, 2, 3, 42, 80, 138, 139] (by decide +kernel) (by decide +kernel)
set_option maxRecDepth 20000 in
theorem gX8_init_X4_init_n39 : GoodIn wsX8_init (wsX4_init) := ggX8_init_X4_init
set_option maxRecDepth 20000 in
theorem ggX8_init_X3_init : GoodIn wsX8_init wsX3_init := goodIn_r _ [83, 84, 2, 3, 85, 140, 141, 142] (by decide +kernel) (by decide +kernel)
set_option maxRecDepth 20000 in
theorem gX8_init_X3_init : GoodIn wsX8_init (wsX3_init) := ggX8_init_X3_init
set_option maxRecDepth 20000 in
theorem ggX8_init_X6_init : GoodIn wsX8_init wsX6_init := goodIn_r _ [88, 89, 2, 3, 42, 90, 91, 92, 93, 143, 144, 145, 146, 147] (by decide +kernel) (by decide +kernel)
set_option maxRecDepth 20000 in
theorem gX8_init_X6_init : GoodIn wsX8_init (wsX6_init) := ggX8_init_X6_init
set_option maxRecDepth 20000 in
theorem ggX8_init_X5_init : GoodIn wsX8_init wsX5_init := goodIn_r _ [95, 96, 2, 3, 42, 97, 98, 99, 148, 149, 150, 151] (by decide +kernel) (by decide +kernel)
set_option maxRecDepth 20000 in
theorem gX8_init_X5_init_n64 : GoodIn wsX8_init (wsX5_init) := ggX8_init_X5_init
theorem dX8_init_0 : decode cX8_init 0 = .ok (.aload_n 0, 1) := by decide +kernel
theorem dX8_init_1 : decode cX8_init 1 = .ok (.invokespecial 1, 3) := by decide +kernel
theorem dX8_init_4 : decode cX8_init 4 = .ok (.aload_n 0, 1) := by decide +kernel
theorem dX8_init_5 : decode cX8_init 5 = .ok (.new 7, 3) := by decide +kernel
theorem dX8_init_8 : decode cX8_init 8 = .ok (.dup, 1) := by decide +kernel
theorem dX8_init_9 : decode cX8_init 9 = .ok (.invokespecial 9, 3) := by decide +kernel
theorem dX8_init_12 : decode cX8_init 12 = .ok (.putfield 10, 3) := by decide +kernel
theorem dX8_init_15 : decode cX8_init 15 = .ok (.aload_n 0, 1) := by decide +kernel
theorem dX8_init_16 : decode cX8_init 16 = .ok (.new 16, 3) := by decide +kernel
theorem dX8_init_19 : decode cX8_init 19 = .ok (.dup, 1) := by decide +kernel
theorem dX8_init_20 : decode cX8_init 20 = .ok (.invokespecial 18, 3) := by decide +kernel
theorem dX8_init_23 : decode cX8_init 23 = .ok (.putfield 19, 3) := by decide +kernel
theorem dX8_init_26 : decode cX8_init 26 = .ok (.aload_n 0, 1) := by decide +kernel
theorem dX8_init_27 : decode cX8_init 27 = .ok (.new 23, 3) := by decide +kernel
theorem dX8_init_30 : decode cX8_init 30 = .ok (.dup, 1) := by decide +kernel
theorem dX8_init_31 : decode cX8_init 31 = .ok (.invokespecial 25, 3) := by decide +kernel
theorem dX8_init_34 : decode cX8_init 34 = .ok (.putfield 26, 3) := by decide +kernel
theorem dX8_init_37 : decode cX8_init 37 = .ok (.aload_n 0, 1) := by decide +kernel
theorem dX8_init_38 : decode cX8_init 38 = .ok (.new 30, 3) := by decide +kernel
theorem dX8_init_41 : decode cX8_init 41 = .ok (.dup, 1) := by decide +kernel
theorem dX8_init_42 : decode cX8_init 42 = .ok (.invokespecial 32, 3) := by decide +kernel
theorem dX8_init_45 : decode cX8_init 45 = .ok (.putfield 33, 3) := by decide +kernel
theorem dX8_init_48 : decode cX8_init 48 = .ok (.aload_n 0, 1) := by decide +kernel
theorem dX8_init_49 : decode cX8_init 49 = .ok (.new 37, 3) := by decide +kernel
theorem dX8_init_52 : decode cX8_init 52 = .ok (.dup, 1) := by decide +kernel
theorem dX8_init_53 : decode cX8_init 53 = .ok (.invokespecial 39, 3) := by decide +kernel
theorem dX8_init_56 : decode cX8_init 56 = .ok (.putfield 40, 3) := by decide +kernel
theorem dX8_init_59 : decode cX8_init 59 = .ok (.aload_n 0, 1) := by decide +kernel
theorem dX8_init_60 : decode cX8_init 60 = .ok (.new 44, 3) := by decide +kernel
theorem dX8_init_63 : decode cX8_init 63 = .ok (.dup, 1) := by decide +kernel
theorem dX8_init_64 : decode cX8_init 64 = .ok (.aload_n 0, 1) := by decide +kernel
theorem dX8_init_65 : decode cX8_init 65 = .ok (.getfield 40, 3) := by decide +kernel
theorem dX8_init_68 : decode cX8_init 68 = .ok (.invokespecial 46, 3) := by decide +kernel
theorem dX8_init_71 : decode cX8_init 71 = .ok (.putfield 49, 3) := by decide +kernel
theorem dX8_init_74 : decode cX8_init 74 = .ok (.aload_n 0, 1) := by decide +kernel
theorem dX8_init_75 : decode cX8_init 75 = .ok (.new 53, 3) := by decide +kernel
theorem dX8_init_78 : decode cX8_init 78 = .ok (.dup, 1) := by decide +kernel
theorem dX8_init_79 : decode cX8_init 79 = .ok (.aload_n 0, 1) := by decide +kernel
theorem dX8_init_80 : decode cX8_init 80 = .ok (.getfield 26, 3) := by decide +kernel
theorem dX8_init_83 : decode cX8_init 83 = .ok (.invokespecial 55, 3) := by decide +kernel
theorem dX8_init_86 : decode cX8_init 86 = .ok (.putfield 58, 3) := by decide +kernel
theorem dX8_init_89 : decode cX8_init 89 = .ok (.aload_n 0, 1) := by decide +kernel
theorem dX8_init_90 : decode cX8_init 90 = .ok (.new 62, 3) := by decide +kernel
theorem dX8_init_93 : decode cX8_init 93 = .ok (.dup, 1) := by decide +kernel
theorem dX8_init_94 : decode cX8_init 94 = .ok (.invokespecial 64, 3) := by decide +kernel
theorem dX8_init_97 : decode cX8_init 97 = .ok (.putfield 65, 3) := by decide +kernel
theorem dX8_init_100 : decode cX8_init 100 = .ok (.aload_n 0, 1) := by decide +kernel
theorem dX8_init_101 : decode cX8_init 101 = .ok (.new 62, 3) := by decide +kernel
theorem dX8_init_104 : decode cX8_init 104 = .ok (.dup, 1) := by decide +kernel
theorem dX8_init_105 : decode cX8_init 105 = .ok (.invokespecial 64, 3) := by decide +kernel
theorem dX8_init_108 : decode cX8_init 108 = .ok (.putfield 69, 3) := by decide +kernel
theorem dX8_init_111 : decode cX8_init 111 = .ok (.aload_n 0, 1) := by decide +kernel
theorem dX8_init_112 : decode cX8_init 112 = .ok (.iconst (-1), 1) := by decide +kernel
theorem dX8_init_113 : decode cX8_init 113 = .ok (.putfield 72, 3) := by decide +kernel
theorem dX8_init_116 : decode cX8_init 116 = .ok (.aload_n 0, 1) := by decide +kernel
theorem dX8_init_117 : decode cX8_init 117 = .ok (.iconst 0, 1) := by decide +kernel
theorem dX8_init_118 : decode cX8_init 118 = .ok (.putfield 76, 3) := by decide +kernel
theorem dX8_init_121 : decode cX8_init 121 = .ok (.return_, 1) := by decide +kernel
set_option maxRecDepth 20000 in
theorem ggX8_winds_X7_tell : GoodIn wsX8_winds wsX7_tell := goodIn_r _ [6, 7, 8, 9, 10, 11, 5, 12, 13, 14, 15, 16, 17, 18, 39, 40, 41] (by decide +kernel) (by decide +kernel)
set_option maxRecDepth 20000 in
theorem gX8_winds_X7_tell : GoodIn wsX8_winds (wsV RX8 79 RX7 yX7_tell wsX7_tell) := goodIn_app (goodIn_of _ (by decide +kernel)) ggX8_winds_X7_tell
set_option maxRecDepth 20000 in
theorem ggX8_winds_X8_answered : GoodIn wsX8_winds wsX8_answered := goodIn_r _ [22, 23, 24, 25, 26, 27, 28, 29, 30, 31, 32, 33, 34, 35, 36, 37, 38] (by decide +kernel) (by decide +kernel)
set_option maxRecDepth 20000 in
theorem gX8_winds_X8_answered : GoodIn wsX8_winds (wsV RX8 83 RX8 yX8_answered wsX8_answered) := goodIn_app (goodIn_of _ (by decide +kernel)) ggX8_winds_X8_answered
theorem dX8_winds_0 : decode cX8_winds 0 = .ok (.aload_n 0, 1) := by decide +kernel
theorem dX8_winds_1 : decode cX8_winds 1 = .ok (.aload_n 0, 1) := by decide +kernel
theorem dX8_winds_2 : decode cX8_winds 2 = .ok (.getfield 10, 3) := by decide +kernel
theorem dX8_winds_5 : decode cX8_winds 5 = .ok (.iload_n 1, 1) := by decide +kernel
theorem dX8_winds_6 : decode cX8_winds 6 = .ok (.iload_n 2, 1) := by decide +kernel
theorem dX8_winds_7 : decode cX8_winds 7 = .ok (.iload_n 3, 1) := by decide +kernel
theorem dX8_winds_8 : decode cX8_winds 8 = .ok (.iload 4, 2) := by decide +kernel
theorem dX8_winds_10 : decode cX8_winds 10 = .ok (.iload 5, 2) := by decide +kernel
theorem dX8_winds_12 : decode cX8_winds 12 = .ok (.invokevirtual 79, 3) := by decide +kernel
theorem dX8_winds_15 : decode cX8_winds 15 = .ok (.invokevirtual 83, 3) := by decide +kernel
theorem dX8_winds_18 : decode cX8_winds 18 = .ok (.ireturn, 1) := by decide +kernel
set_option maxRecDepth 20000 in
theorem ggX8_weight_X8_isWind : GoodIn wsX8_weight wsX8_isWind := goodIn_r _ [5, 6, 7, 4, 8] (by decide +kernel) (by decide +kernel)
set_option maxRecDepth 20000 in
theorem gX8_weight_X8_isWind : GoodIn wsX8_weight (va_wsS RX8 87 yX8_isWind wsX8_isWind) := goodIn_app (goodIn_of _ (by decide +kernel)) ggX8_weight_X8_isWind
set_option maxRecDepth 20000 in
theorem ggX8_weight_X8_isKnownDay : GoodIn wsX8_weight wsX8_isKnownDay := goodIn_r _ [11, 6, 7, 4, 8] (by decide +kernel) (by decide +kernel)
set_option maxRecDepth 20000 in
theorem gX8_weight_X8_isKnownDay : GoodIn wsX8_weight (va_wsS RX8 91 yX8_isKnownDay wsX8_isKnownDay) := goodIn_app (goodIn_of _ (by decide +kernel)) ggX8_weight_X8_isKnownDay
set_option maxRecDepth 20000 in
theorem ggX8_weight_X7_weightOf : GoodIn wsX8_weight wsX7_weightOf := goodIn_r _ [16, 17, 18, 19, 31, 32, 33] (by decide +kernel) (by decide +kernel)
set_option maxRecDepth 20000 in
theorem gX8_weight_X7_weightOf : GoodIn wsX8_weight (wsV RX8 94 RX7 yX7_weightOf wsX7_weightOf) := goodIn_app (goodIn_of _ (by decide +kernel)) ggX8_weight_X7_weightOf
theorem dX8_weight_0 : decode cX8_weight 0 = .ok (.iload_n 1, 1) := by decide +kernel
theorem dX8_weight_1 : decode cX8_weight 1 = .ok (.invokestatic 87, 3) := by decide +kernel
theorem dX8_weight_4 : decode cX8_weight 4 = .ok (.ifCond .eq 10, 3) := by decide +kernel
theorem dX8_weight_7 : decode cX8_weight 7 = .ok (.iload_n 2, 1) := by decide +kernel
theorem dX8_weight_8 : decode cX8_weight 8 = .ok (.invokestatic 91, 3) := by decide +kernel
theorem dX8_weight_11 : decode cX8_weight 11 = .ok (.ifCond .ne 5, 3) := by decide +kernel
theorem dX8_weight_14 : decode cX8_weight 14 = .ok (.iconst (-1), 1) := by decide +kernel
theorem dX8_weight_15 : decode cX8_weight 15 = .ok (.ireturn, 1) := by decide +kernel
theorem dX8_weight_16 : decode cX8_weight 16 = .ok (.aload_n 0, 1) := by decide +kernel
theorem dX8_weight_17 : decode cX8_weight 17 = .ok (.getfield 10, 3) := by decide +kernel
theorem dX8_weight_20 : decode cX8_weight 20 = .ok (.iload_n 1, 1) := by decide +kernel
theorem dX8_weight_21 : decode cX8_weight 21 = .ok (.iload_n 2, 1) := by decide +kernel
theorem dX8_weight_22 : decode cX8_weight 22 = .ok (.invokevirtual 94, 3) := by decide +kernel
theorem dX8_weight_25 : decode cX8_weight 25 = .ok (.ireturn, 1) := by decide +kernel
set_option maxRecDepth 20000 in
theorem ggX8_sails_X2_setSails : GoodIn wsX8_sails wsX2_setSails := goodIn_r _ [6, 7, 8, 9, 10, 11, 12, 13, 14, 35, 36, 37, 38, 39, 40, 41, 42] (by decide +kernel) (by decide +kernel)
set_option maxRecDepth 20000 in
theorem gX8_sails_X2_setSails : GoodIn wsX8_sails (wsV RX8 98 RX2 yX2_setSails wsX2_setSails) := goodIn_app (goodIn_of _ (by decide +kernel)) ggX8_sails_X2_setSails
set_option maxRecDepth 20000 in
theorem ggX8_sails_X8_answered : GoodIn wsX8_sails wsX8_answered := goodIn_r _ [18, 19, 20, 21, 22, 23, 24, 25, 26, 27, 28, 29, 30, 31, 32, 33, 34] (by decide +kernel) (by decide +kernel)
set_option maxRecDepth 20000 in
theorem gX8_sails_X8_answered : GoodIn wsX8_sails (wsV RX8 83 RX8 yX8_answered wsX8_answered) := goodIn_app (goodIn_of _ (by decide +kernel)) ggX8_sails_X8_answered
theorem dX8_sails_0 : decode cX8_sails 0 = .ok (.aload_n 0, 1) := by decide +kernel
theorem dX8_sails_1 : decode cX8_sails 1 = .ok (.aload_n 0, 1) := by decide +kernel
theorem dX8_sails_2 : decode cX8_sails 2 = .ok (.getfield 19, 3) := by decide +kernel
theorem dX8_sails_5 : decode cX8_sails 5 = .ok (.iload_n 1, 1) := by decide +kernel
theorem dX8_sails_6 : decode cX8_sails 6 = .ok (.iload_n 2, 1) := by decide +kernel
theorem dX8_sails_7 : decode cX8_sails 7 = .ok (.invokevirtual 98, 3) := by decide +kernel
theorem dX8_sails_10 : decode cX8_sails 10 = .ok (.invokevirtual 83, 3) := by decide +kernel
theorem dX8_sails_13 : decode cX8_sails 13 = .ok (.ireturn, 1) := by decide +kernel
set_option maxRecDepth 20000 in
theorem ggX8_engine_X2_setEngine : GoodIn wsX8_engine wsX2_setEngine := goodIn_r _ [6, 7, 8, 9, 10, 11, 32, 33, 34, 35, 36, 37, 38, 39] (by decide +kernel) (by decide +kernel)
set_option maxRecDepth 20000 in
theorem gX8_engine_X2_setEngine : GoodIn wsX8_engine (wsV RX8 101 RX2 yX2_setEngine wsX2_setEngine) := goodIn_app (goodIn_of _ (by decide +kernel)) ggX8_engine_X2_setEngine
set_option maxRecDepth 20000 in
theorem ggX8_engine_X8_answered : GoodIn wsX8_engine wsX8_answered := goodIn_r _ [15, 16, 17, 18, 19, 20, 21, 22, 23, 24, 25, 26, 27, 28, 29, 30, 31] (by decide +kernel) (by decide +kernel)
set_option maxRecDepth 20000 in
theorem gX8_engine_X8_answered : GoodIn wsX8_engine (wsV RX8 83 RX8 yX8_answered wsX8_answered) := goodIn_app (goodIn_of _ (by decide +kernel)) ggX8_engine_X8_answered
theorem dX8_engine_0 : decode cX8_engine 0 = .ok (.aload_n 0, 1) := by decide +kernel
theorem dX8_engine_1 : decode cX8_engine 1 = .ok (.aload_n 0, 1) := by decide +kernel
theorem dX8_engine_2 : decode cX8_engine 2 = .ok (.getfield 19, 3) := by decide +kernel
theorem dX8_engine_5 : decode cX8_engine 5 = .ok (.iload_n 1, 1) := by decide +kernel
theorem dX8_engine_6 : decode cX8_engine 6 = .ok (.invokevirtual 101, 3) := by decide +kernel
theorem dX8_engine_9 : decode cX8_engine 9 = .ok (.invokevirtual 83, 3) := by decide +kernel
theorem dX8_engine_12 : decode cX8_engine 12 = .ok (.ireturn, 1) := by decide +kernel
set_option maxRecDepth 20000 in
theorem ggX8_luck_X8_isPassage : GoodIn wsX8_luck wsX8_isPassage := goodIn_r _ [7, 8, 9, 6, 10, 11, 12, 13] (by decide +kernel) (by decide +kernel)
set_option maxRecDepth 20000 in
theorem gX8_luck_X8_isPassage : GoodIn wsX8_luck (va_wsS RX8 104 yX8_isPassage wsX8_isPassage) := goodIn_app (goodIn_of _ (by decide +kernel)) ggX8_luck_X8_isPassage
set_option maxRecDepth 20000 in
theorem ggX8_luck_X8_isWithin : GoodIn wsX8_luck wsX8_isWithin := goodIn_r _ [10] (by decide +kernel) (by decide +kernel)
set_option maxRecDepth 20000 in
theorem gX8_luck_X8_isWithin : GoodIn wsX8_luck (va_wsS RX8 108 yX8_isWithin wsX8_isWithin) := goodIn_app (goodIn_of _ (by decide +kernel)) ggX8_luck_X8_isWithin
set_option maxRecDepth 20000 in
theorem ggX8_luck_X2_know : GoodIn wsX8_luck wsX2_know := goodIn_r _ [18, 19, 20, 21, 22, 23, 24, 25, 26, 27, 28, 95, 96, 97, 98, 99, 100, 101, 102, 103, 104, 105] (by decide +kernel) (by decide +kernel)
set_option maxRecDepth 20000 in
theorem gX8_luck_X2_know : GoodIn wsX8_luck (wsV RX8 113 RX2 yX2_know wsX2_know) := goodIn_app (goodIn_of _ (by decide +kernel)) ggX8_luck_X2_know
set_option maxRecDepth 20000 in
theorem ggX8_luck_X2_reckon : GoodIn wsX8_luck wsX2_reckon := goodIn_r _ [32, 20, 33, 34, 35, 36, 37, 17, 38, 39, 40, 41, 42, 19, 43, 44, 45, 46, 47, 48, 49, 50, 51, 52, 53, 54, 55, 56, 57, 58, 59, 60, 61, 62, 63, 64, 65, 66, 67, 68, 69, 70, 71, 72, 73, 74, 75, 95, 96, 97, 98, 99, 100, 101, 102] (by decide +kernel) (by decide +kernel)
set_option maxRecDepth 20000 in
theorem gX8_luck_X2_reckon : GoodIn wsX8_luck (wsV RX8 117 RX2 yX2_reckon wsX2_reckon) := goodIn_app (goodIn_of _ (by decide +kernel)) ggX8_luck_X2_reckon
set_option maxRecDepth 20000 in
theorem ggX8_luck_X2_chanceOf : GoodIn wsX8_luck wsX2_chanceOf := goodIn_r _ [79, 43, 58, 59, 17, 60, 95, 96, 97, 98, 99, 100, 101, 102] (by decide +kernel) (by decide +kernel)
set_option maxRecDepth 20000 in
theorem gX8_luck_X2_chanceOf : GoodIn wsX8_luck (wsV RX8 121 RX2 yX2_chanceOf wsX2_chanceOf) := goodIn_app (goodIn_of _ (by decide +kernel)) ggX8_luck_X2_chanceOf
set_option maxRecDepth 20000 in
theorem ggX8_luck_X2_burntOf : GoodIn wsX8_luck wsX2_burntOf := goodIn_r _ [83, 44, 58, 59, 17, 60, 95, 96, 97, 98, 99, 100, 101, 102] (by decide +kernel) (by decide +kernel)
set_option maxRecDepth 20000 in
theorem gX8_luck_X2_burntOf : GoodIn wsX8_luck (wsV RX8 125 RX2 yX2_burntOf wsX2_burntOf) := goodIn_app (goodIn_of _ (by decide +kernel)) ggX8_luck_X2_burntOf
theorem dX8_luck_0 : decode cX8_luck 0 = .ok (.iload_n 1, 1) := by decide +kernel
theorem dX8_luck_1 : decode cX8_luck 1 = .ok (.iload_n 3, 1) := by decide +kernel
theorem dX8_luck_2 : decode cX8_luck 2 = .ok (.iload 4, 2) := by decide +kernel
theorem dX8_luck_4 : decode cX8_luck 4 = .ok (.invokestatic 104, 3) := by decide +kernel
theorem dX8_luck_7 : decode cX8_luck 7 = .ok (.ifCond .eq 23, 3) := by decide +kernel
theorem dX8_luck_10 : decode cX8_luck 10 = .ok (.iload_n 2, 1) := by decide +kernel
theorem dX8_luck_11 : decode cX8_luck 11 = .ok (.iconst 0, 1) := by decide +kernel
theorem dX8_luck_12 : decode cX8_luck 12 = .ok (.bipush 12, 2) := by decide +kernel
theorem dX8_luck_14 : decode cX8_luck 14 = .ok (.invokestatic 108, 3) := by decide +kernel
theorem dX8_luck_17 : decode cX8_luck 17 = .ok (.ifCond .eq 13, 3) := by decide +kernel
theorem dX8_luck_20 : decode cX8_luck 20 = .ok (.iload 5, 2) := by decide +kernel
theorem dX8_luck_22 : decode cX8_luck 22 = .ok (.iconst 0, 1) := by decide +kernel
theorem dX8_luck_23 : decode cX8_luck 23 = .ok (.iconst 1, 1) := by decide +kernel
theorem dX8_luck_24 : decode cX8_luck 24 = .ok (.invokestatic 108, 3) := by decide +kernel
theorem dX8_luck_27 : decode cX8_luck 27 = .ok (.ifCond .ne 7, 3) := by decide +kernel
theorem dX8_luck_30 : decode cX8_luck 30 = .ok (.ldc2_w 111, 3) := by decide +kernel
theorem dX8_luck_33 : decode cX8_luck 33 = .ok (.lreturn, 1) := by decide +kernel
theorem dX8_luck_34 : decode cX8_luck 34 = .ok (.aload_n 0, 1) := by decide +kernel
theorem dX8_luck_35 : decode cX8_luck 35 = .ok (.getfield 19, 3) := by decide +kernel
theorem dX8_luck_38 : decode cX8_luck 38 = .ok (.aload_n 0, 1) := by decide +kernel
theorem dX8_luck_39 : decode cX8_luck 39 = .ok (.getfield 10, 3) := by decide +kernel
theorem dX8_luck_42 : decode cX8_luck 42 = .ok (.iload 4, 2) := by decide +kernel
theorem dX8_luck_44 : decode cX8_luck 44 = .ok (.invokevirtual 113, 3) := by decide +kernel
theorem dX8_luck_47 : decode cX8_luck 47 = .ok (.aload_n 0, 1) := by decide +kernel
theorem dX8_luck_48 : decode cX8_luck 48 = .ok (.getfield 19, 3) := by decide +kernel
theorem dX8_luck_51 : decode cX8_luck 51 = .ok (.iload_n 1, 1) := by decide +kernel
theorem dX8_luck_52 : decode cX8_luck 52 = .ok (.iload_n 2, 1) := by decide +kernel
theorem dX8_luck_53 : decode cX8_luck 53 = .ok (.iload_n 3, 1) := by decide +kernel
theorem dX8_luck_54 : decode cX8_luck 54 = .ok (.invokevirtual 117, 3) := by decide +kernel
theorem dX8_luck_57 : decode cX8_luck 57 = .ok (.iload 5, 2) := by decide +kernel
theorem dX8_luck_59 : decode cX8_luck 59 = .ok (.ifCond .ne 16, 3) := by decide +kernel
theorem dX8_luck_62 : decode cX8_luck 62 = .ok (.aload_n 0, 1) := by decide +kernel
theorem dX8_luck_63 : decode cX8_luck 63 = .ok (.getfield 19, 3) := by decide +kernel
theorem dX8_luck_66 : decode cX8_luck 66 = .ok (.iload_n 1, 1) := by decide +kernel
theorem dX8_luck_67 : decode cX8_luck 67 = .ok (.iload_n 2, 1) := by decide +kernel
theorem dX8_luck_68 : decode cX8_luck 68 = .ok (.iload_n 3, 1) := by decide +kernel
theorem dX8_luck_69 : decode cX8_luck 69 = .ok (.invokevirtual 121, 3) := by decide +kernel
theorem dX8_luck_72 : decode cX8_luck 72 = .ok (.goto 13, 3) := by decide +kernel
theorem dX8_luck_75 : decode cX8_luck 75 = .ok (.aload_n 0, 1) := by decide +kernel
theorem dX8_luck_76 : decode cX8_luck 76 = .ok (.getfield 19, 3) := by decide +kernel
theorem dX8_luck_79 : decode cX8_luck 79 = .ok (.iload_n 1, 1) := by decide +kernel
theorem dX8_luck_80 : decode cX8_luck 80 = .ok (.iload_n 2, 1) := by decide +kernel
theorem dX8_luck_81 : decode cX8_luck 81 = .ok (.iload_n 3, 1) := by decide +kernel
theorem dX8_luck_82 : decode cX8_luck 82 = .ok (.invokevirtual 125, 3) := by decide +kernel
theorem dX8_luck_85 : decode cX8_luck 85 = .ok (.lreturn, 1) := by decide +kernel
set_option maxRecDepth 20000 in
theorem ggX8_choice_X8_isPassage : GoodIn wsX8_choice wsX8_isPassage := goodIn_r _ [6, 7, 8, 5, 9, 10, 11, 12] (by decide +kernel) (by decide +kernel)
set_option maxRecDepth 20000 in
theorem gX8_choice_X8_isPassage : GoodIn wsX8_choice (va_wsS RX8 104 yX8_isPassage wsX8_isPassage) := goodIn_app (goodIn_of _ (by decide +kernel)) ggX8_choice_X8_isPassage
set_option maxRecDepth 20000 in
theorem ggX8_choice_X8_isWithin : GoodIn wsX8_choice wsX8_isWithin := goodIn_r _ [9] (by decide +kernel) (by decide +kernel)
set_option maxRecDepth 20000 in
theorem gX8_choice_X8_isWithin : GoodIn wsX8_choice (va_wsS RX8 108 yX8_isWithin wsX8_isWithin) := goodIn_app (goodIn_of _ (by decide +kernel)) ggX8_choice_X8_isWithin
set_option maxRecDepth 20000 in
theorem ggX8_choice_X8_isWind : GoodIn wsX8_choice wsX8_isWind := goodIn_r _ [15, 7, 8, 5, 9] (by decide +kernel) (by decide +kernel)
set_option maxRecDepth 20000 in
theorem gX8_choice_X8_isWind : GoodIn wsX8_choice (va_wsS RX8 87 yX8_isWind wsX8_isWind) := goodIn_app (goodIn_of _ (by decide +kernel)) ggX8_choice_X8_isWind
set_option maxRecDepth 20000 in
theorem ggX8_choice_X2_know : GoodIn wsX8_choice wsX2_know := goodIn_r _ [20, 21, 22, 23, 24, 25, 26, 27, 28, 29, 30, 93, 94, 95, 96, 97, 98, 99, 100, 101, 102, 103] (by decide +kernel) (by decide +kernel)
set_option maxRecDepth 20000 in
theorem gX8_choice_X2_know : GoodIn wsX8_choice (wsV RX8 113 RX2 yX2_know wsX2_know) := goodIn_app (goodIn_of _ (by decide +kernel)) ggX8_choice_X2_know
set_option maxRecDepth 20000 in
theorem ggX8_choice_X2_reckon : GoodIn wsX8_choice wsX2_reckon := goodIn_r _ [34, 22, 35, 36, 37, 38, 39, 19, 40, 41, 42, 43, 44, 21, 45, 46, 47, 48, 49, 50, 51, 52, 53, 54, 55, 56, 57, 58, 59, 60, 61, 62, 63, 64, 65, 66, 67, 68, 69, 70, 71, 72, 73, 74, 75, 76, 77, 93, 94, 95, 96, 97, 98, 99, 100] (by decide +kernel) (by decide +kernel)
set_option maxRecDepth 20000 in
theorem gX8_choice_X2_reckon : GoodIn wsX8_choice (wsV RX8 117 RX2 yX2_reckon wsX2_reckon) := goodIn_app (goodIn_of _ (by decide +kernel)) ggX8_choice_X2_reckon
set_option maxRecDepth 20000 in
theorem ggX8_choice_X2_bestChoice : GoodIn wsX8_choice wsX2_bestChoice := goodIn_r _ [81, 47, 48, 49, 19, 50, 51, 52, 53, 54, 55, 56, 57, 58, 59, 60, 61, 62, 63, 64, 65, 66, 67, 68, 69, 70, 71, 72, 45, 46, 73, 74, 75, 76, 77, 93, 94, 95, 96, 97, 98, 99, 100] (by decide +kernel) (by decide +kernel)
set_option maxRecDepth 20000 in
theorem gX8_choice_X2_bestChoice : GoodIn wsX8_choice (wsV RX8 128 RX2 yX2_bestChoice wsX2_bestChoice) := goodIn_app (goodIn_of _ (by decide +kernel)) ggX8_choice_X2_bestChoice
theorem dX8_choice_0 : decode cX8_choice 0 = .ok (.iload_n 1, 1) := by decide +kernel
theorem dX8_choice_1 : decode cX8_choice 1 = .ok (.iload_n 3, 1) := by decide +kernel
theorem dX8_choice_2 : decode cX8_choice 2 = .ok (.iload 5, 2) := by decide +kernel
theorem dX8_choice_4 : decode cX8_choice 4 = .ok (.invokestatic 104, 3) := by decide +kernel
theorem dX8_choice_7 : decode cX8_choice 7 = .ok (.ifCond .eq 21, 3) := by decide +kernel
theorem dX8_choice_10 : decode cX8_choice 10 = .ok (.iload_n 2, 1) := by decide +kernel
theorem dX8_choice_11 : decode cX8_choice 11 = .ok (.iconst 1, 1) := by decide +kernel
theorem dX8_choice_12 : decode cX8_choice 12 = .ok (.bipush 12, 2) := by decide +kernel
theorem dX8_choice_14 : decode cX8_choice 14 = .ok (.invokestatic 108, 3) := by decide +kernel
theorem dX8_choice_17 : decode cX8_choice 17 = .ok (.ifCond .eq 11, 3) := by decide +kernel
theorem dX8_choice_20 : decode cX8_choice 20 = .ok (.iload 4, 2) := by decide +kernel
theorem dX8_choice_22 : decode cX8_choice 22 = .ok (.invokestatic 87, 3) := by decide +kernel
theorem dX8_choice_25 : decode cX8_choice 25 = .ok (.ifCond .ne 5, 3) := by decide +kernel
theorem dX8_choice_28 : decode cX8_choice 28 = .ok (.iconst (-1), 1) := by decide +kernel
theorem dX8_choice_29 : decode cX8_choice 29 = .ok (.ireturn, 1) := by decide +kernel
theorem dX8_choice_30 : decode cX8_choice 30 = .ok (.aload_n 0, 1) := by decide +kernel
theorem dX8_choice_31 : decode cX8_choice 31 = .ok (.getfield 19, 3) := by decide +kernel
theorem dX8_choice_34 : decode cX8_choice 34 = .ok (.aload_n 0, 1) := by decide +kernel
theorem dX8_choice_35 : decode cX8_choice 35 = .ok (.getfield 10, 3) := by decide +kernel
theorem dX8_choice_38 : decode cX8_choice 38 = .ok (.iload 5, 2) := by decide +kernel
theorem dX8_choice_40 : decode cX8_choice 40 = .ok (.invokevirtual 113, 3) := by decide +kernel
theorem dX8_choice_43 : decode cX8_choice 43 = .ok (.aload_n 0, 1) := by decide +kernel
theorem dX8_choice_44 : decode cX8_choice 44 = .ok (.getfield 19, 3) := by decide +kernel
theorem dX8_choice_47 : decode cX8_choice 47 = .ok (.iload_n 1, 1) := by decide +kernel
theorem dX8_choice_48 : decode cX8_choice 48 = .ok (.iload_n 2, 1) := by decide +kernel
theorem dX8_choice_49 : decode cX8_choice 49 = .ok (.iconst 1, 1) := by decide +kernel
theorem dX8_choice_50 : decode cX8_choice 50 = .ok (.isub, 1) := by decide +kernel
theorem dX8_choice_51 : decode cX8_choice 51 = .ok (.iload_n 3, 1) := by decide +kernel
theorem dX8_choice_52 : decode cX8_choice 52 = .ok (.invokevirtual 117, 3) := by decide +kernel
theorem dX8_choice_55 : decode cX8_choice 55 = .ok (.aload_n 0, 1) := by decide +kernel
theorem dX8_choice_56 : decode cX8_choice 56 = .ok (.getfield 19, 3) := by decide +kernel
theorem dX8_choice_59 : decode cX8_choice 59 = .ok (.iload_n 2, 1) := by decide +kernel
theorem dX8_choice_60 : decode cX8_choice 60 = .ok (.iload_n 1, 1) := by decide +kernel
theorem dX8_choice_61 : decode cX8_choice 61 = .ok (.iload_n 3, 1) := by decide +kernel
theorem dX8_choice_62 : decode cX8_choice 62 = .ok (.iload 4, 2) := by decide +kernel
theorem dX8_choice_64 : decode cX8_choice 64 = .ok (.invokevirtual 128, 3) := by decide +kernel
theorem dX8_choice_67 : decode cX8_choice 67 = .ok (.ireturn, 1) := by decide +kernel
set_option maxRecDepth 20000 in
theorem ggX8_promise_X8_isPassage : GoodIn wsX8_promise wsX8_isPassage := goodIn_r _ [6, 7, 8, 5, 9, 10, 11, 12] (by decide +kernel) (by decide +kernel)
set_option maxRecDepth 20000 in
theorem gX8_promise_X8_isPassage : GoodIn wsX8_promise (va_wsS RX8 104 yX8_isPassage wsX8_isPassage) := goodIn_app (goodIn_of _ (by decide +kernel)) ggX8_promise_X8_isPassage
set_option maxRecDepth 20000 in
theorem ggX8_promise_X8_isWithin : GoodIn wsX8_promise wsX8_isWithin := goodIn_r _ [9] (by decide +kernel) (by decide +kernel)
set_option maxRecDepth 20000 in
theorem gX8_promise_X8_isWithin : GoodIn wsX8_promise (va_wsS RX8 108 yX8_isWithin wsX8_isWithin) := goodIn_app (goodIn_of _ (by decide +kernel)) ggX8_promise_X8_isWithin
set_option maxRecDepth 20000 in
theorem ggX8_promise_X2_know : GoodIn wsX8_promise wsX2_know := goodIn_r _ [17, 18, 19, 20, 21, 22, 23, 24, 25, 26, 27, 95, 96, 97, 98, 99, 100, 101, 102, 103, 104, 105] (by decide +kernel) (by decide +kernel)
set_option maxRecDepth 20000 in
theorem gX8_promise_X2_know : GoodIn wsX8_promise (wsV RX8 113 RX2 yX2_know wsX2_know) := goodIn_app (goodIn_of _ (by decide +kernel)) ggX8_promise_X2_know
set_option maxRecDepth 20000 in
theorem ggX8_promise_X2_fewestDays : GoodIn wsX8_promise wsX2_fewestDays := goodIn_r _ [31, 32, 33, 34, 35, 16, 36, 19, 37, 38, 39, 40, 41, 42, 43, 44, 45, 46, 18, 47, 48, 49, 50, 51, 52, 53, 54, 55, 56, 57, 58, 59, 60, 61, 62, 63, 64, 65, 66, 67, 68, 69, 70, 71, 72, 73, 74, 75, 76, 77, 78, 79, 80, 81, 82, 83, 95, 96, 97, 98, 99, 100, 101, 102] (by decide +kernel) (by decide +kernel)
set_option maxRecDepth 20000 in
theorem gX8_promise_X2_fewestDays : GoodIn wsX8_promise (wsV RX8 132 RX2 yX2_fewestDays wsX2_fewestDays) := goodIn_app (goodIn_of _ (by decide +kernel)) ggX8_promise_X2_fewestDays
theorem dX8_promise_0 : decode cX8_promise 0 = .ok (.iload_n 1, 1) := by decide +kernel
theorem dX8_promise_1 : decode cX8_promise 1 = .ok (.iload_n 2, 1) := by decide +kernel
theorem dX8_promise_2 : decode cX8_promise 2 = .ok (.iload_n 3, 1) := by decide +kernel
theorem dX8_promise_3 : decode cX8_promise 3 = .ok (.invokestatic 104, 3) := by decide +kernel
theorem dX8_promise_6 : decode cX8_promise 6 = .ok (.ifCond .eq 14, 3) := by decide +kernel
theorem dX8_promise_9 : decode cX8_promise 9 = .ok (.iload 4, 2) := by decide +kernel
theorem dX8_promise_11 : decode cX8_promise 11 = .ok (.iconst 1, 1) := by decide +kernel
theorem dX8_promise_12 : decode cX8_promise 12 = .ok (.bipush 16, 2) := by decide +kernel
theorem dX8_promise_14 : decode cX8_promise 14 = .ok (.invokestatic 108, 3) := by decide +kernel
theorem dX8_promise_17 : decode cX8_promise 17 = .ok (.ifCond .ne 5, 3) := by decide +kernel
theorem dX8_promise_20 : decode cX8_promise 20 = .ok (.iconst (-1), 1) := by decide +kernel
theorem dX8_promise_21 : decode cX8_promise 21 = .ok (.ireturn, 1) := by decide +kernel
theorem dX8_promise_22 : decode cX8_promise 22 = .ok (.aload_n 0, 1) := by decide +kernel
theorem dX8_promise_23 : decode cX8_promise 23 = .ok (.getfield 19, 3) := by decide +kernel
theorem dX8_promise_26 : decode cX8_promise 26 = .ok (.aload_n 0, 1) := by decide +kernel
theorem dX8_promise_27 : decode cX8_promise 27 = .ok (.getfield 10, 3) := by decide +kernel
theorem dX8_promise_30 : decode cX8_promise 30 = .ok (.iload_n 3, 1) := by decide +kernel
theorem dX8_promise_31 : decode cX8_promise 31 = .ok (.invokevirtual 113, 3) := by decide +kernel
theorem dX8_promise_34 : decode cX8_promise 34 = .ok (.aload_n 0, 1) := by decide +kernel
theorem dX8_promise_35 : decode cX8_promise 35 = .ok (.getfield 19, 3) := by decide +kernel
theorem dX8_promise_38 : decode cX8_promise 38 = .ok (.iload_n 1, 1) := by decide +kernel
theorem dX8_promise_39 : decode cX8_promise 39 = .ok (.iload_n 2, 1) := by decide +kernel
theorem dX8_promise_40 : decode cX8_promise 40 = .ok (.iload 4, 2) := by decide +kernel
theorem dX8_promise_42 : decode cX8_promise 42 = .ok (.invokevirtual 132, 3) := by decide +kernel
theorem dX8_promise_45 : decode cX8_promise 45 = .ok (.ireturn, 1) := by decide +kernel
set_option maxRecDepth 20000 in
theorem ggX8_load_X1_add : GoodIn wsX8_load wsX1_add := goodIn_r _ [6, 7, 8, 9, 10, 11, 12, 33, 34, 35, 36, 37, 38, 39, 40] (by decide +kernel) (by decide +kernel)
set_option maxRecDepth 20000 in
theorem gX8_load_X1_add : GoodIn wsX8_load (wsV RX8 136 RX1 yX1_add wsX1_add) := goodIn_app (goodIn_of _ (by decide +kernel)) ggX8_load_X1_add
set_option maxRecDepth 20000 in
theorem ggX8_load_X8_answered : GoodIn wsX8_load wsX8_answered := goodIn_r _ [16, 17, 18, 19, 20, 21, 22, 23, 24, 25, 26, 27, 28, 29, 30, 31, 32] (by decide +kernel) (by decide +kernel)
set_option maxRecDepth 20000 in
theorem gX8_load_X8_answered : GoodIn wsX8_load (wsV RX8 83 RX8 yX8_answered wsX8_answered) := goodIn_app (goodIn_of _ (by decide +kernel)) ggX8_load_X8_answered
theorem dX8_load_0 : decode cX8_load 0 = .ok (.aload_n 0, 1) := by decide +kernel
theorem dX8_load_1 : decode cX8_load 1 = .ok (.aload_n 0, 1) := by decide +kernel
theorem dX8_load_2 : decode cX8_load 2 = .ok (.getfield 26, 3) := by decide +kernel
theorem dX8_load_5 : decode cX8_load 5 = .ok (.iload_n 1, 1) := by decide +kernel
theorem dX8_load_6 : decode cX8_load 6 = .ok (.iload_n 2, 1) := by decide +kernel
theorem dX8_load_7 : decode cX8_load 7 = .ok (.invokevirtual 136, 3) := by decide +kernel
theorem dX8_load_10 : decode cX8_load 10 = .ok (.invokevirtual 83, 3) := by decide +kernel
theorem dX8_load_13 : decode cX8_load 13 = .ok (.ireturn, 1) := by decide +kernel
set_option maxRecDepth 20000 in
theorem ggX8_apart_X1_setApart : GoodIn wsX8_apart wsX1_setApart := goodIn_r _ [6, 7, 8, 9, 5, 10, 11, 12, 13, 14, 15, 16, 17, 18, 19, 40, 41, 42, 43, 44, 45, 46, 47] (by decide +kernel) (by decide +kernel)
set_option maxRecDepth 20000 in
theorem gX8_apart_X1_setApart : GoodIn wsX8_apart (wsV RX8 139 RX1 yX1_setApart wsX1_setApart) := goodIn_app (goodIn_of _ (by decide +kernel)) ggX8_apart_X1_setApart
set_option maxRecDepth 20000 in
theorem ggX8_apart_X8_answered : GoodIn wsX8_apart wsX8_answered := goodIn_r _ [23, 24, 25, 26, 27, 28, 29, 30, 31, 32, 33, 34, 35, 36, 37, 38, 39] (by decide +kernel) (by decide +kernel)
set_option maxRecDepth 20000 in
theorem gX8_apart_X8_answered : GoodIn wsX8_apart (wsV RX8 83 RX8 yX8_answered wsX8_answered) := goodIn_app (goodIn_of _ (by decide +kernel)) ggX8_apart_X8_answered
theorem dX8_apart_0 : decode cX8_apart 0 = .ok (.aload_n 0, 1) := by decide +kernel
theorem dX8_apart_1 : decode cX8_apart 1 = .ok (.aload_n 0, 1) := by decide +kernel
theorem dX8_apart_2 : decode cX8_apart 2 = .ok (.getfield 26, 3) := by decide +kernel
theorem dX8_apart_5 : decode cX8_apart 5 = .ok (.iload_n 1, 1) := by decide +kernel
theorem dX8_apart_6 : decode cX8_apart 6 = .ok (.iload_n 2, 1) := by decide +kernel
theorem dX8_apart_7 : decode cX8_apart 7 = .ok (.iload_n 3, 1) := by decide +kernel
theorem dX8_apart_8 : decode cX8_apart 8 = .ok (.invokevirtual 139, 3) := by decide +kernel
theorem dX8_apart_11 : decode cX8_apart 11 = .ok (.invokevirtual 83, 3) := by decide +kernel
theorem dX8_apart_14 : decode cX8_apart 14 = .ok (.ireturn, 1) := by decide +kernel
set_option maxRecDepth 20000 in
theorem ggX8_stow_X8_isWithin : GoodIn wsX8_stow wsX8_isWithin := goodIn_r _ [5] (by decide +kernel) (by decide +kernel)
set_option maxRecDepth 20000 in
theorem gX8_stow_X8_isWithin : GoodIn wsX8_stow (va_wsS RX8 108 yX8_isWithin wsX8_isWithin) := goodIn_app (goodIn_of _ (by decide +kernel)) ggX8_stow_X8_isWithin
set_option maxRecDepth 20000 in
theorem ggX8_stow_X1_fill : GoodIn wsX8_stow wsX1_fill := goodIn_r _ [10, 11, 12, 13, 14, 15, 16, 17, 18, 9, 19, 20, 21, 22, 23, 24, 25, 26, 38, 39, 40, 41, 42, 43, 44, 45] (by decide +kernel) (by decide +kernel)
set_option maxRecDepth 20000 in
theorem gX8_stow_X1_fill : GoodIn wsX8_stow (wsV RX8 143 RX1 yX1_fill wsX1_fill) := goodIn_app (goodIn_of _ (by decide +kernel)) ggX8_stow_X1_fill
theorem dX8_stow_0 : decode cX8_stow 0 = .ok (.iload_n 1, 1) := by decide +kernel
theorem dX8_stow_1 : decode cX8_stow 1 = .ok (.iconst 0, 1) := by decide +kernel
theorem dX8_stow_2 : decode cX8_stow 2 = .ok (.sipush 1000, 3) := by decide +kernel
theorem dX8_stow_5 : decode cX8_stow 5 = .ok (.invokestatic 108, 3) := by decide +kernel
theorem dX8_stow_8 : decode cX8_stow 8 = .ok (.ifCond .eq 12, 3) := by decide +kernel
theorem dX8_stow_11 : decode cX8_stow 11 = .ok (.iload_n 2, 1) := by decide +kernel
theorem dX8_stow_12 : decode cX8_stow 12 = .ok (.iconst 0, 1) := by decide +kernel
theorem dX8_stow_13 : decode cX8_stow 13 = .ok (.iconst 2, 1) := by decide +kernel
theorem dX8_stow_14 : decode cX8_stow 14 = .ok (.invokestatic 108, 3) := by decide +kernel
theorem dX8_stow_17 : decode cX8_stow 17 = .ok (.ifCond .ne 5, 3) := by decide +kernel
theorem dX8_stow_20 : decode cX8_stow 20 = .ok (.iconst (-1), 1) := by decide +kernel
theorem dX8_stow_21 : decode cX8_stow 21 = .ok (.ireturn, 1) := by decide +kernel
theorem dX8_stow_22 : decode cX8_stow 22 = .ok (.aload_n 0, 1) := by decide +kernel
theorem dX8_stow_23 : decode cX8_stow 23 = .ok (.getfield 26, 3) := by decide +kernel
theorem dX8_stow_26 : decode cX8_stow 26 = .ok (.iload_n 1, 1) := by decide +kernel
theorem dX8_stow_27 : decode cX8_stow 27 = .ok (.invokevirtual 143, 3) := by decide +kernel
theorem dX8_stow_30 : decode cX8_stow 30 = .ok (.iload_n 2, 1) := by decide +kernel
theorem dX8_stow_31 : decode cX8_stow 31 = .ok (.ifCond .ne 11, 3) := by decide +kernel
theorem dX8_stow_34 : decode cX8_stow 34 = .ok (.aload_n 0, 1) := by decide +kernel
theorem dX8_stow_35 : decode cX8_stow 35 = .ok (.getfield 26, 3) := by decide +kernel
theorem dX8_stow_38 : decode cX8_stow 38 = .ok (.getfield 147, 3) := by decide +kernel
theorem dX8_stow_41 : decode cX8_stow 41 = .ok (.ireturn, 1) := by decide +kernel
theorem dX8_stow_42 : decode cX8_stow 42 = .ok (.iload_n 2, 1) := by decide +kernel
theorem dX8_stow_43 : decode cX8_stow 43 = .ok (.iconst 1, 1) := by decide +kernel
theorem dX8_stow_44 : decode cX8_stow 44 = .ok (.if_icmp .ne 13, 3) := by decide +kernel
theorem dX8_stow_47 : decode cX8_stow 47 = .ok (.aload_n 0, 1) := by decide +kernel
theorem dX8_stow_48 : decode cX8_stow 48 = .ok (.getfield 26, 3) := by decide +kernel
theorem dX8_stow_51 : decode cX8_stow 51 = .ok (.getfield 150, 3) := by decide +kernel
theorem dX8_stow_54 : decode cX8_stow 54 = .ok (.goto 10, 3) := by decide +kernel
theorem dX8_stow_57 : decode cX8_stow 57 = .ok (.aload_n 0, 1) := by decide +kernel
theorem dX8_stow_58 : decode cX8_stow 58 = .ok (.getfield 26, 3) := by decide +kernel
theorem dX8_stow_61 : decode cX8_stow 61 = .ok (.getfield 153, 3) := by decide +kernel
theorem dX8_stow_64 : decode cX8_stow 64 = .ok (.ireturn, 1) := by decide +kernel
set_option maxRecDepth 20000 in
theorem ggX8_berths_X0_setBerths : GoodIn wsX8_berths wsX0_setBerths := goodIn_r _ [6, 7, 8, 9, 10, 11, 12, 13, 14, 15, 16, 5, 17, 38, 39, 40, 41, 42, 43, 44, 45] (by decide +kernel) (by decide +kernel)
set_option maxRecDepth 20000 in
theorem gX8_berths_X0_setBerths : GoodIn wsX8_berths (wsV RX8 156 RX0 yX0_setBerths wsX0_setBerths) := goodIn_app (goodIn_of _ (by decide +kernel)) ggX8_berths_X0_setBerths
set_option maxRecDepth 20000 in
theorem ggX8_berths_X8_answered : GoodIn wsX8_berths wsX8_answered := goodIn_r _ [21, 22, 23, 24, 25, 26, 27, 28, 29, 30, 31, 32, 33, 34, 35, 36, 37] (by decide +kernel) (by decide +kernel)
set_option maxRecDepth 20000 in
theorem gX8_berths_X8_answered : GoodIn wsX8_berths (wsV RX8 83 RX8 yX8_answered wsX8_answered) := goodIn_app (goodIn_of _ (by decide +kernel)) ggX8_berths_X8_answered
theorem dX8_berths_0 : decode cX8_berths 0 = .ok (.aload_n 0, 1) := by decide +kernel
theorem dX8_berths_1 : decode cX8_berths 1 = .ok (.aload_n 0, 1) := by decide +kernel
theorem dX8_berths_2 : decode cX8_berths 2 = .ok (.getfield 33, 3) := by decide +kernel
theorem dX8_berths_5 : decode cX8_berths 5 = .ok (.iload_n 1, 1) := by decide +kernel
theorem dX8_berths_6 : decode cX8_berths 6 = .ok (.iload_n 2, 1) := by decide +kernel
theorem dX8_berths_7 : decode cX8_berths 7 = .ok (.invokevirtual 156, 3) := by decide +kernel
theorem dX8_berths_10 : decode cX8_berths 10 = .ok (.invokevirtual 83, 3) := by decide +kernel
theorem dX8_berths_13 : decode cX8_berths 13 = .ok (.ireturn, 1) := by decide +kernel
set_option maxRecDepth 20000 in
theorem ggX8_slot_X0_grant : GoodIn wsX8_slot wsX0_grant := goodIn_r _ [6, 7, 8, 9, 10, 11, 12, 13, 5, 14, 15, 16, 17, 18, 19, 20, 21, 22, 23, 24, 25, 26, 27, 28, 29, 30, 31, 32, 53, 54, 55, 56, 57, 58, 59, 60] (by decide +kernel) (by decide +kernel)
set_option maxRecDepth 20000 in
theorem gX8_slot_X0_grant : GoodIn wsX8_slot (wsV RX8 159 RX0 yX0_grant wsX0_grant) := goodIn_app (goodIn_of _ (by decide +kernel)) ggX8_slot_X0_grant
set_option maxRecDepth 20000 in
theorem ggX8_slot_X8_answered : GoodIn wsX8_slot wsX8_answered := goodIn_r _ [36, 37, 38, 39, 40, 41, 42, 43, 44, 45, 46, 47, 48, 49, 50, 51, 52] (by decide +kernel) (by decide +kernel)
set_option maxRecDepth 20000 in
theorem gX8_slot_X8_answered : GoodIn wsX8_slot (wsV RX8 83 RX8 yX8_answered wsX8_answered) := goodIn_app (goodIn_of _ (by decide +kernel)) ggX8_slot_X8_answered
theorem dX8_slot_0 : decode cX8_slot 0 = .ok (.aload_n 0, 1) := by decide +kernel
theorem dX8_slot_1 : decode cX8_slot 1 = .ok (.aload_n 0, 1) := by decide +kernel
theorem dX8_slot_2 : decode cX8_slot 2 = .ok (.getfield 33, 3) := by decide +kernel
theorem dX8_slot_5 : decode cX8_slot 5 = .ok (.iload_n 1, 1) := by decide +kernel
theorem dX8_slot_6 : decode cX8_slot 6 = .ok (.iload_n 2, 1) := by decide +kernel
theorem dX8_slot_7 : decode cX8_slot 7 = .ok (.iload_n 3, 1) := by decide +kernel
theorem dX8_slot_8 : decode cX8_slot 8 = .ok (.invokevirtual 159, 3) := by decide +kernel
theorem dX8_slot_11 : decode cX8_slot 11 = .ok (.invokevirtual 83, 3) := by decide +kernel
theorem dX8_slot_14 : decode cX8_slot 14 = .ok (.ireturn, 1) := by decide +kernel
set_option maxRecDepth 20000 in
theorem ggX8_of_X0_tell : GoodIn wsX8_of wsX0_tell := goodIn_r _ [6, 7, 8, 9, 10, 11, 12, 13, 5, 14, 15, 16, 17, 18, 19, 31, 32, 33, 34, 35, 36, 37, 38] (by decide +kernel) (by decide +kernel)
set_option maxRecDepth 20000 in
theorem gX8_of_X0_tell : GoodIn wsX8_of (wsV RX8 162 RX0 yX0_tell wsX0_tell) := goodIn_app (goodIn_of _ (by decide +kernel)) ggX8_of_X0_tell
theorem dX8_of_0 : decode cX8_of 0 = .ok (.aload_n 0, 1) := by decide +kernel
theorem dX8_of_1 : decode cX8_of 1 = .ok (.getfield 33, 3) := by decide +kernel
theorem dX8_of_4 : decode cX8_of 4 = .ok (.iload_n 1, 1) := by decide +kernel
theorem dX8_of_5 : decode cX8_of 5 = .ok (.iload_n 2, 1) := by decide +kernel
theorem dX8_of_6 : decode cX8_of 6 = .ok (.invokevirtual 162, 3) := by decide +kernel
theorem dX8_of_9 : decode cX8_of 9 = .ok (.ireturn, 1) := by decide +kernel
set_option maxRecDepth 20000 in
theorem ggX8_free_X0_giveUp : GoodIn wsX8_free wsX0_giveUp := goodIn_r _ [6, 7, 8, 9, 10, 11, 5, 12, 13, 14, 15, 16, 37, 38, 39, 40, 41, 42, 43, 44] (by decide +kernel) (by decide +kernel)
set_option maxRecDepth 20000 in
theorem gX8_free_X0_giveUp : GoodIn wsX8_free (wsV RX8 164 RX0 yX0_giveUp wsX0_giveUp) := goodIn_app (goodIn_of _ (by decide +kernel)) ggX8_free_X0_giveUp
set_option maxRecDepth 20000 in
theorem ggX8_free_X8_answered : GoodIn wsX8_free wsX8_answered := goodIn_r _ [20, 21, 22, 23, 24, 25, 26, 27, 28, 29, 30, 31, 32, 33, 34, 35, 36] (by decide +kernel) (by decide +kernel)
set_option maxRecDepth 20000 in
theorem gX8_free_X8_answered : GoodIn wsX8_free (wsV RX8 83 RX8 yX8_answered wsX8_answered) := goodIn_app (goodIn_of _ (by decide +kernel)) ggX8_free_X8_answered
theorem dX8_free_0 : decode cX8_free 0 = .ok (.aload_n 0, 1) := by decide +kernel
theorem dX8_free_1 : decode cX8_free 1 = .ok (.aload_n 0, 1) := by decide +kernel
theorem dX8_free_2 : decode cX8_free 2 = .ok (.getfield 33, 3) := by decide +kernel
theorem dX8_free_5 : decode cX8_free 5 = .ok (.iload_n 1, 1) := by decide +kernel
theorem dX8_free_6 : decode cX8_free 6 = .ok (.invokevirtual 164, 3) := by decide +kernel
theorem dX8_free_9 : decode cX8_free 9 = .ok (.invokevirtual 83, 3) := by decide +kernel
theorem dX8_free_12 : decode cX8_free 12 = .ok (.ireturn, 1) := by decide +kernel
set_option maxRecDepth 20000 in
theorem ggX8_feed_X4_hasRoom : GoodIn wsX8_feed wsX4_hasRoom := goodIn_r _ [6, 7, 24, 25] (by decide +kernel) (by decide +kernel)
set_option maxRecDepth 20000 in
theorem gX8_feed_X4_hasRoom : GoodIn wsX8_feed (wsV RX8 167 RX4 yX4_hasRoom wsX4_hasRoom) := goodIn_app (goodIn_of _ (by decide +kernel)) ggX8_feed_X4_hasRoom
set_option maxRecDepth 20000 in
theorem ggX8_feed_X4_add : GoodIn wsX8_feed wsX4_add := goodIn_r _ [11, 7, 12, 24, 25] (by decide +kernel) (by decide +kernel)
set_option maxRecDepth 20000 in
theorem gX8_feed_X4_add : GoodIn wsX8_feed (wsV RX8 171 RX4 yX4_add wsX4_add) := goodIn_app (goodIn_of _ (by decide +kernel)) ggX8_feed_X4_add
theorem dX8_feed_0 : decode cX8_feed 0 = .ok (.aload_n 0, 1) := by decide +kernel
theorem dX8_feed_1 : decode cX8_feed 1 = .ok (.getfield 40, 3) := by decide +kernel
theorem dX8_feed_4 : decode cX8_feed 4 = .ok (.invokevirtual 167, 3) := by decide +kernel
theorem dX8_feed_7 : decode cX8_feed 7 = .ok (.ifCond .ne 5, 3) := by decide +kernel
theorem dX8_feed_10 : decode cX8_feed 10 = .ok (.iconst (-1), 1) := by decide +kernel
theorem dX8_feed_11 : decode cX8_feed 11 = .ok (.ireturn, 1) := by decide +kernel
theorem dX8_feed_12 : decode cX8_feed 12 = .ok (.aload_n 0, 1) := by decide +kernel
theorem dX8_feed_13 : decode cX8_feed 13 = .ok (.getfield 40, 3) := by decide +kernel
theorem dX8_feed_16 : decode cX8_feed 16 = .ok (.iload_n 1, 1) := by decide +kernel
theorem dX8_feed_17 : decode cX8_feed 17 = .ok (.invokevirtual 171, 3) := by decide +kernel
theorem dX8_feed_20 : decode cX8_feed 20 = .ok (.aload_n 0, 1) := by decide +kernel
theorem dX8_feed_21 : decode cX8_feed 21 = .ok (.getfield 40, 3) := by decide +kernel
theorem dX8_feed_24 : decode cX8_feed 24 = .ok (.iload_n 2, 1) := by decide +kernel
theorem dX8_feed_25 : decode cX8_feed 25 = .ok (.invokevirtual 171, 3) := by decide +kernel
theorem dX8_feed_28 : decode cX8_feed 28 = .ok (.aload_n 0, 1) := by decide +kernel
theorem dX8_feed_29 : decode cX8_feed 29 = .ok (.getfield 40, 3) := by decide +kernel
theorem dX8_feed_32 : decode cX8_feed 32 = .ok (.iload_n 3, 1) := by decide +kernel
theorem dX8_feed_33 : decode cX8_feed 33 = .ok (.invokevirtual 171, 3) := by decide +kernel
theorem dX8_feed_36 : decode cX8_feed 36 = .ok (.aload_n 0, 1) := by decide +kernel
theorem dX8_feed_37 : decode cX8_feed 37 = .ok (.getfield 40, 3) := by decide +kernel
theorem dX8_feed_40 : decode cX8_feed 40 = .ok (.iload 4, 2) := by decide +kernel
theorem dX8_feed_42 : decode cX8_feed 42 = .ok (.invokevirtual 171, 3) := by decide +kernel
theorem dX8_feed_45 : decode cX8_feed 45 = .ok (.aload_n 0, 1) := by decide +kernel
theorem dX8_feed_46 : decode cX8_feed 46 = .ok (.getfield 40, 3) := by decide +kernel
theorem dX8_feed_49 : decode cX8_feed 49 = .ok (.iload 5, 2) := by decide +kernel
theorem dX8_feed_51 : decode cX8_feed 51 = .ok (.invokevirtual 171, 3) := by decide +kernel
theorem dX8_feed_54 : decode cX8_feed 54 = .ok (.aload_n 0, 1) := by decide +kernel
theorem dX8_feed_55 : decode cX8_feed 55 = .ok (.getfield 40, 3) := by decide +kernel
theorem dX8_feed_58 : decode cX8_feed 58 = .ok (.getfield 173, 3) := by decide +kernel
theorem dX8_feed_61 : decode cX8_feed 61 = .ok (.ireturn, 1) := by decide +kernel
set_option maxRecDepth 20000 in
theorem ggX8_end_X8_isWithin : GoodIn wsX8_end wsX8_isWithin := goodIn_r _ [5] (by decide +kernel) (by decide +kernel)
set_option maxRecDepth 20000 in
theorem gX8_end_X8_isWithin : GoodIn wsX8_end (va_wsS RX8 108 yX8_isWithin wsX8_isWithin) := goodIn_app (goodIn_of _ (by decide +kernel)) ggX8_end_X8_isWithin
theorem dX8_end_0 : decode cX8_end 0 = .ok (.iload_n 1, 1) := by decide +kernel
theorem dX8_end_1 : decode cX8_end 1 = .ok (.iconst 0, 1) := by decide +kernel
theorem dX8_end_2 : decode cX8_end 2 = .ok (.aload_n 0, 1) := by decide +kernel
theorem dX8_end_3 : decode cX8_end 3 = .ok (.getfield 40, 3) := by decide +kernel
theorem dX8_end_6 : decode cX8_end 6 = .ok (.getfield 173, 3) := by decide +kernel
theorem dX8_end_9 : decode cX8_end 9 = .ok (.invokestatic 108, 3) := by decide +kernel
theorem dX8_end_12 : decode cX8_end 12 = .ok (.ifCond .ne 5, 3) := by decide +kernel
theorem dX8_end_15 : decode cX8_end 15 = .ok (.iconst (-1), 1) := by decide +kernel
theorem dX8_end_16 : decode cX8_end 16 = .ok (.ireturn, 1) := by decide +kernel
theorem dX8_end_17 : decode cX8_end 17 = .ok (.aload_n 0, 1) := by decide +kernel
theorem dX8_end_18 : decode cX8_end 18 = .ok (.getfield 40, 3) := by decide +kernel
theorem dX8_end_21 : decode cX8_end 21 = .ok (.iload_n 1, 1) := by decide +kernel
theorem dX8_end_22 : decode cX8_end 22 = .ok (.putfield 173, 3) := by decide +kernel
theorem dX8_end_25 : decode cX8_end 25 = .ok (.iload_n 1, 1) := by decide +kernel
theorem dX8_end_26 : decode cX8_end 26 = .ok (.ireturn, 1) := by decide +kernel
set_option maxRecDepth 20000 in
theorem ggX8_contract_X3_read : GoodIn wsX8_contract wsX3_read := goodIn_r _ [10, 11, 12, 13, 14, 15, 9, 16, 17, 18, 19, 20, 21, 22, 23, 24, 25, 26, 27, 28, 29, 30, 31, 32, 33, 34, 35, 36, 37, 38, 39, 40, 41, 42, 43, 44, 45, 46, 47, 48, 49, 50, 51, 52, 53, 54, 55, 56, 57, 58, 59, 60, 61, 62, 63, 64, 65, 66, 67, 68, 69, 70, 71, 72, 73, 74, 75, 76, 77, 78, 79, 80, 81, 82, 83, 84, 85, 86, 87, 88, 89, 90, 91, 92, 93, 94, 95, 96, 97, 98, 99, 100, 101, 102, 103, 104, 105, 106, 107, 108, 109, 110, 111, 112, 113, 114, 115, 138, 139, 140, 141, 142, 143, 144, 136, 137] (by decide +kernel) (by decide +kernel)
set_option maxRecDepth 20000 in
theorem gX8_contract_X3_read : GoodIn wsX8_contract (wsV RX8 176 RX3 yX3_read wsX3_read) := goodIn_app (goodIn_of _ (by decide +kernel)) ggX8_contract_X3_read
set_option maxRecDepth 20000 in
theorem ggX8_contract_X8_answered : GoodIn wsX8_contract wsX8_answered := goodIn_r _ [119, 120, 121, 122, 123, 124, 125, 126, 127, 128, 129, 130, 131, 132, 133, 134, 135] (by decide +kernel) (by decide +kernel)
set_option maxRecDepth 20000 in
theorem gX8_contract_X8_answered : GoodIn wsX8_contract (wsV RX8 83 RX8 yX8_answered wsX8_answered) := goodIn_app (goodIn_of _ (by decide +kernel)) ggX8_contract_X8_answered
theorem dX8_contract_0 : decode cX8_contract 0 = .ok (.aload_n 0, 1) := by decide +kernel
theorem dX8_contract_1 : decode cX8_contract 1 = .ok (.aload_n 0, 1) := by decide +kernel
theorem dX8_contract_2 : decode cX8_contract 2 = .ok (.getfield 49, 3) := by decide +kernel
theorem dX8_contract_5 : decode cX8_contract 5 = .ok (.aload_n 0, 1) := by decide +kernel
theorem dX8_contract_6 : decode cX8_contract 6 = .ok (.getfield 69, 3) := by decide +kernel
theorem dX8_contract_9 : decode cX8_contract 9 = .ok (.invokevirtual 176, 3) := by decide +kernel
theorem dX8_contract_12 : decode cX8_contract 12 = .ok (.putfield 72, 3) := by decide +kernel
theorem dX8_contract_15 : decode cX8_contract 15 = .ok (.aload_n 0, 1) := by decide +kernel
theorem dX8_contract_16 : decode cX8_contract 16 = .ok (.getfield 40, 3) := by decide +kernel
theorem dX8_contract_19 : decode cX8_contract 19 = .ok (.iconst 0, 1) := by decide +kernel
theorem dX8_contract_20 : decode cX8_contract 20 = .ok (.putfield 173, 3) := by decide +kernel
theorem dX8_contract_23 : decode cX8_contract 23 = .ok (.aload_n 0, 1) := by decide +kernel
theorem dX8_contract_24 : decode cX8_contract 24 = .ok (.getfield 72, 3) := by decide +kernel
theorem dX8_contract_27 : decode cX8_contract 27 = .ok (.iconst (-1), 1) := by decide +kernel
theorem dX8_contract_28 : decode cX8_contract 28 = .ok (.if_icmp .eq 10, 3) := by decide +kernel
theorem dX8_contract_31 : decode cX8_contract 31 = .ok (.aload_n 0, 1) := by decide +kernel
theorem dX8_contract_32 : decode cX8_contract 32 = .ok (.bipush (-6), 2) := by decide +kernel
theorem dX8_contract_34 : decode cX8_contract 34 = .ok (.invokevirtual 83, 3) := by decide +kernel
theorem dX8_contract_37 : decode cX8_contract 37 = .ok (.ireturn, 1) := by decide +kernel
theorem dX8_contract_38 : decode cX8_contract 38 = .ok (.aload_n 0, 1) := by decide +kernel
theorem dX8_contract_39 : decode cX8_contract 39 = .ok (.getfield 65, 3) := by decide +kernel
theorem dX8_contract_42 : decode cX8_contract 42 = .ok (.astore_n 1, 1) := by decide +kernel
theorem dX8_contract_43 : decode cX8_contract 43 = .ok (.aload_n 0, 1) := by decide +kernel
theorem dX8_contract_44 : decode cX8_contract 44 = .ok (.aload_n 0, 1) := by decide +kernel
theorem dX8_contract_45 : decode cX8_contract 45 = .ok (.getfield 69, 3) := by decide +kernel
theorem dX8_contract_48 : decode cX8_contract 48 = .ok (.putfield 65, 3) := by decide +kernel
theorem dX8_contract_51 : decode cX8_contract 51 = .ok (.aload_n 0, 1) := by decide +kernel
theorem dX8_contract_52 : decode cX8_contract 52 = .ok (.aload_n 1, 1) := by decide +kernel
theorem dX8_contract_53 : decode cX8_contract 53 = .ok (.putfield 69, 3) := by decide +kernel
theorem dX8_contract_56 : decode cX8_contract 56 = .ok (.aload_n 0, 1) := by decide +kernel
theorem dX8_contract_57 : decode cX8_contract 57 = .ok (.aload_n 0, 1) := by decide +kernel
theorem dX8_contract_58 : decode cX8_contract 58 = .ok (.getfield 65, 3) := by decide +kernel
theorem dX8_contract_61 : decode cX8_contract 61 = .ok (.getfield 180, 3) := by decide +kernel
theorem dX8_contract_64 : decode cX8_contract 64 = .ok (.invokevirtual 83, 3) := by decide +kernel
theorem dX8_contract_67 : decode cX8_contract 67 = .ok (.ireturn, 1) := by decide +kernel
theorem dX8_fault_0 : decode cX8_fault 0 = .ok (.aload_n 0, 1) := by decide +kernel
theorem dX8_fault_1 : decode cX8_fault 1 = .ok (.getfield 72, 3) := by decide +kernel
theorem dX8_fault_4 : decode cX8_fault 4 = .ok (.ireturn, 1) := by decide +kernel
set_option maxRecDepth 20000 in
theorem ggX8_due_X8_isTerm : GoodIn wsX8_due wsX8_isTerm := goodIn_r _ [7, 8, 9, 6, 10] (by decide +kernel) (by decide +kernel)
set_option maxRecDepth 20000 in
theorem gX8_due_X8_isTerm : GoodIn wsX8_due (va_wsS RX8 183 yX8_isTerm wsX8_isTerm) := goodIn_app (goodIn_of _ (by decide +kernel)) ggX8_due_X8_isTerm
set_option maxRecDepth 20000 in
theorem ggX8_due_X8_isWithin : GoodIn wsX8_due wsX8_isWithin := goodIn_r _ [10] (by decide +kernel) (by decide +kernel)
set_option maxRecDepth 20000 in
theorem gX8_due_X8_isWithin : GoodIn wsX8_due (va_wsS RX8 108 yX8_isWithin wsX8_isWithin) := goodIn_app (goodIn_of _ (by decide +kernel)) ggX8_due_X8_isWithin
set_option maxRecDepth 20000 in
theorem ggX8_due_X5_sum : GoodIn wsX8_due wsX5_sum := goodIn_r _ [15, 16, 17, 18, 19, 14, 20, 21, 22, 23, 24, 25, 26, 27, 28, 29, 30, 42, 43, 44, 45] (by decide +kernel) (by decide +kernel)
set_option maxRecDepth 20000 in
theorem gX8_due_X5_sum : GoodIn wsX8_due (wsV RX8 187 RX5 yX5_sum wsX5_sum) := goodIn_app (goodIn_of _ (by decide +kernel)) ggX8_due_X5_sum
theorem dX8_due_0 : decode cX8_due 0 = .ok (.iload_n 1, 1) := by decide +kernel
theorem dX8_due_1 : decode cX8_due 1 = .ok (.invokestatic 183, 3) := by decide +kernel
theorem dX8_due_4 : decode cX8_due 4 = .ok (.ifCond .eq 20, 3) := by decide +kernel
theorem dX8_due_7 : decode cX8_due 7 = .ok (.iload_n 2, 1) := by decide +kernel
theorem dX8_due_8 : decode cX8_due 8 = .ok (.invokestatic 183, 3) := by decide +kernel
theorem dX8_due_11 : decode cX8_due 11 = .ok (.ifCond .eq 13, 3) := by decide +kernel
theorem dX8_due_14 : decode cX8_due 14 = .ok (.iload_n 3, 1) := by decide +kernel
theorem dX8_due_15 : decode cX8_due 15 = .ok (.iconst 0, 1) := by decide +kernel
theorem dX8_due_16 : decode cX8_due 16 = .ok (.ldc 186, 2) := by decide +kernel
theorem dX8_due_18 : decode cX8_due 18 = .ok (.invokestatic 108, 3) := by decide +kernel
theorem dX8_due_21 : decode cX8_due 21 = .ok (.ifCond .ne 7, 3) := by decide +kernel
theorem dX8_due_24 : decode cX8_due 24 = .ok (.ldc2_w 111, 3) := by decide +kernel
theorem dX8_due_27 : decode cX8_due 27 = .ok (.lreturn, 1) := by decide +kernel
theorem dX8_due_28 : decode cX8_due 28 = .ok (.aload_n 0, 1) := by decide +kernel
theorem dX8_due_29 : decode cX8_due 29 = .ok (.getfield 65, 3) := by decide +kernel
theorem dX8_due_32 : decode cX8_due 32 = .ok (.iload_n 1, 1) := by decide +kernel
theorem dX8_due_33 : decode cX8_due 33 = .ok (.iload_n 2, 1) := by decide +kernel
theorem dX8_due_34 : decode cX8_due 34 = .ok (.iload_n 3, 1) := by decide +kernel
theorem dX8_due_35 : decode cX8_due 35 = .ok (.invokevirtual 187, 3) := by decide +kernel
theorem dX8_due_38 : decode cX8_due 38 = .ok (.lreturn, 1) := by decide +kernel
set_option maxRecDepth 20000 in
theorem ggX8_leg_X6_add : GoodIn wsX8_leg wsX6_add := goodIn_r _ [6, 7, 8, 9, 10, 11, 12, 33, 34, 35, 36, 37] (by decide +kernel) (by decide +kernel)
set_option maxRecDepth 20000 in
theorem gX8_leg_X6_add : GoodIn wsX8_leg (wsV RX8 190 RX6 yX6_add wsX6_add) := goodIn_app (goodIn_of _ (by decide +kernel)) ggX8_leg_X6_add
set_option maxRecDepth 20000 in
theorem ggX8_leg_X8_answered : GoodIn wsX8_leg wsX8_answered := goodIn_r _ [16, 17, 18, 19, 20, 21, 22, 23, 24, 25, 26, 27, 28, 29, 30, 31, 32] (by decide +kernel) (by decide +kernel)
set_option maxRecDepth 20000 in
theorem gX8_leg_X8_answered : GoodIn wsX8_leg (wsV RX8 83 RX8 yX8_answered wsX8_answered) := goodIn_app (goodIn_of _ (by decide +kernel)) ggX8_leg_X8_answered
theorem dX8_leg_0 : decode cX8_leg 0 = .ok (.aload_n 0, 1) := by decide +kernel
theorem dX8_leg_1 : decode cX8_leg 1 = .ok (.aload_n 0, 1) := by decide +kernel
theorem dX8_leg_2 : decode cX8_leg 2 = .ok (.getfield 58, 3) := by decide +kernel
theorem dX8_leg_5 : decode cX8_leg 5 = .ok (.iload_n 1, 1) := by decide +kernel
theorem dX8_leg_6 : decode cX8_leg 6 = .ok (.invokevirtual 190, 3) := by decide +kernel
theorem dX8_leg_9 : decode cX8_leg 9 = .ok (.invokevirtual 83, 3) := by decide +kernel
theorem dX8_leg_12 : decode cX8_leg 12 = .ok (.ireturn, 1) := by decide +kernel
set_option maxRecDepth 20000 in
theorem ggX8_aboard_X6_take : GoodIn wsX8_aboard wsX6_take := goodIn_r _ [6, 7, 8, 9, 10, 11, 12, 13, 14, 15, 16, 17, 18, 19, 20, 21, 5, 22, 23, 44, 45, 46, 47, 48, 49, 50, 51, 52, 53, 54, 55, 56] (by decide +kernel) (by decide +kernel)
set_option maxRecDepth 20000 in
theorem gX8_aboard_X6_take : GoodIn wsX8_aboard (wsV RX8 192 RX6 yX6_take wsX6_take) := goodIn_app (goodIn_of _ (by decide +kernel)) ggX8_aboard_X6_take
set_option maxRecDepth 20000 in
theorem ggX8_aboard_X8_answered : GoodIn wsX8_aboard wsX8_answered := goodIn_r _ [27, 28, 29, 30, 31, 32, 33, 34, 35, 36, 37, 38, 39, 40, 41, 42, 43] (by decide +kernel) (by decide +kernel)
set_option maxRecDepth 20000 in
theorem gX8_aboard_X8_answered : GoodIn wsX8_aboard (wsV RX8 83 RX8 yX8_answered wsX8_answered) := goodIn_app (goodIn_of _ (by decide +kernel)) ggX8_aboard_X8_answered
theorem dX8_aboard_0 : decode cX8_aboard 0 = .ok (.aload_n 0, 1) := by decide +kernel
theorem dX8_aboard_1 : decode cX8_aboard 1 = .ok (.aload_n 0, 1) := by decide +kernel
theorem dX8_aboard_2 : decode cX8_aboard 2 = .ok (.getfield 58, 3) := by decide +kernel
theorem dX8_aboard_5 : decode cX8_aboard 5 = .ok (.iload_n 1, 1) := by decide +kernel
theorem dX8_aboard_6 : decode cX8_aboard 6 = .ok (.iload_n 2, 1) := by decide +kernel
theorem dX8_aboard_7 : decode cX8_aboard 7 = .ok (.iload_n 3, 1) := by decide +kernel
theorem dX8_aboard_8 : decode cX8_aboard 8 = .ok (.invokevirtual 192, 3) := by decide +kernel
theorem dX8_aboard_11 : decode cX8_aboard 11 = .ok (.invokevirtual 83, 3) := by decide +kernel
theorem dX8_aboard_14 : decode cX8_aboard 14 = .ok (.ireturn, 1) := by decide +kernel
set_option maxRecDepth 20000 in
theorem ggX8_part_X1_has : GoodIn wsX8_part wsX1_has := goodIn_r _ [7, 8, 9, 10, 11, 48, 49, 50, 51, 52, 53, 54, 55] (by decide +kernel) (by decide +kernel)
set_option maxRecDepth 20000 in
theorem gX8_part_X1_has : GoodIn wsX8_part (wsV RX8 195 RX1 yX1_has wsX1_has) := goodIn_app (goodIn_of _ (by decide +kernel)) ggX8_part_X1_has
set_option maxRecDepth 20000 in
theorem ggX8_part_X6_has : GoodIn wsX8_part wsX6_has := goodIn_r _ [16, 17, 9, 10, 11, 56, 57, 58, 59, 60] (by decide +kernel) (by decide +kernel)
set_option maxRecDepth 20000 in
theorem gX8_part_X6_has : GoodIn wsX8_part (wsV RX8 198 RX6 yX6_has wsX6_has) := goodIn_app (goodIn_of _ (by decide +kernel)) ggX8_part_X6_has
set_option maxRecDepth 20000 in
theorem ggX8_part_X6_partOf : GoodIn wsX8_part wsX6_partOf := goodIn_r _ [21, 22, 23, 24, 25, 26, 15, 27, 28, 29, 30, 31, 32, 33, 34, 35, 36, 56, 57, 58, 59, 60, 48, 49, 50, 51, 52, 53, 54, 55] (by decide +kernel) (by decide +kernel)
set_option maxRecDepth 20000 in
theorem gX8_part_X6_partOf : GoodIn wsX8_part (wsV RX8 199 RX6 yX6_partOf wsX6_partOf) := goodIn_app (goodIn_of _ (by decide +kernel)) ggX8_part_X6_partOf
theorem dX8_part_0 : decode cX8_part 0 = .ok (.aload_n 0, 1) := by decide +kernel
theorem dX8_part_1 : decode cX8_part 1 = .ok (.getfield 26, 3) := by decide +kernel
theorem dX8_part_4 : decode cX8_part 4 = .ok (.iload_n 1, 1) := by decide +kernel
theorem dX8_part_5 : decode cX8_part 5 = .ok (.invokevirtual 195, 3) := by decide +kernel
theorem dX8_part_8 : decode cX8_part 8 = .ok (.ifCond .eq 14, 3) := by decide +kernel
theorem dX8_part_11 : decode cX8_part 11 = .ok (.aload_n 0, 1) := by decide +kernel
theorem dX8_part_12 : decode cX8_part 12 = .ok (.getfield 58, 3) := by decide +kernel
theorem dX8_part_15 : decode cX8_part 15 = .ok (.iload_n 2, 1) := by decide +kernel
theorem dX8_part_16 : decode cX8_part 16 = .ok (.invokevirtual 198, 3) := by decide +kernel
theorem dX8_part_19 : decode cX8_part 19 = .ok (.ifCond .ne 5, 3) := by decide +kernel
theorem dX8_part_22 : decode cX8_part 22 = .ok (.iconst (-1), 1) := by decide +kernel
theorem dX8_part_23 : decode cX8_part 23 = .ok (.ireturn, 1) := by decide +kernel
theorem dX8_part_24 : decode cX8_part 24 = .ok (.aload_n 0, 1) := by decide +kernel
theorem dX8_part_25 : decode cX8_part 25 = .ok (.getfield 58, 3) := by decide +kernel
theorem dX8_part_28 : decode cX8_part 28 = .ok (.iload_n 1, 1) := by decide +kernel
theorem dX8_part_29 : decode cX8_part 29 = .ok (.iload_n 2, 1) := by decide +kernel
theorem dX8_part_30 : decode cX8_part 30 = .ok (.invokevirtual 199, 3) := by decide +kernel
theorem dX8_part_33 : decode cX8_part 33 = .ok (.ireturn, 1) := by decide +kernel
set_option maxRecDepth 20000 in
theorem ggX8_smoke_X6_ownSmoke : GoodIn wsX8_smoke wsX6_ownSmoke := goodIn_r _ [7, 8, 9, 10, 11, 12, 6, 13, 14, 15, 16, 17, 18, 19, 20, 52, 53, 54, 55, 56, 57, 58, 59, 60, 61, 62, 63, 64] (by decide +kernel) (by decide +kernel)
set_option maxRecDepth 20000 in
theorem gX8_smoke_X6_ownSmoke : GoodIn wsX8_smoke (wsV RX8 202 RX6 yX6_ownSmoke wsX6_ownSmoke) := goodIn_app (goodIn_of _ (by decide +kernel)) ggX8_smoke_X6_ownSmoke
set_option maxRecDepth 20000 in
theorem ggX8_smoke_X1_has : GoodIn wsX8_smoke wsX1_has := goodIn_r _ [25, 26, 27, 28, 29, 57, 58, 59, 60, 61, 62, 63, 64] (by decide +kernel) (by decide +kernel)
set_option maxRecDepth 20000 in
theorem gX8_smoke_X1_has : GoodIn wsX8_smoke (wsV RX8 195 RX1 yX1_has wsX1_has) := goodIn_app (goodIn_of _ (by decide +kernel)) ggX8_smoke_X1_has
set_option maxRecDepth 20000 in
theorem ggX8_smoke_X6_smokeOf : GoodIn wsX8_smoke wsX6_smokeOf := goodIn_r _ [33, 8, 34, 35, 36, 6, 37, 9, 14, 10, 11, 12, 13, 15, 16, 17, 18, 19, 20, 38, 39, 40, 52, 53, 54, 55, 56, 57, 58, 59, 60, 61, 62, 63, 64] (by decide +kernel) (by decide +kernel)
set_option maxRecDepth 20000 in
theorem gX8_smoke_X6_smokeOf : GoodIn wsX8_smoke (wsV RX8 206 RX6 yX6_smokeOf wsX6_smokeOf) := goodIn_app (goodIn_of _ (by decide +kernel)) ggX8_smoke_X6_smokeOf
theorem dX8_smoke_0 : decode cX8_smoke 0 = .ok (.iload_n 1, 1) := by decide +kernel
theorem dX8_smoke_1 : decode cX8_smoke 1 = .ok (.iconst (-1), 1) := by decide +kernel
theorem dX8_smoke_2 : decode cX8_smoke 2 = .ok (.if_icmp .ne 11, 3) := by decide +kernel
theorem dX8_smoke_5 : decode cX8_smoke 5 = .ok (.aload_n 0, 1) := by decide +kernel
theorem dX8_smoke_6 : decode cX8_smoke 6 = .ok (.getfield 58, 3) := by decide +kernel
theorem dX8_smoke_9 : decode cX8_smoke 9 = .ok (.invokevirtual 202, 3) := by decide +kernel
theorem dX8_smoke_12 : decode cX8_smoke 12 = .ok (.ireturn, 1) := by decide +kernel
theorem dX8_smoke_13 : decode cX8_smoke 13 = .ok (.aload_n 0, 1) := by decide +kernel
theorem dX8_smoke_14 : decode cX8_smoke 14 = .ok (.getfield 26, 3) := by decide +kernel
theorem dX8_smoke_17 : decode cX8_smoke 17 = .ok (.iload_n 1, 1) := by decide +kernel
theorem dX8_smoke_18 : decode cX8_smoke 18 = .ok (.invokevirtual 195, 3) := by decide +kernel
theorem dX8_smoke_21 : decode cX8_smoke 21 = .ok (.ifCond .eq 14, 3) := by decide +kernel
theorem dX8_smoke_24 : decode cX8_smoke 24 = .ok (.aload_n 0, 1) := by decide +kernel
theorem dX8_smoke_25 : decode cX8_smoke 25 = .ok (.getfield 58, 3) := by decide +kernel
theorem dX8_smoke_28 : decode cX8_smoke 28 = .ok (.iload_n 1, 1) := by decide +kernel
theorem dX8_smoke_29 : decode cX8_smoke 29 = .ok (.invokevirtual 206, 3) := by decide +kernel
theorem dX8_smoke_32 : decode cX8_smoke 32 = .ok (.goto 5, 3) := by decide +kernel
theorem dX8_smoke_35 : decode cX8_smoke 35 = .ok (.bipush (-2), 2) := by decide +kernel
theorem dX8_smoke_37 : decode cX8_smoke 37 = .ok (.ireturn, 1) := by decide +kernel
theorem dX8_count_0 : decode cX8_count 0 = .ok (.iload_n 1, 1) := by decide +kernel
theorem dX8_count_1 : decode cX8_count 1 = .ok (.tableswitch 99 0 6 #[43, 51, 59, 67, 75, 83, 91], 43) := by decide +kernel
theorem dX8_count_44 : decode cX8_count 44 = .ok (.aload_n 0, 1) := by decide +kernel
theorem dX8_count_45 : decode cX8_count 45 = .ok (.getfield 10, 3) := by decide +kernel
theorem dX8_count_48 : decode cX8_count 48 = .ok (.getfield 209, 3) := by decide +kernel
theorem dX8_count_51 : decode cX8_count 51 = .ok (.ireturn, 1) := by decide +kernel
theorem dX8_count_52 : decode cX8_count 52 = .ok (.aload_n 0, 1) := by decide +kernel
theorem dX8_count_53 : decode cX8_count 53 = .ok (.getfield 26, 3) := by decide +kernel
theorem dX8_count_56 : decode cX8_count 56 = .ok (.getfield 212, 3) := by decide +kernel
theorem dX8_count_59 : decode cX8_count 59 = .ok (.ireturn, 1) := by decide +kernel
theorem dX8_count_60 : decode cX8_count 60 = .ok (.aload_n 0, 1) := by decide +kernel
theorem dX8_count_61 : decode cX8_count 61 = .ok (.getfield 33, 3) := by decide +kernel
theorem dX8_count_64 : decode cX8_count 64 = .ok (.getfield 215, 3) := by decide +kernel
theorem dX8_count_67 : decode cX8_count 67 = .ok (.ireturn, 1) := by decide +kernel
theorem dX8_count_68 : decode cX8_count 68 = .ok (.aload_n 0, 1) := by decide +kernel
theorem dX8_count_69 : decode cX8_count 69 = .ok (.getfield 65, 3) := by decide +kernel
theorem dX8_count_72 : decode cX8_count 72 = .ok (.getfield 180, 3) := by decide +kernel
theorem dX8_count_75 : decode cX8_count 75 = .ok (.ireturn, 1) := by decide +kernel
theorem dX8_count_76 : decode cX8_count 76 = .ok (.aload_n 0, 1) := by decide +kernel
theorem dX8_count_77 : decode cX8_count 77 = .ok (.getfield 58, 3) := by decide +kernel
theorem dX8_count_80 : decode cX8_count 80 = .ok (.getfield 216, 3) := by decide +kernel
theorem dX8_count_83 : decode cX8_count 83 = .ok (.ireturn, 1) := by decide +kernel
theorem dX8_count_84 : decode cX8_count 84 = .ok (.aload_n 0, 1) := by decide +kernel
theorem dX8_count_85 : decode cX8_count 85 = .ok (.getfield 40, 3) := by decide +kernel
theorem dX8_count_88 : decode cX8_count 88 = .ok (.getfield 173, 3) := by decide +kernel
theorem dX8_count_91 : decode cX8_count 91 = .ok (.ireturn, 1) := by decide +kernel
theorem dX8_count_92 : decode cX8_count 92 = .ok (.aload_n 0, 1) := by decide +kernel
theorem dX8_count_93 : decode cX8_count 93 = .ok (.getfield 33, 3) := by decide +kernel
theorem dX8_count_96 : decode cX8_count 96 = .ok (.getfield 219, 3) := by decide +kernel
theorem dX8_count_99 : decode cX8_count 99 = .ok (.ireturn, 1) := by decide +kernel
theorem dX8_count_100 : decode cX8_count 100 = .ok (.iconst (-1), 1) := by decide +kernel
theorem dX8_count_101 : decode cX8_count 101 = .ok (.ireturn, 1) := by decide +kernel
theorem dX8_status_0 : decode cX8_status 0 = .ok (.aload_n 0, 1) := by decide +kernel
theorem dX8_status_1 : decode cX8_status 1 = .ok (.getfield 76, 3) := by decide +kernel
theorem dX8_status_4 : decode cX8_status 4 = .ok (.ireturn, 1) := by decide +kernel
theorem dX8_answered_0 : decode cX8_answered 0 = .ok (.aload_n 0, 1) := by decide +kernel
theorem dX8_answered_1 : decode cX8_answered 1 = .ok (.iload_n 1, 1) := by decide +kernel
theorem dX8_answered_2 : decode cX8_answered 2 = .ok (.iconst 0, 1) := by decide +kernel
theorem dX8_answered_3 : decode cX8_answered 3 = .ok (.invokestatic 222, 3) := by decide +kernel
theorem dX8_answered_6 : decode cX8_answered 6 = .ok (.putfield 76, 3) := by decide +kernel
theorem dX8_answered_9 : decode cX8_answered 9 = .ok (.iload_n 1, 1) := by decide +kernel
theorem dX8_answered_10 : decode cX8_answered 10 = .ok (.ireturn, 1) := by decide +kernel
theorem dX8_isWithin_0 : decode cX8_isWithin 0 = .ok (.iload_n 1, 1) := by decide +kernel
theorem dX8_isWithin_1 : decode cX8_isWithin 1 = .ok (.iload_n 0, 1) := by decide +kernel
theorem dX8_isWithin_2 : decode cX8_isWithin 2 = .ok (.if_icmp .gt 12, 3) := by decide +kernel
theorem dX8_isWithin_5 : decode cX8_isWithin 5 = .ok (.iload_n 0, 1) := by decide +kernel
theorem dX8_isWithin_6 : decode cX8_isWithin 6 = .ok (.iload_n 2, 1) := by decide +kernel
theorem dX8_isWithin_7 : decode cX8_isWithin 7 = .ok (.if_icmp .gt 7, 3) := by decide +kernel
theorem dX8_isWithin_10 : decode cX8_isWithin 10 = .ok (.iconst 1, 1) := by decide +kernel
theorem dX8_isWithin_11 : decode cX8_isWithin 11 = .ok (.goto 4, 3) := by decide +kernel
theorem dX8_isWithin_14 : decode cX8_isWithin 14 = .ok (.iconst 0, 1) := by decide +kernel
theorem dX8_isWithin_15 : decode cX8_isWithin 15 = .ok (.ireturn, 1) := by decide +kernel
set_option maxRecDepth 20000 in
theorem ggX8_isWind_X8_isWithin : GoodIn wsX8_isWind wsX8_isWithin := goodIn_r _ [4] (by decide +kernel) (by decide +kernel)
set_option maxRecDepth 20000 in
theorem gX8_isWind_X8_isWithin : GoodIn wsX8_isWind (va_wsS RX8 108 yX8_isWithin wsX8_isWithin) := goodIn_app (goodIn_of _ (by decide +kernel)) ggX8_isWind_X8_isWithin
theorem dX8_isWind_0 : decode cX8_isWind 0 = .ok (.iload_n 0, 1) := by decide +kernel
theorem dX8_isWind_1 : decode cX8_isWind 1 = .ok (.iconst 0, 1) := by decide +kernel
theorem dX8_isWind_2 : decode cX8_isWind 2 = .ok (.iconst 3, 1) := by decide +kernel
theorem dX8_isWind_3 : decode cX8_isWind 3 = .ok (.invokestatic 108, 3) := by decide +kernel
theorem dX8_isWind_6 : decode cX8_isWind 6 = .ok (.ireturn, 1) := by decide +kernel
set_option maxRecDepth 20000 in
theorem ggX8_isKnownDay_X8_isWithin : GoodIn wsX8_isKnownDay wsX8_isWithin := goodIn_r _ [4] (by decide +kernel) (by decide +kernel)
set_option maxRecDepth 20000 in
theorem gX8_isKnownDay_X8_isWithin : GoodIn wsX8_isKnownDay (va_wsS RX8 108 yX8_isWithin wsX8_isWithin) := goodIn_app (goodIn_of _ (by decide +kernel)) ggX8_isKnownDay_X8_isWithin
theorem dX8_isKnownDay_0 : decode cX8_isKnownDay 0 = .ok (.iload_n 0, 1) := by decide +kernel
theorem dX8_isKnownDay_1 : decode cX8_isKnownDay 1 = .ok (.iconst 0, 1) := by decide +kernel
theorem dX8_isKnownDay_2 : decode cX8_isKnownDay 2 = .ok (.sipush 1000, 3) := by decide +kernel
theorem dX8_isKnownDay_5 : decode cX8_isKnownDay 5 = .ok (.invokestatic 108, 3) := by decide +kernel
theorem dX8_isKnownDay_8 : decode cX8_isKnownDay 8 = .ok (.ireturn, 1) := by decide +kernel
set_option maxRecDepth 20000 in
theorem ggX8_isPassage_X8_isWithin : GoodIn wsX8_isPassage wsX8_isWithin := goodIn_r _ [4] (by decide +kernel) (by decide +kernel)
set_option maxRecDepth 20000 in
theorem gX8_isPassage_X8_isWithin : GoodIn wsX8_isPassage (va_wsS RX8 108 yX8_isWithin wsX8_isWithin) := goodIn_app (goodIn_of _ (by decide +kernel)) ggX8_isPassage_X8_isWithin
set_option maxRecDepth 20000 in
theorem ggX8_isPassage_X8_isKnownDay : GoodIn wsX8_isPassage wsX8_isKnownDay := goodIn_r _ [7, 1, 2, 3, 4] (by decide +kernel) (by decide +kernel)
set_option maxRecDepth 20000 in
theorem gX8_isPassage_X8_isKnownDay : GoodIn wsX8_isPassage (va_wsS RX8 91 yX8_isKnownDay wsX8_isKnownDay) := goodIn_app (goodIn_of _ (by decide +kernel)) ggX8_isPassage_X8_isKnownDay
theorem dX8_isPassage_0 : decode cX8_isPassage 0 = .ok (.iload_n 0, 1) := by decide +kernel
theorem dX8_isPassage_1 : decode cX8_isPassage 1 = .ok (.iconst 0, 1) := by decide +kernel
theorem dX8_isPassage_2 : decode cX8_isPassage 2 = .ok (.bipush 120, 2) := by decide +kernel
theorem dX8_isPassage_4 : decode cX8_isPassage 4 = .ok (.invokestatic 108, 3) := by decide +kernel
theorem dX8_isPassage_7 : decode cX8_isPassage 7 = .ok (.ifCond .eq 24, 3) := by decide +kernel
theorem dX8_isPassage_10 : decode cX8_isPassage 10 = .ok (.iload_n 1, 1) := by decide +kernel
theorem dX8_isPassage_11 : decode cX8_isPassage 11 = .ok (.iconst 0, 1) := by decide +kernel
theorem dX8_isPassage_12 : decode cX8_isPassage 12 = .ok (.bipush 12, 2) := by decide +kernel
theorem dX8_isPassage_14 : decode cX8_isPassage 14 = .ok (.invokestatic 108, 3) := by decide +kernel
theorem dX8_isPassage_17 : decode cX8_isPassage 17 = .ok (.ifCond .eq 14, 3) := by decide +kernel
theorem dX8_isPassage_20 : decode cX8_isPassage 20 = .ok (.iload_n 2, 1) := by decide +kernel
theorem dX8_isPassage_21 : decode cX8_isPassage 21 = .ok (.invokestatic 91, 3) := by decide +kernel
theorem dX8_isPassage_24 : decode cX8_isPassage 24 = .ok (.ifCond .eq 7, 3) := by decide +kernel
theorem dX8_isPassage_27 : decode cX8_isPassage 27 = .ok (.iconst 1, 1) := by decide +kernel
theorem dX8_isPassage_28 : decode cX8_isPassage 28 = .ok (.goto 4, 3) := by decide +kernel
theorem dX8_isPassage_31 : decode cX8_isPassage 31 = .ok (.iconst 0, 1) := by decide +kernel
theorem dX8_isPassage_32 : decode cX8_isPassage 32 = .ok (.ireturn, 1) := by decide +kernel
set_option maxRecDepth 20000 in
theorem ggX8_isTerm_X8_isWithin : GoodIn wsX8_isTerm wsX8_isWithin := goodIn_r _ [4] (by decide +kernel) (by decide +kernel)
set_option maxRecDepth 20000 in
theorem gX8_isTerm_X8_isWithin : GoodIn wsX8_isTerm (va_wsS RX8 108 yX8_isWithin wsX8_isWithin) := goodIn_app (goodIn_of _ (by decide +kernel)) ggX8_isTerm_X8_isWithin
theorem dX8_isTerm_0 : decode cX8_isTerm 0 = .ok (.iload_n 0, 1) := by decide +kernel
theorem dX8_isTerm_1 : decode cX8_isTerm 1 = .ok (.iconst 0, 1) := by decide +kernel
theorem dX8_isTerm_2 : decode cX8_isTerm 2 = .ok (.sipush 10000, 3) := by decide +kernel
theorem dX8_isTerm_5 : decode cX8_isTerm 5 = .ok (.invokestatic 108, 3) := by decide +kernel
theorem dX8_isTerm_8 : decode cX8_isTerm 8 = .ok (.ireturn, 1) := by decide +kernel
theorem dX9_init_0 : decode cX9_init 0 = .ok (.aload_n 0, 1) := by decide +kernel
theorem dX9_init_1 : decode cX9_init 1 = .ok (.invokespecial 1, 3) := by decide +kernel
theorem dX9_init_4 : decode cX9_init 4 = .ok (.aload_n 0, 1) := by decide +kernel
theorem dX9_init_5 : decode cX9_init 5 = .ok (.sipush 160, 3) := by decide +kernel
theorem dX9_init_8 : decode cX9_init 8 = .ok (.newarray .int, 2) := by decide +kernel
theorem dX9_init_10 : decode cX9_init 10 = .ok (.putfield 7, 3) := by decide +kernel
theorem dX9_init_13 : decode cX9_init 13 = .ok (.aload_n 0, 1) := by decide +kernel
theorem dX9_init_14 : decode cX9_init 14 = .ok (.bipush 40, 2) := by decide +kernel
theorem dX9_init_16 : decode cX9_init 16 = .ok (.newarray .int, 2) := by decide +kernel
theorem dX9_init_18 : decode cX9_init 18 = .ok (.putfield 13, 3) := by decide +kernel
theorem dX9_init_21 : decode cX9_init 21 = .ok (.aload_n 0, 1) := by decide +kernel
theorem dX9_init_22 : decode cX9_init 22 = .ok (.iconst 4, 1) := by decide +kernel
theorem dX9_init_23 : decode cX9_init 23 = .ok (.newarray .int, 2) := by decide +kernel
theorem dX9_init_25 : decode cX9_init 25 = .ok (.putfield 16, 3) := by decide +kernel
theorem dX9_init_28 : decode cX9_init 28 = .ok (.aload_n 0, 1) := by decide +kernel
theorem dX9_init_29 : decode cX9_init 29 = .ok (.sipush 20449, 3) := by decide +kernel
theorem dX9_init_32 : decode cX9_init 32 = .ok (.newarray .long, 2) := by decide +kernel
theorem dX9_init_34 : decode cX9_init 34 = .ok (.putfield 19, 3) := by decide +kernel
theorem dX9_init_37 : decode cX9_init 37 = .ok (.aload_n 0, 1) := by decide +kernel
theorem dX9_init_38 : decode cX9_init 38 = .ok (.sipush 20449, 3) := by decide +kernel
theorem dX9_init_41 : decode cX9_init 41 = .ok (.newarray .long, 2) := by decide +kernel
theorem dX9_init_43 : decode cX9_init 43 = .ok (.putfield 23, 3) := by decide +kernel
theorem dX9_init_46 : decode cX9_init 46 = .ok (.aload_n 0, 1) := by decide +kernel
theorem dX9_init_47 : decode cX9_init 47 = .ok (.iconst 4, 1) := by decide +kernel
theorem dX9_init_48 : decode cX9_init 48 = .ok (.newarray .int, 2) := by decide +kernel
theorem dX9_init_50 : decode cX9_init 50 = .ok (.putfield 26, 3) := by decide +kernel
theorem dX9_init_53 : decode cX9_init 53 = .ok (.aload_n 0, 1) := by decide +kernel
theorem dX9_init_54 : decode cX9_init 54 = .ok (.bipush 12, 2) := by decide +kernel
theorem dX9_init_56 : decode cX9_init 56 = .ok (.newarray .int, 2) := by decide +kernel
theorem dX9_init_58 : decode cX9_init 58 = .ok (.putfield 29, 3) := by decide +kernel
theorem dX9_init_61 : decode cX9_init 61 = .ok (.aload_n 0, 1) := by decide +kernel
theorem dX9_init_62 : decode cX9_init 62 = .ok (.bipush 12, 2) := by decide +kernel
theorem dX9_init_64 : decode cX9_init 64 = .ok (.newarray .int, 2) := by decide +kernel
theorem dX9_init_66 : decode cX9_init 66 = .ok (.putfield 32, 3) := by decide +kernel
theorem dX9_init_69 : decode cX9_init 69 = .ok (.aload_n 0, 1) := by decide +kernel
theorem dX9_init_70 : decode cX9_init 70 = .ok (.bipush 12, 2) := by decide +kernel
theorem dX9_init_72 : decode cX9_init 72 = .ok (.newarray .int, 2) := by decide +kernel
theorem dX9_init_74 : decode cX9_init 74 = .ok (.putfield 35, 3) := by decide +kernel
theorem dX9_init_77 : decode cX9_init 77 = .ok (.aload_n 0, 1) := by decide +kernel
theorem dX9_init_78 : decode cX9_init 78 = .ok (.bipush 12, 2) := by decide +kernel
theorem dX9_init_80 : decode cX9_init 80 = .ok (.newarray .int, 2) := by decide +kernel
theorem dX9_init_82 : decode cX9_init 82 = .ok (.dup, 1) := by decide +kernel
theorem dX9_init_83 : decode cX9_init 83 = .ok (.iconst 0, 1) := by decide +kernel
theorem dX9_init_84 : decode cX9_init 84 = .ok (.iconst (-1), 1) := by decide +kernel
theorem dX9_init_85 : decode cX9_init 85 = .ok (.iastore, 1) := by decide +kernel
theorem dX9_init_86 : decode cX9_init 86 = .ok (.dup, 1) := by decide +kernel
theorem dX9_init_87 : decode cX9_init 87 = .ok (.iconst 1, 1) := by decide +kernel
theorem dX9_init_88 : decode cX9_init 88 = .ok (.iconst (-1), 1) := by decide +kernel
theorem dX9_init_89 : decode cX9_init 89 = .ok (.iastore, 1) := by decide +kernel
theorem dX9_init_90 : decode cX9_init 90 = .ok (.dup, 1) := by decide +kernel
theorem dX9_init_91 : decode cX9_init 91 = .ok (.iconst 2, 1) := by decide +kernel
theorem dX9_init_92 : decode cX9_init 92 = .ok (.iconst (-1), 1) := by decide +kernel
theorem dX9_init_93 : decode cX9_init 93 = .ok (.iastore, 1) := by decide +kernel
theorem dX9_init_94 : decode cX9_init 94 = .ok (.dup, 1) := by decide +kernel
theorem dX9_init_95 : decode cX9_init 95 = .ok (.iconst 3, 1) := by decide +kernel
theorem dX9_init_96 : decode cX9_init 96 = .ok (.iconst (-1), 1) := by decide +kernel
theorem dX9_init_97 : decode cX9_init 97 = .ok (.iastore, 1) := by decide +kernel
theorem dX9_init_98 : decode cX9_init 98 = .ok (.dup, 1) := by decide +kernel
theorem dX9_init_99 : decode cX9_init 99 = .ok (.iconst 4, 1) := by decide +kernel
theorem dX9_init_100 : decode cX9_init 100 = .ok (.iconst (-1), 1) := by decide +kernel
theorem dX9_init_101 : decode cX9_init 101 = .ok (.iastore, 1) := by decide +kernel
theorem dX9_init_102 : decode cX9_init 102 = .ok (.dup, 1) := by decide +kernel
theorem dX9_init_103 : decode cX9_init 103 = .ok (.iconst 5, 1) := by decide +kernel
theorem dX9_init_104 : decode cX9_init 104 = .ok (.iconst (-1), 1) := by decide +kernel
theorem dX9_init_105 : decode cX9_init 105 = .ok (.iastore, 1) := by decide +kernel
theorem dX9_init_106 : decode cX9_init 106 = .ok (.dup, 1) := by decide +kernel
theorem dX9_init_107 : decode cX9_init 107 = .ok (.bipush 6, 2) := by decide +kernel
theorem dX9_init_109 : decode cX9_init 109 = .ok (.iconst (-1), 1) := by decide +kernel
theorem dX9_init_110 : decode cX9_init 110 = .ok (.iastore, 1) := by decide +kernel
theorem dX9_init_111 : decode cX9_init 111 = .ok (.dup, 1) := by decide +kernel
theorem dX9_init_112 : decode cX9_init 112 = .ok (.bipush 7, 2) := by decide +kernel
theorem dX9_init_114 : decode cX9_init 114 = .ok (.iconst (-1), 1) := by decide +kernel
theorem dX9_init_115 : decode cX9_init 115 = .ok (.iastore, 1) := by decide +kernel
theorem dX9_init_116 : decode cX9_init 116 = .ok (.dup, 1) := by decide +kernel
theorem dX9_init_117 : decode cX9_init 117 = .ok (.bipush 8, 2) := by decide +kernel
theorem dX9_init_119 : decode cX9_init 119 = .ok (.iconst (-1), 1) := by decide +kernel
theorem dX9_init_120 : decode cX9_init 120 = .ok (.iastore, 1) := by decide +kernel
theorem dX9_init_121 : decode cX9_init 121 = .ok (.dup, 1) := by decide +kernel
theorem dX9_init_122 : decode cX9_init 122 = .ok (.bipush 9, 2) := by decide +kernel
theorem dX9_init_124 : decode cX9_init 124 = .ok (.iconst (-1), 1) := by decide +kernel
theorem dX9_init_125 : decode cX9_init 125 = .ok (.iastore, 1) := by decide +kernel
theorem dX9_init_126 : decode cX9_init 126 = .ok (.dup, 1) := by decide +kernel
theorem dX9_init_127 : decode cX9_init 127 = .ok (.bipush 10, 2) := by decide +kernel
theorem dX9_init_129 : decode cX9_init 129 = .ok (.iconst (-1), 1) := by decide +kernel
theorem dX9_init_130 : decode cX9_init 130 = .ok (.iastore, 1) := by decide +kernel
theorem dX9_init_131 : decode cX9_init 131 = .ok (.dup, 1) := by decide +kernel
theorem dX9_init_132 : decode cX9_init 132 = .ok (.bipush 11, 2) := by decide +kernel
theorem dX9_init_134 : decode cX9_init 134 = .ok (.iconst (-1), 1) := by decide +kernel
theorem dX9_init_135 : decode cX9_init 135 = .ok (.iastore, 1) := by decide +kernel
theorem dX9_init_136 : decode cX9_init 136 = .ok (.putfield 38, 3) := by decide +kernel
theorem dX9_init_139 : decode cX9_init 139 = .ok (.aload_n 0, 1) := by decide +kernel
theorem dX9_init_140 : decode cX9_init 140 = .ok (.bipush 12, 2) := by decide +kernel
theorem dX9_init_142 : decode cX9_init 142 = .ok (.newarray .int, 2) := by decide +kernel
theorem dX9_init_144 : decode cX9_init 144 = .ok (.dup, 1) := by decide +kernel
theorem dX9_init_145 : decode cX9_init 145 = .ok (.iconst 0, 1) := by decide +kernel
theorem dX9_init_146 : decode cX9_init 146 = .ok (.iconst (-1), 1) := by decide +kernel
