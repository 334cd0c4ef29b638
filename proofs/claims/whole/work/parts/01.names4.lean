theorem dX8_stitch_127 : decode cX8_stitch 127 = .ok (.goto 4, 3) := by decide +kernel
theorem dX8_stitch_130 : decode cX8_stitch 130 = .ok (.iconst 0, 1) := by decide +kernel
theorem dX8_stitch_131 : decode cX8_stitch 131 = .ok (.ireturn, 1) := by decide +kernel
theorem dX8_stitch_132 : decode cX8_stitch 132 = .ok (.aload_n 0, 1) := by decide +kernel
theorem dX8_stitch_133 : decode cX8_stitch 133 = .ok (.ldc 149, 2) := by decide +kernel
theorem dX8_stitch_135 : decode cX8_stitch 135 = .ok (.invokevirtual 150, 3) := by decide +kernel
theorem dX8_stitch_138 : decode cX8_stitch 138 = .ok (.ireturn, 1) := by decide +kernel
set_option maxRecDepth 20000 in
theorem ggX8_ahead_X8_isStitch : GoodIn wsX8_ahead wsX8_isStitch := goodIn_r _ [7, 8, 9, 10, 6, 11, 18, 19, 20, 21, 22, 23, 24, 25, 26, 27, 28, 29, 30, 31, 32, 33, 34, 35, 36, 37, 38, 39, 40, 41, 42, 43, 44, 45, 46, 47, 48, 49, 50] (by decide +kernel) (by decide +kernel)
set_option maxRecDepth 20000 in
theorem gX8_ahead_X8_isStitch : GoodIn wsX8_ahead (wsV RX8 250 RX8 yX8_isStitch wsX8_isStitch) := goodIn_app (goodIn_of _ (by decide +kernel)) ggX8_ahead_X8_isStitch
set_option maxRecDepth 20000 in
theorem ggX8_ahead_X8_errs : GoodIn wsX8_ahead wsX8_errs := goodIn_r _ [15, 16, 17, 18, 19, 20, 21, 22, 23, 24, 25, 26, 27, 28, 29, 30, 31, 32, 33, 34, 35, 36, 37, 38, 39, 40, 41, 42, 43, 44, 45, 46, 47, 48, 49, 50] (by decide +kernel) (by decide +kernel)
set_option maxRecDepth 20000 in
theorem gX8_ahead_X8_errs : GoodIn wsX8_ahead (wsV RX8 150 RX8 yX8_errs wsX8_errs) := goodIn_app (goodIn_of _ (by decide +kernel)) ggX8_ahead_X8_errs
theorem dX8_ahead_0 : decode cX8_ahead 0 = .ok (.aload_n 0, 1) := by decide +kernel
theorem dX8_ahead_1 : decode cX8_ahead 1 = .ok (.iload_n 1, 1) := by decide +kernel
theorem dX8_ahead_2 : decode cX8_ahead 2 = .ok (.i2l, 1) := by decide +kernel
theorem dX8_ahead_3 : decode cX8_ahead 3 = .ok (.invokevirtual 250, 3) := by decide +kernel
theorem dX8_ahead_6 : decode cX8_ahead 6 = .ok (.ifCond .eq 26, 3) := by decide +kernel
theorem dX8_ahead_9 : decode cX8_ahead 9 = .ok (.aload_n 0, 1) := by decide +kernel
theorem dX8_ahead_10 : decode cX8_ahead 10 = .ok (.iload_n 2, 1) := by decide +kernel
theorem dX8_ahead_11 : decode cX8_ahead 11 = .ok (.i2l, 1) := by decide +kernel
theorem dX8_ahead_12 : decode cX8_ahead 12 = .ok (.invokevirtual 250, 3) := by decide +kernel
theorem dX8_ahead_15 : decode cX8_ahead 15 = .ok (.ifCond .eq 17, 3) := by decide +kernel
theorem dX8_ahead_18 : decode cX8_ahead 18 = .ok (.aload_n 0, 1) := by decide +kernel
theorem dX8_ahead_19 : decode cX8_ahead 19 = .ok (.getfield 34, 3) := by decide +kernel
theorem dX8_ahead_22 : decode cX8_ahead 22 = .ok (.iload_n 2, 1) := by decide +kernel
theorem dX8_ahead_23 : decode cX8_ahead 23 = .ok (.laload, 1) := by decide +kernel
theorem dX8_ahead_24 : decode cX8_ahead 24 = .ok (.iload_n 1, 1) := by decide +kernel
theorem dX8_ahead_25 : decode cX8_ahead 25 = .ok (.lshr, 1) := by decide +kernel
theorem dX8_ahead_26 : decode cX8_ahead 26 = .ok (.lconst 1, 1) := by decide +kernel
theorem dX8_ahead_27 : decode cX8_ahead 27 = .ok (.land, 1) := by decide +kernel
theorem dX8_ahead_28 : decode cX8_ahead 28 = .ok (.l2i, 1) := by decide +kernel
theorem dX8_ahead_29 : decode cX8_ahead 29 = .ok (.goto 9, 3) := by decide +kernel
theorem dX8_ahead_32 : decode cX8_ahead 32 = .ok (.aload_n 0, 1) := by decide +kernel
theorem dX8_ahead_33 : decode cX8_ahead 33 = .ok (.ldc 149, 2) := by decide +kernel
theorem dX8_ahead_35 : decode cX8_ahead 35 = .ok (.invokevirtual 150, 3) := by decide +kernel
theorem dX8_ahead_38 : decode cX8_ahead 38 = .ok (.ireturn, 1) := by decide +kernel
theorem dX8_forgets_0 : decode cX8_forgets 0 = .ok (.iconst 0, 1) := by decide +kernel
theorem dX8_forgets_1 : decode cX8_forgets 1 = .ok (.istore_n 1, 1) := by decide +kernel
theorem dX8_forgets_2 : decode cX8_forgets 2 = .ok (.iload_n 1, 1) := by decide +kernel
theorem dX8_forgets_3 : decode cX8_forgets 3 = .ok (.sipush 8192, 3) := by decide +kernel
theorem dX8_forgets_6 : decode cX8_forgets 6 = .ok (.if_icmp .ge 16, 3) := by decide +kernel
theorem dX8_forgets_9 : decode cX8_forgets 9 = .ok (.aload_n 0, 1) := by decide +kernel
theorem dX8_forgets_10 : decode cX8_forgets 10 = .ok (.getfield 74, 3) := by decide +kernel
theorem dX8_forgets_13 : decode cX8_forgets 13 = .ok (.iload_n 1, 1) := by decide +kernel
theorem dX8_forgets_14 : decode cX8_forgets 14 = .ok (.iconst (-1), 1) := by decide +kernel
theorem dX8_forgets_15 : decode cX8_forgets 15 = .ok (.iastore, 1) := by decide +kernel
theorem dX8_forgets_16 : decode cX8_forgets 16 = .ok (.iinc 1 1, 3) := by decide +kernel
theorem dX8_forgets_19 : decode cX8_forgets 19 = .ok (.goto (-17), 3) := by decide +kernel
theorem dX8_forgets_22 : decode cX8_forgets 22 = .ok (.return_, 1) := by decide +kernel
set_option maxRecDepth 20000 in
theorem ggX8_ways_X8_bits : GoodIn wsX8_ways wsX8_bits := goodIn_r _ [9] (by decide +kernel) (by decide +kernel)
set_option maxRecDepth 20000 in
theorem gX8_ways_X8_bits : GoodIn wsX8_ways (va_wsS RX8 254 yX8_bits wsX8_bits) := goodIn_app (goodIn_of _ (by decide +kernel)) ggX8_ways_X8_bits
set_option maxRecDepth 20000 in
theorem ggX8_ways_X8_ways : GoodIn wsX8_ways wsX8_ways := goodIn_r _ [0, 1, 2, 3, 4, 5, 6, 7, 8, 9, 10, 11, 12, 13, 14, 15, 16, 17, 18, 19, 20, 21, 22, 23, 24, 25, 26, 27, 28, 29, 30, 31, 32, 33, 34, 35, 36, 37, 38, 39, 40, 41, 42, 43, 44, 45] (by decide +kernel) (by decide +kernel)
set_option maxRecDepth 20000 in
theorem gX8_ways_X8_ways : GoodIn wsX8_ways (wsV RX8 262 RX8 yX8_ways wsX8_ways) := goodIn_app (goodIn_of _ (by decide +kernel)) ggX8_ways_X8_ways
theorem dX8_ways_0 : decode cX8_ways 0 = .ok (.iload_n 1, 1) := by decide +kernel
theorem dX8_ways_1 : decode cX8_ways 1 = .ok (.i2l, 1) := by decide +kernel
theorem dX8_ways_2 : decode cX8_ways 2 = .ok (.invokestatic 254, 3) := by decide +kernel
theorem dX8_ways_5 : decode cX8_ways 5 = .ok (.aload_n 0, 1) := by decide +kernel
theorem dX8_ways_6 : decode cX8_ways 6 = .ok (.getfield 120, 3) := by decide +kernel
theorem dX8_ways_9 : decode cX8_ways 9 = .ok (.if_icmp .ne 5, 3) := by decide +kernel
theorem dX8_ways_12 : decode cX8_ways 12 = .ok (.lconst 1, 1) := by decide +kernel
theorem dX8_ways_13 : decode cX8_ways 13 = .ok (.lreturn, 1) := by decide +kernel
theorem dX8_ways_14 : decode cX8_ways 14 = .ok (.iload_n 1, 1) := by decide +kernel
theorem dX8_ways_15 : decode cX8_ways 15 = .ok (.ldc_w 261, 3) := by decide +kernel
theorem dX8_ways_18 : decode cX8_ways 18 = .ok (.imul, 1) := by decide +kernel
theorem dX8_ways_19 : decode cX8_ways 19 = .ok (.bipush 7, 2) := by decide +kernel
theorem dX8_ways_21 : decode cX8_ways 21 = .ok (.iushr, 1) := by decide +kernel
theorem dX8_ways_22 : decode cX8_ways 22 = .ok (.sipush 8192, 3) := by decide +kernel
theorem dX8_ways_25 : decode cX8_ways 25 = .ok (.irem, 1) := by decide +kernel
theorem dX8_ways_26 : decode cX8_ways 26 = .ok (.istore_n 2, 1) := by decide +kernel
theorem dX8_ways_27 : decode cX8_ways 27 = .ok (.aload_n 0, 1) := by decide +kernel
theorem dX8_ways_28 : decode cX8_ways 28 = .ok (.getfield 74, 3) := by decide +kernel
theorem dX8_ways_31 : decode cX8_ways 31 = .ok (.iload_n 2, 1) := by decide +kernel
theorem dX8_ways_32 : decode cX8_ways 32 = .ok (.iaload, 1) := by decide +kernel
theorem dX8_ways_33 : decode cX8_ways 33 = .ok (.ifCond .lt 24, 3) := by decide +kernel
theorem dX8_ways_36 : decode cX8_ways 36 = .ok (.aload_n 0, 1) := by decide +kernel
theorem dX8_ways_37 : decode cX8_ways 37 = .ok (.getfield 74, 3) := by decide +kernel
theorem dX8_ways_40 : decode cX8_ways 40 = .ok (.iload_n 2, 1) := by decide +kernel
theorem dX8_ways_41 : decode cX8_ways 41 = .ok (.iaload, 1) := by decide +kernel
theorem dX8_ways_42 : decode cX8_ways 42 = .ok (.iload_n 1, 1) := by decide +kernel
theorem dX8_ways_43 : decode cX8_ways 43 = .ok (.if_icmp .eq 14, 3) := by decide +kernel
theorem dX8_ways_46 : decode cX8_ways 46 = .ok (.iload_n 2, 1) := by decide +kernel
theorem dX8_ways_47 : decode cX8_ways 47 = .ok (.iconst 1, 1) := by decide +kernel
theorem dX8_ways_48 : decode cX8_ways 48 = .ok (.iadd, 1) := by decide +kernel
theorem dX8_ways_49 : decode cX8_ways 49 = .ok (.sipush 8192, 3) := by decide +kernel
theorem dX8_ways_52 : decode cX8_ways 52 = .ok (.irem, 1) := by decide +kernel
theorem dX8_ways_53 : decode cX8_ways 53 = .ok (.istore_n 2, 1) := by decide +kernel
theorem dX8_ways_54 : decode cX8_ways 54 = .ok (.goto (-27), 3) := by decide +kernel
theorem dX8_ways_57 : decode cX8_ways 57 = .ok (.aload_n 0, 1) := by decide +kernel
theorem dX8_ways_58 : decode cX8_ways 58 = .ok (.getfield 74, 3) := by decide +kernel
theorem dX8_ways_61 : decode cX8_ways 61 = .ok (.iload_n 2, 1) := by decide +kernel
theorem dX8_ways_62 : decode cX8_ways 62 = .ok (.iaload, 1) := by decide +kernel
theorem dX8_ways_63 : decode cX8_ways 63 = .ok (.iload_n 1, 1) := by decide +kernel
theorem dX8_ways_64 : decode cX8_ways 64 = .ok (.if_icmp .ne 10, 3) := by decide +kernel
theorem dX8_ways_67 : decode cX8_ways 67 = .ok (.aload_n 0, 1) := by decide +kernel
theorem dX8_ways_68 : decode cX8_ways 68 = .ok (.getfield 77, 3) := by decide +kernel
theorem dX8_ways_71 : decode cX8_ways 71 = .ok (.iload_n 2, 1) := by decide +kernel
theorem dX8_ways_72 : decode cX8_ways 72 = .ok (.laload, 1) := by decide +kernel
theorem dX8_ways_73 : decode cX8_ways 73 = .ok (.lreturn, 1) := by decide +kernel
theorem dX8_ways_74 : decode cX8_ways 74 = .ok (.lconst 0, 1) := by decide +kernel
theorem dX8_ways_75 : decode cX8_ways 75 = .ok (.lstore_n 3, 1) := by decide +kernel
theorem dX8_ways_76 : decode cX8_ways 76 = .ok (.iconst 0, 1) := by decide +kernel
theorem dX8_ways_77 : decode cX8_ways 77 = .ok (.istore 5, 2) := by decide +kernel
theorem dX8_ways_79 : decode cX8_ways 79 = .ok (.iload 5, 2) := by decide +kernel
theorem dX8_ways_81 : decode cX8_ways 81 = .ok (.aload_n 0, 1) := by decide +kernel
theorem dX8_ways_82 : decode cX8_ways 82 = .ok (.getfield 120, 3) := by decide +kernel
theorem dX8_ways_85 : decode cX8_ways 85 = .ok (.if_icmp .ge 48, 3) := by decide +kernel
theorem dX8_ways_88 : decode cX8_ways 88 = .ok (.iload_n 1, 1) := by decide +kernel
theorem dX8_ways_89 : decode cX8_ways 89 = .ok (.iload 5, 2) := by decide +kernel
theorem dX8_ways_91 : decode cX8_ways 91 = .ok (.ishr, 1) := by decide +kernel
theorem dX8_ways_92 : decode cX8_ways 92 = .ok (.iconst 1, 1) := by decide +kernel
theorem dX8_ways_93 : decode cX8_ways 93 = .ok (.iand, 1) := by decide +kernel
theorem dX8_ways_94 : decode cX8_ways 94 = .ok (.ifCond .ne 33, 3) := by decide +kernel
theorem dX8_ways_97 : decode cX8_ways 97 = .ok (.aload_n 0, 1) := by decide +kernel
theorem dX8_ways_98 : decode cX8_ways 98 = .ok (.getfield 34, 3) := by decide +kernel
theorem dX8_ways_101 : decode cX8_ways 101 = .ok (.iload 5, 2) := by decide +kernel
theorem dX8_ways_103 : decode cX8_ways 103 = .ok (.laload, 1) := by decide +kernel
theorem dX8_ways_104 : decode cX8_ways 104 = .ok (.iload_n 1, 1) := by decide +kernel
theorem dX8_ways_105 : decode cX8_ways 105 = .ok (.iconst (-1), 1) := by decide +kernel
theorem dX8_ways_106 : decode cX8_ways 106 = .ok (.ixor, 1) := by decide +kernel
theorem dX8_ways_107 : decode cX8_ways 107 = .ok (.i2l, 1) := by decide +kernel
theorem dX8_ways_108 : decode cX8_ways 108 = .ok (.land, 1) := by decide +kernel
theorem dX8_ways_109 : decode cX8_ways 109 = .ok (.lconst 0, 1) := by decide +kernel
theorem dX8_ways_110 : decode cX8_ways 110 = .ok (.lcmp, 1) := by decide +kernel
theorem dX8_ways_111 : decode cX8_ways 111 = .ok (.ifCond .ne 16, 3) := by decide +kernel
theorem dX8_ways_114 : decode cX8_ways 114 = .ok (.lload_n 3, 1) := by decide +kernel
theorem dX8_ways_115 : decode cX8_ways 115 = .ok (.aload_n 0, 1) := by decide +kernel
theorem dX8_ways_116 : decode cX8_ways 116 = .ok (.iload_n 1, 1) := by decide +kernel
theorem dX8_ways_117 : decode cX8_ways 117 = .ok (.iconst 1, 1) := by decide +kernel
theorem dX8_ways_118 : decode cX8_ways 118 = .ok (.iload 5, 2) := by decide +kernel
theorem dX8_ways_120 : decode cX8_ways 120 = .ok (.ishl, 1) := by decide +kernel
theorem dX8_ways_121 : decode cX8_ways 121 = .ok (.ior, 1) := by decide +kernel
theorem dX8_ways_122 : decode cX8_ways 122 = .ok (.invokevirtual 262, 3) := by decide +kernel
theorem dX8_ways_125 : decode cX8_ways 125 = .ok (.ladd, 1) := by decide +kernel
theorem dX8_ways_126 : decode cX8_ways 126 = .ok (.lstore_n 3, 1) := by decide +kernel
theorem dX8_ways_127 : decode cX8_ways 127 = .ok (.iinc 5 1, 3) := by decide +kernel
theorem dX8_ways_130 : decode cX8_ways 130 = .ok (.goto (-51), 3) := by decide +kernel
theorem dX8_ways_133 : decode cX8_ways 133 = .ok (.iload_n 1, 1) := by decide +kernel
theorem dX8_ways_134 : decode cX8_ways 134 = .ok (.ldc_w 261, 3) := by decide +kernel
theorem dX8_ways_137 : decode cX8_ways 137 = .ok (.imul, 1) := by decide +kernel
theorem dX8_ways_138 : decode cX8_ways 138 = .ok (.bipush 7, 2) := by decide +kernel
theorem dX8_ways_140 : decode cX8_ways 140 = .ok (.iushr, 1) := by decide +kernel
theorem dX8_ways_141 : decode cX8_ways 141 = .ok (.sipush 8192, 3) := by decide +kernel
theorem dX8_ways_144 : decode cX8_ways 144 = .ok (.irem, 1) := by decide +kernel
theorem dX8_ways_145 : decode cX8_ways 145 = .ok (.istore_n 2, 1) := by decide +kernel
theorem dX8_ways_146 : decode cX8_ways 146 = .ok (.aload_n 0, 1) := by decide +kernel
theorem dX8_ways_147 : decode cX8_ways 147 = .ok (.getfield 74, 3) := by decide +kernel
theorem dX8_ways_150 : decode cX8_ways 150 = .ok (.iload_n 2, 1) := by decide +kernel
theorem dX8_ways_151 : decode cX8_ways 151 = .ok (.iaload, 1) := by decide +kernel
theorem dX8_ways_152 : decode cX8_ways 152 = .ok (.ifCond .lt 14, 3) := by decide +kernel
theorem dX8_ways_155 : decode cX8_ways 155 = .ok (.iload_n 2, 1) := by decide +kernel
theorem dX8_ways_156 : decode cX8_ways 156 = .ok (.iconst 1, 1) := by decide +kernel
theorem dX8_ways_157 : decode cX8_ways 157 = .ok (.iadd, 1) := by decide +kernel
theorem dX8_ways_158 : decode cX8_ways 158 = .ok (.sipush 8192, 3) := by decide +kernel
theorem dX8_ways_161 : decode cX8_ways 161 = .ok (.irem, 1) := by decide +kernel
theorem dX8_ways_162 : decode cX8_ways 162 = .ok (.istore_n 2, 1) := by decide +kernel
theorem dX8_ways_163 : decode cX8_ways 163 = .ok (.goto (-17), 3) := by decide +kernel
theorem dX8_ways_166 : decode cX8_ways 166 = .ok (.aload_n 0, 1) := by decide +kernel
theorem dX8_ways_167 : decode cX8_ways 167 = .ok (.getfield 74, 3) := by decide +kernel
theorem dX8_ways_170 : decode cX8_ways 170 = .ok (.iload_n 2, 1) := by decide +kernel
theorem dX8_ways_171 : decode cX8_ways 171 = .ok (.iload_n 1, 1) := by decide +kernel
theorem dX8_ways_172 : decode cX8_ways 172 = .ok (.iastore, 1) := by decide +kernel
theorem dX8_ways_173 : decode cX8_ways 173 = .ok (.aload_n 0, 1) := by decide +kernel
theorem dX8_ways_174 : decode cX8_ways 174 = .ok (.getfield 77, 3) := by decide +kernel
theorem dX8_ways_177 : decode cX8_ways 177 = .ok (.iload_n 2, 1) := by decide +kernel
theorem dX8_ways_178 : decode cX8_ways 178 = .ok (.lload_n 3, 1) := by decide +kernel
theorem dX8_ways_179 : decode cX8_ways 179 = .ok (.lastore, 1) := by decide +kernel
theorem dX8_ways_180 : decode cX8_ways 180 = .ok (.lload_n 3, 1) := by decide +kernel
theorem dX8_ways_181 : decode cX8_ways 181 = .ok (.lreturn, 1) := by decide +kernel
set_option maxRecDepth 20000 in
theorem ggX8_orders_X8_errsLong : GoodIn wsX8_orders wsX8_errsLong := goodIn_r _ [7, 8, 9, 10, 26, 27, 28, 29, 30, 31, 32, 33, 34, 35, 36, 37, 38, 39, 40, 41, 42, 43, 44, 45, 46, 47, 48, 49, 50, 51, 52, 53, 54, 55, 56, 57, 58] (by decide +kernel) (by decide +kernel)
set_option maxRecDepth 20000 in
theorem gX8_orders_X8_errsLong : GoodIn wsX8_orders (wsV RX8 266 RX8 yX8_errsLong wsX8_errsLong) := goodIn_app (goodIn_of _ (by decide +kernel)) ggX8_orders_X8_errsLong
set_option maxRecDepth 20000 in
theorem ggX8_orders_X8_forgets : GoodIn wsX8_orders wsX8_forgets := goodIn_r _ [14, 15, 26, 27, 28, 29, 30, 31, 32, 33, 34, 35, 36, 37, 38, 39, 40, 41, 42, 43, 44, 45, 46, 47, 48, 49, 50, 51, 52, 53, 54, 55, 56, 57, 58] (by decide +kernel) (by decide +kernel)
set_option maxRecDepth 20000 in
theorem gX8_orders_X8_forgets : GoodIn wsX8_orders (wsV RX8 269 RX8 yX8_forgets wsX8_forgets) := goodIn_app (goodIn_of _ (by decide +kernel)) ggX8_orders_X8_forgets
set_option maxRecDepth 20000 in
theorem ggX8_orders_X8_ways : GoodIn wsX8_orders wsX8_ways := goodIn_r _ [19, 1, 20, 15, 21, 22, 23, 24, 6, 25, 16, 17, 18, 26, 27, 28, 29, 30, 31, 32, 33, 34, 35, 36, 37, 38, 39, 40, 41, 42, 43, 44, 45, 46, 47, 48, 49, 50, 51, 52, 53, 54, 55, 56, 57, 58] (by decide +kernel) (by decide +kernel)
set_option maxRecDepth 20000 in
theorem gX8_orders_X8_ways : GoodIn wsX8_orders (wsV RX8 262 RX8 yX8_ways wsX8_ways) := goodIn_app (goodIn_of _ (by decide +kernel)) ggX8_orders_X8_ways
theorem dX8_orders_0 : decode cX8_orders 0 = .ok (.aload_n 0, 1) := by decide +kernel
theorem dX8_orders_1 : decode cX8_orders 1 = .ok (.getfield 120, 3) := by decide +kernel
theorem dX8_orders_4 : decode cX8_orders 4 = .ok (.bipush 20, 2) := by decide +kernel
theorem dX8_orders_6 : decode cX8_orders 6 = .ok (.if_icmp .le 10, 3) := by decide +kernel
theorem dX8_orders_9 : decode cX8_orders 9 = .ok (.aload_n 0, 1) := by decide +kernel
theorem dX8_orders_10 : decode cX8_orders 10 = .ok (.ldc 171, 2) := by decide +kernel
theorem dX8_orders_12 : decode cX8_orders 12 = .ok (.invokevirtual 266, 3) := by decide +kernel
theorem dX8_orders_15 : decode cX8_orders 15 = .ok (.lreturn, 1) := by decide +kernel
theorem dX8_orders_16 : decode cX8_orders 16 = .ok (.aload_n 0, 1) := by decide +kernel
theorem dX8_orders_17 : decode cX8_orders 17 = .ok (.invokevirtual 269, 3) := by decide +kernel
theorem dX8_orders_20 : decode cX8_orders 20 = .ok (.aload_n 0, 1) := by decide +kernel
theorem dX8_orders_21 : decode cX8_orders 21 = .ok (.iconst 0, 1) := by decide +kernel
theorem dX8_orders_22 : decode cX8_orders 22 = .ok (.invokevirtual 262, 3) := by decide +kernel
theorem dX8_orders_25 : decode cX8_orders 25 = .ok (.lreturn, 1) := by decide +kernel
set_option maxRecDepth 20000 in
theorem ggX8_order_X8_in : GoodIn wsX8_order wsX8_in := goodIn_r _ [9] (by decide +kernel) (by decide +kernel)
set_option maxRecDepth 20000 in
theorem gX8_order_X8_in : GoodIn wsX8_order (va_wsS RX8 145 yX8_in wsX8_in) := goodIn_app (goodIn_of _ (by decide +kernel)) ggX8_order_X8_in
set_option maxRecDepth 20000 in
theorem ggX8_order_X8_errs : GoodIn wsX8_order wsX8_errs := goodIn_r _ [13, 14, 15, 30, 31, 32, 33, 34, 35, 36, 37, 38, 39, 40, 41, 42, 43, 44, 45, 46, 47, 48, 49, 50, 51, 52, 53, 54, 55, 56, 57, 58, 59, 60, 61, 62] (by decide +kernel) (by decide +kernel)
set_option maxRecDepth 20000 in
theorem gX8_order_X8_errs : GoodIn wsX8_order (wsV RX8 150 RX8 yX8_errs wsX8_errs) := goodIn_app (goodIn_of _ (by decide +kernel)) ggX8_order_X8_errs
set_option maxRecDepth 20000 in
theorem ggX8_order_X8_forgets : GoodIn wsX8_order wsX8_forgets := goodIn_r _ [19, 20, 30, 31, 32, 33, 34, 35, 36, 37, 38, 39, 40, 41, 42, 43, 44, 45, 46, 47, 48, 49, 50, 51, 52, 53, 54, 55, 56, 57, 58, 59, 60, 61, 62] (by decide +kernel) (by decide +kernel)
set_option maxRecDepth 20000 in
theorem gX8_order_X8_forgets : GoodIn wsX8_order (wsV RX8 269 RX8 yX8_forgets wsX8_forgets) := goodIn_app (goodIn_of _ (by decide +kernel)) ggX8_order_X8_forgets
set_option maxRecDepth 20000 in
theorem ggX8_order_X8_ways : GoodIn wsX8_order wsX8_ways := goodIn_r _ [24, 1, 25, 20, 26, 5, 27, 28, 8, 29, 21, 22, 23, 30, 31, 32, 33, 34, 35, 36, 37, 38, 39, 40, 41, 42, 43, 44, 45, 46, 47, 48, 49, 50, 51, 52, 53, 54, 55, 56, 57, 58, 59, 60, 61, 62] (by decide +kernel) (by decide +kernel)
set_option maxRecDepth 20000 in
theorem gX8_order_X8_ways : GoodIn wsX8_order (wsV RX8 262 RX8 yX8_ways wsX8_ways) := goodIn_app (goodIn_of _ (by decide +kernel)) ggX8_order_X8_ways
theorem dX8_order_0 : decode cX8_order 0 = .ok (.iload_n 3, 1) := by decide +kernel
theorem dX8_order_1 : decode cX8_order 1 = .ok (.i2l, 1) := by decide +kernel
theorem dX8_order_2 : decode cX8_order 2 = .ok (.lconst 0, 1) := by decide +kernel
theorem dX8_order_3 : decode cX8_order 3 = .ok (.aload_n 0, 1) := by decide +kernel
theorem dX8_order_4 : decode cX8_order 4 = .ok (.getfield 120, 3) := by decide +kernel
theorem dX8_order_7 : decode cX8_order 7 = .ok (.iconst 1, 1) := by decide +kernel
theorem dX8_order_8 : decode cX8_order 8 = .ok (.isub, 1) := by decide +kernel
theorem dX8_order_9 : decode cX8_order 9 = .ok (.i2l, 1) := by decide +kernel
theorem dX8_order_10 : decode cX8_order 10 = .ok (.invokestatic 145, 3) := by decide +kernel
theorem dX8_order_13 : decode cX8_order 13 = .ok (.ifCond .ne 10, 3) := by decide +kernel
theorem dX8_order_16 : decode cX8_order 16 = .ok (.aload_n 0, 1) := by decide +kernel
theorem dX8_order_17 : decode cX8_order 17 = .ok (.ldc 149, 2) := by decide +kernel
theorem dX8_order_19 : decode cX8_order 19 = .ok (.invokevirtual 150, 3) := by decide +kernel
theorem dX8_order_22 : decode cX8_order 22 = .ok (.ireturn, 1) := by decide +kernel
theorem dX8_order_23 : decode cX8_order 23 = .ok (.aload_n 0, 1) := by decide +kernel
theorem dX8_order_24 : decode cX8_order 24 = .ok (.getfield 120, 3) := by decide +kernel
theorem dX8_order_27 : decode cX8_order 27 = .ok (.bipush 20, 2) := by decide +kernel
theorem dX8_order_29 : decode cX8_order 29 = .ok (.if_icmp .le 10, 3) := by decide +kernel
theorem dX8_order_32 : decode cX8_order 32 = .ok (.aload_n 0, 1) := by decide +kernel
theorem dX8_order_33 : decode cX8_order 33 = .ok (.ldc 171, 2) := by decide +kernel
theorem dX8_order_35 : decode cX8_order 35 = .ok (.invokevirtual 150, 3) := by decide +kernel
theorem dX8_order_38 : decode cX8_order 38 = .ok (.ireturn, 1) := by decide +kernel
theorem dX8_order_39 : decode cX8_order 39 = .ok (.aload_n 0, 1) := by decide +kernel
theorem dX8_order_40 : decode cX8_order 40 = .ok (.invokevirtual 269, 3) := by decide +kernel
theorem dX8_order_43 : decode cX8_order 43 = .ok (.lload_n 1, 1) := by decide +kernel
theorem dX8_order_44 : decode cX8_order 44 = .ok (.lconst 0, 1) := by decide +kernel
theorem dX8_order_45 : decode cX8_order 45 = .ok (.lcmp, 1) := by decide +kernel
theorem dX8_order_46 : decode cX8_order 46 = .ok (.ifCond .lt 13, 3) := by decide +kernel
theorem dX8_order_49 : decode cX8_order 49 = .ok (.lload_n 1, 1) := by decide +kernel
theorem dX8_order_50 : decode cX8_order 50 = .ok (.aload_n 0, 1) := by decide +kernel
theorem dX8_order_51 : decode cX8_order 51 = .ok (.iconst 0, 1) := by decide +kernel
theorem dX8_order_52 : decode cX8_order 52 = .ok (.invokevirtual 262, 3) := by decide +kernel
theorem dX8_order_55 : decode cX8_order 55 = .ok (.lcmp, 1) := by decide +kernel
theorem dX8_order_56 : decode cX8_order 56 = .ok (.ifCond .lt 10, 3) := by decide +kernel
theorem dX8_order_59 : decode cX8_order 59 = .ok (.aload_n 0, 1) := by decide +kernel
theorem dX8_order_60 : decode cX8_order 60 = .ok (.ldc 249, 2) := by decide +kernel
theorem dX8_order_62 : decode cX8_order 62 = .ok (.invokevirtual 150, 3) := by decide +kernel
theorem dX8_order_65 : decode cX8_order 65 = .ok (.ireturn, 1) := by decide +kernel
theorem dX8_order_66 : decode cX8_order 66 = .ok (.lload_n 1, 1) := by decide +kernel
theorem dX8_order_67 : decode cX8_order 67 = .ok (.lstore 4, 2) := by decide +kernel
theorem dX8_order_69 : decode cX8_order 69 = .ok (.iconst 0, 1) := by decide +kernel
theorem dX8_order_70 : decode cX8_order 70 = .ok (.istore 6, 2) := by decide +kernel
theorem dX8_order_72 : decode cX8_order 72 = .ok (.iconst (-1), 1) := by decide +kernel
theorem dX8_order_73 : decode cX8_order 73 = .ok (.istore 7, 2) := by decide +kernel
theorem dX8_order_75 : decode cX8_order 75 = .ok (.iconst 0, 1) := by decide +kernel
theorem dX8_order_76 : decode cX8_order 76 = .ok (.istore 8, 2) := by decide +kernel
theorem dX8_order_78 : decode cX8_order 78 = .ok (.iload 8, 2) := by decide +kernel
theorem dX8_order_80 : decode cX8_order 80 = .ok (.iload_n 3, 1) := by decide +kernel
theorem dX8_order_81 : decode cX8_order 81 = .ok (.if_icmp .gt 111, 3) := by decide +kernel
theorem dX8_order_84 : decode cX8_order 84 = .ok (.iconst (-1), 1) := by decide +kernel
theorem dX8_order_85 : decode cX8_order 85 = .ok (.istore 7, 2) := by decide +kernel
theorem dX8_order_87 : decode cX8_order 87 = .ok (.iconst 0, 1) := by decide +kernel
theorem dX8_order_88 : decode cX8_order 88 = .ok (.istore 9, 2) := by decide +kernel
theorem dX8_order_90 : decode cX8_order 90 = .ok (.iload 9, 2) := by decide +kernel
theorem dX8_order_92 : decode cX8_order 92 = .ok (.ifCond .ne 85, 3) := by decide +kernel
theorem dX8_order_95 : decode cX8_order 95 = .ok (.iinc 7 1, 3) := by decide +kernel
theorem dX8_order_98 : decode cX8_order 98 = .ok (.iload 6, 2) := by decide +kernel
theorem dX8_order_100 : decode cX8_order 100 = .ok (.iload 7, 2) := by decide +kernel
theorem dX8_order_102 : decode cX8_order 102 = .ok (.ishr, 1) := by decide +kernel
theorem dX8_order_103 : decode cX8_order 103 = .ok (.iconst 1, 1) := by decide +kernel
theorem dX8_order_104 : decode cX8_order 104 = .ok (.iand, 1) := by decide +kernel
theorem dX8_order_105 : decode cX8_order 105 = .ok (.iconst 1, 1) := by decide +kernel
theorem dX8_order_106 : decode cX8_order 106 = .ok (.if_icmp .eq (-16), 3) := by decide +kernel
theorem dX8_order_109 : decode cX8_order 109 = .ok (.aload_n 0, 1) := by decide +kernel
theorem dX8_order_110 : decode cX8_order 110 = .ok (.getfield 34, 3) := by decide +kernel
theorem dX8_order_113 : decode cX8_order 113 = .ok (.iload 7, 2) := by decide +kernel
theorem dX8_order_115 : decode cX8_order 115 = .ok (.laload, 1) := by decide +kernel
theorem dX8_order_116 : decode cX8_order 116 = .ok (.iload 6, 2) := by decide +kernel
theorem dX8_order_118 : decode cX8_order 118 = .ok (.iconst (-1), 1) := by decide +kernel
theorem dX8_order_119 : decode cX8_order 119 = .ok (.ixor, 1) := by decide +kernel
theorem dX8_order_120 : decode cX8_order 120 = .ok (.i2l, 1) := by decide +kernel
theorem dX8_order_121 : decode cX8_order 121 = .ok (.land, 1) := by decide +kernel
theorem dX8_order_122 : decode cX8_order 122 = .ok (.lconst 0, 1) := by decide +kernel
theorem dX8_order_123 : decode cX8_order 123 = .ok (.lcmp, 1) := by decide +kernel
theorem dX8_order_124 : decode cX8_order 124 = .ok (.ifCond .eq 6, 3) := by decide +kernel
theorem dX8_order_127 : decode cX8_order 127 = .ok (.goto (-37), 3) := by decide +kernel
theorem dX8_order_130 : decode cX8_order 130 = .ok (.aload_n 0, 1) := by decide +kernel
theorem dX8_order_131 : decode cX8_order 131 = .ok (.iload 6, 2) := by decide +kernel
theorem dX8_order_133 : decode cX8_order 133 = .ok (.iconst 1, 1) := by decide +kernel
theorem dX8_order_134 : decode cX8_order 134 = .ok (.iload 7, 2) := by decide +kernel
theorem dX8_order_136 : decode cX8_order 136 = .ok (.ishl, 1) := by decide +kernel
theorem dX8_order_137 : decode cX8_order 137 = .ok (.ior, 1) := by decide +kernel
theorem dX8_order_138 : decode cX8_order 138 = .ok (.invokevirtual 262, 3) := by decide +kernel
theorem dX8_order_141 : decode cX8_order 141 = .ok (.lstore 10, 2) := by decide +kernel
theorem dX8_order_143 : decode cX8_order 143 = .ok (.lload 4, 2) := by decide +kernel
theorem dX8_order_145 : decode cX8_order 145 = .ok (.lload 10, 2) := by decide +kernel
theorem dX8_order_147 : decode cX8_order 147 = .ok (.lcmp, 1) := by decide +kernel
theorem dX8_order_148 : decode cX8_order 148 = .ok (.ifCond .ge 7, 3) := by decide +kernel
theorem dX8_order_151 : decode cX8_order 151 = .ok (.iconst 1, 1) := by decide +kernel
theorem dX8_order_152 : decode cX8_order 152 = .ok (.goto 4, 3) := by decide +kernel
theorem dX8_order_155 : decode cX8_order 155 = .ok (.iconst 0, 1) := by decide +kernel
theorem dX8_order_156 : decode cX8_order 156 = .ok (.istore 9, 2) := by decide +kernel
theorem dX8_order_158 : decode cX8_order 158 = .ok (.lload 4, 2) := by decide +kernel
theorem dX8_order_160 : decode cX8_order 160 = .ok (.iload 9, 2) := by decide +kernel
theorem dX8_order_162 : decode cX8_order 162 = .ok (.ifCond .eq 7, 3) := by decide +kernel
theorem dX8_order_165 : decode cX8_order 165 = .ok (.lconst 0, 1) := by decide +kernel
theorem dX8_order_166 : decode cX8_order 166 = .ok (.goto 5, 3) := by decide +kernel
theorem dX8_order_169 : decode cX8_order 169 = .ok (.lload 10, 2) := by decide +kernel
theorem dX8_order_171 : decode cX8_order 171 = .ok (.lsub, 1) := by decide +kernel
theorem dX8_order_172 : decode cX8_order 172 = .ok (.lstore 4, 2) := by decide +kernel
theorem dX8_order_174 : decode cX8_order 174 = .ok (.goto (-84), 3) := by decide +kernel
theorem dX8_order_177 : decode cX8_order 177 = .ok (.iload 6, 2) := by decide +kernel
theorem dX8_order_179 : decode cX8_order 179 = .ok (.iconst 1, 1) := by decide +kernel
theorem dX8_order_180 : decode cX8_order 180 = .ok (.iload 7, 2) := by decide +kernel
theorem dX8_order_182 : decode cX8_order 182 = .ok (.ishl, 1) := by decide +kernel
theorem dX8_order_183 : decode cX8_order 183 = .ok (.ior, 1) := by decide +kernel
theorem dX8_order_184 : decode cX8_order 184 = .ok (.istore 6, 2) := by decide +kernel
theorem dX8_order_186 : decode cX8_order 186 = .ok (.iinc 8 1, 3) := by decide +kernel
theorem dX8_order_189 : decode cX8_order 189 = .ok (.goto (-111), 3) := by decide +kernel
theorem dX8_order_192 : decode cX8_order 192 = .ok (.iload 7, 2) := by decide +kernel
theorem dX8_order_194 : decode cX8_order 194 = .ok (.ireturn, 1) := by decide +kernel
set_option maxRecDepth 20000 in
theorem ggX8_rankOf_X8_forgets : GoodIn wsX8_rankOf wsX8_forgets := goodIn_r _ [10, 11, 28, 29, 30, 31, 32, 33, 34, 35, 36, 37, 38, 39, 40, 41, 42, 43, 44, 45, 46, 47, 48, 49, 50, 51, 52, 53, 54, 55, 56, 57, 58, 59, 60] (by decide +kernel) (by decide +kernel)
set_option maxRecDepth 20000 in
theorem gX8_rankOf_X8_forgets : GoodIn wsX8_rankOf (wsV RX8 269 RX8 yX8_forgets wsX8_forgets) := goodIn_app (goodIn_of _ (by decide +kernel)) ggX8_rankOf_X8_forgets
set_option maxRecDepth 20000 in
theorem ggX8_rankOf_X8_isStitch : GoodIn wsX8_rankOf wsX8_isStitch := goodIn_r _ [15, 2, 16, 17, 9, 18, 28, 29, 30, 31, 32, 33, 34, 35, 36, 37, 38, 39, 40, 41, 42, 43, 44, 45, 46, 47, 48, 49, 50, 51, 52, 53, 54, 55, 56, 57, 58, 59, 60] (by decide +kernel) (by decide +kernel)
set_option maxRecDepth 20000 in
theorem gX8_rankOf_X8_isStitch : GoodIn wsX8_rankOf (wsV RX8 250 RX8 yX8_isStitch wsX8_isStitch) := goodIn_app (goodIn_of _ (by decide +kernel)) ggX8_rankOf_X8_isStitch
set_option maxRecDepth 20000 in
theorem ggX8_rankOf_X8_ways : GoodIn wsX8_rankOf wsX8_ways := goodIn_r _ [22, 2, 23, 11, 24, 5, 25, 26, 9, 27, 19, 20, 21, 28, 29, 30, 31, 32, 33, 34, 35, 36, 37, 38, 39, 40, 41, 42, 43, 44, 45, 46, 47, 48, 49, 50, 51, 52, 53, 54, 55, 56, 57, 58, 59, 60] (by decide +kernel) (by decide +kernel)
set_option maxRecDepth 20000 in
theorem gX8_rankOf_X8_ways : GoodIn wsX8_rankOf (wsV RX8 262 RX8 yX8_ways wsX8_ways) := goodIn_app (goodIn_of _ (by decide +kernel)) ggX8_rankOf_X8_ways
theorem dX8_rankOf_0 : decode cX8_rankOf 0 = .ok (.aload_n 0, 1) := by decide +kernel
theorem dX8_rankOf_1 : decode cX8_rankOf 1 = .ok (.getfield 83, 3) := by decide +kernel
theorem dX8_rankOf_4 : decode cX8_rankOf 4 = .ok (.iload_n 1, 1) := by decide +kernel
theorem dX8_rankOf_5 : decode cX8_rankOf 5 = .ok (.iaload, 1) := by decide +kernel
theorem dX8_rankOf_6 : decode cX8_rankOf 6 = .ok (.aload_n 0, 1) := by decide +kernel
theorem dX8_rankOf_7 : decode cX8_rankOf 7 = .ok (.getfield 120, 3) := by decide +kernel
theorem dX8_rankOf_10 : decode cX8_rankOf 10 = .ok (.if_icmp .eq 7, 3) := by decide +kernel
theorem dX8_rankOf_13 : decode cX8_rankOf 13 = .ok (.ldc2_w 139, 3) := by decide +kernel
theorem dX8_rankOf_16 : decode cX8_rankOf 16 = .ok (.lreturn, 1) := by decide +kernel
theorem dX8_rankOf_17 : decode cX8_rankOf 17 = .ok (.aload_n 0, 1) := by decide +kernel
theorem dX8_rankOf_18 : decode cX8_rankOf 18 = .ok (.invokevirtual 269, 3) := by decide +kernel
theorem dX8_rankOf_21 : decode cX8_rankOf 21 = .ok (.lconst 0, 1) := by decide +kernel
theorem dX8_rankOf_22 : decode cX8_rankOf 22 = .ok (.lstore_n 2, 1) := by decide +kernel
theorem dX8_rankOf_23 : decode cX8_rankOf 23 = .ok (.iconst 0, 1) := by decide +kernel
theorem dX8_rankOf_24 : decode cX8_rankOf 24 = .ok (.istore 4, 2) := by decide +kernel
theorem dX8_rankOf_26 : decode cX8_rankOf 26 = .ok (.iconst 0, 1) := by decide +kernel
theorem dX8_rankOf_27 : decode cX8_rankOf 27 = .ok (.istore 5, 2) := by decide +kernel
theorem dX8_rankOf_29 : decode cX8_rankOf 29 = .ok (.iload 5, 2) := by decide +kernel
theorem dX8_rankOf_31 : decode cX8_rankOf 31 = .ok (.aload_n 0, 1) := by decide +kernel
theorem dX8_rankOf_32 : decode cX8_rankOf 32 = .ok (.getfield 120, 3) := by decide +kernel
theorem dX8_rankOf_35 : decode cX8_rankOf 35 = .ok (.if_icmp .ge 137, 3) := by decide +kernel
theorem dX8_rankOf_38 : decode cX8_rankOf 38 = .ok (.aload_n 0, 1) := by decide +kernel
theorem dX8_rankOf_39 : decode cX8_rankOf 39 = .ok (.getfield 86, 3) := by decide +kernel
theorem dX8_rankOf_42 : decode cX8_rankOf 42 = .ok (.bipush 60, 2) := by decide +kernel
theorem dX8_rankOf_44 : decode cX8_rankOf 44 = .ok (.iload_n 1, 1) := by decide +kernel
theorem dX8_rankOf_45 : decode cX8_rankOf 45 = .ok (.imul, 1) := by decide +kernel
theorem dX8_rankOf_46 : decode cX8_rankOf 46 = .ok (.iload 5, 2) := by decide +kernel
theorem dX8_rankOf_48 : decode cX8_rankOf 48 = .ok (.iadd, 1) := by decide +kernel
theorem dX8_rankOf_49 : decode cX8_rankOf 49 = .ok (.laload, 1) := by decide +kernel
theorem dX8_rankOf_50 : decode cX8_rankOf 50 = .ok (.lstore 6, 2) := by decide +kernel
theorem dX8_rankOf_52 : decode cX8_rankOf 52 = .ok (.aload_n 0, 1) := by decide +kernel
theorem dX8_rankOf_53 : decode cX8_rankOf 53 = .ok (.lload 6, 2) := by decide +kernel
theorem dX8_rankOf_55 : decode cX8_rankOf 55 = .ok (.invokevirtual 250, 3) := by decide +kernel
theorem dX8_rankOf_58 : decode cX8_rankOf 58 = .ok (.ifCond .eq 34, 3) := by decide +kernel
theorem dX8_rankOf_61 : decode cX8_rankOf 61 = .ok (.iload 4, 2) := by decide +kernel
theorem dX8_rankOf_63 : decode cX8_rankOf 63 = .ok (.lload 6, 2) := by decide +kernel
theorem dX8_rankOf_65 : decode cX8_rankOf 65 = .ok (.l2i, 1) := by decide +kernel
theorem dX8_rankOf_66 : decode cX8_rankOf 66 = .ok (.ishr, 1) := by decide +kernel
theorem dX8_rankOf_67 : decode cX8_rankOf 67 = .ok (.iconst 1, 1) := by decide +kernel
theorem dX8_rankOf_68 : decode cX8_rankOf 68 = .ok (.iand, 1) := by decide +kernel
theorem dX8_rankOf_69 : decode cX8_rankOf 69 = .ok (.iconst 1, 1) := by decide +kernel
theorem dX8_rankOf_70 : decode cX8_rankOf 70 = .ok (.if_icmp .eq 22, 3) := by decide +kernel
theorem dX8_rankOf_73 : decode cX8_rankOf 73 = .ok (.aload_n 0, 1) := by decide +kernel
theorem dX8_rankOf_74 : decode cX8_rankOf 74 = .ok (.getfield 34, 3) := by decide +kernel
theorem dX8_rankOf_77 : decode cX8_rankOf 77 = .ok (.lload 6, 2) := by decide +kernel
theorem dX8_rankOf_79 : decode cX8_rankOf 79 = .ok (.l2i, 1) := by decide +kernel
theorem dX8_rankOf_80 : decode cX8_rankOf 80 = .ok (.laload, 1) := by decide +kernel
theorem dX8_rankOf_81 : decode cX8_rankOf 81 = .ok (.iload 4, 2) := by decide +kernel
theorem dX8_rankOf_83 : decode cX8_rankOf 83 = .ok (.iconst (-1), 1) := by decide +kernel
theorem dX8_rankOf_84 : decode cX8_rankOf 84 = .ok (.ixor, 1) := by decide +kernel
theorem dX8_rankOf_85 : decode cX8_rankOf 85 = .ok (.i2l, 1) := by decide +kernel
theorem dX8_rankOf_86 : decode cX8_rankOf 86 = .ok (.land, 1) := by decide +kernel
theorem dX8_rankOf_87 : decode cX8_rankOf 87 = .ok (.lconst 0, 1) := by decide +kernel
theorem dX8_rankOf_88 : decode cX8_rankOf 88 = .ok (.lcmp, 1) := by decide +kernel
theorem dX8_rankOf_89 : decode cX8_rankOf 89 = .ok (.ifCond .eq 7, 3) := by decide +kernel
theorem dX8_rankOf_92 : decode cX8_rankOf 92 = .ok (.ldc2_w 139, 3) := by decide +kernel
theorem dX8_rankOf_95 : decode cX8_rankOf 95 = .ok (.lreturn, 1) := by decide +kernel
theorem dX8_rankOf_96 : decode cX8_rankOf 96 = .ok (.iconst 0, 1) := by decide +kernel
theorem dX8_rankOf_97 : decode cX8_rankOf 97 = .ok (.istore 8, 2) := by decide +kernel
theorem dX8_rankOf_99 : decode cX8_rankOf 99 = .ok (.iload 8, 2) := by decide +kernel
theorem dX8_rankOf_101 : decode cX8_rankOf 101 = .ok (.i2l, 1) := by decide +kernel
theorem dX8_rankOf_102 : decode cX8_rankOf 102 = .ok (.lload 6, 2) := by decide +kernel
theorem dX8_rankOf_104 : decode cX8_rankOf 104 = .ok (.lcmp, 1) := by decide +kernel
theorem dX8_rankOf_105 : decode cX8_rankOf 105 = .ok (.ifCond .ge 51, 3) := by decide +kernel
theorem dX8_rankOf_108 : decode cX8_rankOf 108 = .ok (.iload 4, 2) := by decide +kernel
theorem dX8_rankOf_110 : decode cX8_rankOf 110 = .ok (.iload 8, 2) := by decide +kernel
theorem dX8_rankOf_112 : decode cX8_rankOf 112 = .ok (.ishr, 1) := by decide +kernel
theorem dX8_rankOf_113 : decode cX8_rankOf 113 = .ok (.iconst 1, 1) := by decide +kernel
theorem dX8_rankOf_114 : decode cX8_rankOf 114 = .ok (.iand, 1) := by decide +kernel
theorem dX8_rankOf_115 : decode cX8_rankOf 115 = .ok (.ifCond .ne 35, 3) := by decide +kernel
theorem dX8_rankOf_118 : decode cX8_rankOf 118 = .ok (.aload_n 0, 1) := by decide +kernel
theorem dX8_rankOf_119 : decode cX8_rankOf 119 = .ok (.getfield 34, 3) := by decide +kernel
theorem dX8_rankOf_122 : decode cX8_rankOf 122 = .ok (.iload 8, 2) := by decide +kernel
theorem dX8_rankOf_124 : decode cX8_rankOf 124 = .ok (.laload, 1) := by decide +kernel
theorem dX8_rankOf_125 : decode cX8_rankOf 125 = .ok (.iload 4, 2) := by decide +kernel
theorem dX8_rankOf_127 : decode cX8_rankOf 127 = .ok (.iconst (-1), 1) := by decide +kernel
theorem dX8_rankOf_128 : decode cX8_rankOf 128 = .ok (.ixor, 1) := by decide +kernel
theorem dX8_rankOf_129 : decode cX8_rankOf 129 = .ok (.i2l, 1) := by decide +kernel
theorem dX8_rankOf_130 : decode cX8_rankOf 130 = .ok (.land, 1) := by decide +kernel
theorem dX8_rankOf_131 : decode cX8_rankOf 131 = .ok (.lconst 0, 1) := by decide +kernel
theorem dX8_rankOf_132 : decode cX8_rankOf 132 = .ok (.lcmp, 1) := by decide +kernel
theorem dX8_rankOf_133 : decode cX8_rankOf 133 = .ok (.ifCond .ne 17, 3) := by decide +kernel
theorem dX8_rankOf_136 : decode cX8_rankOf 136 = .ok (.lload_n 2, 1) := by decide +kernel
theorem dX8_rankOf_137 : decode cX8_rankOf 137 = .ok (.aload_n 0, 1) := by decide +kernel
theorem dX8_rankOf_138 : decode cX8_rankOf 138 = .ok (.iload 4, 2) := by decide +kernel
theorem dX8_rankOf_140 : decode cX8_rankOf 140 = .ok (.iconst 1, 1) := by decide +kernel
theorem dX8_rankOf_141 : decode cX8_rankOf 141 = .ok (.iload 8, 2) := by decide +kernel
theorem dX8_rankOf_143 : decode cX8_rankOf 143 = .ok (.ishl, 1) := by decide +kernel
theorem dX8_rankOf_144 : decode cX8_rankOf 144 = .ok (.ior, 1) := by decide +kernel
theorem dX8_rankOf_145 : decode cX8_rankOf 145 = .ok (.invokevirtual 262, 3) := by decide +kernel
theorem dX8_rankOf_148 : decode cX8_rankOf 148 = .ok (.ladd, 1) := by decide +kernel
theorem dX8_rankOf_149 : decode cX8_rankOf 149 = .ok (.lstore_n 2, 1) := by decide +kernel
theorem dX8_rankOf_150 : decode cX8_rankOf 150 = .ok (.iinc 8 1, 3) := by decide +kernel
theorem dX8_rankOf_153 : decode cX8_rankOf 153 = .ok (.goto (-54), 3) := by decide +kernel
theorem dX8_rankOf_156 : decode cX8_rankOf 156 = .ok (.iload 4, 2) := by decide +kernel
theorem dX8_rankOf_158 : decode cX8_rankOf 158 = .ok (.iconst 1, 1) := by decide +kernel
theorem dX8_rankOf_159 : decode cX8_rankOf 159 = .ok (.lload 6, 2) := by decide +kernel
theorem dX8_rankOf_161 : decode cX8_rankOf 161 = .ok (.l2i, 1) := by decide +kernel
theorem dX8_rankOf_162 : decode cX8_rankOf 162 = .ok (.ishl, 1) := by decide +kernel
theorem dX8_rankOf_163 : decode cX8_rankOf 163 = .ok (.ior, 1) := by decide +kernel
theorem dX8_rankOf_164 : decode cX8_rankOf 164 = .ok (.istore 4, 2) := by decide +kernel
theorem dX8_rankOf_166 : decode cX8_rankOf 166 = .ok (.iinc 5 1, 3) := by decide +kernel
theorem dX8_rankOf_169 : decode cX8_rankOf 169 = .ok (.goto (-140), 3) := by decide +kernel
theorem dX8_rankOf_172 : decode cX8_rankOf 172 = .ok (.lload_n 2, 1) := by decide +kernel
theorem dX8_rankOf_173 : decode cX8_rankOf 173 = .ok (.lreturn, 1) := by decide +kernel
set_option maxRecDepth 20000 in
theorem ggX8_rank_X8_isSheet : GoodIn wsX8_rank wsX8_isSheet := goodIn_r _ [10, 11, 12, 13, 9, 14] (by decide +kernel) (by decide +kernel)
set_option maxRecDepth 20000 in
theorem gX8_rank_X8_isSheet : GoodIn wsX8_rank (va_wsS RX8 272 yX8_isSheet wsX8_isSheet) := goodIn_app (goodIn_of _ (by decide +kernel)) ggX8_rank_X8_isSheet
set_option maxRecDepth 20000 in
theorem ggX8_rank_X8_errsLong : GoodIn wsX8_rank wsX8_errsLong := goodIn_r _ [18, 19, 20, 21, 48, 49, 50, 51, 52, 53, 54, 55, 56, 57, 58, 59, 60, 61, 62, 63, 64, 65, 66, 67, 68, 69, 70, 71, 72, 73, 74, 75, 76, 77, 78, 79, 80] (by decide +kernel) (by decide +kernel)
set_option maxRecDepth 20000 in
theorem gX8_rank_X8_errsLong : GoodIn wsX8_rank (wsV RX8 266 RX8 yX8_errsLong wsX8_errsLong) := goodIn_app (goodIn_of _ (by decide +kernel)) ggX8_rank_X8_errsLong
set_option maxRecDepth 20000 in
theorem ggX8_rank_X8_rankOf : GoodIn wsX8_rank wsX8_rankOf := goodIn_r _ [25, 26, 2, 27, 28, 29, 30, 31, 32, 9, 33, 34, 35, 36, 37, 38, 12, 13, 14, 39, 40, 41, 42, 43, 44, 45, 46, 47, 48, 49, 50, 51, 52, 53, 54, 55, 56, 57, 58, 59, 60, 61, 62, 63, 64, 65, 66, 67, 68, 69, 70, 71, 72, 73, 74, 75, 76, 77, 78, 79, 80] (by decide +kernel) (by decide +kernel)
set_option maxRecDepth 20000 in
theorem gX8_rank_X8_rankOf : GoodIn wsX8_rank (wsV RX8 276 RX8 yX8_rankOf wsX8_rankOf) := goodIn_app (goodIn_of _ (by decide +kernel)) ggX8_rank_X8_rankOf
theorem dX8_rank_0 : decode cX8_rank 0 = .ok (.iload_n 1, 1) := by decide +kernel
theorem dX8_rank_1 : decode cX8_rank 1 = .ok (.invokestatic 272, 3) := by decide +kernel
theorem dX8_rank_4 : decode cX8_rank 4 = .ok (.ifCond .ne 10, 3) := by decide +kernel
theorem dX8_rank_7 : decode cX8_rank 7 = .ok (.aload_n 0, 1) := by decide +kernel
theorem dX8_rank_8 : decode cX8_rank 8 = .ok (.ldc 149, 2) := by decide +kernel
theorem dX8_rank_10 : decode cX8_rank 10 = .ok (.invokevirtual 266, 3) := by decide +kernel
theorem dX8_rank_13 : decode cX8_rank 13 = .ok (.lreturn, 1) := by decide +kernel
theorem dX8_rank_14 : decode cX8_rank 14 = .ok (.aload_n 0, 1) := by decide +kernel
theorem dX8_rank_15 : decode cX8_rank 15 = .ok (.getfield 120, 3) := by decide +kernel
theorem dX8_rank_18 : decode cX8_rank 18 = .ok (.bipush 20, 2) := by decide +kernel
theorem dX8_rank_20 : decode cX8_rank 20 = .ok (.if_icmp .le 10, 3) := by decide +kernel
theorem dX8_rank_23 : decode cX8_rank 23 = .ok (.aload_n 0, 1) := by decide +kernel
theorem dX8_rank_24 : decode cX8_rank 24 = .ok (.ldc 171, 2) := by decide +kernel
theorem dX8_rank_26 : decode cX8_rank 26 = .ok (.invokevirtual 266, 3) := by decide +kernel
theorem dX8_rank_29 : decode cX8_rank 29 = .ok (.lreturn, 1) := by decide +kernel
theorem dX8_rank_30 : decode cX8_rank 30 = .ok (.aload_n 0, 1) := by decide +kernel
theorem dX8_rank_31 : decode cX8_rank 31 = .ok (.getfield 80, 3) := by decide +kernel
theorem dX8_rank_34 : decode cX8_rank 34 = .ok (.iload_n 1, 1) := by decide +kernel
theorem dX8_rank_35 : decode cX8_rank 35 = .ok (.iaload, 1) := by decide +kernel
theorem dX8_rank_36 : decode cX8_rank 36 = .ok (.ifCond .ge 11, 3) := by decide +kernel
theorem dX8_rank_39 : decode cX8_rank 39 = .ok (.aload_n 0, 1) := by decide +kernel
theorem dX8_rank_40 : decode cX8_rank 40 = .ok (.ldc_w 275, 3) := by decide +kernel
theorem dX8_rank_43 : decode cX8_rank 43 = .ok (.invokevirtual 266, 3) := by decide +kernel
theorem dX8_rank_46 : decode cX8_rank 46 = .ok (.lreturn, 1) := by decide +kernel
theorem dX8_rank_47 : decode cX8_rank 47 = .ok (.aload_n 0, 1) := by decide +kernel
theorem dX8_rank_48 : decode cX8_rank 48 = .ok (.iload_n 1, 1) := by decide +kernel
theorem dX8_rank_49 : decode cX8_rank 49 = .ok (.invokevirtual 276, 3) := by decide +kernel
theorem dX8_rank_52 : decode cX8_rank 52 = .ok (.lstore_n 2, 1) := by decide +kernel
theorem dX8_rank_53 : decode cX8_rank 53 = .ok (.lload_n 2, 1) := by decide +kernel
theorem dX8_rank_54 : decode cX8_rank 54 = .ok (.lconst 0, 1) := by decide +kernel
theorem dX8_rank_55 : decode cX8_rank 55 = .ok (.lcmp, 1) := by decide +kernel
theorem dX8_rank_56 : decode cX8_rank 56 = .ok (.ifCond .ge 12, 3) := by decide +kernel
theorem dX8_rank_59 : decode cX8_rank 59 = .ok (.aload_n 0, 1) := by decide +kernel
theorem dX8_rank_60 : decode cX8_rank 60 = .ok (.ldc 165, 2) := by decide +kernel
theorem dX8_rank_62 : decode cX8_rank 62 = .ok (.invokevirtual 266, 3) := by decide +kernel
theorem dX8_rank_65 : decode cX8_rank 65 = .ok (.goto 4, 3) := by decide +kernel
theorem dX8_rank_68 : decode cX8_rank 68 = .ok (.lload_n 2, 1) := by decide +kernel
theorem dX8_rank_69 : decode cX8_rank 69 = .ok (.lreturn, 1) := by decide +kernel
set_option maxRecDepth 20000 in
theorem ggX8_wrong_X8_isStitch : GoodIn wsX8_wrong wsX8_isStitch := goodIn_r _ [10, 11, 12, 13, 9, 14, 62, 63, 64, 65, 66, 67, 68, 69, 70, 71, 72, 73, 74, 75, 76, 77, 78, 79, 80, 81, 82, 83, 84, 85, 86, 87, 88, 89, 90, 91, 92, 93, 94] (by decide +kernel) (by decide +kernel)
set_option maxRecDepth 20000 in
theorem gX8_wrong_X8_isStitch : GoodIn wsX8_wrong (wsV RX8 250 RX8 yX8_isStitch wsX8_isStitch) := goodIn_app (goodIn_of _ (by decide +kernel)) ggX8_wrong_X8_isStitch
set_option maxRecDepth 20000 in
theorem ggX8_wrong_X8_isFree : GoodIn wsX8_wrong wsX8_isFree := goodIn_r _ [18, 19, 20, 21, 22, 23, 9, 24, 4, 62, 63, 64, 65, 66, 67, 68, 69, 70, 71, 72, 73, 74, 75, 76, 77, 78, 79, 80, 81, 82, 83, 84, 85, 86, 87, 88, 89, 90, 91, 92, 93, 94] (by decide +kernel) (by decide +kernel)
set_option maxRecDepth 20000 in
theorem gX8_wrong_X8_isFree : GoodIn wsX8_wrong (wsV RX8 231 RX8 yX8_isFree wsX8_isFree) := goodIn_app (goodIn_of _ (by decide +kernel)) ggX8_wrong_X8_isFree
set_option maxRecDepth 20000 in
theorem ggX8_wrong_X8_theWork : GoodIn wsX8_wrong wsX8_theWork := goodIn_r _ [28, 4, 29, 30, 31, 9, 32, 33, 34, 3, 35, 36, 37, 38, 39, 40, 41, 42, 43, 44, 45, 46, 47, 48, 49, 50, 51, 52, 53, 54, 55, 56, 57, 62, 63, 64, 65, 66, 67, 68, 69, 70, 71, 72, 73, 74, 75, 76, 77, 78, 79, 80, 81, 82, 83, 84, 85, 86, 87, 88, 89, 90, 91, 92, 93, 94] (by decide +kernel) (by decide +kernel)
set_option maxRecDepth 20000 in
theorem gX8_wrong_X8_theWork : GoodIn wsX8_wrong (wsV RX8 203 RX8 yX8_theWork wsX8_theWork) := goodIn_app (goodIn_of _ (by decide +kernel)) ggX8_wrong_X8_theWork
set_option maxRecDepth 20000 in
theorem ggX8_wrong_X8_works : GoodIn wsX8_wrong wsX8_works := goodIn_r _ [38, 39, 3, 34, 40, 41, 42, 43, 9, 44, 4, 45, 46, 47, 48, 49, 50, 51, 52, 53, 33, 54, 55, 56, 57, 62, 63, 64, 65, 66, 67, 68, 69, 70, 71, 72, 73, 74, 75, 76, 77, 78, 79, 80, 81, 82, 83, 84, 85, 86, 87, 88, 89, 90, 91, 92, 93, 94] (by decide +kernel) (by decide +kernel)
set_option maxRecDepth 20000 in
theorem gX8_wrong_X8_works : GoodIn wsX8_wrong (wsV RX8 199 RX8 yX8_works wsX8_works) := goodIn_app (goodIn_of _ (by decide +kernel)) ggX8_wrong_X8_works
set_option maxRecDepth 20000 in
theorem ggX8_wrong_X8_threads : GoodIn wsX8_wrong wsX8_threads := goodIn_r _ [61, 4, 62, 63, 64, 65, 66, 67, 68, 69, 70, 71, 72, 73, 74, 75, 76, 77, 78, 79, 80, 81, 82, 83, 84, 85, 86, 87, 88, 89, 90, 91, 92, 93, 94] (by decide +kernel) (by decide +kernel)
set_option maxRecDepth 20000 in
theorem gX8_wrong_X8_threads : GoodIn wsX8_wrong (wsV RX8 279 RX8 yX8_threads wsX8_threads) := goodIn_app (goodIn_of _ (by decide +kernel)) ggX8_wrong_X8_threads
theorem dX8_wrong_0 : decode cX8_wrong 0 = .ok (.aload_n 0, 1) := by decide +kernel
theorem dX8_wrong_1 : decode cX8_wrong 1 = .ok (.lload_n 1, 1) := by decide +kernel
theorem dX8_wrong_2 : decode cX8_wrong 2 = .ok (.invokevirtual 250, 3) := by decide +kernel
theorem dX8_wrong_5 : decode cX8_wrong 5 = .ok (.ifCond .ne 6, 3) := by decide +kernel
theorem dX8_wrong_8 : decode cX8_wrong 8 = .ok (.ldc 149, 2) := by decide +kernel
theorem dX8_wrong_10 : decode cX8_wrong 10 = .ok (.ireturn, 1) := by decide +kernel
theorem dX8_wrong_11 : decode cX8_wrong 11 = .ok (.aload_n 0, 1) := by decide +kernel
theorem dX8_wrong_12 : decode cX8_wrong 12 = .ok (.lload_n 1, 1) := by decide +kernel
theorem dX8_wrong_13 : decode cX8_wrong 13 = .ok (.l2i, 1) := by decide +kernel
theorem dX8_wrong_14 : decode cX8_wrong 14 = .ok (.invokevirtual 231, 3) := by decide +kernel
theorem dX8_wrong_17 : decode cX8_wrong 17 = .ok (.ifCond .ne 6, 3) := by decide +kernel
theorem dX8_wrong_20 : decode cX8_wrong 20 = .ok (.ldc 165, 2) := by decide +kernel
theorem dX8_wrong_22 : decode cX8_wrong 22 = .ok (.ireturn, 1) := by decide +kernel
theorem dX8_wrong_23 : decode cX8_wrong 23 = .ok (.aload_n 0, 1) := by decide +kernel
theorem dX8_wrong_24 : decode cX8_wrong 24 = .ok (.invokevirtual 203, 3) := by decide +kernel
theorem dX8_wrong_27 : decode cX8_wrong 27 = .ok (.aload_n 0, 1) := by decide +kernel
theorem dX8_wrong_28 : decode cX8_wrong 28 = .ok (.lload_n 1, 1) := by decide +kernel
theorem dX8_wrong_29 : decode cX8_wrong 29 = .ok (.l2i, 1) := by decide +kernel
theorem dX8_wrong_30 : decode cX8_wrong 30 = .ok (.iconst 1, 1) := by decide +kernel
theorem dX8_wrong_31 : decode cX8_wrong 31 = .ok (.invokevirtual 199, 3) := by decide +kernel
theorem dX8_wrong_34 : decode cX8_wrong 34 = .ok (.iconst 0, 1) := by decide +kernel
theorem dX8_wrong_35 : decode cX8_wrong 35 = .ok (.istore_n 3, 1) := by decide +kernel
theorem dX8_wrong_36 : decode cX8_wrong 36 = .ok (.iload_n 3, 1) := by decide +kernel
theorem dX8_wrong_37 : decode cX8_wrong 37 = .ok (.aload_n 0, 1) := by decide +kernel
theorem dX8_wrong_38 : decode cX8_wrong 38 = .ok (.invokevirtual 279, 3) := by decide +kernel
theorem dX8_wrong_41 : decode cX8_wrong 41 = .ok (.if_icmp .ge 32, 3) := by decide +kernel
theorem dX8_wrong_44 : decode cX8_wrong 44 = .ok (.aload_n 0, 1) := by decide +kernel
theorem dX8_wrong_45 : decode cX8_wrong 45 = .ok (.getfield 44, 3) := by decide +kernel
theorem dX8_wrong_48 : decode cX8_wrong 48 = .ok (.iload_n 3, 1) := by decide +kernel
theorem dX8_wrong_49 : decode cX8_wrong 49 = .ok (.iaload, 1) := by decide +kernel
theorem dX8_wrong_50 : decode cX8_wrong 50 = .ok (.aload_n 0, 1) := by decide +kernel
theorem dX8_wrong_51 : decode cX8_wrong 51 = .ok (.getfield 9, 3) := by decide +kernel
theorem dX8_wrong_54 : decode cX8_wrong 54 = .ok (.sipush 140, 3) := by decide +kernel
theorem dX8_wrong_57 : decode cX8_wrong 57 = .ok (.iload_n 3, 1) := by decide +kernel
theorem dX8_wrong_58 : decode cX8_wrong 58 = .ok (.iadd, 1) := by decide +kernel
theorem dX8_wrong_59 : decode cX8_wrong 59 = .ok (.iaload, 1) := by decide +kernel
theorem dX8_wrong_60 : decode cX8_wrong 60 = .ok (.if_icmp .le 7, 3) := by decide +kernel
theorem dX8_wrong_63 : decode cX8_wrong 63 = .ok (.ldc_w 282, 3) := by decide +kernel
theorem dX8_wrong_66 : decode cX8_wrong 66 = .ok (.ireturn, 1) := by decide +kernel
theorem dX8_wrong_67 : decode cX8_wrong 67 = .ok (.iinc 3 1, 3) := by decide +kernel
theorem dX8_wrong_70 : decode cX8_wrong 70 = .ok (.goto (-34), 3) := by decide +kernel
theorem dX8_wrong_73 : decode cX8_wrong 73 = .ok (.iconst 0, 1) := by decide +kernel
theorem dX8_wrong_74 : decode cX8_wrong 74 = .ok (.ireturn, 1) := by decide +kernel
theorem dX8_doWork_0 : decode cX8_doWork 0 = .ok (.aload_n 0, 1) := by decide +kernel
theorem dX8_doWork_1 : decode cX8_doWork 1 = .ok (.getfield 9, 3) := by decide +kernel
theorem dX8_doWork_4 : decode cX8_doWork 4 = .ok (.sipush 156, 3) := by decide +kernel
theorem dX8_doWork_7 : decode cX8_doWork 7 = .ok (.aload_n 0, 1) := by decide +kernel
theorem dX8_doWork_8 : decode cX8_doWork 8 = .ok (.getfield 9, 3) := by decide +kernel
theorem dX8_doWork_11 : decode cX8_doWork 11 = .ok (.iconst 1, 1) := by decide +kernel
theorem dX8_doWork_12 : decode cX8_doWork 12 = .ok (.iaload, 1) := by decide +kernel
theorem dX8_doWork_13 : decode cX8_doWork 13 = .ok (.iadd, 1) := by decide +kernel
theorem dX8_doWork_14 : decode cX8_doWork 14 = .ok (.iload_n 1, 1) := by decide +kernel
theorem dX8_doWork_15 : decode cX8_doWork 15 = .ok (.iastore, 1) := by decide +kernel
theorem dX8_doWork_16 : decode cX8_doWork 16 = .ok (.aload_n 0, 1) := by decide +kernel
theorem dX8_doWork_17 : decode cX8_doWork 17 = .ok (.getfield 9, 3) := by decide +kernel
theorem dX8_doWork_20 : decode cX8_doWork 20 = .ok (.iconst 1, 1) := by decide +kernel
theorem dX8_doWork_21 : decode cX8_doWork 21 = .ok (.dup2, 1) := by decide +kernel
theorem dX8_doWork_22 : decode cX8_doWork 22 = .ok (.iaload, 1) := by decide +kernel
theorem dX8_doWork_23 : decode cX8_doWork 23 = .ok (.iconst 1, 1) := by decide +kernel
theorem dX8_doWork_24 : decode cX8_doWork 24 = .ok (.iadd, 1) := by decide +kernel
theorem dX8_doWork_25 : decode cX8_doWork 25 = .ok (.iastore, 1) := by decide +kernel
theorem dX8_doWork_26 : decode cX8_doWork 26 = .ok (.iconst 0, 1) := by decide +kernel
theorem dX8_doWork_27 : decode cX8_doWork 27 = .ok (.istore_n 2, 1) := by decide +kernel
theorem dX8_doWork_28 : decode cX8_doWork 28 = .ok (.iconst 0, 1) := by decide +kernel
theorem dX8_doWork_29 : decode cX8_doWork 29 = .ok (.istore_n 3, 1) := by decide +kernel
theorem dX8_doWork_30 : decode cX8_doWork 30 = .ok (.iload_n 3, 1) := by decide +kernel
theorem dX8_doWork_31 : decode cX8_doWork 31 = .ok (.aload_n 0, 1) := by decide +kernel
theorem dX8_doWork_32 : decode cX8_doWork 32 = .ok (.getfield 186, 3) := by decide +kernel
theorem dX8_doWork_35 : decode cX8_doWork 35 = .ok (.if_icmp .ge 27, 3) := by decide +kernel
theorem dX8_doWork_38 : decode cX8_doWork 38 = .ok (.iload_n 2, 1) := by decide +kernel
theorem dX8_doWork_39 : decode cX8_doWork 39 = .ok (.aload_n 0, 1) := by decide +kernel
theorem dX8_doWork_40 : decode cX8_doWork 40 = .ok (.getfield 59, 3) := by decide +kernel
theorem dX8_doWork_43 : decode cX8_doWork 43 = .ok (.iload_n 3, 1) := by decide +kernel
theorem dX8_doWork_44 : decode cX8_doWork 44 = .ok (.iaload, 1) := by decide +kernel
theorem dX8_doWork_45 : decode cX8_doWork 45 = .ok (.iload_n 1, 1) := by decide +kernel
theorem dX8_doWork_46 : decode cX8_doWork 46 = .ok (.if_icmp .ne 7, 3) := by decide +kernel
theorem dX8_doWork_49 : decode cX8_doWork 49 = .ok (.iconst 1, 1) := by decide +kernel
theorem dX8_doWork_50 : decode cX8_doWork 50 = .ok (.goto 4, 3) := by decide +kernel
theorem dX8_doWork_53 : decode cX8_doWork 53 = .ok (.iconst 0, 1) := by decide +kernel
theorem dX8_doWork_54 : decode cX8_doWork 54 = .ok (.iadd, 1) := by decide +kernel
theorem dX8_doWork_55 : decode cX8_doWork 55 = .ok (.istore_n 2, 1) := by decide +kernel
theorem dX8_doWork_56 : decode cX8_doWork 56 = .ok (.iinc 3 1, 3) := by decide +kernel
theorem dX8_doWork_59 : decode cX8_doWork 59 = .ok (.goto (-29), 3) := by decide +kernel
theorem dX8_doWork_62 : decode cX8_doWork 62 = .ok (.iload_n 2, 1) := by decide +kernel
theorem dX8_doWork_63 : decode cX8_doWork 63 = .ok (.ireturn, 1) := by decide +kernel
set_option maxRecDepth 20000 in
theorem ggX8_work_X8_wrong : GoodIn wsX8_work wsX8_wrong := goodIn_r _ [5, 6, 7, 8, 9, 10, 11, 12, 13, 4, 14, 15, 16, 17, 18, 19, 20, 21, 22, 23, 24, 25, 26, 27, 28, 29, 30, 31, 32, 33, 34, 35, 36, 37, 38, 39, 40, 41, 42, 43, 44, 45, 46, 47, 48, 49, 50, 51, 52, 53, 54, 55, 56, 57, 58, 59, 60, 61, 62, 63, 64, 65, 76, 77, 78, 79, 80, 81, 82, 83, 84, 85, 86, 87, 88, 89, 90, 91, 92, 93, 94, 95, 96, 97, 98, 99, 100, 101, 102, 103, 104, 105, 106, 107, 108] (by decide +kernel) (by decide +kernel)
set_option maxRecDepth 20000 in
theorem gX8_work_X8_wrong : GoodIn wsX8_work (wsV RX8 283 RX8 yX8_wrong wsX8_wrong) := goodIn_app (goodIn_of _ (by decide +kernel)) ggX8_work_X8_wrong
set_option maxRecDepth 20000 in
theorem ggX8_work_X8_errs : GoodIn wsX8_work wsX8_errs := goodIn_r _ [69, 70, 71, 76, 77, 78, 79, 80, 81, 82, 83, 84, 85, 86, 87, 88, 89, 90, 91, 92, 93, 94, 95, 96, 97, 98, 99, 100, 101, 102, 103, 104, 105, 106, 107, 108] (by decide +kernel) (by decide +kernel)
set_option maxRecDepth 20000 in
theorem gX8_work_X8_errs : GoodIn wsX8_work (wsV RX8 150 RX8 yX8_errs wsX8_errs) := goodIn_app (goodIn_of _ (by decide +kernel)) ggX8_work_X8_errs
set_option maxRecDepth 20000 in
theorem ggX8_work_X8_doWork : GoodIn wsX8_work wsX8_doWork := goodIn_r _ [75, 9, 37, 61, 76, 77, 78, 79, 80, 81, 82, 83, 84, 85, 86, 87, 88, 89, 90, 91, 92, 93, 94, 95, 96, 97, 98, 99, 100, 101, 102, 103, 104, 105, 106, 107, 108] (by decide +kernel) (by decide +kernel)
set_option maxRecDepth 20000 in
theorem gX8_work_X8_doWork : GoodIn wsX8_work (wsV RX8 286 RX8 yX8_doWork wsX8_doWork) := goodIn_app (goodIn_of _ (by decide +kernel)) ggX8_work_X8_doWork
theorem dX8_work_0 : decode cX8_work 0 = .ok (.aload_n 0, 1) := by decide +kernel
theorem dX8_work_1 : decode cX8_work 1 = .ok (.iload_n 1, 1) := by decide +kernel
theorem dX8_work_2 : decode cX8_work 2 = .ok (.i2l, 1) := by decide +kernel
theorem dX8_work_3 : decode cX8_work 3 = .ok (.invokevirtual 283, 3) := by decide +kernel
theorem dX8_work_6 : decode cX8_work 6 = .ok (.istore_n 2, 1) := by decide +kernel
theorem dX8_work_7 : decode cX8_work 7 = .ok (.iload_n 2, 1) := by decide +kernel
theorem dX8_work_8 : decode cX8_work 8 = .ok (.ifCond .eq 11, 3) := by decide +kernel
theorem dX8_work_11 : decode cX8_work 11 = .ok (.aload_n 0, 1) := by decide +kernel
theorem dX8_work_12 : decode cX8_work 12 = .ok (.iload_n 2, 1) := by decide +kernel
theorem dX8_work_13 : decode cX8_work 13 = .ok (.invokevirtual 150, 3) := by decide +kernel
theorem dX8_work_16 : decode cX8_work 16 = .ok (.goto 8, 3) := by decide +kernel
theorem dX8_work_19 : decode cX8_work 19 = .ok (.aload_n 0, 1) := by decide +kernel
theorem dX8_work_20 : decode cX8_work 20 = .ok (.iload_n 1, 1) := by decide +kernel
theorem dX8_work_21 : decode cX8_work 21 = .ok (.invokevirtual 286, 3) := by decide +kernel
theorem dX8_work_24 : decode cX8_work 24 = .ok (.ireturn, 1) := by decide +kernel
set_option maxRecDepth 20000 in
theorem ggX8_works__X8_isSheet : GoodIn wsX8_works_ wsX8_isSheet := goodIn_r _ [9, 10, 11, 12, 8, 13] (by decide +kernel) (by decide +kernel)
set_option maxRecDepth 20000 in
theorem gX8_works__X8_isSheet : GoodIn wsX8_works_ (va_wsS RX8 272 yX8_isSheet wsX8_isSheet) := goodIn_app (goodIn_of _ (by decide +kernel)) ggX8_works__X8_isSheet
set_option maxRecDepth 20000 in
theorem ggX8_works__X8_errs : GoodIn wsX8_works_ wsX8_errs := goodIn_r _ [17, 18, 19, 84, 85, 86, 87, 88, 89, 90, 91, 92, 93, 94, 95, 96, 97, 98, 99, 100, 101, 102, 103, 104, 105, 106, 107, 108, 109, 110, 111, 112, 113, 114, 115, 116] (by decide +kernel) (by decide +kernel)
set_option maxRecDepth 20000 in
theorem gX8_works__X8_errs : GoodIn wsX8_works_ (wsV RX8 150 RX8 yX8_errs wsX8_errs) := goodIn_app (goodIn_of _ (by decide +kernel)) ggX8_works__X8_errs
set_option maxRecDepth 20000 in
theorem ggX8_works__X8_wrong : GoodIn wsX8_works_ wsX8_wrong := goodIn_r _ [23, 1, 24, 25, 26, 27, 28, 29, 30, 8, 31, 32, 11, 12, 13, 33, 34, 35, 36, 37, 38, 39, 40, 41, 42, 43, 44, 45, 46, 47, 48, 49, 50, 51, 52, 53, 54, 55, 56, 57, 58, 59, 60, 61, 62, 63, 64, 65, 66, 67, 68, 69, 70, 71, 72, 73, 74, 75, 76, 77, 78, 79, 84, 85, 86, 87, 88, 89, 90, 91, 92, 93, 94, 95, 96, 97, 98, 99, 100, 101, 102, 103, 104, 105, 106, 107, 108, 109, 110, 111, 112, 113, 114, 115, 116] (by decide +kernel) (by decide +kernel)
set_option maxRecDepth 20000 in
theorem gX8_works__X8_wrong : GoodIn wsX8_works_ (wsV RX8 283 RX8 yX8_wrong wsX8_wrong) := goodIn_app (goodIn_of _ (by decide +kernel)) ggX8_works__X8_wrong
set_option maxRecDepth 20000 in
theorem ggX8_works__X8_doWork : GoodIn wsX8_works_ wsX8_doWork := goodIn_r _ [83, 26, 51, 75, 84, 85, 86, 87, 88, 89, 90, 91, 92, 93, 94, 95, 96, 97, 98, 99, 100, 101, 102, 103, 104, 105, 106, 107, 108, 109, 110, 111, 112, 113, 114, 115, 116] (by decide +kernel) (by decide +kernel)
set_option maxRecDepth 20000 in
theorem gX8_works__X8_doWork : GoodIn wsX8_works_ (wsV RX8 286 RX8 yX8_doWork wsX8_doWork) := goodIn_app (goodIn_of _ (by decide +kernel)) ggX8_works__X8_doWork
theorem dX8_works__0 : decode cX8_works_ 0 = .ok (.iload_n 1, 1) := by decide +kernel
theorem dX8_works__1 : decode cX8_works_ 1 = .ok (.invokestatic 272, 3) := by decide +kernel
theorem dX8_works__4 : decode cX8_works_ 4 = .ok (.ifCond .ne 10, 3) := by decide +kernel
theorem dX8_works__7 : decode cX8_works_ 7 = .ok (.aload_n 0, 1) := by decide +kernel
theorem dX8_works__8 : decode cX8_works_ 8 = .ok (.ldc 149, 2) := by decide +kernel
theorem dX8_works__10 : decode cX8_works_ 10 = .ok (.invokevirtual 150, 3) := by decide +kernel
theorem dX8_works__13 : decode cX8_works_ 13 = .ok (.ireturn, 1) := by decide +kernel
theorem dX8_works__14 : decode cX8_works_ 14 = .ok (.aload_n 0, 1) := by decide +kernel
theorem dX8_works__15 : decode cX8_works_ 15 = .ok (.getfield 80, 3) := by decide +kernel
theorem dX8_works__18 : decode cX8_works_ 18 = .ok (.iload_n 1, 1) := by decide +kernel
theorem dX8_works__19 : decode cX8_works_ 19 = .ok (.iaload, 1) := by decide +kernel
theorem dX8_works__20 : decode cX8_works_ 20 = .ok (.ifCond .ge 11, 3) := by decide +kernel
theorem dX8_works__23 : decode cX8_works_ 23 = .ok (.aload_n 0, 1) := by decide +kernel
theorem dX8_works__24 : decode cX8_works_ 24 = .ok (.ldc_w 275, 3) := by decide +kernel
theorem dX8_works__27 : decode cX8_works_ 27 = .ok (.invokevirtual 150, 3) := by decide +kernel
theorem dX8_works__30 : decode cX8_works_ 30 = .ok (.ireturn, 1) := by decide +kernel
theorem dX8_works__31 : decode cX8_works_ 31 = .ok (.iconst 0, 1) := by decide +kernel
theorem dX8_works__32 : decode cX8_works_ 32 = .ok (.istore_n 2, 1) := by decide +kernel
theorem dX8_works__33 : decode cX8_works_ 33 = .ok (.iload_n 2, 1) := by decide +kernel
theorem dX8_works__34 : decode cX8_works_ 34 = .ok (.aload_n 0, 1) := by decide +kernel
theorem dX8_works__35 : decode cX8_works_ 35 = .ok (.getfield 83, 3) := by decide +kernel
theorem dX8_works__38 : decode cX8_works_ 38 = .ok (.iload_n 1, 1) := by decide +kernel
theorem dX8_works__39 : decode cX8_works_ 39 = .ok (.iaload, 1) := by decide +kernel
theorem dX8_works__40 : decode cX8_works_ 40 = .ok (.if_icmp .ge 44, 3) := by decide +kernel
theorem dX8_works__43 : decode cX8_works_ 43 = .ok (.aload_n 0, 1) := by decide +kernel
theorem dX8_works__44 : decode cX8_works_ 44 = .ok (.aload_n 0, 1) := by decide +kernel
theorem dX8_works__45 : decode cX8_works_ 45 = .ok (.getfield 86, 3) := by decide +kernel
theorem dX8_works__48 : decode cX8_works_ 48 = .ok (.bipush 60, 2) := by decide +kernel
theorem dX8_works__50 : decode cX8_works_ 50 = .ok (.iload_n 1, 1) := by decide +kernel
theorem dX8_works__51 : decode cX8_works_ 51 = .ok (.imul, 1) := by decide +kernel
theorem dX8_works__52 : decode cX8_works_ 52 = .ok (.iload_n 2, 1) := by decide +kernel
theorem dX8_works__53 : decode cX8_works_ 53 = .ok (.iadd, 1) := by decide +kernel
theorem dX8_works__54 : decode cX8_works_ 54 = .ok (.laload, 1) := by decide +kernel
theorem dX8_works__55 : decode cX8_works_ 55 = .ok (.invokevirtual 283, 3) := by decide +kernel
theorem dX8_works__58 : decode cX8_works_ 58 = .ok (.ifCond .ne 26, 3) := by decide +kernel
theorem dX8_works__61 : decode cX8_works_ 61 = .ok (.aload_n 0, 1) := by decide +kernel
theorem dX8_works__62 : decode cX8_works_ 62 = .ok (.aload_n 0, 1) := by decide +kernel
theorem dX8_works__63 : decode cX8_works_ 63 = .ok (.getfield 86, 3) := by decide +kernel
theorem dX8_works__66 : decode cX8_works_ 66 = .ok (.bipush 60, 2) := by decide +kernel
theorem dX8_works__68 : decode cX8_works_ 68 = .ok (.iload_n 1, 1) := by decide +kernel
theorem dX8_works__69 : decode cX8_works_ 69 = .ok (.imul, 1) := by decide +kernel
theorem dX8_works__70 : decode cX8_works_ 70 = .ok (.iload_n 2, 1) := by decide +kernel
theorem dX8_works__71 : decode cX8_works_ 71 = .ok (.iadd, 1) := by decide +kernel
theorem dX8_works__72 : decode cX8_works_ 72 = .ok (.laload, 1) := by decide +kernel
theorem dX8_works__73 : decode cX8_works_ 73 = .ok (.l2i, 1) := by decide +kernel
theorem dX8_works__74 : decode cX8_works_ 74 = .ok (.invokevirtual 286, 3) := by decide +kernel
theorem dX8_works__77 : decode cX8_works_ 77 = .ok (.istore_n 3, 1) := by decide +kernel
theorem dX8_works__78 : decode cX8_works_ 78 = .ok (.iinc 2 1, 3) := by decide +kernel
theorem dX8_works__81 : decode cX8_works_ 81 = .ok (.goto (-48), 3) := by decide +kernel
theorem dX8_works__84 : decode cX8_works_ 84 = .ok (.iload_n 2, 1) := by decide +kernel
theorem dX8_works__85 : decode cX8_works_ 85 = .ok (.ireturn, 1) := by decide +kernel
set_option maxRecDepth 20000 in
theorem ggX8_back_X8_errs : GoodIn wsX8_back wsX8_errs := goodIn_r _ [7, 8, 9, 10, 11, 12, 13, 14, 15, 16, 17, 18, 19, 20, 21, 22, 23, 24, 25, 26, 27, 28, 29, 30, 31, 32, 33, 34, 35, 36, 37, 38, 39, 40, 41, 42] (by decide +kernel) (by decide +kernel)
set_option maxRecDepth 20000 in
theorem gX8_back_X8_errs : GoodIn wsX8_back (wsV RX8 150 RX8 yX8_errs wsX8_errs) := goodIn_app (goodIn_of _ (by decide +kernel)) ggX8_back_X8_errs
theorem dX8_back_0 : decode cX8_back 0 = .ok (.aload_n 0, 1) := by decide +kernel
theorem dX8_back_1 : decode cX8_back 1 = .ok (.getfield 9, 3) := by decide +kernel
theorem dX8_back_4 : decode cX8_back 4 = .ok (.iconst 1, 1) := by decide +kernel
theorem dX8_back_5 : decode cX8_back 5 = .ok (.iaload, 1) := by decide +kernel
theorem dX8_back_6 : decode cX8_back 6 = .ok (.ifCond .ne 10, 3) := by decide +kernel
theorem dX8_back_9 : decode cX8_back 9 = .ok (.aload_n 0, 1) := by decide +kernel
theorem dX8_back_10 : decode cX8_back 10 = .ok (.ldc 249, 2) := by decide +kernel
theorem dX8_back_12 : decode cX8_back 12 = .ok (.invokevirtual 150, 3) := by decide +kernel
theorem dX8_back_15 : decode cX8_back 15 = .ok (.ireturn, 1) := by decide +kernel
theorem dX8_back_16 : decode cX8_back 16 = .ok (.aload_n 0, 1) := by decide +kernel
theorem dX8_back_17 : decode cX8_back 17 = .ok (.getfield 9, 3) := by decide +kernel
theorem dX8_back_20 : decode cX8_back 20 = .ok (.iconst 1, 1) := by decide +kernel
theorem dX8_back_21 : decode cX8_back 21 = .ok (.dup2, 1) := by decide +kernel
theorem dX8_back_22 : decode cX8_back 22 = .ok (.iaload, 1) := by decide +kernel
theorem dX8_back_23 : decode cX8_back 23 = .ok (.iconst 1, 1) := by decide +kernel
theorem dX8_back_24 : decode cX8_back 24 = .ok (.isub, 1) := by decide +kernel
theorem dX8_back_25 : decode cX8_back 25 = .ok (.iastore, 1) := by decide +kernel
theorem dX8_back_26 : decode cX8_back 26 = .ok (.aload_n 0, 1) := by decide +kernel
theorem dX8_back_27 : decode cX8_back 27 = .ok (.getfield 9, 3) := by decide +kernel
theorem dX8_back_30 : decode cX8_back 30 = .ok (.sipush 156, 3) := by decide +kernel
theorem dX8_back_33 : decode cX8_back 33 = .ok (.aload_n 0, 1) := by decide +kernel
theorem dX8_back_34 : decode cX8_back 34 = .ok (.getfield 9, 3) := by decide +kernel
theorem dX8_back_37 : decode cX8_back 37 = .ok (.iconst 1, 1) := by decide +kernel
theorem dX8_back_38 : decode cX8_back 38 = .ok (.iaload, 1) := by decide +kernel
theorem dX8_back_39 : decode cX8_back 39 = .ok (.iadd, 1) := by decide +kernel
theorem dX8_back_40 : decode cX8_back 40 = .ok (.iaload, 1) := by decide +kernel
theorem dX8_back_41 : decode cX8_back 41 = .ok (.ireturn, 1) := by decide +kernel
set_option maxRecDepth 20000 in
theorem ggX8_worked_X8_in : GoodIn wsX8_worked wsX8_in := goodIn_r _ [6] (by decide +kernel) (by decide +kernel)
set_option maxRecDepth 20000 in
theorem gX8_worked_X8_in : GoodIn wsX8_worked (va_wsS RX8 145 yX8_in wsX8_in) := goodIn_app (goodIn_of _ (by decide +kernel)) ggX8_worked_X8_in
set_option maxRecDepth 20000 in
theorem ggX8_worked_X8_errs : GoodIn wsX8_worked wsX8_errs := goodIn_r _ [10, 11, 12, 13, 14, 15, 16, 17, 18, 19, 20, 21, 22, 23, 24, 25, 26, 27, 28, 29, 30, 31, 32, 33, 34, 35, 36, 37, 38, 39, 40, 41, 42, 43, 44, 45] (by decide +kernel) (by decide +kernel)
set_option maxRecDepth 20000 in
theorem gX8_worked_X8_errs : GoodIn wsX8_worked (wsV RX8 150 RX8 yX8_errs wsX8_errs) := goodIn_app (goodIn_of _ (by decide +kernel)) ggX8_worked_X8_errs
theorem dX8_worked_0 : decode cX8_worked 0 = .ok (.iload_n 1, 1) := by decide +kernel
theorem dX8_worked_1 : decode cX8_worked 1 = .ok (.i2l, 1) := by decide +kernel
theorem dX8_worked_2 : decode cX8_worked 2 = .ok (.lconst 0, 1) := by decide +kernel
theorem dX8_worked_3 : decode cX8_worked 3 = .ok (.aload_n 0, 1) := by decide +kernel
theorem dX8_worked_4 : decode cX8_worked 4 = .ok (.getfield 9, 3) := by decide +kernel
theorem dX8_worked_7 : decode cX8_worked 7 = .ok (.iconst 1, 1) := by decide +kernel
theorem dX8_worked_8 : decode cX8_worked 8 = .ok (.iaload, 1) := by decide +kernel
theorem dX8_worked_9 : decode cX8_worked 9 = .ok (.iconst 1, 1) := by decide +kernel
theorem dX8_worked_10 : decode cX8_worked 10 = .ok (.isub, 1) := by decide +kernel
theorem dX8_worked_11 : decode cX8_worked 11 = .ok (.i2l, 1) := by decide +kernel
theorem dX8_worked_12 : decode cX8_worked 12 = .ok (.invokestatic 145, 3) := by decide +kernel
theorem dX8_worked_15 : decode cX8_worked 15 = .ok (.ifCond .eq 16, 3) := by decide +kernel
theorem dX8_worked_18 : decode cX8_worked 18 = .ok (.aload_n 0, 1) := by decide +kernel
theorem dX8_worked_19 : decode cX8_worked 19 = .ok (.getfield 9, 3) := by decide +kernel
theorem dX8_worked_22 : decode cX8_worked 22 = .ok (.sipush 156, 3) := by decide +kernel
theorem dX8_worked_25 : decode cX8_worked 25 = .ok (.iload_n 1, 1) := by decide +kernel
theorem dX8_worked_26 : decode cX8_worked 26 = .ok (.iadd, 1) := by decide +kernel
theorem dX8_worked_27 : decode cX8_worked 27 = .ok (.iaload, 1) := by decide +kernel
theorem dX8_worked_28 : decode cX8_worked 28 = .ok (.goto 9, 3) := by decide +kernel
theorem dX8_worked_31 : decode cX8_worked 31 = .ok (.aload_n 0, 1) := by decide +kernel
theorem dX8_worked_32 : decode cX8_worked 32 = .ok (.ldc 149, 2) := by decide +kernel
theorem dX8_worked_34 : decode cX8_worked 34 = .ok (.invokevirtual 150, 3) := by decide +kernel
theorem dX8_worked_37 : decode cX8_worked 37 = .ok (.ireturn, 1) := by decide +kernel
set_option maxRecDepth 20000 in
theorem ggX8_at_X8_threads : GoodIn wsX8_at wsX8_threads := goodIn_r _ [7, 8, 51, 52, 53, 54, 55, 56, 57, 58, 59, 60, 61, 62, 63, 64, 65, 66, 67, 68, 69, 70, 71, 72, 73, 74, 75, 76, 77, 78, 79, 80, 81, 82, 83] (by decide +kernel) (by decide +kernel)
set_option maxRecDepth 20000 in
theorem gX8_at_X8_threads : GoodIn wsX8_at (wsV RX8 279 RX8 yX8_threads wsX8_threads) := goodIn_app (goodIn_of _ (by decide +kernel)) ggX8_at_X8_threads
set_option maxRecDepth 20000 in
theorem ggX8_at_X8_in : GoodIn wsX8_at wsX8_in := goodIn_r _ [11] (by decide +kernel) (by decide +kernel)
set_option maxRecDepth 20000 in
theorem gX8_at_X8_in : GoodIn wsX8_at (va_wsS RX8 145 yX8_in wsX8_in) := goodIn_app (goodIn_of _ (by decide +kernel)) ggX8_at_X8_in
set_option maxRecDepth 20000 in
theorem ggX8_at_X8_errs : GoodIn wsX8_at wsX8_errs := goodIn_r _ [15, 16, 17, 51, 52, 53, 54, 55, 56, 57, 58, 59, 60, 61, 62, 63, 64, 65, 66, 67, 68, 69, 70, 71, 72, 73, 74, 75, 76, 77, 78, 79, 80, 81, 82, 83] (by decide +kernel) (by decide +kernel)
set_option maxRecDepth 20000 in
theorem gX8_at_X8_errs : GoodIn wsX8_at (wsV RX8 150 RX8 yX8_errs wsX8_errs) := goodIn_app (goodIn_of _ (by decide +kernel)) ggX8_at_X8_errs
set_option maxRecDepth 20000 in
theorem ggX8_at_X8_theWork : GoodIn wsX8_at wsX8_theWork := goodIn_r _ [21, 8, 22, 23, 24, 6, 25, 26, 2, 27, 28, 29, 30, 31, 32, 33, 34, 35, 36, 37, 38, 39, 40, 41, 42, 43, 44, 45, 46, 47, 48, 49, 50, 51, 52, 53, 54, 55, 56, 57, 58, 59, 60, 61, 62, 63, 64, 65, 66, 67, 68, 69, 70, 71, 72, 73, 74, 75, 76, 77, 78, 79, 80, 81, 82, 83] (by decide +kernel) (by decide +kernel)
set_option maxRecDepth 20000 in
theorem gX8_at_X8_theWork : GoodIn wsX8_at (wsV RX8 203 RX8 yX8_theWork wsX8_theWork) := goodIn_app (goodIn_of _ (by decide +kernel)) ggX8_at_X8_theWork
theorem dX8_at_0 : decode cX8_at 0 = .ok (.iload_n 1, 1) := by decide +kernel
theorem dX8_at_1 : decode cX8_at 1 = .ok (.i2l, 1) := by decide +kernel
theorem dX8_at_2 : decode cX8_at 2 = .ok (.lconst 0, 1) := by decide +kernel
theorem dX8_at_3 : decode cX8_at 3 = .ok (.aload_n 0, 1) := by decide +kernel
theorem dX8_at_4 : decode cX8_at 4 = .ok (.invokevirtual 279, 3) := by decide +kernel
theorem dX8_at_7 : decode cX8_at 7 = .ok (.iconst 1, 1) := by decide +kernel
theorem dX8_at_8 : decode cX8_at 8 = .ok (.isub, 1) := by decide +kernel
theorem dX8_at_9 : decode cX8_at 9 = .ok (.i2l, 1) := by decide +kernel
theorem dX8_at_10 : decode cX8_at 10 = .ok (.invokestatic 145, 3) := by decide +kernel
theorem dX8_at_13 : decode cX8_at 13 = .ok (.ifCond .ne 10, 3) := by decide +kernel
theorem dX8_at_16 : decode cX8_at 16 = .ok (.aload_n 0, 1) := by decide +kernel
theorem dX8_at_17 : decode cX8_at 17 = .ok (.ldc 149, 2) := by decide +kernel
theorem dX8_at_19 : decode cX8_at 19 = .ok (.invokevirtual 150, 3) := by decide +kernel
theorem dX8_at_22 : decode cX8_at 22 = .ok (.ireturn, 1) := by decide +kernel
theorem dX8_at_23 : decode cX8_at 23 = .ok (.aload_n 0, 1) := by decide +kernel
theorem dX8_at_24 : decode cX8_at 24 = .ok (.invokevirtual 203, 3) := by decide +kernel
theorem dX8_at_27 : decode cX8_at 27 = .ok (.aload_n 0, 1) := by decide +kernel
theorem dX8_at_28 : decode cX8_at 28 = .ok (.getfield 41, 3) := by decide +kernel
theorem dX8_at_31 : decode cX8_at 31 = .ok (.iload_n 1, 1) := by decide +kernel
theorem dX8_at_32 : decode cX8_at 32 = .ok (.iaload, 1) := by decide +kernel
theorem dX8_at_33 : decode cX8_at 33 = .ok (.ireturn, 1) := by decide +kernel
set_option maxRecDepth 20000 in
theorem ggX8_isThread_X8_threads : GoodIn wsX8_isThread wsX8_threads := goodIn_r _ [5, 6, 10, 11, 12, 13, 14, 15, 16, 17, 18, 19, 20, 21, 22, 23, 24, 25, 26, 27, 28, 29, 30, 31, 32, 33, 34, 35, 36, 37, 38, 39, 40, 41, 42] (by decide +kernel) (by decide +kernel)
set_option maxRecDepth 20000 in
theorem gX8_isThread_X8_threads : GoodIn wsX8_isThread (wsV RX8 279 RX8 yX8_threads wsX8_threads) := goodIn_app (goodIn_of _ (by decide +kernel)) ggX8_isThread_X8_threads
set_option maxRecDepth 20000 in
theorem ggX8_isThread_X8_in : GoodIn wsX8_isThread wsX8_in := goodIn_r _ [9] (by decide +kernel) (by decide +kernel)
set_option maxRecDepth 20000 in
theorem gX8_isThread_X8_in : GoodIn wsX8_isThread (va_wsS RX8 145 yX8_in wsX8_in) := goodIn_app (goodIn_of _ (by decide +kernel)) ggX8_isThread_X8_in
theorem dX8_isThread_0 : decode cX8_isThread 0 = .ok (.iload_n 1, 1) := by decide +kernel
theorem dX8_isThread_1 : decode cX8_isThread 1 = .ok (.i2l, 1) := by decide +kernel
theorem dX8_isThread_2 : decode cX8_isThread 2 = .ok (.lconst 0, 1) := by decide +kernel
theorem dX8_isThread_3 : decode cX8_isThread 3 = .ok (.aload_n 0, 1) := by decide +kernel
theorem dX8_isThread_4 : decode cX8_isThread 4 = .ok (.invokevirtual 279, 3) := by decide +kernel
theorem dX8_isThread_7 : decode cX8_isThread 7 = .ok (.iconst 1, 1) := by decide +kernel
theorem dX8_isThread_8 : decode cX8_isThread 8 = .ok (.isub, 1) := by decide +kernel
theorem dX8_isThread_9 : decode cX8_isThread 9 = .ok (.i2l, 1) := by decide +kernel
theorem dX8_isThread_10 : decode cX8_isThread 10 = .ok (.invokestatic 145, 3) := by decide +kernel
theorem dX8_isThread_13 : decode cX8_isThread 13 = .ok (.ireturn, 1) := by decide +kernel
set_option maxRecDepth 20000 in
theorem ggX8_wind_X8_isThread : GoodIn wsX8_wind wsX8_isThread := goodIn_r _ [10, 11, 12, 13, 9, 14, 5, 15, 16, 17, 57, 58, 59, 60, 61, 62, 63, 64, 65, 66, 67, 68, 69, 70, 71, 72, 73, 74, 75, 76, 77, 78, 79, 80, 81, 82, 83, 84, 85, 86, 87, 88, 89] (by decide +kernel) (by decide +kernel)
set_option maxRecDepth 20000 in
theorem gX8_wind_X8_isThread : GoodIn wsX8_wind (wsV RX8 289 RX8 yX8_isThread wsX8_isThread) := goodIn_app (goodIn_of _ (by decide +kernel)) ggX8_wind_X8_isThread
set_option maxRecDepth 20000 in
theorem ggX8_wind_X8_in : GoodIn wsX8_wind wsX8_in := goodIn_r _ [17] (by decide +kernel) (by decide +kernel)
set_option maxRecDepth 20000 in
theorem gX8_wind_X8_in : GoodIn wsX8_wind (va_wsS RX8 145 yX8_in wsX8_in) := goodIn_app (goodIn_of _ (by decide +kernel)) ggX8_wind_X8_in
set_option maxRecDepth 20000 in
theorem ggX8_wind_X8_errs : GoodIn wsX8_wind wsX8_errs := goodIn_r _ [21, 22, 23, 57, 58, 59, 60, 61, 62, 63, 64, 65, 66, 67, 68, 69, 70, 71, 72, 73, 74, 75, 76, 77, 78, 79, 80, 81, 82, 83, 84, 85, 86, 87, 88, 89] (by decide +kernel) (by decide +kernel)
set_option maxRecDepth 20000 in
theorem gX8_wind_X8_errs : GoodIn wsX8_wind (wsV RX8 150 RX8 yX8_errs wsX8_errs) := goodIn_app (goodIn_of _ (by decide +kernel)) ggX8_wind_X8_errs
set_option maxRecDepth 20000 in
theorem ggX8_wind_X8_theWork : GoodIn wsX8_wind wsX8_theWork := goodIn_r _ [27, 5, 28, 29, 30, 9, 31, 32, 33, 3, 34, 35, 36, 37, 38, 39, 40, 41, 42, 43, 44, 45, 46, 47, 48, 49, 50, 51, 52, 53, 54, 55, 56, 57, 58, 59, 60, 61, 62, 63, 64, 65, 66, 67, 68, 69, 70, 71, 72, 73, 74, 75, 76, 77, 78, 79, 80, 81, 82, 83, 84, 85, 86, 87, 88, 89] (by decide +kernel) (by decide +kernel)
set_option maxRecDepth 20000 in
theorem gX8_wind_X8_theWork : GoodIn wsX8_wind (wsV RX8 203 RX8 yX8_theWork wsX8_theWork) := goodIn_app (goodIn_of _ (by decide +kernel)) ggX8_wind_X8_theWork
theorem dX8_wind_0 : decode cX8_wind 0 = .ok (.aload_n 0, 1) := by decide +kernel
theorem dX8_wind_1 : decode cX8_wind 1 = .ok (.iload_n 1, 1) := by decide +kernel
theorem dX8_wind_2 : decode cX8_wind 2 = .ok (.invokevirtual 289, 3) := by decide +kernel
theorem dX8_wind_5 : decode cX8_wind 5 = .ok (.ifCond .eq 15, 3) := by decide +kernel
theorem dX8_wind_8 : decode cX8_wind 8 = .ok (.iload_n 2, 1) := by decide +kernel
theorem dX8_wind_9 : decode cX8_wind 9 = .ok (.i2l, 1) := by decide +kernel
theorem dX8_wind_10 : decode cX8_wind 10 = .ok (.lconst 0, 1) := by decide +kernel
theorem dX8_wind_11 : decode cX8_wind 11 = .ok (.ldc2_w 292, 3) := by decide +kernel
theorem dX8_wind_14 : decode cX8_wind 14 = .ok (.invokestatic 145, 3) := by decide +kernel
theorem dX8_wind_17 : decode cX8_wind 17 = .ok (.ifCond .ne 10, 3) := by decide +kernel
theorem dX8_wind_20 : decode cX8_wind 20 = .ok (.aload_n 0, 1) := by decide +kernel
theorem dX8_wind_21 : decode cX8_wind 21 = .ok (.ldc 149, 2) := by decide +kernel
theorem dX8_wind_23 : decode cX8_wind 23 = .ok (.invokevirtual 150, 3) := by decide +kernel
theorem dX8_wind_26 : decode cX8_wind 26 = .ok (.ireturn, 1) := by decide +kernel
theorem dX8_wind_27 : decode cX8_wind 27 = .ok (.aload_n 0, 1) := by decide +kernel
theorem dX8_wind_28 : decode cX8_wind 28 = .ok (.invokevirtual 203, 3) := by decide +kernel
theorem dX8_wind_31 : decode cX8_wind 31 = .ok (.aload_n 0, 1) := by decide +kernel
theorem dX8_wind_32 : decode cX8_wind 32 = .ok (.getfield 44, 3) := by decide +kernel
theorem dX8_wind_35 : decode cX8_wind 35 = .ok (.iload_n 1, 1) := by decide +kernel
theorem dX8_wind_36 : decode cX8_wind 36 = .ok (.iaload, 1) := by decide +kernel
theorem dX8_wind_37 : decode cX8_wind 37 = .ok (.iload_n 2, 1) := by decide +kernel
theorem dX8_wind_38 : decode cX8_wind 38 = .ok (.if_icmp .le 10, 3) := by decide +kernel
theorem dX8_wind_41 : decode cX8_wind 41 = .ok (.aload_n 0, 1) := by decide +kernel
theorem dX8_wind_42 : decode cX8_wind 42 = .ok (.ldc 165, 2) := by decide +kernel
theorem dX8_wind_44 : decode cX8_wind 44 = .ok (.invokevirtual 150, 3) := by decide +kernel
theorem dX8_wind_47 : decode cX8_wind 47 = .ok (.ireturn, 1) := by decide +kernel
theorem dX8_wind_48 : decode cX8_wind 48 = .ok (.aload_n 0, 1) := by decide +kernel
theorem dX8_wind_49 : decode cX8_wind 49 = .ok (.getfield 9, 3) := by decide +kernel
theorem dX8_wind_52 : decode cX8_wind 52 = .ok (.sipush 140, 3) := by decide +kernel
theorem dX8_wind_55 : decode cX8_wind 55 = .ok (.iload_n 1, 1) := by decide +kernel
theorem dX8_wind_56 : decode cX8_wind 56 = .ok (.iadd, 1) := by decide +kernel
theorem dX8_wind_57 : decode cX8_wind 57 = .ok (.iaload, 1) := by decide +kernel
theorem dX8_wind_58 : decode cX8_wind 58 = .ok (.istore_n 3, 1) := by decide +kernel
theorem dX8_wind_59 : decode cX8_wind 59 = .ok (.aload_n 0, 1) := by decide +kernel
theorem dX8_wind_60 : decode cX8_wind 60 = .ok (.getfield 9, 3) := by decide +kernel
theorem dX8_wind_63 : decode cX8_wind 63 = .ok (.sipush 140, 3) := by decide +kernel
theorem dX8_wind_66 : decode cX8_wind 66 = .ok (.iload_n 1, 1) := by decide +kernel
theorem dX8_wind_67 : decode cX8_wind 67 = .ok (.iadd, 1) := by decide +kernel
theorem dX8_wind_68 : decode cX8_wind 68 = .ok (.iload_n 2, 1) := by decide +kernel
theorem dX8_wind_69 : decode cX8_wind 69 = .ok (.iastore, 1) := by decide +kernel
theorem dX8_wind_70 : decode cX8_wind 70 = .ok (.iload_n 3, 1) := by decide +kernel
theorem dX8_wind_71 : decode cX8_wind 71 = .ok (.ireturn, 1) := by decide +kernel
theorem dX8_placeOf_0 : decode cX8_placeOf 0 = .ok (.iconst 0, 1) := by decide +kernel
theorem dX8_placeOf_1 : decode cX8_placeOf 1 = .ok (.istore_n 2, 1) := by decide +kernel
theorem dX8_placeOf_2 : decode cX8_placeOf 2 = .ok (.aload_n 0, 1) := by decide +kernel
theorem dX8_placeOf_3 : decode cX8_placeOf 3 = .ok (.getfield 41, 3) := by decide +kernel
theorem dX8_placeOf_6 : decode cX8_placeOf 6 = .ok (.iload_n 2, 1) := by decide +kernel
theorem dX8_placeOf_7 : decode cX8_placeOf 7 = .ok (.iaload, 1) := by decide +kernel
theorem dX8_placeOf_8 : decode cX8_placeOf 8 = .ok (.iload_n 1, 1) := by decide +kernel
theorem dX8_placeOf_9 : decode cX8_placeOf 9 = .ok (.if_icmp .eq 9, 3) := by decide +kernel
theorem dX8_placeOf_12 : decode cX8_placeOf 12 = .ok (.iinc 2 1, 3) := by decide +kernel
theorem dX8_placeOf_15 : decode cX8_placeOf 15 = .ok (.goto (-13), 3) := by decide +kernel
theorem dX8_placeOf_18 : decode cX8_placeOf 18 = .ok (.iload_n 2, 1) := by decide +kernel
theorem dX8_placeOf_19 : decode cX8_placeOf 19 = .ok (.ireturn, 1) := by decide +kernel
set_option maxRecDepth 20000 in
theorem ggX8_roundsOf_X8_placeOf : GoodIn wsX8_roundsOf wsX8_placeOf := goodIn_r _ [5, 6, 7, 8, 9, 10, 11, 12, 13, 14, 15, 16, 17, 18, 19, 20, 21, 22, 23, 24, 25, 26, 27, 28, 29, 30, 31, 32, 33, 34, 35, 36, 37, 38, 39] (by decide +kernel) (by decide +kernel)
set_option maxRecDepth 20000 in
theorem gX8_roundsOf_X8_placeOf : GoodIn wsX8_roundsOf (wsV RX8 294 RX8 yX8_placeOf wsX8_placeOf) := goodIn_app (goodIn_of _ (by decide +kernel)) ggX8_roundsOf_X8_placeOf
theorem dX8_roundsOf_0 : decode cX8_roundsOf 0 = .ok (.iconst 1, 1) := by decide +kernel
theorem dX8_roundsOf_1 : decode cX8_roundsOf 1 = .ok (.istore_n 2, 1) := by decide +kernel
theorem dX8_roundsOf_2 : decode cX8_roundsOf 2 = .ok (.aload_n 0, 1) := by decide +kernel
theorem dX8_roundsOf_3 : decode cX8_roundsOf 3 = .ok (.iload_n 1, 1) := by decide +kernel
theorem dX8_roundsOf_4 : decode cX8_roundsOf 4 = .ok (.invokevirtual 294, 3) := by decide +kernel
theorem dX8_roundsOf_7 : decode cX8_roundsOf 7 = .ok (.istore_n 3, 1) := by decide +kernel
theorem dX8_roundsOf_8 : decode cX8_roundsOf 8 = .ok (.iload_n 3, 1) := by decide +kernel
theorem dX8_roundsOf_9 : decode cX8_roundsOf 9 = .ok (.iload_n 1, 1) := by decide +kernel
theorem dX8_roundsOf_10 : decode cX8_roundsOf 10 = .ok (.if_icmp .eq 15, 3) := by decide +kernel
theorem dX8_roundsOf_13 : decode cX8_roundsOf 13 = .ok (.iinc 2 1, 3) := by decide +kernel
theorem dX8_roundsOf_16 : decode cX8_roundsOf 16 = .ok (.aload_n 0, 1) := by decide +kernel
theorem dX8_roundsOf_17 : decode cX8_roundsOf 17 = .ok (.iload_n 3, 1) := by decide +kernel
theorem dX8_roundsOf_18 : decode cX8_roundsOf 18 = .ok (.invokevirtual 294, 3) := by decide +kernel
theorem dX8_roundsOf_21 : decode cX8_roundsOf 21 = .ok (.istore_n 3, 1) := by decide +kernel
theorem dX8_roundsOf_22 : decode cX8_roundsOf 22 = .ok (.goto (-14), 3) := by decide +kernel
theorem dX8_roundsOf_25 : decode cX8_roundsOf 25 = .ok (.iload_n 2, 1) := by decide +kernel
theorem dX8_roundsOf_26 : decode cX8_roundsOf 26 = .ok (.ireturn, 1) := by decide +kernel
theorem dX8_overs_0 : decode cX8_overs 0 = .ok (.iconst 0, 1) := by decide +kernel
theorem dX8_overs_1 : decode cX8_overs 1 = .ok (.istore_n 3, 1) := by decide +kernel
theorem dX8_overs_2 : decode cX8_overs 2 = .ok (.iconst 0, 1) := by decide +kernel
theorem dX8_overs_3 : decode cX8_overs 3 = .ok (.istore 4, 2) := by decide +kernel
theorem dX8_overs_5 : decode cX8_overs 5 = .ok (.iload 4, 2) := by decide +kernel
theorem dX8_overs_7 : decode cX8_overs 7 = .ok (.aload_n 0, 1) := by decide +kernel
theorem dX8_overs_8 : decode cX8_overs 8 = .ok (.getfield 186, 3) := by decide +kernel
theorem dX8_overs_11 : decode cX8_overs 11 = .ok (.if_icmp .ge 42, 3) := by decide +kernel
theorem dX8_overs_14 : decode cX8_overs 14 = .ok (.iload_n 3, 1) := by decide +kernel
theorem dX8_overs_15 : decode cX8_overs 15 = .ok (.iload_n 2, 1) := by decide +kernel
theorem dX8_overs_16 : decode cX8_overs 16 = .ok (.ifCond .eq 13, 3) := by decide +kernel
theorem dX8_overs_19 : decode cX8_overs 19 = .ok (.aload_n 0, 1) := by decide +kernel
theorem dX8_overs_20 : decode cX8_overs 20 = .ok (.getfield 53, 3) := by decide +kernel
theorem dX8_overs_23 : decode cX8_overs 23 = .ok (.iload 4, 2) := by decide +kernel
theorem dX8_overs_25 : decode cX8_overs 25 = .ok (.iaload, 1) := by decide +kernel
theorem dX8_overs_26 : decode cX8_overs 26 = .ok (.goto 10, 3) := by decide +kernel
theorem dX8_overs_29 : decode cX8_overs 29 = .ok (.aload_n 0, 1) := by decide +kernel
theorem dX8_overs_30 : decode cX8_overs 30 = .ok (.getfield 56, 3) := by decide +kernel
theorem dX8_overs_33 : decode cX8_overs 33 = .ok (.iload 4, 2) := by decide +kernel
theorem dX8_overs_35 : decode cX8_overs 35 = .ok (.iaload, 1) := by decide +kernel
theorem dX8_overs_36 : decode cX8_overs 36 = .ok (.iload_n 1, 1) := by decide +kernel
theorem dX8_overs_37 : decode cX8_overs 37 = .ok (.if_icmp .ne 7, 3) := by decide +kernel
theorem dX8_overs_40 : decode cX8_overs 40 = .ok (.iconst 1, 1) := by decide +kernel
theorem dX8_overs_41 : decode cX8_overs 41 = .ok (.goto 4, 3) := by decide +kernel
theorem dX8_overs_44 : decode cX8_overs 44 = .ok (.iconst 0, 1) := by decide +kernel
theorem dX8_overs_45 : decode cX8_overs 45 = .ok (.iadd, 1) := by decide +kernel
theorem dX8_overs_46 : decode cX8_overs 46 = .ok (.istore_n 3, 1) := by decide +kernel
theorem dX8_overs_47 : decode cX8_overs 47 = .ok (.iinc 4 1, 3) := by decide +kernel
theorem dX8_overs_50 : decode cX8_overs 50 = .ok (.goto (-45), 3) := by decide +kernel
theorem dX8_overs_53 : decode cX8_overs 53 = .ok (.iload_n 3, 1) := by decide +kernel
theorem dX8_overs_54 : decode cX8_overs 54 = .ok (.ireturn, 1) := by decide +kernel
theorem dX8_falseOf_0 : decode cX8_falseOf 0 = .ok (.iconst 0, 1) := by decide +kernel
theorem dX8_falseOf_1 : decode cX8_falseOf 1 = .ok (.istore_n 2, 1) := by decide +kernel
theorem dX8_falseOf_2 : decode cX8_falseOf 2 = .ok (.iconst (-1), 1) := by decide +kernel
theorem dX8_falseOf_3 : decode cX8_falseOf 3 = .ok (.istore_n 3, 1) := by decide +kernel
theorem dX8_falseOf_4 : decode cX8_falseOf 4 = .ok (.iconst 0, 1) := by decide +kernel
theorem dX8_falseOf_5 : decode cX8_falseOf 5 = .ok (.istore 4, 2) := by decide +kernel
theorem dX8_falseOf_7 : decode cX8_falseOf 7 = .ok (.iload 4, 2) := by decide +kernel
theorem dX8_falseOf_9 : decode cX8_falseOf 9 = .ok (.aload_n 0, 1) := by decide +kernel
theorem dX8_falseOf_10 : decode cX8_falseOf 10 = .ok (.getfield 186, 3) := by decide +kernel
theorem dX8_falseOf_13 : decode cX8_falseOf 13 = .ok (.if_icmp .ge 66, 3) := by decide +kernel
theorem dX8_falseOf_16 : decode cX8_falseOf 16 = .ok (.aload_n 0, 1) := by decide +kernel
theorem dX8_falseOf_17 : decode cX8_falseOf 17 = .ok (.getfield 53, 3) := by decide +kernel
theorem dX8_falseOf_20 : decode cX8_falseOf 20 = .ok (.iload 4, 2) := by decide +kernel
theorem dX8_falseOf_22 : decode cX8_falseOf 22 = .ok (.iaload, 1) := by decide +kernel
theorem dX8_falseOf_23 : decode cX8_falseOf 23 = .ok (.iload_n 1, 1) := by decide +kernel
theorem dX8_falseOf_24 : decode cX8_falseOf 24 = .ok (.if_icmp .eq 17, 3) := by decide +kernel
theorem dX8_falseOf_27 : decode cX8_falseOf 27 = .ok (.aload_n 0, 1) := by decide +kernel
theorem dX8_falseOf_28 : decode cX8_falseOf 28 = .ok (.getfield 56, 3) := by decide +kernel
theorem dX8_falseOf_31 : decode cX8_falseOf 31 = .ok (.iload 4, 2) := by decide +kernel
theorem dX8_falseOf_33 : decode cX8_falseOf 33 = .ok (.iaload, 1) := by decide +kernel
theorem dX8_falseOf_34 : decode cX8_falseOf 34 = .ok (.iload_n 1, 1) := by decide +kernel
theorem dX8_falseOf_35 : decode cX8_falseOf 35 = .ok (.if_icmp .eq 6, 3) := by decide +kernel
theorem dX8_falseOf_38 : decode cX8_falseOf 38 = .ok (.goto 35, 3) := by decide +kernel
theorem dX8_falseOf_41 : decode cX8_falseOf 41 = .ok (.aload_n 0, 1) := by decide +kernel
theorem dX8_falseOf_42 : decode cX8_falseOf 42 = .ok (.getfield 53, 3) := by decide +kernel
theorem dX8_falseOf_45 : decode cX8_falseOf 45 = .ok (.iload 4, 2) := by decide +kernel
theorem dX8_falseOf_47 : decode cX8_falseOf 47 = .ok (.iaload, 1) := by decide +kernel
theorem dX8_falseOf_48 : decode cX8_falseOf 48 = .ok (.iload_n 1, 1) := by decide +kernel
theorem dX8_falseOf_49 : decode cX8_falseOf 49 = .ok (.if_icmp .ne 7, 3) := by decide +kernel
theorem dX8_falseOf_52 : decode cX8_falseOf 52 = .ok (.iconst 1, 1) := by decide +kernel
theorem dX8_falseOf_53 : decode cX8_falseOf 53 = .ok (.goto 4, 3) := by decide +kernel
theorem dX8_falseOf_56 : decode cX8_falseOf 56 = .ok (.iconst 0, 1) := by decide +kernel
theorem dX8_falseOf_57 : decode cX8_falseOf 57 = .ok (.istore 5, 2) := by decide +kernel
theorem dX8_falseOf_59 : decode cX8_falseOf 59 = .ok (.iload 5, 2) := by decide +kernel
theorem dX8_falseOf_61 : decode cX8_falseOf 61 = .ok (.iload_n 3, 1) := by decide +kernel
theorem dX8_falseOf_62 : decode cX8_falseOf 62 = .ok (.if_icmp .ne 5, 3) := by decide +kernel
theorem dX8_falseOf_65 : decode cX8_falseOf 65 = .ok (.iload_n 2, 1) := by decide +kernel
theorem dX8_falseOf_66 : decode cX8_falseOf 66 = .ok (.ireturn, 1) := by decide +kernel
theorem dX8_falseOf_67 : decode cX8_falseOf 67 = .ok (.iload 5, 2) := by decide +kernel
theorem dX8_falseOf_69 : decode cX8_falseOf 69 = .ok (.istore_n 3, 1) := by decide +kernel
theorem dX8_falseOf_70 : decode cX8_falseOf 70 = .ok (.iinc 2 1, 3) := by decide +kernel
theorem dX8_falseOf_73 : decode cX8_falseOf 73 = .ok (.iinc 4 1, 3) := by decide +kernel
theorem dX8_falseOf_76 : decode cX8_falseOf 76 = .ok (.goto (-69), 3) := by decide +kernel
theorem dX8_falseOf_79 : decode cX8_falseOf 79 = .ok (.iconst (-1), 1) := by decide +kernel
theorem dX8_falseOf_80 : decode cX8_falseOf 80 = .ok (.ireturn, 1) := by decide +kernel
set_option maxRecDepth 20000 in
theorem ggX8_thread_X8_isThread : GoodIn wsX8_thread wsX8_isThread := goodIn_r _ [9, 10, 11, 12, 8, 13, 3, 14, 15, 16, 81, 82, 83, 84, 85, 86, 87, 88, 89, 90, 91, 92, 93, 94, 95, 96, 97, 98, 99, 100, 101, 102, 103, 104, 105, 106, 107, 108, 109, 110, 111, 112, 113] (by decide +kernel) (by decide +kernel)
set_option maxRecDepth 20000 in
theorem gX8_thread_X8_isThread : GoodIn wsX8_thread (wsV RX8 289 RX8 yX8_isThread wsX8_isThread) := goodIn_app (goodIn_of _ (by decide +kernel)) ggX8_thread_X8_isThread
set_option maxRecDepth 20000 in
theorem ggX8_thread_X8_in : GoodIn wsX8_thread wsX8_in := goodIn_r _ [16] (by decide +kernel) (by decide +kernel)
set_option maxRecDepth 20000 in
theorem gX8_thread_X8_in : GoodIn wsX8_thread (va_wsS RX8 145 yX8_in wsX8_in) := goodIn_app (goodIn_of _ (by decide +kernel)) ggX8_thread_X8_in
set_option maxRecDepth 20000 in
theorem ggX8_thread_X8_errs : GoodIn wsX8_thread wsX8_errs := goodIn_r _ [20, 21, 22, 81, 82, 83, 84, 85, 86, 87, 88, 89, 90, 91, 92, 93, 94, 95, 96, 97, 98, 99, 100, 101, 102, 103, 104, 105, 106, 107, 108, 109, 110, 111, 112, 113] (by decide +kernel) (by decide +kernel)
set_option maxRecDepth 20000 in
theorem gX8_thread_X8_errs : GoodIn wsX8_thread (wsV RX8 150 RX8 yX8_errs wsX8_errs) := goodIn_app (goodIn_of _ (by decide +kernel)) ggX8_thread_X8_errs
set_option maxRecDepth 20000 in
theorem ggX8_thread_X8_whole : GoodIn wsX8_thread wsX8_whole := goodIn_r _ [26, 27, 28, 29, 30, 8, 31, 3, 32, 33, 34, 35, 36, 37, 4, 38, 39, 40, 41, 42, 43, 44, 45, 46, 47, 48, 49, 50, 51, 52, 53, 54, 55, 56, 57, 58, 59, 60, 61, 62, 63, 64, 81, 82, 83, 84, 85, 86, 87, 88, 89, 90, 91, 92, 93, 94, 95, 96, 97, 98, 99, 100, 101, 102, 103, 104, 105, 106, 107, 108, 109, 110, 111, 112, 113] (by decide +kernel) (by decide +kernel)
set_option maxRecDepth 20000 in
theorem gX8_thread_X8_whole : GoodIn wsX8_thread (wsV RX8 297 RX8 yX8_whole wsX8_whole) := goodIn_app (goodIn_of _ (by decide +kernel)) ggX8_thread_X8_whole
set_option maxRecDepth 20000 in
theorem ggX8_thread_X8_placeOf : GoodIn wsX8_thread wsX8_placeOf := goodIn_r _ [68, 37, 81, 82, 83, 84, 85, 86, 87, 88, 89, 90, 91, 92, 93, 94, 95, 96, 97, 98, 99, 100, 101, 102, 103, 104, 105, 106, 107, 108, 109, 110, 111, 112, 113] (by decide +kernel) (by decide +kernel)
set_option maxRecDepth 20000 in
theorem gX8_thread_X8_placeOf : GoodIn wsX8_thread (wsV RX8 294 RX8 yX8_placeOf wsX8_placeOf) := goodIn_app (goodIn_of _ (by decide +kernel)) ggX8_thread_X8_placeOf
set_option maxRecDepth 20000 in
theorem ggX8_thread_X8_roundsOf : GoodIn wsX8_thread wsX8_roundsOf := goodIn_r _ [72, 65, 66, 67, 8, 68, 37, 81, 82, 83, 84, 85, 86, 87, 88, 89, 90, 91, 92, 93, 94, 95, 96, 97, 98, 99, 100, 101, 102, 103, 104, 105, 106, 107, 108, 109, 110, 111, 112, 113] (by decide +kernel) (by decide +kernel)
set_option maxRecDepth 20000 in
theorem gX8_thread_X8_roundsOf : GoodIn wsX8_thread (wsV RX8 300 RX8 yX8_roundsOf wsX8_roundsOf) := goodIn_app (goodIn_of _ (by decide +kernel)) ggX8_thread_X8_roundsOf
set_option maxRecDepth 20000 in
theorem ggX8_thread_X8_overs : GoodIn wsX8_thread wsX8_overs := goodIn_r _ [76, 36, 58, 59, 81, 82, 83, 84, 85, 86, 87, 88, 89, 90, 91, 92, 93, 94, 95, 96, 97, 98, 99, 100, 101, 102, 103, 104, 105, 106, 107, 108, 109, 110, 111, 112, 113] (by decide +kernel) (by decide +kernel)
set_option maxRecDepth 20000 in
theorem gX8_thread_X8_overs : GoodIn wsX8_thread (wsV RX8 303 RX8 yX8_overs wsX8_overs) := goodIn_app (goodIn_of _ (by decide +kernel)) ggX8_thread_X8_overs
set_option maxRecDepth 20000 in
theorem ggX8_thread_X8_falseOf : GoodIn wsX8_thread wsX8_falseOf := goodIn_r _ [80, 36, 58, 59, 81, 82, 83, 84, 85, 86, 87, 88, 89, 90, 91, 92, 93, 94, 95, 96, 97, 98, 99, 100, 101, 102, 103, 104, 105, 106, 107, 108, 109, 110, 111, 112, 113] (by decide +kernel) (by decide +kernel)
set_option maxRecDepth 20000 in
theorem gX8_thread_X8_falseOf : GoodIn wsX8_thread (wsV RX8 307 RX8 yX8_falseOf wsX8_falseOf) := goodIn_app (goodIn_of _ (by decide +kernel)) ggX8_thread_X8_falseOf
theorem dX8_thread_0 : decode cX8_thread 0 = .ok (.aload_n 0, 1) := by decide +kernel
theorem dX8_thread_1 : decode cX8_thread 1 = .ok (.iload_n 1, 1) := by decide +kernel
theorem dX8_thread_2 : decode cX8_thread 2 = .ok (.invokevirtual 289, 3) := by decide +kernel
theorem dX8_thread_5 : decode cX8_thread 5 = .ok (.ifCond .eq 15, 3) := by decide +kernel
theorem dX8_thread_8 : decode cX8_thread 8 = .ok (.iload_n 2, 1) := by decide +kernel
theorem dX8_thread_9 : decode cX8_thread 9 = .ok (.i2l, 1) := by decide +kernel
theorem dX8_thread_10 : decode cX8_thread 10 = .ok (.lconst 0, 1) := by decide +kernel
theorem dX8_thread_11 : decode cX8_thread 11 = .ok (.ldc2_w 219, 3) := by decide +kernel
theorem dX8_thread_14 : decode cX8_thread 14 = .ok (.invokestatic 145, 3) := by decide +kernel
theorem dX8_thread_17 : decode cX8_thread 17 = .ok (.ifCond .ne 10, 3) := by decide +kernel
theorem dX8_thread_20 : decode cX8_thread 20 = .ok (.aload_n 0, 1) := by decide +kernel
theorem dX8_thread_21 : decode cX8_thread 21 = .ok (.ldc 149, 2) := by decide +kernel
theorem dX8_thread_23 : decode cX8_thread 23 = .ok (.invokevirtual 150, 3) := by decide +kernel
theorem dX8_thread_26 : decode cX8_thread 26 = .ok (.ireturn, 1) := by decide +kernel
theorem dX8_thread_27 : decode cX8_thread 27 = .ok (.aload_n 0, 1) := by decide +kernel
theorem dX8_thread_28 : decode cX8_thread 28 = .ok (.iload_n 2, 1) := by decide +kernel
theorem dX8_thread_29 : decode cX8_thread 29 = .ok (.iconst 3, 1) := by decide +kernel
theorem dX8_thread_30 : decode cX8_thread 30 = .ok (.if_icmp .ge 7, 3) := by decide +kernel
theorem dX8_thread_33 : decode cX8_thread 33 = .ok (.iconst 0, 1) := by decide +kernel
theorem dX8_thread_34 : decode cX8_thread 34 = .ok (.goto 4, 3) := by decide +kernel
theorem dX8_thread_37 : decode cX8_thread 37 = .ok (.iconst 1, 1) := by decide +kernel
theorem dX8_thread_38 : decode cX8_thread 38 = .ok (.invokevirtual 297, 3) := by decide +kernel
theorem dX8_thread_41 : decode cX8_thread 41 = .ok (.iload_n 2, 1) := by decide +kernel
theorem dX8_thread_42 : decode cX8_thread 42 = .ok (.tableswitch 104 0 6 #[42, 53, 71, 77, 83, 90, 97], 42) := by decide +kernel
theorem dX8_thread_84 : decode cX8_thread 84 = .ok (.aload_n 0, 1) := by decide +kernel
theorem dX8_thread_85 : decode cX8_thread 85 = .ok (.getfield 9, 3) := by decide +kernel
theorem dX8_thread_88 : decode cX8_thread 88 = .ok (.sipush 140, 3) := by decide +kernel
theorem dX8_thread_91 : decode cX8_thread 91 = .ok (.iload_n 1, 1) := by decide +kernel
theorem dX8_thread_92 : decode cX8_thread 92 = .ok (.iadd, 1) := by decide +kernel
theorem dX8_thread_93 : decode cX8_thread 93 = .ok (.iaload, 1) := by decide +kernel
theorem dX8_thread_94 : decode cX8_thread 94 = .ok (.ireturn, 1) := by decide +kernel
theorem dX8_thread_95 : decode cX8_thread 95 = .ok (.aload_n 0, 1) := by decide +kernel
theorem dX8_thread_96 : decode cX8_thread 96 = .ok (.getfield 9, 3) := by decide +kernel
theorem dX8_thread_99 : decode cX8_thread 99 = .ok (.sipush 140, 3) := by decide +kernel
theorem dX8_thread_102 : decode cX8_thread 102 = .ok (.iload_n 1, 1) := by decide +kernel
theorem dX8_thread_103 : decode cX8_thread 103 = .ok (.iadd, 1) := by decide +kernel
theorem dX8_thread_104 : decode cX8_thread 104 = .ok (.iaload, 1) := by decide +kernel
theorem dX8_thread_105 : decode cX8_thread 105 = .ok (.aload_n 0, 1) := by decide +kernel
theorem dX8_thread_106 : decode cX8_thread 106 = .ok (.getfield 44, 3) := by decide +kernel
theorem dX8_thread_109 : decode cX8_thread 109 = .ok (.iload_n 1, 1) := by decide +kernel
theorem dX8_thread_110 : decode cX8_thread 110 = .ok (.iaload, 1) := by decide +kernel
theorem dX8_thread_111 : decode cX8_thread 111 = .ok (.isub, 1) := by decide +kernel
theorem dX8_thread_112 : decode cX8_thread 112 = .ok (.ireturn, 1) := by decide +kernel
theorem dX8_thread_113 : decode cX8_thread 113 = .ok (.aload_n 0, 1) := by decide +kernel
theorem dX8_thread_114 : decode cX8_thread 114 = .ok (.iload_n 1, 1) := by decide +kernel
theorem dX8_thread_115 : decode cX8_thread 115 = .ok (.invokevirtual 294, 3) := by decide +kernel
theorem dX8_thread_118 : decode cX8_thread 118 = .ok (.ireturn, 1) := by decide +kernel
theorem dX8_thread_119 : decode cX8_thread 119 = .ok (.aload_n 0, 1) := by decide +kernel
theorem dX8_thread_120 : decode cX8_thread 120 = .ok (.iload_n 1, 1) := by decide +kernel
theorem dX8_thread_121 : decode cX8_thread 121 = .ok (.invokevirtual 300, 3) := by decide +kernel
theorem dX8_thread_124 : decode cX8_thread 124 = .ok (.ireturn, 1) := by decide +kernel
theorem dX8_thread_125 : decode cX8_thread 125 = .ok (.aload_n 0, 1) := by decide +kernel
theorem dX8_thread_126 : decode cX8_thread 126 = .ok (.getfield 44, 3) := by decide +kernel
theorem dX8_thread_129 : decode cX8_thread 129 = .ok (.iload_n 1, 1) := by decide +kernel
theorem dX8_thread_130 : decode cX8_thread 130 = .ok (.iaload, 1) := by decide +kernel
theorem dX8_thread_131 : decode cX8_thread 131 = .ok (.ireturn, 1) := by decide +kernel
theorem dX8_thread_132 : decode cX8_thread 132 = .ok (.aload_n 0, 1) := by decide +kernel
theorem dX8_thread_133 : decode cX8_thread 133 = .ok (.iload_n 1, 1) := by decide +kernel
theorem dX8_thread_134 : decode cX8_thread 134 = .ok (.iconst 1, 1) := by decide +kernel
theorem dX8_thread_135 : decode cX8_thread 135 = .ok (.invokevirtual 303, 3) := by decide +kernel
theorem dX8_thread_138 : decode cX8_thread 138 = .ok (.ireturn, 1) := by decide +kernel
theorem dX8_thread_139 : decode cX8_thread 139 = .ok (.aload_n 0, 1) := by decide +kernel
theorem dX8_thread_140 : decode cX8_thread 140 = .ok (.iload_n 1, 1) := by decide +kernel
theorem dX8_thread_141 : decode cX8_thread 141 = .ok (.iconst 0, 1) := by decide +kernel
theorem dX8_thread_142 : decode cX8_thread 142 = .ok (.invokevirtual 303, 3) := by decide +kernel
theorem dX8_thread_145 : decode cX8_thread 145 = .ok (.ireturn, 1) := by decide +kernel
theorem dX8_thread_146 : decode cX8_thread 146 = .ok (.aload_n 0, 1) := by decide +kernel
theorem dX8_thread_147 : decode cX8_thread 147 = .ok (.iload_n 1, 1) := by decide +kernel
theorem dX8_thread_148 : decode cX8_thread 148 = .ok (.invokevirtual 307, 3) := by decide +kernel
theorem dX8_thread_151 : decode cX8_thread 151 = .ok (.ireturn, 1) := by decide +kernel
set_option maxRecDepth 20000 in
theorem ggX8_place_X8_isThread : GoodIn wsX8_place wsX8_isThread := goodIn_r _ [7, 8, 9, 10, 6, 11, 12, 13, 14, 15, 60, 61, 62, 63, 64, 65, 66, 67, 68, 69, 70, 71, 72, 73, 74, 75, 76, 77, 78, 79, 80, 81, 82, 83, 84, 85, 86, 87, 88, 89, 90, 91, 92] (by decide +kernel) (by decide +kernel)
set_option maxRecDepth 20000 in
theorem gX8_place_X8_isThread : GoodIn wsX8_place (wsV RX8 289 RX8 yX8_isThread wsX8_isThread) := goodIn_app (goodIn_of _ (by decide +kernel)) ggX8_place_X8_isThread
set_option maxRecDepth 20000 in
theorem ggX8_place_X8_in : GoodIn wsX8_place wsX8_in := goodIn_r _ [15] (by decide +kernel) (by decide +kernel)
set_option maxRecDepth 20000 in
theorem gX8_place_X8_in : GoodIn wsX8_place (va_wsS RX8 145 yX8_in wsX8_in) := goodIn_app (goodIn_of _ (by decide +kernel)) ggX8_place_X8_in
set_option maxRecDepth 20000 in
theorem ggX8_place_X8_errs : GoodIn wsX8_place wsX8_errs := goodIn_r _ [19, 20, 21, 60, 61, 62, 63, 64, 65, 66, 67, 68, 69, 70, 71, 72, 73, 74, 75, 76, 77, 78, 79, 80, 81, 82, 83, 84, 85, 86, 87, 88, 89, 90, 91, 92] (by decide +kernel) (by decide +kernel)
set_option maxRecDepth 20000 in
theorem gX8_place_X8_errs : GoodIn wsX8_place (wsV RX8 150 RX8 yX8_errs wsX8_errs) := goodIn_app (goodIn_of _ (by decide +kernel)) ggX8_place_X8_errs
set_option maxRecDepth 20000 in
theorem ggX8_place_X8_first : GoodIn wsX8_place wsX8_first := goodIn_r _ [25, 26, 27, 28, 6, 29, 30, 31, 32, 33, 34, 35, 36, 37, 38, 39, 40, 41, 42, 12, 43, 44, 45, 46, 47, 48, 49, 50, 51, 52, 53, 54, 55, 60, 61, 62, 63, 64, 65, 66, 67, 68, 69, 70, 71, 72, 73, 74, 75, 76, 77, 78, 79, 80, 81, 82, 83, 84, 85, 86, 87, 88, 89, 90, 91, 92] (by decide +kernel) (by decide +kernel)
set_option maxRecDepth 20000 in
theorem gX8_place_X8_first : GoodIn wsX8_place (wsV RX8 206 RX8 yX8_first wsX8_first) := goodIn_app (goodIn_of _ (by decide +kernel)) ggX8_place_X8_first
set_option maxRecDepth 20000 in
theorem ggX8_place_X8_placeOf : GoodIn wsX8_place wsX8_placeOf := goodIn_r _ [59, 31, 60, 61, 62, 63, 64, 65, 66, 67, 68, 69, 70, 71, 72, 73, 74, 75, 76, 77, 78, 79, 80, 81, 82, 83, 84, 85, 86, 87, 88, 89, 90, 91, 92] (by decide +kernel) (by decide +kernel)
set_option maxRecDepth 20000 in
theorem gX8_place_X8_placeOf : GoodIn wsX8_place (wsV RX8 294 RX8 yX8_placeOf wsX8_placeOf) := goodIn_app (goodIn_of _ (by decide +kernel)) ggX8_place_X8_placeOf
theorem dX8_place_0 : decode cX8_place 0 = .ok (.aload_n 0, 1) := by decide +kernel
theorem dX8_place_1 : decode cX8_place 1 = .ok (.iload_n 1, 1) := by decide +kernel
theorem dX8_place_2 : decode cX8_place 2 = .ok (.invokevirtual 289, 3) := by decide +kernel
theorem dX8_place_5 : decode cX8_place 5 = .ok (.ifCond .eq 17, 3) := by decide +kernel
theorem dX8_place_8 : decode cX8_place 8 = .ok (.iload_n 2, 1) := by decide +kernel
theorem dX8_place_9 : decode cX8_place 9 = .ok (.i2l, 1) := by decide +kernel
theorem dX8_place_10 : decode cX8_place 10 = .ok (.lconst 0, 1) := by decide +kernel
theorem dX8_place_11 : decode cX8_place 11 = .ok (.aload_n 0, 1) := by decide +kernel
theorem dX8_place_12 : decode cX8_place 12 = .ok (.getfield 120, 3) := by decide +kernel
theorem dX8_place_15 : decode cX8_place 15 = .ok (.i2l, 1) := by decide +kernel
theorem dX8_place_16 : decode cX8_place 16 = .ok (.invokestatic 145, 3) := by decide +kernel
theorem dX8_place_19 : decode cX8_place 19 = .ok (.ifCond .ne 10, 3) := by decide +kernel
theorem dX8_place_22 : decode cX8_place 22 = .ok (.aload_n 0, 1) := by decide +kernel
theorem dX8_place_23 : decode cX8_place 23 = .ok (.ldc 149, 2) := by decide +kernel
theorem dX8_place_25 : decode cX8_place 25 = .ok (.invokevirtual 150, 3) := by decide +kernel
theorem dX8_place_28 : decode cX8_place 28 = .ok (.ireturn, 1) := by decide +kernel
theorem dX8_place_29 : decode cX8_place 29 = .ok (.aload_n 0, 1) := by decide +kernel
theorem dX8_place_30 : decode cX8_place 30 = .ok (.iload_n 2, 1) := by decide +kernel
theorem dX8_place_31 : decode cX8_place 31 = .ok (.invokevirtual 206, 3) := by decide +kernel
theorem dX8_place_34 : decode cX8_place 34 = .ok (.aload_n 0, 1) := by decide +kernel
theorem dX8_place_35 : decode cX8_place 35 = .ok (.iload_n 1, 1) := by decide +kernel
theorem dX8_place_36 : decode cX8_place 36 = .ok (.invokevirtual 294, 3) := by decide +kernel
theorem dX8_place_39 : decode cX8_place 39 = .ok (.ireturn, 1) := by decide +kernel
theorem dX8_divisor_0 : decode cX8_divisor 0 = .ok (.lload_n 0, 1) := by decide +kernel
theorem dX8_divisor_1 : decode cX8_divisor 1 = .ok (.lstore 4, 2) := by decide +kernel
theorem dX8_divisor_3 : decode cX8_divisor 3 = .ok (.lload_n 2, 1) := by decide +kernel
theorem dX8_divisor_4 : decode cX8_divisor 4 = .ok (.lstore 6, 2) := by decide +kernel
theorem dX8_divisor_6 : decode cX8_divisor 6 = .ok (.lload 6, 2) := by decide +kernel
theorem dX8_divisor_8 : decode cX8_divisor 8 = .ok (.lconst 0, 1) := by decide +kernel
theorem dX8_divisor_9 : decode cX8_divisor 9 = .ok (.lcmp, 1) := by decide +kernel
theorem dX8_divisor_10 : decode cX8_divisor 10 = .ok (.ifCond .eq 21, 3) := by decide +kernel
theorem dX8_divisor_13 : decode cX8_divisor 13 = .ok (.lload 4, 2) := by decide +kernel
theorem dX8_divisor_15 : decode cX8_divisor 15 = .ok (.lload 6, 2) := by decide +kernel
theorem dX8_divisor_17 : decode cX8_divisor 17 = .ok (.lrem, 1) := by decide +kernel
theorem dX8_divisor_18 : decode cX8_divisor 18 = .ok (.lstore 8, 2) := by decide +kernel
theorem dX8_divisor_20 : decode cX8_divisor 20 = .ok (.lload 6, 2) := by decide +kernel
theorem dX8_divisor_22 : decode cX8_divisor 22 = .ok (.lstore 4, 2) := by decide +kernel
theorem dX8_divisor_24 : decode cX8_divisor 24 = .ok (.lload 8, 2) := by decide +kernel
theorem dX8_divisor_26 : decode cX8_divisor 26 = .ok (.lstore 6, 2) := by decide +kernel
theorem dX8_divisor_28 : decode cX8_divisor 28 = .ok (.goto (-22), 3) := by decide +kernel
theorem dX8_divisor_31 : decode cX8_divisor 31 = .ok (.lload 4, 2) := by decide +kernel
theorem dX8_divisor_33 : decode cX8_divisor 33 = .ok (.lreturn, 1) := by decide +kernel
set_option maxRecDepth 20000 in
theorem ggX8_rounds_X8_first : GoodIn wsX8_rounds wsX8_first := goodIn_r _ [6, 7, 8, 9, 5, 10, 11, 12, 13, 14, 15, 16, 17, 18, 19, 20, 21, 22, 23, 24, 25, 26, 27, 28, 29, 30, 31, 32, 33, 34, 35, 36, 37, 53, 54, 55, 56, 57, 58, 59, 60, 61, 62, 63, 64, 65, 66, 67, 68, 69, 70, 71, 72, 73, 74, 75, 76, 77, 78, 79, 80, 81, 82, 83, 84, 85] (by decide +kernel) (by decide +kernel)
set_option maxRecDepth 20000 in
theorem gX8_rounds_X8_first : GoodIn wsX8_rounds (wsV RX8 206 RX8 yX8_first wsX8_first) := goodIn_app (goodIn_of _ (by decide +kernel)) ggX8_rounds_X8_first
set_option maxRecDepth 20000 in
theorem ggX8_rounds_X8_threads : GoodIn wsX8_rounds wsX8_threads := goodIn_r _ [41, 24, 53, 54, 55, 56, 57, 58, 59, 60, 61, 62, 63, 64, 65, 66, 67, 68, 69, 70, 71, 72, 73, 74, 75, 76, 77, 78, 79, 80, 81, 82, 83, 84, 85] (by decide +kernel) (by decide +kernel)
set_option maxRecDepth 20000 in
theorem gX8_rounds_X8_threads : GoodIn wsX8_rounds (wsV RX8 279 RX8 yX8_threads wsX8_threads) := goodIn_app (goodIn_of _ (by decide +kernel)) ggX8_rounds_X8_threads
set_option maxRecDepth 20000 in
theorem ggX8_rounds_X8_roundsOf : GoodIn wsX8_rounds wsX8_roundsOf := goodIn_r _ [45, 46, 47, 48, 5, 49, 12, 53, 54, 55, 56, 57, 58, 59, 60, 61, 62, 63, 64, 65, 66, 67, 68, 69, 70, 71, 72, 73, 74, 75, 76, 77, 78, 79, 80, 81, 82, 83, 84, 85] (by decide +kernel) (by decide +kernel)
set_option maxRecDepth 20000 in
theorem gX8_rounds_X8_roundsOf : GoodIn wsX8_rounds (wsV RX8 300 RX8 yX8_roundsOf wsX8_roundsOf) := goodIn_app (goodIn_of _ (by decide +kernel)) ggX8_rounds_X8_roundsOf
set_option maxRecDepth 20000 in
theorem ggX8_rounds_X8_divisor : GoodIn wsX8_rounds wsX8_divisor := goodIn_r _ [52] (by decide +kernel) (by decide +kernel)
set_option maxRecDepth 20000 in
theorem gX8_rounds_X8_divisor : GoodIn wsX8_rounds (va_wsS RX8 310 yX8_divisor wsX8_divisor) := goodIn_app (goodIn_of _ (by decide +kernel)) ggX8_rounds_X8_divisor
theorem dX8_rounds_0 : decode cX8_rounds 0 = .ok (.aload_n 0, 1) := by decide +kernel
theorem dX8_rounds_1 : decode cX8_rounds 1 = .ok (.aload_n 0, 1) := by decide +kernel
theorem dX8_rounds_2 : decode cX8_rounds 2 = .ok (.getfield 120, 3) := by decide +kernel
theorem dX8_rounds_5 : decode cX8_rounds 5 = .ok (.invokevirtual 206, 3) := by decide +kernel
theorem dX8_rounds_8 : decode cX8_rounds 8 = .ok (.lconst 1, 1) := by decide +kernel
theorem dX8_rounds_9 : decode cX8_rounds 9 = .ok (.lstore_n 1, 1) := by decide +kernel
theorem dX8_rounds_10 : decode cX8_rounds 10 = .ok (.iconst 0, 1) := by decide +kernel
theorem dX8_rounds_11 : decode cX8_rounds 11 = .ok (.istore_n 3, 1) := by decide +kernel
theorem dX8_rounds_12 : decode cX8_rounds 12 = .ok (.iload_n 3, 1) := by decide +kernel
theorem dX8_rounds_13 : decode cX8_rounds 13 = .ok (.aload_n 0, 1) := by decide +kernel
theorem dX8_rounds_14 : decode cX8_rounds 14 = .ok (.invokevirtual 279, 3) := by decide +kernel
theorem dX8_rounds_17 : decode cX8_rounds 17 = .ok (.if_icmp .ge 29, 3) := by decide +kernel
theorem dX8_rounds_20 : decode cX8_rounds 20 = .ok (.aload_n 0, 1) := by decide +kernel
theorem dX8_rounds_21 : decode cX8_rounds 21 = .ok (.iload_n 3, 1) := by decide +kernel
theorem dX8_rounds_22 : decode cX8_rounds 22 = .ok (.invokevirtual 300, 3) := by decide +kernel
theorem dX8_rounds_25 : decode cX8_rounds 25 = .ok (.i2l, 1) := by decide +kernel
theorem dX8_rounds_26 : decode cX8_rounds 26 = .ok (.lstore 4, 2) := by decide +kernel
theorem dX8_rounds_28 : decode cX8_rounds 28 = .ok (.lload_n 1, 1) := by decide +kernel
theorem dX8_rounds_29 : decode cX8_rounds 29 = .ok (.lload_n 1, 1) := by decide +kernel
theorem dX8_rounds_30 : decode cX8_rounds 30 = .ok (.lload 4, 2) := by decide +kernel
theorem dX8_rounds_32 : decode cX8_rounds 32 = .ok (.invokestatic 310, 3) := by decide +kernel
theorem dX8_rounds_35 : decode cX8_rounds 35 = .ok (.ldiv, 1) := by decide +kernel
theorem dX8_rounds_36 : decode cX8_rounds 36 = .ok (.lload 4, 2) := by decide +kernel
theorem dX8_rounds_38 : decode cX8_rounds 38 = .ok (.lmul, 1) := by decide +kernel
theorem dX8_rounds_39 : decode cX8_rounds 39 = .ok (.lstore_n 1, 1) := by decide +kernel
theorem dX8_rounds_40 : decode cX8_rounds 40 = .ok (.iinc 3 1, 3) := by decide +kernel
theorem dX8_rounds_43 : decode cX8_rounds 43 = .ok (.goto (-31), 3) := by decide +kernel
theorem dX8_rounds_46 : decode cX8_rounds 46 = .ok (.lload_n 1, 1) := by decide +kernel
theorem dX8_rounds_47 : decode cX8_rounds 47 = .ok (.lreturn, 1) := by decide +kernel
set_option maxRecDepth 20000 in
theorem ggX8_link_X8_isThread : GoodIn wsX8_link wsX8_isThread := goodIn_r _ [10, 11, 12, 13, 9, 14, 15, 16, 17, 18, 56, 57, 58, 59, 60, 61, 62, 63, 64, 65, 66, 67, 68, 69, 70, 71, 72, 73, 74, 75, 76, 77, 78, 79, 80, 81, 82, 83, 84, 85, 86, 87, 88] (by decide +kernel) (by decide +kernel)
set_option maxRecDepth 20000 in
theorem gX8_link_X8_isThread : GoodIn wsX8_link (wsV RX8 289 RX8 yX8_isThread wsX8_isThread) := goodIn_app (goodIn_of _ (by decide +kernel)) ggX8_link_X8_isThread
set_option maxRecDepth 20000 in
theorem ggX8_link_X8_errs : GoodIn wsX8_link wsX8_errs := goodIn_r _ [22, 23, 24, 56, 57, 58, 59, 60, 61, 62, 63, 64, 65, 66, 67, 68, 69, 70, 71, 72, 73, 74, 75, 76, 77, 78, 79, 80, 81, 82, 83, 84, 85, 86, 87, 88] (by decide +kernel) (by decide +kernel)
set_option maxRecDepth 20000 in
theorem gX8_link_X8_errs : GoodIn wsX8_link (wsV RX8 150 RX8 yX8_errs wsX8_errs) := goodIn_app (goodIn_of _ (by decide +kernel)) ggX8_link_X8_errs
set_option maxRecDepth 20000 in
theorem ggX8_link_X8_first : GoodIn wsX8_link wsX8_first := goodIn_r _ [28, 29, 30, 31, 9, 32, 3, 33, 34, 35, 36, 37, 38, 39, 40, 41, 42, 43, 44, 15, 45, 46, 47, 48, 49, 50, 51, 52, 53, 54, 4, 5, 55, 56, 57, 58, 59, 60, 61, 62, 63, 64, 65, 66, 67, 68, 69, 70, 71, 72, 73, 74, 75, 76, 77, 78, 79, 80, 81, 82, 83, 84, 85, 86, 87, 88] (by decide +kernel) (by decide +kernel)
set_option maxRecDepth 20000 in
theorem gX8_link_X8_first : GoodIn wsX8_link (wsV RX8 206 RX8 yX8_first wsX8_first) := goodIn_app (goodIn_of _ (by decide +kernel)) ggX8_link_X8_first
theorem dX8_link_0 : decode cX8_link 0 = .ok (.aload_n 0, 1) := by decide +kernel
theorem dX8_link_1 : decode cX8_link 1 = .ok (.iload_n 1, 1) := by decide +kernel
theorem dX8_link_2 : decode cX8_link 2 = .ok (.invokevirtual 289, 3) := by decide +kernel
theorem dX8_link_5 : decode cX8_link 5 = .ok (.ifCond .eq 16, 3) := by decide +kernel
theorem dX8_link_8 : decode cX8_link 8 = .ok (.aload_n 0, 1) := by decide +kernel
theorem dX8_link_9 : decode cX8_link 9 = .ok (.iload_n 2, 1) := by decide +kernel
theorem dX8_link_10 : decode cX8_link 10 = .ok (.invokevirtual 289, 3) := by decide +kernel
theorem dX8_link_13 : decode cX8_link 13 = .ok (.ifCond .eq 8, 3) := by decide +kernel
theorem dX8_link_16 : decode cX8_link 16 = .ok (.iload_n 1, 1) := by decide +kernel
theorem dX8_link_17 : decode cX8_link 17 = .ok (.iload_n 2, 1) := by decide +kernel
theorem dX8_link_18 : decode cX8_link 18 = .ok (.if_icmp .ne 10, 3) := by decide +kernel
theorem dX8_link_21 : decode cX8_link 21 = .ok (.aload_n 0, 1) := by decide +kernel
theorem dX8_link_22 : decode cX8_link 22 = .ok (.ldc 149, 2) := by decide +kernel
theorem dX8_link_24 : decode cX8_link 24 = .ok (.invokevirtual 150, 3) := by decide +kernel
theorem dX8_link_27 : decode cX8_link 27 = .ok (.ireturn, 1) := by decide +kernel
theorem dX8_link_28 : decode cX8_link 28 = .ok (.aload_n 0, 1) := by decide +kernel
theorem dX8_link_29 : decode cX8_link 29 = .ok (.aload_n 0, 1) := by decide +kernel
theorem dX8_link_30 : decode cX8_link 30 = .ok (.getfield 120, 3) := by decide +kernel
theorem dX8_link_33 : decode cX8_link 33 = .ok (.invokevirtual 206, 3) := by decide +kernel
theorem dX8_link_36 : decode cX8_link 36 = .ok (.iconst 0, 1) := by decide +kernel
theorem dX8_link_37 : decode cX8_link 37 = .ok (.istore_n 3, 1) := by decide +kernel
theorem dX8_link_38 : decode cX8_link 38 = .ok (.iconst 0, 1) := by decide +kernel
theorem dX8_link_39 : decode cX8_link 39 = .ok (.istore 4, 2) := by decide +kernel
theorem dX8_link_41 : decode cX8_link 41 = .ok (.iload 4, 2) := by decide +kernel
theorem dX8_link_43 : decode cX8_link 43 = .ok (.aload_n 0, 1) := by decide +kernel
theorem dX8_link_44 : decode cX8_link 44 = .ok (.getfield 186, 3) := by decide +kernel
theorem dX8_link_47 : decode cX8_link 47 = .ok (.if_icmp .ge 59, 3) := by decide +kernel
theorem dX8_link_50 : decode cX8_link 50 = .ok (.aload_n 0, 1) := by decide +kernel
theorem dX8_link_51 : decode cX8_link 51 = .ok (.getfield 53, 3) := by decide +kernel
theorem dX8_link_54 : decode cX8_link 54 = .ok (.iload 4, 2) := by decide +kernel
theorem dX8_link_56 : decode cX8_link 56 = .ok (.iaload, 1) := by decide +kernel
theorem dX8_link_57 : decode cX8_link 57 = .ok (.iload_n 1, 1) := by decide +kernel
theorem dX8_link_58 : decode cX8_link 58 = .ok (.if_icmp .ne 17, 3) := by decide +kernel
theorem dX8_link_61 : decode cX8_link 61 = .ok (.aload_n 0, 1) := by decide +kernel
theorem dX8_link_62 : decode cX8_link 62 = .ok (.getfield 56, 3) := by decide +kernel
theorem dX8_link_65 : decode cX8_link 65 = .ok (.iload 4, 2) := by decide +kernel
theorem dX8_link_67 : decode cX8_link 67 = .ok (.iaload, 1) := by decide +kernel
theorem dX8_link_68 : decode cX8_link 68 = .ok (.iload_n 2, 1) := by decide +kernel
theorem dX8_link_69 : decode cX8_link 69 = .ok (.if_icmp .ne 6, 3) := by decide +kernel
theorem dX8_link_72 : decode cX8_link 72 = .ok (.iinc 3 1, 3) := by decide +kernel
theorem dX8_link_75 : decode cX8_link 75 = .ok (.aload_n 0, 1) := by decide +kernel
theorem dX8_link_76 : decode cX8_link 76 = .ok (.getfield 53, 3) := by decide +kernel
theorem dX8_link_79 : decode cX8_link 79 = .ok (.iload 4, 2) := by decide +kernel
theorem dX8_link_81 : decode cX8_link 81 = .ok (.iaload, 1) := by decide +kernel
theorem dX8_link_82 : decode cX8_link 82 = .ok (.iload_n 2, 1) := by decide +kernel
theorem dX8_link_83 : decode cX8_link 83 = .ok (.if_icmp .ne 17, 3) := by decide +kernel
theorem dX8_link_86 : decode cX8_link 86 = .ok (.aload_n 0, 1) := by decide +kernel
theorem dX8_link_87 : decode cX8_link 87 = .ok (.getfield 56, 3) := by decide +kernel
theorem dX8_link_90 : decode cX8_link 90 = .ok (.iload 4, 2) := by decide +kernel
theorem dX8_link_92 : decode cX8_link 92 = .ok (.iaload, 1) := by decide +kernel
theorem dX8_link_93 : decode cX8_link 93 = .ok (.iload_n 1, 1) := by decide +kernel
theorem dX8_link_94 : decode cX8_link 94 = .ok (.if_icmp .ne 6, 3) := by decide +kernel
theorem dX8_link_97 : decode cX8_link 97 = .ok (.iinc 3 (-1), 3) := by decide +kernel
theorem dX8_link_100 : decode cX8_link 100 = .ok (.iinc 4 1, 3) := by decide +kernel
theorem dX8_link_103 : decode cX8_link 103 = .ok (.goto (-62), 3) := by decide +kernel
theorem dX8_link_106 : decode cX8_link 106 = .ok (.iload_n 3, 1) := by decide +kernel
theorem dX8_link_107 : decode cX8_link 107 = .ok (.ireturn, 1) := by decide +kernel
set_option maxRecDepth 20000 in
theorem ggX8_meet_X8_isThread : GoodIn wsX8_meet wsX8_isThread := goodIn_r _ [12, 13, 14, 15, 11, 16, 17, 18, 19, 20, 57, 58, 59, 60, 61, 62, 63, 64, 65, 66, 67, 68, 69, 70, 71, 72, 73, 74, 75, 76, 77, 78, 79, 80, 81, 82, 83, 84, 85, 86, 87, 88, 89] (by decide +kernel) (by decide +kernel)
set_option maxRecDepth 20000 in
theorem gX8_meet_X8_isThread : GoodIn wsX8_meet (wsV RX8 289 RX8 yX8_isThread wsX8_isThread) := goodIn_app (goodIn_of _ (by decide +kernel)) ggX8_meet_X8_isThread
set_option maxRecDepth 20000 in
theorem ggX8_meet_X8_errs : GoodIn wsX8_meet wsX8_errs := goodIn_r _ [24, 25, 26, 57, 58, 59, 60, 61, 62, 63, 64, 65, 66, 67, 68, 69, 70, 71, 72, 73, 74, 75, 76, 77, 78, 79, 80, 81, 82, 83, 84, 85, 86, 87, 88, 89] (by decide +kernel) (by decide +kernel)
set_option maxRecDepth 20000 in
theorem gX8_meet_X8_errs : GoodIn wsX8_meet (wsV RX8 150 RX8 yX8_errs wsX8_errs) := goodIn_app (goodIn_of _ (by decide +kernel)) ggX8_meet_X8_errs
set_option maxRecDepth 20000 in
theorem ggX8_meet_X8_first : GoodIn wsX8_meet wsX8_first := goodIn_r _ [30, 31, 32, 33, 11, 34, 3, 35, 36, 37, 38, 39, 40, 41, 42, 43, 44, 45, 46, 17, 47, 48, 49, 50, 51, 52, 53, 54, 55, 56, 4, 5, 6, 57, 58, 59, 60, 61, 62, 63, 64, 65, 66, 67, 68, 69, 70, 71, 72, 73, 74, 75, 76, 77, 78, 79, 80, 81, 82, 83, 84, 85, 86, 87, 88, 89] (by decide +kernel) (by decide +kernel)
set_option maxRecDepth 20000 in
theorem gX8_meet_X8_first : GoodIn wsX8_meet (wsV RX8 206 RX8 yX8_first wsX8_first) := goodIn_app (goodIn_of _ (by decide +kernel)) ggX8_meet_X8_first
theorem dX8_meet_0 : decode cX8_meet 0 = .ok (.aload_n 0, 1) := by decide +kernel
theorem dX8_meet_1 : decode cX8_meet 1 = .ok (.iload_n 1, 1) := by decide +kernel
theorem dX8_meet_2 : decode cX8_meet 2 = .ok (.invokevirtual 289, 3) := by decide +kernel
theorem dX8_meet_5 : decode cX8_meet 5 = .ok (.ifCond .eq 16, 3) := by decide +kernel
theorem dX8_meet_8 : decode cX8_meet 8 = .ok (.aload_n 0, 1) := by decide +kernel
theorem dX8_meet_9 : decode cX8_meet 9 = .ok (.iload_n 2, 1) := by decide +kernel
theorem dX8_meet_10 : decode cX8_meet 10 = .ok (.invokevirtual 289, 3) := by decide +kernel
theorem dX8_meet_13 : decode cX8_meet 13 = .ok (.ifCond .eq 8, 3) := by decide +kernel
theorem dX8_meet_16 : decode cX8_meet 16 = .ok (.iload_n 1, 1) := by decide +kernel
theorem dX8_meet_17 : decode cX8_meet 17 = .ok (.iload_n 2, 1) := by decide +kernel
theorem dX8_meet_18 : decode cX8_meet 18 = .ok (.if_icmp .ne 10, 3) := by decide +kernel
theorem dX8_meet_21 : decode cX8_meet 21 = .ok (.aload_n 0, 1) := by decide +kernel
theorem dX8_meet_22 : decode cX8_meet 22 = .ok (.ldc 149, 2) := by decide +kernel
theorem dX8_meet_24 : decode cX8_meet 24 = .ok (.invokevirtual 150, 3) := by decide +kernel
theorem dX8_meet_27 : decode cX8_meet 27 = .ok (.ireturn, 1) := by decide +kernel
theorem dX8_meet_28 : decode cX8_meet 28 = .ok (.aload_n 0, 1) := by decide +kernel
theorem dX8_meet_29 : decode cX8_meet 29 = .ok (.aload_n 0, 1) := by decide +kernel
theorem dX8_meet_30 : decode cX8_meet 30 = .ok (.getfield 120, 3) := by decide +kernel
theorem dX8_meet_33 : decode cX8_meet 33 = .ok (.invokevirtual 206, 3) := by decide +kernel
theorem dX8_meet_36 : decode cX8_meet 36 = .ok (.iconst 0, 1) := by decide +kernel
theorem dX8_meet_37 : decode cX8_meet 37 = .ok (.istore_n 3, 1) := by decide +kernel
theorem dX8_meet_38 : decode cX8_meet 38 = .ok (.iload_n 3, 1) := by decide +kernel
theorem dX8_meet_39 : decode cX8_meet 39 = .ok (.aload_n 0, 1) := by decide +kernel
theorem dX8_meet_40 : decode cX8_meet 40 = .ok (.getfield 186, 3) := by decide +kernel
theorem dX8_meet_43 : decode cX8_meet 43 = .ok (.if_icmp .ge 56, 3) := by decide +kernel
theorem dX8_meet_46 : decode cX8_meet 46 = .ok (.aload_n 0, 1) := by decide +kernel
theorem dX8_meet_47 : decode cX8_meet 47 = .ok (.getfield 53, 3) := by decide +kernel
theorem dX8_meet_50 : decode cX8_meet 50 = .ok (.iload_n 3, 1) := by decide +kernel
theorem dX8_meet_51 : decode cX8_meet 51 = .ok (.iaload, 1) := by decide +kernel
theorem dX8_meet_52 : decode cX8_meet 52 = .ok (.iload_n 1, 1) := by decide +kernel
theorem dX8_meet_53 : decode cX8_meet 53 = .ok (.if_icmp .ne 13, 3) := by decide +kernel
theorem dX8_meet_56 : decode cX8_meet 56 = .ok (.aload_n 0, 1) := by decide +kernel
theorem dX8_meet_57 : decode cX8_meet 57 = .ok (.getfield 56, 3) := by decide +kernel
theorem dX8_meet_60 : decode cX8_meet 60 = .ok (.iload_n 3, 1) := by decide +kernel
theorem dX8_meet_61 : decode cX8_meet 61 = .ok (.iaload, 1) := by decide +kernel
theorem dX8_meet_62 : decode cX8_meet 62 = .ok (.iload_n 2, 1) := by decide +kernel
theorem dX8_meet_63 : decode cX8_meet 63 = .ok (.if_icmp .eq 23, 3) := by decide +kernel
theorem dX8_meet_66 : decode cX8_meet 66 = .ok (.aload_n 0, 1) := by decide +kernel
theorem dX8_meet_67 : decode cX8_meet 67 = .ok (.getfield 53, 3) := by decide +kernel
theorem dX8_meet_70 : decode cX8_meet 70 = .ok (.iload_n 3, 1) := by decide +kernel
theorem dX8_meet_71 : decode cX8_meet 71 = .ok (.iaload, 1) := by decide +kernel
theorem dX8_meet_72 : decode cX8_meet 72 = .ok (.iload_n 2, 1) := by decide +kernel
theorem dX8_meet_73 : decode cX8_meet 73 = .ok (.if_icmp .ne 20, 3) := by decide +kernel
theorem dX8_meet_76 : decode cX8_meet 76 = .ok (.aload_n 0, 1) := by decide +kernel
theorem dX8_meet_77 : decode cX8_meet 77 = .ok (.getfield 56, 3) := by decide +kernel
theorem dX8_meet_80 : decode cX8_meet 80 = .ok (.iload_n 3, 1) := by decide +kernel
theorem dX8_meet_81 : decode cX8_meet 81 = .ok (.iaload, 1) := by decide +kernel
theorem dX8_meet_82 : decode cX8_meet 82 = .ok (.iload_n 1, 1) := by decide +kernel
theorem dX8_meet_83 : decode cX8_meet 83 = .ok (.if_icmp .ne 10, 3) := by decide +kernel
theorem dX8_meet_86 : decode cX8_meet 86 = .ok (.aload_n 0, 1) := by decide +kernel
theorem dX8_meet_87 : decode cX8_meet 87 = .ok (.getfield 59, 3) := by decide +kernel
theorem dX8_meet_90 : decode cX8_meet 90 = .ok (.iload_n 3, 1) := by decide +kernel
theorem dX8_meet_91 : decode cX8_meet 91 = .ok (.iaload, 1) := by decide +kernel
theorem dX8_meet_92 : decode cX8_meet 92 = .ok (.ireturn, 1) := by decide +kernel
theorem dX8_meet_93 : decode cX8_meet 93 = .ok (.iinc 3 1, 3) := by decide +kernel
theorem dX8_meet_96 : decode cX8_meet 96 = .ok (.goto (-58), 3) := by decide +kernel
theorem dX8_meet_99 : decode cX8_meet 99 = .ok (.aload_n 0, 1) := by decide +kernel
theorem dX8_meet_100 : decode cX8_meet 100 = .ok (.ldc 249, 2) := by decide +kernel
theorem dX8_meet_102 : decode cX8_meet 102 = .ok (.invokevirtual 150, 3) := by decide +kernel
theorem dX8_meet_105 : decode cX8_meet 105 = .ok (.ireturn, 1) := by decide +kernel
set_option maxRecDepth 20000 in
theorem ggX8_lacks_X8_in : GoodIn wsX8_lacks wsX8_in := goodIn_r _ [9] (by decide +kernel) (by decide +kernel)
set_option maxRecDepth 20000 in
theorem gX8_lacks_X8_in : GoodIn wsX8_lacks (va_wsS RX8 145 yX8_in wsX8_in) := goodIn_app (goodIn_of _ (by decide +kernel)) ggX8_lacks_X8_in
set_option maxRecDepth 20000 in
theorem ggX8_lacks_X8_errs : GoodIn wsX8_lacks wsX8_errs := goodIn_r _ [13, 14, 15, 49, 50, 51, 52, 53, 54, 55, 56, 57, 58, 59, 60, 61, 62, 63, 64, 65, 66, 67, 68, 69, 70, 71, 72, 73, 74, 75, 76, 77, 78, 79, 80, 81] (by decide +kernel) (by decide +kernel)
set_option maxRecDepth 20000 in
theorem gX8_lacks_X8_errs : GoodIn wsX8_lacks (wsV RX8 150 RX8 yX8_errs wsX8_errs) := goodIn_app (goodIn_of _ (by decide +kernel)) ggX8_lacks_X8_errs
set_option maxRecDepth 20000 in
theorem ggX8_lacks_X8_begins : GoodIn wsX8_lacks wsX8_begins := goodIn_r _ [19, 20, 21, 3, 49, 50, 51, 52, 53, 54, 55, 56, 57, 58, 59, 60, 61, 62, 63, 64, 65, 66, 67, 68, 69, 70, 71, 72, 73, 74, 75, 76, 77, 78, 79, 80, 81] (by decide +kernel) (by decide +kernel)
set_option maxRecDepth 20000 in
theorem gX8_lacks_X8_begins : GoodIn wsX8_lacks (wsV RX8 196 RX8 yX8_begins wsX8_begins) := goodIn_app (goodIn_of _ (by decide +kernel)) ggX8_lacks_X8_begins
set_option maxRecDepth 20000 in
theorem ggX8_lacks_X8_works : GoodIn wsX8_lacks wsX8_works := goodIn_r _ [25, 26, 3, 21, 27, 28, 29, 30, 8, 31, 4, 32, 33, 34, 35, 36, 37, 38, 39, 40, 20, 41, 42, 43, 44, 49, 50, 51, 52, 53, 54, 55, 56, 57, 58, 59, 60, 61, 62, 63, 64, 65, 66, 67, 68, 69, 70, 71, 72, 73, 74, 75, 76, 77, 78, 79, 80, 81] (by decide +kernel) (by decide +kernel)
set_option maxRecDepth 20000 in
theorem gX8_lacks_X8_works : GoodIn wsX8_lacks (wsV RX8 199 RX8 yX8_works wsX8_works) := goodIn_app (goodIn_of _ (by decide +kernel)) ggX8_lacks_X8_works
set_option maxRecDepth 20000 in
theorem ggX8_lacks_X8_threads : GoodIn wsX8_lacks wsX8_threads := goodIn_r _ [48, 4, 49, 50, 51, 52, 53, 54, 55, 56, 57, 58, 59, 60, 61, 62, 63, 64, 65, 66, 67, 68, 69, 70, 71, 72, 73, 74, 75, 76, 77, 78, 79, 80, 81] (by decide +kernel) (by decide +kernel)
set_option maxRecDepth 20000 in
theorem gX8_lacks_X8_threads : GoodIn wsX8_lacks (wsV RX8 279 RX8 yX8_threads wsX8_threads) := goodIn_app (goodIn_of _ (by decide +kernel)) ggX8_lacks_X8_threads
theorem dX8_lacks_0 : decode cX8_lacks 0 = .ok (.iload_n 1, 1) := by decide +kernel
theorem dX8_lacks_1 : decode cX8_lacks 1 = .ok (.i2l, 1) := by decide +kernel
theorem dX8_lacks_2 : decode cX8_lacks 2 = .ok (.lconst 0, 1) := by decide +kernel
theorem dX8_lacks_3 : decode cX8_lacks 3 = .ok (.lconst 1, 1) := by decide +kernel
theorem dX8_lacks_4 : decode cX8_lacks 4 = .ok (.invokestatic 145, 3) := by decide +kernel
theorem dX8_lacks_7 : decode cX8_lacks 7 = .ok (.ifCond .ne 10, 3) := by decide +kernel
theorem dX8_lacks_10 : decode cX8_lacks 10 = .ok (.aload_n 0, 1) := by decide +kernel
theorem dX8_lacks_11 : decode cX8_lacks 11 = .ok (.ldc 149, 2) := by decide +kernel
theorem dX8_lacks_13 : decode cX8_lacks 13 = .ok (.invokevirtual 150, 3) := by decide +kernel
theorem dX8_lacks_16 : decode cX8_lacks 16 = .ok (.ireturn, 1) := by decide +kernel
theorem dX8_lacks_17 : decode cX8_lacks 17 = .ok (.aload_n 0, 1) := by decide +kernel
theorem dX8_lacks_18 : decode cX8_lacks 18 = .ok (.invokevirtual 196, 3) := by decide +kernel
theorem dX8_lacks_21 : decode cX8_lacks 21 = .ok (.iconst 0, 1) := by decide +kernel
theorem dX8_lacks_22 : decode cX8_lacks 22 = .ok (.istore_n 2, 1) := by decide +kernel
theorem dX8_lacks_23 : decode cX8_lacks 23 = .ok (.iload_n 2, 1) := by decide +kernel
theorem dX8_lacks_24 : decode cX8_lacks 24 = .ok (.aload_n 0, 1) := by decide +kernel
theorem dX8_lacks_25 : decode cX8_lacks 25 = .ok (.getfield 120, 3) := by decide +kernel
theorem dX8_lacks_28 : decode cX8_lacks 28 = .ok (.if_icmp .ge 60, 3) := by decide +kernel
theorem dX8_lacks_31 : decode cX8_lacks 31 = .ok (.aload_n 0, 1) := by decide +kernel
theorem dX8_lacks_32 : decode cX8_lacks 32 = .ok (.iload_n 2, 1) := by decide +kernel
theorem dX8_lacks_33 : decode cX8_lacks 33 = .ok (.iconst 1, 1) := by decide +kernel
theorem dX8_lacks_34 : decode cX8_lacks 34 = .ok (.invokevirtual 199, 3) := by decide +kernel
theorem dX8_lacks_37 : decode cX8_lacks 37 = .ok (.iconst 0, 1) := by decide +kernel
theorem dX8_lacks_38 : decode cX8_lacks 38 = .ok (.istore_n 3, 1) := by decide +kernel
theorem dX8_lacks_39 : decode cX8_lacks 39 = .ok (.iload_n 3, 1) := by decide +kernel
theorem dX8_lacks_40 : decode cX8_lacks 40 = .ok (.aload_n 0, 1) := by decide +kernel
theorem dX8_lacks_41 : decode cX8_lacks 41 = .ok (.invokevirtual 279, 3) := by decide +kernel
theorem dX8_lacks_44 : decode cX8_lacks 44 = .ok (.if_icmp .ge 38, 3) := by decide +kernel
theorem dX8_lacks_47 : decode cX8_lacks 47 = .ok (.aload_n 0, 1) := by decide +kernel
theorem dX8_lacks_48 : decode cX8_lacks 48 = .ok (.getfield 44, 3) := by decide +kernel
theorem dX8_lacks_51 : decode cX8_lacks 51 = .ok (.iload_n 3, 1) := by decide +kernel
theorem dX8_lacks_52 : decode cX8_lacks 52 = .ok (.iaload, 1) := by decide +kernel
theorem dX8_lacks_53 : decode cX8_lacks 53 = .ok (.aload_n 0, 1) := by decide +kernel
theorem dX8_lacks_54 : decode cX8_lacks 54 = .ok (.getfield 9, 3) := by decide +kernel
theorem dX8_lacks_57 : decode cX8_lacks 57 = .ok (.sipush 140, 3) := by decide +kernel
theorem dX8_lacks_60 : decode cX8_lacks 60 = .ok (.iload_n 3, 1) := by decide +kernel
theorem dX8_lacks_61 : decode cX8_lacks 61 = .ok (.iadd, 1) := by decide +kernel
theorem dX8_lacks_62 : decode cX8_lacks 62 = .ok (.iaload, 1) := by decide +kernel
theorem dX8_lacks_63 : decode cX8_lacks 63 = .ok (.if_icmp .le 13, 3) := by decide +kernel
theorem dX8_lacks_66 : decode cX8_lacks 66 = .ok (.iload_n 1, 1) := by decide +kernel
theorem dX8_lacks_67 : decode cX8_lacks 67 = .ok (.ifCond .ne 7, 3) := by decide +kernel
theorem dX8_lacks_70 : decode cX8_lacks 70 = .ok (.iload_n 2, 1) := by decide +kernel
theorem dX8_lacks_71 : decode cX8_lacks 71 = .ok (.goto 4, 3) := by decide +kernel
theorem dX8_lacks_74 : decode cX8_lacks 74 = .ok (.iload_n 3, 1) := by decide +kernel
theorem dX8_lacks_75 : decode cX8_lacks 75 = .ok (.ireturn, 1) := by decide +kernel
theorem dX8_lacks_76 : decode cX8_lacks 76 = .ok (.iinc 3 1, 3) := by decide +kernel
theorem dX8_lacks_79 : decode cX8_lacks 79 = .ok (.goto (-40), 3) := by decide +kernel
theorem dX8_lacks_82 : decode cX8_lacks 82 = .ok (.iinc 2 1, 3) := by decide +kernel
theorem dX8_lacks_85 : decode cX8_lacks 85 = .ok (.goto (-62), 3) := by decide +kernel
theorem dX8_lacks_88 : decode cX8_lacks 88 = .ok (.aload_n 0, 1) := by decide +kernel
theorem dX8_lacks_89 : decode cX8_lacks 89 = .ok (.ldc 249, 2) := by decide +kernel
theorem dX8_lacks_91 : decode cX8_lacks 91 = .ok (.invokevirtual 150, 3) := by decide +kernel
theorem dX8_lacks_94 : decode cX8_lacks 94 = .ok (.ireturn, 1) := by decide +kernel
set_option maxRecDepth 20000 in
theorem ggX8_lace_X8_in : GoodIn wsX8_lace wsX8_in := goodIn_r _ [9] (by decide +kernel) (by decide +kernel)
set_option maxRecDepth 20000 in
theorem gX8_lace_X8_in : GoodIn wsX8_lace (va_wsS RX8 145 yX8_in wsX8_in) := goodIn_app (goodIn_of _ (by decide +kernel)) ggX8_lace_X8_in
set_option maxRecDepth 20000 in
theorem ggX8_lace_X8_errs : GoodIn wsX8_lace wsX8_errs := goodIn_r _ [13, 14, 15, 73, 74, 75, 76, 77, 78, 79, 80, 81, 82, 83, 84, 85, 86, 87, 88, 89, 90, 91, 92, 93, 94, 95, 96, 97, 98, 99, 100, 101, 102, 103, 104, 105] (by decide +kernel) (by decide +kernel)
set_option maxRecDepth 20000 in
theorem gX8_lace_X8_errs : GoodIn wsX8_lace (wsV RX8 150 RX8 yX8_errs wsX8_errs) := goodIn_app (goodIn_of _ (by decide +kernel)) ggX8_lace_X8_errs
set_option maxRecDepth 20000 in
theorem ggX8_lace_X8_whole : GoodIn wsX8_lace wsX8_whole := goodIn_r _ [19, 20, 21, 22, 23, 8, 24, 25, 26, 27, 28, 29, 5, 30, 31, 32, 33, 34, 35, 36, 37, 38, 39, 40, 41, 42, 43, 44, 45, 46, 47, 48, 49, 50, 51, 52, 53, 54, 55, 56, 57, 58, 73, 74, 75, 76, 77, 78, 79, 80, 81, 82, 83, 84, 85, 86, 87, 88, 89, 90, 91, 92, 93, 94, 95, 96, 97, 98, 99, 100, 101, 102, 103, 104, 105] (by decide +kernel) (by decide +kernel)
set_option maxRecDepth 20000 in
theorem gX8_lace_X8_whole : GoodIn wsX8_lace (wsV RX8 297 RX8 yX8_whole wsX8_whole) := goodIn_app (goodIn_of _ (by decide +kernel)) ggX8_lace_X8_whole
set_option maxRecDepth 20000 in
theorem ggX8_lace_X8_layers : GoodIn wsX8_lace wsX8_layers := goodIn_r _ [62, 3, 5, 50, 51, 63, 64, 65, 66, 67, 8, 68, 4, 69, 70, 71, 72, 73, 74, 75, 76, 77, 78, 79, 80, 81, 82, 83, 84, 85, 86, 87, 88, 89, 90, 91, 92, 93, 94, 95, 96, 97, 98, 99, 100, 101, 102, 103, 104, 105] (by decide +kernel) (by decide +kernel)
set_option maxRecDepth 20000 in
theorem gX8_lace_X8_layers : GoodIn wsX8_lace (wsV RX8 221 RX8 yX8_layers wsX8_layers) := goodIn_app (goodIn_of _ (by decide +kernel)) ggX8_lace_X8_layers
theorem dX8_lace_0 : decode cX8_lace 0 = .ok (.iload_n 1, 1) := by decide +kernel
theorem dX8_lace_1 : decode cX8_lace 1 = .ok (.i2l, 1) := by decide +kernel
theorem dX8_lace_2 : decode cX8_lace 2 = .ok (.lconst 0, 1) := by decide +kernel
theorem dX8_lace_3 : decode cX8_lace 3 = .ok (.lconst 1, 1) := by decide +kernel
theorem dX8_lace_4 : decode cX8_lace 4 = .ok (.invokestatic 145, 3) := by decide +kernel
theorem dX8_lace_7 : decode cX8_lace 7 = .ok (.ifCond .eq 15, 3) := by decide +kernel
theorem dX8_lace_10 : decode cX8_lace 10 = .ok (.iload_n 2, 1) := by decide +kernel
theorem dX8_lace_11 : decode cX8_lace 11 = .ok (.i2l, 1) := by decide +kernel
theorem dX8_lace_12 : decode cX8_lace 12 = .ok (.lconst 0, 1) := by decide +kernel
theorem dX8_lace_13 : decode cX8_lace 13 = .ok (.ldc2_w 314, 3) := by decide +kernel
theorem dX8_lace_16 : decode cX8_lace 16 = .ok (.invokestatic 145, 3) := by decide +kernel
theorem dX8_lace_19 : decode cX8_lace 19 = .ok (.ifCond .ne 10, 3) := by decide +kernel
theorem dX8_lace_22 : decode cX8_lace 22 = .ok (.aload_n 0, 1) := by decide +kernel
theorem dX8_lace_23 : decode cX8_lace 23 = .ok (.ldc 149, 2) := by decide +kernel
theorem dX8_lace_25 : decode cX8_lace 25 = .ok (.invokevirtual 150, 3) := by decide +kernel
theorem dX8_lace_28 : decode cX8_lace 28 = .ok (.ireturn, 1) := by decide +kernel
theorem dX8_lace_29 : decode cX8_lace 29 = .ok (.aload_n 0, 1) := by decide +kernel
theorem dX8_lace_30 : decode cX8_lace 30 = .ok (.iload_n 1, 1) := by decide +kernel
theorem dX8_lace_31 : decode cX8_lace 31 = .ok (.invokevirtual 297, 3) := by decide +kernel
theorem dX8_lace_34 : decode cX8_lace 34 = .ok (.aload_n 0, 1) := by decide +kernel
theorem dX8_lace_35 : decode cX8_lace 35 = .ok (.invokevirtual 221, 3) := by decide +kernel
theorem dX8_lace_38 : decode cX8_lace 38 = .ok (.istore_n 3, 1) := by decide +kernel
theorem dX8_lace_39 : decode cX8_lace 39 = .ok (.iconst 0, 1) := by decide +kernel
theorem dX8_lace_40 : decode cX8_lace 40 = .ok (.istore 4, 2) := by decide +kernel
theorem dX8_lace_42 : decode cX8_lace 42 = .ok (.iconst 0, 1) := by decide +kernel
theorem dX8_lace_43 : decode cX8_lace 43 = .ok (.istore 5, 2) := by decide +kernel
theorem dX8_lace_45 : decode cX8_lace 45 = .ok (.iload 5, 2) := by decide +kernel
theorem dX8_lace_47 : decode cX8_lace 47 = .ok (.aload_n 0, 1) := by decide +kernel
theorem dX8_lace_48 : decode cX8_lace 48 = .ok (.getfield 210, 3) := by decide +kernel
theorem dX8_lace_51 : decode cX8_lace 51 = .ok (.if_icmp .ge 30, 3) := by decide +kernel
theorem dX8_lace_54 : decode cX8_lace 54 = .ok (.iload 4, 2) := by decide +kernel
theorem dX8_lace_56 : decode cX8_lace 56 = .ok (.aload_n 0, 1) := by decide +kernel
theorem dX8_lace_57 : decode cX8_lace 57 = .ok (.getfield 65, 3) := by decide +kernel
theorem dX8_lace_60 : decode cX8_lace 60 = .ok (.iload 5, 2) := by decide +kernel
theorem dX8_lace_62 : decode cX8_lace 62 = .ok (.iaload, 1) := by decide +kernel
theorem dX8_lace_63 : decode cX8_lace 63 = .ok (.iconst 1, 1) := by decide +kernel
theorem dX8_lace_64 : decode cX8_lace 64 = .ok (.if_icmp .ne 7, 3) := by decide +kernel
theorem dX8_lace_67 : decode cX8_lace 67 = .ok (.iconst 1, 1) := by decide +kernel
theorem dX8_lace_68 : decode cX8_lace 68 = .ok (.goto 4, 3) := by decide +kernel
theorem dX8_lace_71 : decode cX8_lace 71 = .ok (.iconst 0, 1) := by decide +kernel
theorem dX8_lace_72 : decode cX8_lace 72 = .ok (.iadd, 1) := by decide +kernel
theorem dX8_lace_73 : decode cX8_lace 73 = .ok (.istore 4, 2) := by decide +kernel
theorem dX8_lace_75 : decode cX8_lace 75 = .ok (.iinc 5 1, 3) := by decide +kernel
theorem dX8_lace_78 : decode cX8_lace 78 = .ok (.goto (-33), 3) := by decide +kernel
theorem dX8_lace_81 : decode cX8_lace 81 = .ok (.iload_n 2, 1) := by decide +kernel
theorem dX8_lace_82 : decode cX8_lace 82 = .ok (.ifCond .ne 10, 3) := by decide +kernel
theorem dX8_lace_85 : decode cX8_lace 85 = .ok (.aload_n 0, 1) := by decide +kernel
theorem dX8_lace_86 : decode cX8_lace 86 = .ok (.getfield 186, 3) := by decide +kernel
theorem dX8_lace_89 : decode cX8_lace 89 = .ok (.goto 26, 3) := by decide +kernel
theorem dX8_lace_92 : decode cX8_lace 92 = .ok (.iload_n 2, 1) := by decide +kernel
theorem dX8_lace_93 : decode cX8_lace 93 = .ok (.iconst 1, 1) := by decide +kernel
theorem dX8_lace_94 : decode cX8_lace 94 = .ok (.if_icmp .ne 10, 3) := by decide +kernel
theorem dX8_lace_97 : decode cX8_lace 97 = .ok (.aload_n 0, 1) := by decide +kernel
theorem dX8_lace_98 : decode cX8_lace 98 = .ok (.getfield 210, 3) := by decide +kernel
theorem dX8_lace_101 : decode cX8_lace 101 = .ok (.goto 14, 3) := by decide +kernel
theorem dX8_lace_104 : decode cX8_lace 104 = .ok (.iload_n 2, 1) := by decide +kernel
theorem dX8_lace_105 : decode cX8_lace 105 = .ok (.iconst 2, 1) := by decide +kernel
theorem dX8_lace_106 : decode cX8_lace 106 = .ok (.if_icmp .ne 7, 3) := by decide +kernel
theorem dX8_lace_109 : decode cX8_lace 109 = .ok (.iload_n 3, 1) := by decide +kernel
theorem dX8_lace_110 : decode cX8_lace 110 = .ok (.goto 5, 3) := by decide +kernel
theorem dX8_lace_113 : decode cX8_lace 113 = .ok (.iload 4, 2) := by decide +kernel
theorem dX8_lace_115 : decode cX8_lace 115 = .ok (.ireturn, 1) := by decide +kernel
set_option maxRecDepth 20000 in
theorem ggX8_layer_X8_in : GoodIn wsX8_layer wsX8_in := goodIn_r _ [5] (by decide +kernel) (by decide +kernel)
set_option maxRecDepth 20000 in
theorem gX8_layer_X8_in : GoodIn wsX8_layer (va_wsS RX8 145 yX8_in wsX8_in) := goodIn_app (goodIn_of _ (by decide +kernel)) ggX8_layer_X8_in
set_option maxRecDepth 20000 in
theorem ggX8_layer_X8_threads : GoodIn wsX8_layer wsX8_threads := goodIn_r _ [9, 10, 80, 81, 82, 83, 84, 85, 86, 87, 88, 89, 90, 91, 92, 93, 94, 95, 96, 97, 98, 99, 100, 101, 102, 103, 104, 105, 106, 107, 108, 109, 110, 111, 112] (by decide +kernel) (by decide +kernel)
set_option maxRecDepth 20000 in
theorem gX8_layer_X8_threads : GoodIn wsX8_layer (wsV RX8 279 RX8 yX8_threads wsX8_threads) := goodIn_app (goodIn_of _ (by decide +kernel)) ggX8_layer_X8_threads
set_option maxRecDepth 20000 in
theorem ggX8_layer_X8_errs : GoodIn wsX8_layer wsX8_errs := goodIn_r _ [14, 15, 16, 80, 81, 82, 83, 84, 85, 86, 87, 88, 89, 90, 91, 92, 93, 94, 95, 96, 97, 98, 99, 100, 101, 102, 103, 104, 105, 106, 107, 108, 109, 110, 111, 112] (by decide +kernel) (by decide +kernel)
set_option maxRecDepth 20000 in
theorem gX8_layer_X8_errs : GoodIn wsX8_layer (wsV RX8 150 RX8 yX8_errs wsX8_errs) := goodIn_app (goodIn_of _ (by decide +kernel)) ggX8_layer_X8_errs
set_option maxRecDepth 20000 in
theorem ggX8_layer_X8_whole : GoodIn wsX8_layer wsX8_whole := goodIn_r _ [20, 21, 22, 23, 24, 4, 25, 10, 26, 27, 28, 29, 30, 31, 32, 33, 34, 35, 36, 37, 38, 39, 40, 41, 42, 43, 44, 45, 46, 47, 48, 49, 50, 51, 52, 53, 54, 55, 56, 57, 58, 59, 80, 81, 82, 83, 84, 85, 86, 87, 88, 89, 90, 91, 92, 93, 94, 95, 96, 97, 98, 99, 100, 101, 102, 103, 104, 105, 106, 107, 108, 109, 110, 111, 112] (by decide +kernel) (by decide +kernel)
set_option maxRecDepth 20000 in
theorem gX8_layer_X8_whole : GoodIn wsX8_layer (wsV RX8 297 RX8 yX8_whole wsX8_whole) := goodIn_app (goodIn_of _ (by decide +kernel)) ggX8_layer_X8_whole
set_option maxRecDepth 20000 in
theorem ggX8_layer_X8_layers : GoodIn wsX8_layer wsX8_layers := goodIn_r _ [63, 64, 30, 51, 52, 65, 66, 67, 68, 69, 4, 70, 71, 72, 73, 74, 75, 80, 81, 82, 83, 84, 85, 86, 87, 88, 89, 90, 91, 92, 93, 94, 95, 96, 97, 98, 99, 100, 101, 102, 103, 104, 105, 106, 107, 108, 109, 110, 111, 112] (by decide +kernel) (by decide +kernel)
set_option maxRecDepth 20000 in
theorem gX8_layer_X8_layers : GoodIn wsX8_layer (wsV RX8 221 RX8 yX8_layers wsX8_layers) := goodIn_app (goodIn_of _ (by decide +kernel)) ggX8_layer_X8_layers
set_option maxRecDepth 20000 in
theorem ggX8_layer_X8_signIn : GoodIn wsX8_layer wsX8_signIn := goodIn_r _ [79, 64, 66, 65, 71, 80, 81, 82, 83, 84, 85, 86, 87, 88, 89, 90, 91, 92, 93, 94, 95, 96, 97, 98, 99, 100, 101, 102, 103, 104, 105, 106, 107, 108, 109, 110, 111, 112] (by decide +kernel) (by decide +kernel)
set_option maxRecDepth 20000 in
theorem gX8_layer_X8_signIn : GoodIn wsX8_layer (wsV RX8 316 RX8 yX8_signIn wsX8_signIn) := goodIn_app (goodIn_of _ (by decide +kernel)) ggX8_layer_X8_signIn
theorem dX8_layer_0 : decode cX8_layer 0 = .ok (.iload_n 1, 1) := by decide +kernel
theorem dX8_layer_1 : decode cX8_layer 1 = .ok (.i2l, 1) := by decide +kernel
theorem dX8_layer_2 : decode cX8_layer 2 = .ok (.lconst 0, 1) := by decide +kernel
theorem dX8_layer_3 : decode cX8_layer 3 = .ok (.lconst 1, 1) := by decide +kernel
theorem dX8_layer_4 : decode cX8_layer 4 = .ok (.invokestatic 145, 3) := by decide +kernel
theorem dX8_layer_7 : decode cX8_layer 7 = .ok (.ifCond .eq 23, 3) := by decide +kernel
theorem dX8_layer_10 : decode cX8_layer 10 = .ok (.iload_n 2, 1) := by decide +kernel
theorem dX8_layer_11 : decode cX8_layer 11 = .ok (.ifCond .lt 19, 3) := by decide +kernel
theorem dX8_layer_14 : decode cX8_layer 14 = .ok (.iload_n 3, 1) := by decide +kernel
theorem dX8_layer_15 : decode cX8_layer 15 = .ok (.i2l, 1) := by decide +kernel
theorem dX8_layer_16 : decode cX8_layer 16 = .ok (.lconst 0, 1) := by decide +kernel
theorem dX8_layer_17 : decode cX8_layer 17 = .ok (.aload_n 0, 1) := by decide +kernel
theorem dX8_layer_18 : decode cX8_layer 18 = .ok (.invokevirtual 279, 3) := by decide +kernel
theorem dX8_layer_21 : decode cX8_layer 21 = .ok (.iconst 2, 1) := by decide +kernel
theorem dX8_layer_22 : decode cX8_layer 22 = .ok (.isub, 1) := by decide +kernel
theorem dX8_layer_23 : decode cX8_layer 23 = .ok (.i2l, 1) := by decide +kernel
theorem dX8_layer_24 : decode cX8_layer 24 = .ok (.invokestatic 145, 3) := by decide +kernel
theorem dX8_layer_27 : decode cX8_layer 27 = .ok (.ifCond .ne 10, 3) := by decide +kernel
theorem dX8_layer_30 : decode cX8_layer 30 = .ok (.aload_n 0, 1) := by decide +kernel
theorem dX8_layer_31 : decode cX8_layer 31 = .ok (.ldc 149, 2) := by decide +kernel
theorem dX8_layer_33 : decode cX8_layer 33 = .ok (.invokevirtual 150, 3) := by decide +kernel
theorem dX8_layer_36 : decode cX8_layer 36 = .ok (.ireturn, 1) := by decide +kernel
theorem dX8_layer_37 : decode cX8_layer 37 = .ok (.aload_n 0, 1) := by decide +kernel
theorem dX8_layer_38 : decode cX8_layer 38 = .ok (.iload_n 1, 1) := by decide +kernel
theorem dX8_layer_39 : decode cX8_layer 39 = .ok (.invokevirtual 297, 3) := by decide +kernel
theorem dX8_layer_42 : decode cX8_layer 42 = .ok (.aload_n 0, 1) := by decide +kernel
theorem dX8_layer_43 : decode cX8_layer 43 = .ok (.invokevirtual 221, 3) := by decide +kernel
theorem dX8_layer_46 : decode cX8_layer 46 = .ok (.istore 4, 2) := by decide +kernel
theorem dX8_layer_48 : decode cX8_layer 48 = .ok (.aload_n 0, 1) := by decide +kernel
theorem dX8_layer_49 : decode cX8_layer 49 = .ok (.iload_n 2, 1) := by decide +kernel
theorem dX8_layer_50 : decode cX8_layer 50 = .ok (.iload_n 3, 1) := by decide +kernel
theorem dX8_layer_51 : decode cX8_layer 51 = .ok (.invokevirtual 316, 3) := by decide +kernel
theorem dX8_layer_54 : decode cX8_layer 54 = .ok (.ireturn, 1) := by decide +kernel
set_option maxRecDepth 20000 in
theorem ggX8_areRowsAlike_X8_gaps : GoodIn wsX8_areRowsAlike wsX8_gaps := goodIn_r _ [5, 6, 11, 12, 13, 14, 15, 16, 17, 18, 19, 20, 21, 22, 23, 24, 25, 26, 27, 28, 29, 30, 31, 32, 33, 34, 35, 36, 37, 38, 39, 40, 41, 42, 43] (by decide +kernel) (by decide +kernel)
set_option maxRecDepth 20000 in
theorem gX8_areRowsAlike_X8_gaps : GoodIn wsX8_areRowsAlike (wsV RX8 124 RX8 yX8_gaps wsX8_gaps) := goodIn_app (goodIn_of _ (by decide +kernel)) ggX8_areRowsAlike_X8_gaps
set_option maxRecDepth 20000 in
theorem ggX8_areRowsAlike_X8_held : GoodIn wsX8_areRowsAlike wsX8_held := goodIn_r _ [10, 6, 11, 12, 13, 14, 15, 16, 17, 18, 19, 20, 21, 22, 23, 24, 25, 26, 27, 28, 29, 30, 31, 32, 33, 34, 35, 36, 37, 38, 39, 40, 41, 42, 43] (by decide +kernel) (by decide +kernel)
set_option maxRecDepth 20000 in
theorem gX8_areRowsAlike_X8_held : GoodIn wsX8_areRowsAlike (wsV RX8 127 RX8 yX8_held wsX8_held) := goodIn_app (goodIn_of _ (by decide +kernel)) ggX8_areRowsAlike_X8_held
theorem dX8_areRowsAlike_0 : decode cX8_areRowsAlike 0 = .ok (.iconst 0, 1) := by decide +kernel
theorem dX8_areRowsAlike_1 : decode cX8_areRowsAlike 1 = .ok (.istore_n 3, 1) := by decide +kernel
theorem dX8_areRowsAlike_2 : decode cX8_areRowsAlike 2 = .ok (.iload_n 3, 1) := by decide +kernel
theorem dX8_areRowsAlike_3 : decode cX8_areRowsAlike 3 = .ok (.aload_n 0, 1) := by decide +kernel
theorem dX8_areRowsAlike_4 : decode cX8_areRowsAlike 4 = .ok (.invokevirtual 124, 3) := by decide +kernel
theorem dX8_areRowsAlike_7 : decode cX8_areRowsAlike 7 = .ok (.if_icmp .ge 26, 3) := by decide +kernel
theorem dX8_areRowsAlike_10 : decode cX8_areRowsAlike 10 = .ok (.aload_n 0, 1) := by decide +kernel
theorem dX8_areRowsAlike_11 : decode cX8_areRowsAlike 11 = .ok (.iload_n 1, 1) := by decide +kernel
theorem dX8_areRowsAlike_12 : decode cX8_areRowsAlike 12 = .ok (.iload_n 3, 1) := by decide +kernel
theorem dX8_areRowsAlike_13 : decode cX8_areRowsAlike 13 = .ok (.invokevirtual 127, 3) := by decide +kernel
theorem dX8_areRowsAlike_16 : decode cX8_areRowsAlike 16 = .ok (.aload_n 0, 1) := by decide +kernel
theorem dX8_areRowsAlike_17 : decode cX8_areRowsAlike 17 = .ok (.iload_n 2, 1) := by decide +kernel
theorem dX8_areRowsAlike_18 : decode cX8_areRowsAlike 18 = .ok (.iload_n 3, 1) := by decide +kernel
theorem dX8_areRowsAlike_19 : decode cX8_areRowsAlike 19 = .ok (.invokevirtual 127, 3) := by decide +kernel
theorem dX8_areRowsAlike_22 : decode cX8_areRowsAlike 22 = .ok (.if_icmp .eq 5, 3) := by decide +kernel
theorem dX8_areRowsAlike_25 : decode cX8_areRowsAlike 25 = .ok (.iconst 0, 1) := by decide +kernel
theorem dX8_areRowsAlike_26 : decode cX8_areRowsAlike 26 = .ok (.ireturn, 1) := by decide +kernel
theorem dX8_areRowsAlike_27 : decode cX8_areRowsAlike 27 = .ok (.iinc 3 1, 3) := by decide +kernel
theorem dX8_areRowsAlike_30 : decode cX8_areRowsAlike 30 = .ok (.goto (-28), 3) := by decide +kernel
theorem dX8_areRowsAlike_33 : decode cX8_areRowsAlike 33 = .ok (.iconst 1, 1) := by decide +kernel
theorem dX8_areRowsAlike_34 : decode cX8_areRowsAlike 34 = .ok (.ireturn, 1) := by decide +kernel
set_option maxRecDepth 20000 in
theorem ggX8_repeat_X8_errs : GoodIn wsX8_repeat wsX8_errs := goodIn_r _ [7, 8, 9, 28, 29, 30, 31, 32, 33, 34, 35, 36, 37, 38, 39, 40, 41, 42, 43, 44, 45, 46, 47, 48, 49, 50, 51, 52, 53, 54, 55, 56, 57, 58, 59, 60] (by decide +kernel) (by decide +kernel)
set_option maxRecDepth 20000 in
theorem gX8_repeat_X8_errs : GoodIn wsX8_repeat (wsV RX8 150 RX8 yX8_errs wsX8_errs) := goodIn_app (goodIn_of _ (by decide +kernel)) ggX8_repeat_X8_errs
set_option maxRecDepth 20000 in
theorem ggX8_repeat_X8_deep : GoodIn wsX8_repeat wsX8_deep := goodIn_r _ [13, 1, 14, 28, 29, 30, 31, 32, 33, 34, 35, 36, 37, 38, 39, 40, 41, 42, 43, 44, 45, 46, 47, 48, 49, 50, 51, 52, 53, 54, 55, 56, 57, 58, 59, 60] (by decide +kernel) (by decide +kernel)
set_option maxRecDepth 20000 in
theorem gX8_repeat_X8_deep : GoodIn wsX8_repeat (wsV RX8 234 RX8 yX8_deep wsX8_deep) := goodIn_app (goodIn_of _ (by decide +kernel)) ggX8_repeat_X8_deep
set_option maxRecDepth 20000 in
theorem ggX8_repeat_X8_areRowsAlike : GoodIn wsX8_repeat wsX8_areRowsAlike := goodIn_r _ [18, 19, 20, 21, 6, 22, 23, 24, 25, 26, 27, 28, 29, 30, 31, 32, 33, 34, 35, 36, 37, 38, 39, 40, 41, 42, 43, 44, 45, 46, 47, 48, 49, 50, 51, 52, 53, 54, 55, 56, 57, 58, 59, 60] (by decide +kernel) (by decide +kernel)
set_option maxRecDepth 20000 in
theorem gX8_repeat_X8_areRowsAlike : GoodIn wsX8_repeat (wsV RX8 319 RX8 yX8_areRowsAlike wsX8_areRowsAlike) := goodIn_app (goodIn_of _ (by decide +kernel)) ggX8_repeat_X8_areRowsAlike
theorem dX8_repeat_0 : decode cX8_repeat 0 = .ok (.aload_n 0, 1) := by decide +kernel
theorem dX8_repeat_1 : decode cX8_repeat 1 = .ok (.getfield 120, 3) := by decide +kernel
theorem dX8_repeat_4 : decode cX8_repeat 4 = .ok (.ifCond .ne 10, 3) := by decide +kernel
theorem dX8_repeat_7 : decode cX8_repeat 7 = .ok (.aload_n 0, 1) := by decide +kernel
theorem dX8_repeat_8 : decode cX8_repeat 8 = .ok (.ldc 249, 2) := by decide +kernel
theorem dX8_repeat_10 : decode cX8_repeat 10 = .ok (.invokevirtual 150, 3) := by decide +kernel
theorem dX8_repeat_13 : decode cX8_repeat 13 = .ok (.ireturn, 1) := by decide +kernel
theorem dX8_repeat_14 : decode cX8_repeat 14 = .ok (.iconst 1, 1) := by decide +kernel
theorem dX8_repeat_15 : decode cX8_repeat 15 = .ok (.istore_n 1, 1) := by decide +kernel
theorem dX8_repeat_16 : decode cX8_repeat 16 = .ok (.iload_n 1, 1) := by decide +kernel
theorem dX8_repeat_17 : decode cX8_repeat 17 = .ok (.aload_n 0, 1) := by decide +kernel
theorem dX8_repeat_18 : decode cX8_repeat 18 = .ok (.invokevirtual 234, 3) := by decide +kernel
theorem dX8_repeat_21 : decode cX8_repeat 21 = .ok (.if_icmp .ge 46, 3) := by decide +kernel
theorem dX8_repeat_24 : decode cX8_repeat 24 = .ok (.iconst 1, 1) := by decide +kernel
theorem dX8_repeat_25 : decode cX8_repeat 25 = .ok (.istore_n 2, 1) := by decide +kernel
theorem dX8_repeat_26 : decode cX8_repeat 26 = .ok (.iload_n 1, 1) := by decide +kernel
theorem dX8_repeat_27 : decode cX8_repeat 27 = .ok (.istore_n 3, 1) := by decide +kernel
theorem dX8_repeat_28 : decode cX8_repeat 28 = .ok (.iload_n 3, 1) := by decide +kernel
theorem dX8_repeat_29 : decode cX8_repeat 29 = .ok (.aload_n 0, 1) := by decide +kernel
theorem dX8_repeat_30 : decode cX8_repeat 30 = .ok (.invokevirtual 234, 3) := by decide +kernel
theorem dX8_repeat_33 : decode cX8_repeat 33 = .ok (.if_icmp .ge 22, 3) := by decide +kernel
theorem dX8_repeat_36 : decode cX8_repeat 36 = .ok (.iload_n 2, 1) := by decide +kernel
theorem dX8_repeat_37 : decode cX8_repeat 37 = .ok (.ifCond .eq 18, 3) := by decide +kernel
theorem dX8_repeat_40 : decode cX8_repeat 40 = .ok (.aload_n 0, 1) := by decide +kernel
theorem dX8_repeat_41 : decode cX8_repeat 41 = .ok (.iload_n 3, 1) := by decide +kernel
theorem dX8_repeat_42 : decode cX8_repeat 42 = .ok (.iload_n 3, 1) := by decide +kernel
theorem dX8_repeat_43 : decode cX8_repeat 43 = .ok (.iload_n 1, 1) := by decide +kernel
theorem dX8_repeat_44 : decode cX8_repeat 44 = .ok (.isub, 1) := by decide +kernel
theorem dX8_repeat_45 : decode cX8_repeat 45 = .ok (.invokevirtual 319, 3) := by decide +kernel
theorem dX8_repeat_48 : decode cX8_repeat 48 = .ok (.istore_n 2, 1) := by decide +kernel
theorem dX8_repeat_49 : decode cX8_repeat 49 = .ok (.iinc 3 1, 3) := by decide +kernel
theorem dX8_repeat_52 : decode cX8_repeat 52 = .ok (.goto (-24), 3) := by decide +kernel
theorem dX8_repeat_55 : decode cX8_repeat 55 = .ok (.iload_n 2, 1) := by decide +kernel
theorem dX8_repeat_56 : decode cX8_repeat 56 = .ok (.ifCond .eq 5, 3) := by decide +kernel
theorem dX8_repeat_59 : decode cX8_repeat 59 = .ok (.iload_n 1, 1) := by decide +kernel
theorem dX8_repeat_60 : decode cX8_repeat 60 = .ok (.ireturn, 1) := by decide +kernel
theorem dX8_repeat_61 : decode cX8_repeat 61 = .ok (.iinc 1 1, 3) := by decide +kernel
theorem dX8_repeat_64 : decode cX8_repeat 64 = .ok (.goto (-48), 3) := by decide +kernel
theorem dX8_repeat_67 : decode cX8_repeat 67 = .ok (.aload_n 0, 1) := by decide +kernel
theorem dX8_repeat_68 : decode cX8_repeat 68 = .ok (.invokevirtual 234, 3) := by decide +kernel
theorem dX8_repeat_71 : decode cX8_repeat 71 = .ok (.ireturn, 1) := by decide +kernel
set_option maxRecDepth 20000 in
theorem ggX8_fits_X8_in : GoodIn wsX8_fits wsX8_in := goodIn_r _ [7] (by decide +kernel) (by decide +kernel)
set_option maxRecDepth 20000 in
theorem gX8_fits_X8_in : GoodIn wsX8_fits (va_wsS RX8 145 yX8_in wsX8_in) := goodIn_app (goodIn_of _ (by decide +kernel)) ggX8_fits_X8_in
set_option maxRecDepth 20000 in
theorem ggX8_fits_X8_held : GoodIn wsX8_fits wsX8_held := goodIn_r _ [11, 12, 13, 14, 15, 16, 17, 18, 19, 20, 21, 22, 23, 24, 25, 26, 27, 28, 29, 30, 31, 32, 33, 34, 35, 36, 37, 38, 39, 40, 41, 42, 43, 44, 45] (by decide +kernel) (by decide +kernel)
set_option maxRecDepth 20000 in
theorem gX8_fits_X8_held : GoodIn wsX8_fits (wsV RX8 127 RX8 yX8_held wsX8_held) := goodIn_app (goodIn_of _ (by decide +kernel)) ggX8_fits_X8_held
theorem dX8_fits_0 : decode cX8_fits 0 = .ok (.lload_n 1, 1) := by decide +kernel
theorem dX8_fits_1 : decode cX8_fits 1 = .ok (.ldc2_w 322, 3) := by decide +kernel
theorem dX8_fits_4 : decode cX8_fits 4 = .ok (.lcmp, 1) := by decide +kernel
theorem dX8_fits_5 : decode cX8_fits 5 = .ok (.ifCond .eq 29, 3) := by decide +kernel
theorem dX8_fits_8 : decode cX8_fits 8 = .ok (.lload_n 1, 1) := by decide +kernel
theorem dX8_fits_9 : decode cX8_fits 9 = .ok (.ldc2_w 139, 3) := by decide +kernel
theorem dX8_fits_12 : decode cX8_fits 12 = .ok (.ldc2_w 163, 3) := by decide +kernel
theorem dX8_fits_15 : decode cX8_fits 15 = .ok (.invokestatic 145, 3) := by decide +kernel
theorem dX8_fits_18 : decode cX8_fits 18 = .ok (.ifCond .eq 20, 3) := by decide +kernel
theorem dX8_fits_21 : decode cX8_fits 21 = .ok (.aload_n 0, 1) := by decide +kernel
theorem dX8_fits_22 : decode cX8_fits 22 = .ok (.iload_n 3, 1) := by decide +kernel
theorem dX8_fits_23 : decode cX8_fits 23 = .ok (.iload 4, 2) := by decide +kernel
theorem dX8_fits_25 : decode cX8_fits 25 = .ok (.invokevirtual 127, 3) := by decide +kernel
theorem dX8_fits_28 : decode cX8_fits 28 = .ok (.i2l, 1) := by decide +kernel
theorem dX8_fits_29 : decode cX8_fits 29 = .ok (.lload_n 1, 1) := by decide +kernel
theorem dX8_fits_30 : decode cX8_fits 30 = .ok (.lcmp, 1) := by decide +kernel
theorem dX8_fits_31 : decode cX8_fits 31 = .ok (.ifCond .ne 7, 3) := by decide +kernel
theorem dX8_fits_34 : decode cX8_fits 34 = .ok (.iconst 1, 1) := by decide +kernel
theorem dX8_fits_35 : decode cX8_fits 35 = .ok (.goto 4, 3) := by decide +kernel
theorem dX8_fits_38 : decode cX8_fits 38 = .ok (.iconst 0, 1) := by decide +kernel
theorem dX8_fits_39 : decode cX8_fits 39 = .ok (.ireturn, 1) := by decide +kernel
set_option maxRecDepth 20000 in
theorem ggX8_isFound_X8_fits : GoodIn wsX8_isFound wsX8_fits := goodIn_r _ [7, 8, 9, 10, 11, 12, 6, 13, 14, 15, 16, 17, 18, 19, 20, 21, 22, 23, 24, 25, 26, 27, 28, 29, 30, 31, 32, 33, 34, 35, 36, 37, 38, 39, 40, 41, 42, 43, 44, 45, 46, 47, 48, 49, 50, 51] (by decide +kernel) (by decide +kernel)
set_option maxRecDepth 20000 in
theorem gX8_isFound_X8_fits : GoodIn wsX8_isFound (wsV RX8 324 RX8 yX8_fits wsX8_fits) := goodIn_app (goodIn_of _ (by decide +kernel)) ggX8_isFound_X8_fits
theorem dX8_isFound_0 : decode cX8_isFound 0 = .ok (.iconst 0, 1) := by decide +kernel
theorem dX8_isFound_1 : decode cX8_isFound 1 = .ok (.istore 5, 2) := by decide +kernel
theorem dX8_isFound_3 : decode cX8_isFound 3 = .ok (.iload 5, 2) := by decide +kernel
theorem dX8_isFound_5 : decode cX8_isFound 5 = .ok (.aload_n 0, 1) := by decide +kernel
theorem dX8_isFound_6 : decode cX8_isFound 6 = .ok (.getfield 83, 3) := by decide +kernel
theorem dX8_isFound_9 : decode cX8_isFound 9 = .ok (.iload_n 1, 1) := by decide +kernel
theorem dX8_isFound_10 : decode cX8_isFound 10 = .ok (.iaload, 1) := by decide +kernel
theorem dX8_isFound_11 : decode cX8_isFound 11 = .ok (.if_icmp .ge 43, 3) := by decide +kernel
theorem dX8_isFound_14 : decode cX8_isFound 14 = .ok (.aload_n 0, 1) := by decide +kernel
theorem dX8_isFound_15 : decode cX8_isFound 15 = .ok (.aload_n 0, 1) := by decide +kernel
theorem dX8_isFound_16 : decode cX8_isFound 16 = .ok (.getfield 86, 3) := by decide +kernel
theorem dX8_isFound_19 : decode cX8_isFound 19 = .ok (.bipush 60, 2) := by decide +kernel
theorem dX8_isFound_21 : decode cX8_isFound 21 = .ok (.iload_n 1, 1) := by decide +kernel
theorem dX8_isFound_22 : decode cX8_isFound 22 = .ok (.imul, 1) := by decide +kernel
theorem dX8_isFound_23 : decode cX8_isFound 23 = .ok (.iload 5, 2) := by decide +kernel
theorem dX8_isFound_25 : decode cX8_isFound 25 = .ok (.iadd, 1) := by decide +kernel
theorem dX8_isFound_26 : decode cX8_isFound 26 = .ok (.laload, 1) := by decide +kernel
theorem dX8_isFound_27 : decode cX8_isFound 27 = .ok (.iload_n 3, 1) := by decide +kernel
theorem dX8_isFound_28 : decode cX8_isFound 28 = .ok (.iload 5, 2) := by decide +kernel
theorem dX8_isFound_30 : decode cX8_isFound 30 = .ok (.iload_n 2, 1) := by decide +kernel
theorem dX8_isFound_31 : decode cX8_isFound 31 = .ok (.idiv, 1) := by decide +kernel
theorem dX8_isFound_32 : decode cX8_isFound 32 = .ok (.iadd, 1) := by decide +kernel
theorem dX8_isFound_33 : decode cX8_isFound 33 = .ok (.iload 4, 2) := by decide +kernel
theorem dX8_isFound_35 : decode cX8_isFound 35 = .ok (.iload 5, 2) := by decide +kernel
theorem dX8_isFound_37 : decode cX8_isFound 37 = .ok (.iload_n 2, 1) := by decide +kernel
theorem dX8_isFound_38 : decode cX8_isFound 38 = .ok (.irem, 1) := by decide +kernel
theorem dX8_isFound_39 : decode cX8_isFound 39 = .ok (.iadd, 1) := by decide +kernel
theorem dX8_isFound_40 : decode cX8_isFound 40 = .ok (.invokevirtual 324, 3) := by decide +kernel
theorem dX8_isFound_43 : decode cX8_isFound 43 = .ok (.ifCond .ne 5, 3) := by decide +kernel
theorem dX8_isFound_46 : decode cX8_isFound 46 = .ok (.iconst 0, 1) := by decide +kernel
theorem dX8_isFound_47 : decode cX8_isFound 47 = .ok (.ireturn, 1) := by decide +kernel
theorem dX8_isFound_48 : decode cX8_isFound 48 = .ok (.iinc 5 1, 3) := by decide +kernel
theorem dX8_isFound_51 : decode cX8_isFound 51 = .ok (.goto (-48), 3) := by decide +kernel
theorem dX8_isFound_54 : decode cX8_isFound 54 = .ok (.iconst 1, 1) := by decide +kernel
theorem dX8_isFound_55 : decode cX8_isFound 55 = .ok (.ireturn, 1) := by decide +kernel
set_option maxRecDepth 20000 in
theorem ggX8_motif_X8_isSheet : GoodIn wsX8_motif wsX8_isSheet := goodIn_r _ [11, 12, 13, 14, 10, 15] (by decide +kernel) (by decide +kernel)
set_option maxRecDepth 20000 in
theorem gX8_motif_X8_isSheet : GoodIn wsX8_motif (va_wsS RX8 272 yX8_isSheet wsX8_isSheet) := goodIn_app (goodIn_of _ (by decide +kernel)) ggX8_motif_X8_isSheet
set_option maxRecDepth 20000 in
theorem ggX8_motif_X8_in : GoodIn wsX8_motif wsX8_in := goodIn_r _ [15] (by decide +kernel) (by decide +kernel)
set_option maxRecDepth 20000 in
theorem gX8_motif_X8_in : GoodIn wsX8_motif (va_wsS RX8 145 yX8_in wsX8_in) := goodIn_app (goodIn_of _ (by decide +kernel)) ggX8_motif_X8_in
set_option maxRecDepth 20000 in
theorem ggX8_motif_X8_errs : GoodIn wsX8_motif wsX8_errs := goodIn_r _ [19, 20, 21, 43, 44, 45, 46, 47, 48, 49, 50, 51, 52, 53, 54, 55, 56, 57, 58, 59, 60, 61, 62, 63, 64, 65, 66, 67, 68, 69, 70, 71, 72, 73, 74, 75] (by decide +kernel) (by decide +kernel)
set_option maxRecDepth 20000 in
theorem gX8_motif_X8_errs : GoodIn wsX8_motif (wsV RX8 150 RX8 yX8_errs wsX8_errs) := goodIn_app (goodIn_of _ (by decide +kernel)) ggX8_motif_X8_errs
set_option maxRecDepth 20000 in
theorem ggX8_motif_X8_gaps : GoodIn wsX8_motif wsX8_gaps := goodIn_r _ [25, 26, 43, 44, 45, 46, 47, 48, 49, 50, 51, 52, 53, 54, 55, 56, 57, 58, 59, 60, 61, 62, 63, 64, 65, 66, 67, 68, 69, 70, 71, 72, 73, 74, 75] (by decide +kernel) (by decide +kernel)
set_option maxRecDepth 20000 in
theorem gX8_motif_X8_gaps : GoodIn wsX8_motif (wsV RX8 124 RX8 yX8_gaps wsX8_gaps) := goodIn_app (goodIn_of _ (by decide +kernel)) ggX8_motif_X8_gaps
set_option maxRecDepth 20000 in
theorem ggX8_motif_X8_isFound : GoodIn wsX8_motif wsX8_isFound := goodIn_r _ [30, 5, 31, 32, 33, 34, 10, 35, 36, 37, 38, 13, 14, 15, 39, 40, 41, 42, 26, 43, 44, 45, 46, 47, 48, 49, 50, 51, 52, 53, 54, 55, 56, 57, 58, 59, 60, 61, 62, 63, 64, 65, 66, 67, 68, 69, 70, 71, 72, 73, 74, 75] (by decide +kernel) (by decide +kernel)
set_option maxRecDepth 20000 in
theorem gX8_motif_X8_isFound : GoodIn wsX8_motif (wsV RX8 328 RX8 yX8_isFound wsX8_isFound) := goodIn_app (goodIn_of _ (by decide +kernel)) ggX8_motif_X8_isFound
theorem dX8_motif_0 : decode cX8_motif 0 = .ok (.iload_n 1, 1) := by decide +kernel
theorem dX8_motif_1 : decode cX8_motif 1 = .ok (.invokestatic 272, 3) := by decide +kernel
theorem dX8_motif_4 : decode cX8_motif 4 = .ok (.ifCond .eq 25, 3) := by decide +kernel
theorem dX8_motif_7 : decode cX8_motif 7 = .ok (.iload_n 2, 1) := by decide +kernel
theorem dX8_motif_8 : decode cX8_motif 8 = .ok (.i2l, 1) := by decide +kernel
theorem dX8_motif_9 : decode cX8_motif 9 = .ok (.lconst 1, 1) := by decide +kernel
theorem dX8_motif_10 : decode cX8_motif 10 = .ok (.ldc2_w 219, 3) := by decide +kernel
theorem dX8_motif_13 : decode cX8_motif 13 = .ok (.invokestatic 145, 3) := by decide +kernel
theorem dX8_motif_16 : decode cX8_motif 16 = .ok (.ifCond .eq 13, 3) := by decide +kernel
theorem dX8_motif_19 : decode cX8_motif 19 = .ok (.iload_n 3, 1) := by decide +kernel
theorem dX8_motif_20 : decode cX8_motif 20 = .ok (.i2l, 1) := by decide +kernel
theorem dX8_motif_21 : decode cX8_motif 21 = .ok (.lconst 0, 1) := by decide +kernel
theorem dX8_motif_22 : decode cX8_motif 22 = .ok (.lconst 1, 1) := by decide +kernel
theorem dX8_motif_23 : decode cX8_motif 23 = .ok (.invokestatic 145, 3) := by decide +kernel
theorem dX8_motif_26 : decode cX8_motif 26 = .ok (.ifCond .ne 10, 3) := by decide +kernel
theorem dX8_motif_29 : decode cX8_motif 29 = .ok (.aload_n 0, 1) := by decide +kernel
theorem dX8_motif_30 : decode cX8_motif 30 = .ok (.ldc 149, 2) := by decide +kernel
theorem dX8_motif_32 : decode cX8_motif 32 = .ok (.invokevirtual 150, 3) := by decide +kernel
theorem dX8_motif_35 : decode cX8_motif 35 = .ok (.ireturn, 1) := by decide +kernel
theorem dX8_motif_36 : decode cX8_motif 36 = .ok (.aload_n 0, 1) := by decide +kernel
theorem dX8_motif_37 : decode cX8_motif 37 = .ok (.getfield 80, 3) := by decide +kernel
theorem dX8_motif_40 : decode cX8_motif 40 = .ok (.iload_n 1, 1) := by decide +kernel
theorem dX8_motif_41 : decode cX8_motif 41 = .ok (.iaload, 1) := by decide +kernel
theorem dX8_motif_42 : decode cX8_motif 42 = .ok (.ifCond .ge 11, 3) := by decide +kernel
theorem dX8_motif_45 : decode cX8_motif 45 = .ok (.aload_n 0, 1) := by decide +kernel
theorem dX8_motif_46 : decode cX8_motif 46 = .ok (.ldc_w 275, 3) := by decide +kernel
theorem dX8_motif_49 : decode cX8_motif 49 = .ok (.invokevirtual 150, 3) := by decide +kernel
theorem dX8_motif_52 : decode cX8_motif 52 = .ok (.ireturn, 1) := by decide +kernel
theorem dX8_motif_53 : decode cX8_motif 53 = .ok (.aload_n 0, 1) := by decide +kernel
theorem dX8_motif_54 : decode cX8_motif 54 = .ok (.getfield 83, 3) := by decide +kernel
theorem dX8_motif_57 : decode cX8_motif 57 = .ok (.iload_n 1, 1) := by decide +kernel
theorem dX8_motif_58 : decode cX8_motif 58 = .ok (.iaload, 1) := by decide +kernel
theorem dX8_motif_59 : decode cX8_motif 59 = .ok (.ifCond .eq 14, 3) := by decide +kernel
theorem dX8_motif_62 : decode cX8_motif 62 = .ok (.aload_n 0, 1) := by decide +kernel
theorem dX8_motif_63 : decode cX8_motif 63 = .ok (.getfield 83, 3) := by decide +kernel
theorem dX8_motif_66 : decode cX8_motif 66 = .ok (.iload_n 1, 1) := by decide +kernel
theorem dX8_motif_67 : decode cX8_motif 67 = .ok (.iaload, 1) := by decide +kernel
theorem dX8_motif_68 : decode cX8_motif 68 = .ok (.iload_n 2, 1) := by decide +kernel
theorem dX8_motif_69 : decode cX8_motif 69 = .ok (.irem, 1) := by decide +kernel
theorem dX8_motif_70 : decode cX8_motif 70 = .ok (.ifCond .eq 10, 3) := by decide +kernel
theorem dX8_motif_73 : decode cX8_motif 73 = .ok (.aload_n 0, 1) := by decide +kernel
theorem dX8_motif_74 : decode cX8_motif 74 = .ok (.ldc 165, 2) := by decide +kernel
theorem dX8_motif_76 : decode cX8_motif 76 = .ok (.invokevirtual 150, 3) := by decide +kernel
theorem dX8_motif_79 : decode cX8_motif 79 = .ok (.ireturn, 1) := by decide +kernel
theorem dX8_motif_80 : decode cX8_motif 80 = .ok (.aload_n 0, 1) := by decide +kernel
theorem dX8_motif_81 : decode cX8_motif 81 = .ok (.getfield 83, 3) := by decide +kernel
theorem dX8_motif_84 : decode cX8_motif 84 = .ok (.iload_n 1, 1) := by decide +kernel
theorem dX8_motif_85 : decode cX8_motif 85 = .ok (.iaload, 1) := by decide +kernel
theorem dX8_motif_86 : decode cX8_motif 86 = .ok (.iload_n 2, 1) := by decide +kernel
theorem dX8_motif_87 : decode cX8_motif 87 = .ok (.idiv, 1) := by decide +kernel
theorem dX8_motif_88 : decode cX8_motif 88 = .ok (.istore 4, 2) := by decide +kernel
theorem dX8_motif_90 : decode cX8_motif 90 = .ok (.iconst 0, 1) := by decide +kernel
theorem dX8_motif_91 : decode cX8_motif 91 = .ok (.istore 5, 2) := by decide +kernel
theorem dX8_motif_93 : decode cX8_motif 93 = .ok (.iconst (-1), 1) := by decide +kernel
theorem dX8_motif_94 : decode cX8_motif 94 = .ok (.istore 6, 2) := by decide +kernel
theorem dX8_motif_96 : decode cX8_motif 96 = .ok (.iconst 0, 1) := by decide +kernel
theorem dX8_motif_97 : decode cX8_motif 97 = .ok (.istore 7, 2) := by decide +kernel
theorem dX8_motif_99 : decode cX8_motif 99 = .ok (.iload 7, 2) := by decide +kernel
theorem dX8_motif_101 : decode cX8_motif 101 = .ok (.iload 4, 2) := by decide +kernel
theorem dX8_motif_103 : decode cX8_motif 103 = .ok (.iadd, 1) := by decide +kernel
theorem dX8_motif_104 : decode cX8_motif 104 = .ok (.bipush 12, 2) := by decide +kernel
theorem dX8_motif_106 : decode cX8_motif 106 = .ok (.if_icmp .gt 68, 3) := by decide +kernel
theorem dX8_motif_109 : decode cX8_motif 109 = .ok (.iconst 0, 1) := by decide +kernel
theorem dX8_motif_110 : decode cX8_motif 110 = .ok (.istore 8, 2) := by decide +kernel
theorem dX8_motif_112 : decode cX8_motif 112 = .ok (.iload 8, 2) := by decide +kernel
theorem dX8_motif_114 : decode cX8_motif 114 = .ok (.iload_n 2, 1) := by decide +kernel
theorem dX8_motif_115 : decode cX8_motif 115 = .ok (.iadd, 1) := by decide +kernel
theorem dX8_motif_116 : decode cX8_motif 116 = .ok (.aload_n 0, 1) := by decide +kernel
theorem dX8_motif_117 : decode cX8_motif 117 = .ok (.invokevirtual 124, 3) := by decide +kernel
theorem dX8_motif_120 : decode cX8_motif 120 = .ok (.if_icmp .gt 48, 3) := by decide +kernel
theorem dX8_motif_123 : decode cX8_motif 123 = .ok (.aload_n 0, 1) := by decide +kernel
theorem dX8_motif_124 : decode cX8_motif 124 = .ok (.iload_n 1, 1) := by decide +kernel
theorem dX8_motif_125 : decode cX8_motif 125 = .ok (.iload_n 2, 1) := by decide +kernel
theorem dX8_motif_126 : decode cX8_motif 126 = .ok (.iload 7, 2) := by decide +kernel
theorem dX8_motif_128 : decode cX8_motif 128 = .ok (.iload 8, 2) := by decide +kernel
theorem dX8_motif_130 : decode cX8_motif 130 = .ok (.invokevirtual 328, 3) := by decide +kernel
theorem dX8_motif_133 : decode cX8_motif 133 = .ok (.ifCond .ne 6, 3) := by decide +kernel
theorem dX8_motif_136 : decode cX8_motif 136 = .ok (.goto 26, 3) := by decide +kernel
theorem dX8_motif_139 : decode cX8_motif 139 = .ok (.iinc 5 1, 3) := by decide +kernel
theorem dX8_motif_142 : decode cX8_motif 142 = .ok (.iload 6, 2) := by decide +kernel
theorem dX8_motif_144 : decode cX8_motif 144 = .ok (.ifCond .ge 14, 3) := by decide +kernel
theorem dX8_motif_147 : decode cX8_motif 147 = .ok (.bipush 10, 2) := by decide +kernel
theorem dX8_motif_149 : decode cX8_motif 149 = .ok (.iload 7, 2) := by decide +kernel
theorem dX8_motif_151 : decode cX8_motif 151 = .ok (.imul, 1) := by decide +kernel
theorem dX8_motif_152 : decode cX8_motif 152 = .ok (.iload 8, 2) := by decide +kernel
theorem dX8_motif_154 : decode cX8_motif 154 = .ok (.iadd, 1) := by decide +kernel
theorem dX8_motif_155 : decode cX8_motif 155 = .ok (.goto 5, 3) := by decide +kernel
theorem dX8_motif_158 : decode cX8_motif 158 = .ok (.iload 6, 2) := by decide +kernel
theorem dX8_motif_160 : decode cX8_motif 160 = .ok (.istore 6, 2) := by decide +kernel
theorem dX8_motif_162 : decode cX8_motif 162 = .ok (.iinc 8 1, 3) := by decide +kernel
theorem dX8_motif_165 : decode cX8_motif 165 = .ok (.goto (-53), 3) := by decide +kernel
theorem dX8_motif_168 : decode cX8_motif 168 = .ok (.iinc 7 1, 3) := by decide +kernel
theorem dX8_motif_171 : decode cX8_motif 171 = .ok (.goto (-72), 3) := by decide +kernel
theorem dX8_motif_174 : decode cX8_motif 174 = .ok (.iload_n 3, 1) := by decide +kernel
theorem dX8_motif_175 : decode cX8_motif 175 = .ok (.ifCond .ne 8, 3) := by decide +kernel
theorem dX8_motif_178 : decode cX8_motif 178 = .ok (.iload 5, 2) := by decide +kernel
theorem dX8_motif_180 : decode cX8_motif 180 = .ok (.goto 19, 3) := by decide +kernel
theorem dX8_motif_183 : decode cX8_motif 183 = .ok (.iload 6, 2) := by decide +kernel
theorem dX8_motif_185 : decode cX8_motif 185 = .ok (.ifCond .ge 12, 3) := by decide +kernel
theorem dX8_motif_188 : decode cX8_motif 188 = .ok (.aload_n 0, 1) := by decide +kernel
theorem dX8_motif_189 : decode cX8_motif 189 = .ok (.ldc 249, 2) := by decide +kernel
theorem dX8_motif_191 : decode cX8_motif 191 = .ok (.invokevirtual 150, 3) := by decide +kernel
theorem dX8_motif_194 : decode cX8_motif 194 = .ok (.goto 5, 3) := by decide +kernel
theorem dX8_motif_197 : decode cX8_motif 197 = .ok (.iload 6, 2) := by decide +kernel
theorem dX8_motif_199 : decode cX8_motif 199 = .ok (.ireturn, 1) := by decide +kernel
set_option maxRecDepth 20000 in
theorem ggX8_isSheet_X8_in : GoodIn wsX8_isSheet wsX8_in := goodIn_r _ [5] (by decide +kernel) (by decide +kernel)
set_option maxRecDepth 20000 in
theorem gX8_isSheet_X8_in : GoodIn wsX8_isSheet (va_wsS RX8 145 yX8_in wsX8_in) := goodIn_app (goodIn_of _ (by decide +kernel)) ggX8_isSheet_X8_in
theorem dX8_isSheet_0 : decode cX8_isSheet 0 = .ok (.iload_n 0, 1) := by decide +kernel
theorem dX8_isSheet_1 : decode cX8_isSheet 1 = .ok (.i2l, 1) := by decide +kernel
theorem dX8_isSheet_2 : decode cX8_isSheet 2 = .ok (.lconst 0, 1) := by decide +kernel
theorem dX8_isSheet_3 : decode cX8_isSheet 3 = .ok (.ldc2_w 314, 3) := by decide +kernel
theorem dX8_isSheet_6 : decode cX8_isSheet 6 = .ok (.invokestatic 145, 3) := by decide +kernel
theorem dX8_isSheet_9 : decode cX8_isSheet 9 = .ok (.ireturn, 1) := by decide +kernel
set_option maxRecDepth 20000 in
theorem ggX8_sheet_X8_isSheet : GoodIn wsX8_sheet wsX8_isSheet := goodIn_r _ [11, 2, 12, 13, 10, 14] (by decide +kernel) (by decide +kernel)
set_option maxRecDepth 20000 in
theorem gX8_sheet_X8_isSheet : GoodIn wsX8_sheet (va_wsS RX8 272 yX8_isSheet wsX8_isSheet) := goodIn_app (goodIn_of _ (by decide +kernel)) ggX8_sheet_X8_isSheet
set_option maxRecDepth 20000 in
theorem ggX8_sheet_X8_in : GoodIn wsX8_sheet wsX8_in := goodIn_r _ [14] (by decide +kernel) (by decide +kernel)
set_option maxRecDepth 20000 in
theorem gX8_sheet_X8_in : GoodIn wsX8_sheet (va_wsS RX8 145 yX8_in wsX8_in) := goodIn_app (goodIn_of _ (by decide +kernel)) ggX8_sheet_X8_in
set_option maxRecDepth 20000 in
theorem ggX8_sheet_X8_errs : GoodIn wsX8_sheet wsX8_errs := goodIn_r _ [18, 19, 20, 21, 22, 23, 24, 25, 26, 27, 28, 29, 30, 31, 32, 33, 34, 35, 36, 37, 38, 39, 40, 41, 42, 43, 44, 45, 46, 47, 48, 49, 50, 51, 52, 53] (by decide +kernel) (by decide +kernel)
set_option maxRecDepth 20000 in
theorem gX8_sheet_X8_errs : GoodIn wsX8_sheet (wsV RX8 150 RX8 yX8_errs wsX8_errs) := goodIn_app (goodIn_of _ (by decide +kernel)) ggX8_sheet_X8_errs
theorem dX8_sheet_0 : decode cX8_sheet 0 = .ok (.iload_n 1, 1) := by decide +kernel
theorem dX8_sheet_1 : decode cX8_sheet 1 = .ok (.invokestatic 272, 3) := by decide +kernel
theorem dX8_sheet_4 : decode cX8_sheet 4 = .ok (.ifCond .eq 17, 3) := by decide +kernel
theorem dX8_sheet_7 : decode cX8_sheet 7 = .ok (.iload_n 2, 1) := by decide +kernel
theorem dX8_sheet_8 : decode cX8_sheet 8 = .ok (.i2l, 1) := by decide +kernel
theorem dX8_sheet_9 : decode cX8_sheet 9 = .ok (.ldc2_w 139, 3) := by decide +kernel
theorem dX8_sheet_12 : decode cX8_sheet 12 = .ok (.ldc2_w 314, 3) := by decide +kernel
theorem dX8_sheet_15 : decode cX8_sheet 15 = .ok (.invokestatic 145, 3) := by decide +kernel
theorem dX8_sheet_18 : decode cX8_sheet 18 = .ok (.ifCond .ne 10, 3) := by decide +kernel
theorem dX8_sheet_21 : decode cX8_sheet 21 = .ok (.aload_n 0, 1) := by decide +kernel
theorem dX8_sheet_22 : decode cX8_sheet 22 = .ok (.ldc 149, 2) := by decide +kernel
theorem dX8_sheet_24 : decode cX8_sheet 24 = .ok (.invokevirtual 150, 3) := by decide +kernel
theorem dX8_sheet_27 : decode cX8_sheet 27 = .ok (.ireturn, 1) := by decide +kernel
theorem dX8_sheet_28 : decode cX8_sheet 28 = .ok (.iload_n 2, 1) := by decide +kernel
theorem dX8_sheet_29 : decode cX8_sheet 29 = .ok (.ifCond .lt 14, 3) := by decide +kernel
theorem dX8_sheet_32 : decode cX8_sheet 32 = .ok (.iload_n 3, 1) := by decide +kernel
theorem dX8_sheet_33 : decode cX8_sheet 33 = .ok (.ifCond .ge 10, 3) := by decide +kernel
theorem dX8_sheet_36 : decode cX8_sheet 36 = .ok (.aload_n 0, 1) := by decide +kernel
theorem dX8_sheet_37 : decode cX8_sheet 37 = .ok (.ldc 165, 2) := by decide +kernel
theorem dX8_sheet_39 : decode cX8_sheet 39 = .ok (.invokevirtual 150, 3) := by decide +kernel
theorem dX8_sheet_42 : decode cX8_sheet 42 = .ok (.ireturn, 1) := by decide +kernel
theorem dX8_sheet_43 : decode cX8_sheet 43 = .ok (.iload_n 2, 1) := by decide +kernel
theorem dX8_sheet_44 : decode cX8_sheet 44 = .ok (.ifCond .lt 16, 3) := by decide +kernel
theorem dX8_sheet_47 : decode cX8_sheet 47 = .ok (.iload_n 3, 1) := by decide +kernel
theorem dX8_sheet_48 : decode cX8_sheet 48 = .ok (.bipush 60, 2) := by decide +kernel
theorem dX8_sheet_50 : decode cX8_sheet 50 = .ok (.if_icmp .le 10, 3) := by decide +kernel
theorem dX8_sheet_53 : decode cX8_sheet 53 = .ok (.aload_n 0, 1) := by decide +kernel
theorem dX8_sheet_54 : decode cX8_sheet 54 = .ok (.ldc 149, 2) := by decide +kernel
theorem dX8_sheet_56 : decode cX8_sheet 56 = .ok (.invokevirtual 150, 3) := by decide +kernel
theorem dX8_sheet_59 : decode cX8_sheet 59 = .ok (.ireturn, 1) := by decide +kernel
theorem dX8_sheet_60 : decode cX8_sheet 60 = .ok (.aload_n 0, 1) := by decide +kernel
theorem dX8_sheet_61 : decode cX8_sheet 61 = .ok (.getfield 80, 3) := by decide +kernel
theorem dX8_sheet_64 : decode cX8_sheet 64 = .ok (.iload_n 1, 1) := by decide +kernel
theorem dX8_sheet_65 : decode cX8_sheet 65 = .ok (.iload_n 2, 1) := by decide +kernel
theorem dX8_sheet_66 : decode cX8_sheet 66 = .ok (.iastore, 1) := by decide +kernel
theorem dX8_sheet_67 : decode cX8_sheet 67 = .ok (.aload_n 0, 1) := by decide +kernel
theorem dX8_sheet_68 : decode cX8_sheet 68 = .ok (.getfield 83, 3) := by decide +kernel
theorem dX8_sheet_71 : decode cX8_sheet 71 = .ok (.iload_n 1, 1) := by decide +kernel
theorem dX8_sheet_72 : decode cX8_sheet 72 = .ok (.iload_n 2, 1) := by decide +kernel
theorem dX8_sheet_73 : decode cX8_sheet 73 = .ok (.ifCond .ge 7, 3) := by decide +kernel
theorem dX8_sheet_76 : decode cX8_sheet 76 = .ok (.iconst 0, 1) := by decide +kernel
theorem dX8_sheet_77 : decode cX8_sheet 77 = .ok (.goto 4, 3) := by decide +kernel
theorem dX8_sheet_80 : decode cX8_sheet 80 = .ok (.iload_n 3, 1) := by decide +kernel
theorem dX8_sheet_81 : decode cX8_sheet 81 = .ok (.iastore, 1) := by decide +kernel
theorem dX8_sheet_82 : decode cX8_sheet 82 = .ok (.iconst 0, 1) := by decide +kernel
theorem dX8_sheet_83 : decode cX8_sheet 83 = .ok (.istore 4, 2) := by decide +kernel
theorem dX8_sheet_85 : decode cX8_sheet 85 = .ok (.iload 4, 2) := by decide +kernel
theorem dX8_sheet_87 : decode cX8_sheet 87 = .ok (.bipush 60, 2) := by decide +kernel
theorem dX8_sheet_89 : decode cX8_sheet 89 = .ok (.if_icmp .ge 22, 3) := by decide +kernel
theorem dX8_sheet_92 : decode cX8_sheet 92 = .ok (.aload_n 0, 1) := by decide +kernel
theorem dX8_sheet_93 : decode cX8_sheet 93 = .ok (.getfield 86, 3) := by decide +kernel
theorem dX8_sheet_96 : decode cX8_sheet 96 = .ok (.bipush 60, 2) := by decide +kernel
theorem dX8_sheet_98 : decode cX8_sheet 98 = .ok (.iload_n 1, 1) := by decide +kernel
theorem dX8_sheet_99 : decode cX8_sheet 99 = .ok (.imul, 1) := by decide +kernel
theorem dX8_sheet_100 : decode cX8_sheet 100 = .ok (.iload 4, 2) := by decide +kernel
theorem dX8_sheet_102 : decode cX8_sheet 102 = .ok (.iadd, 1) := by decide +kernel
theorem dX8_sheet_103 : decode cX8_sheet 103 = .ok (.lconst 0, 1) := by decide +kernel
theorem dX8_sheet_104 : decode cX8_sheet 104 = .ok (.lastore, 1) := by decide +kernel
theorem dX8_sheet_105 : decode cX8_sheet 105 = .ok (.iinc 4 1, 3) := by decide +kernel
theorem dX8_sheet_108 : decode cX8_sheet 108 = .ok (.goto (-23), 3) := by decide +kernel
theorem dX8_sheet_111 : decode cX8_sheet 111 = .ok (.iconst 1, 1) := by decide +kernel
theorem dX8_sheet_112 : decode cX8_sheet 112 = .ok (.ireturn, 1) := by decide +kernel
set_option maxRecDepth 20000 in
theorem ggX8_isItem_X8_in : GoodIn wsX8_isItem wsX8_in := goodIn_r _ [6] (by decide +kernel) (by decide +kernel)
set_option maxRecDepth 20000 in
theorem gX8_isItem_X8_in : GoodIn wsX8_isItem (va_wsS RX8 145 yX8_in wsX8_in) := goodIn_app (goodIn_of _ (by decide +kernel)) ggX8_isItem_X8_in
theorem dX8_isItem_0 : decode cX8_isItem 0 = .ok (.aload_n 0, 1) := by decide +kernel
theorem dX8_isItem_1 : decode cX8_isItem 1 = .ok (.getfield 80, 3) := by decide +kernel
theorem dX8_isItem_4 : decode cX8_isItem 4 = .ok (.iload_n 1, 1) := by decide +kernel
theorem dX8_isItem_5 : decode cX8_isItem 5 = .ok (.iaload, 1) := by decide +kernel
theorem dX8_isItem_6 : decode cX8_isItem 6 = .ok (.ifCond .lt 25, 3) := by decide +kernel
theorem dX8_isItem_9 : decode cX8_isItem 9 = .ok (.iload_n 2, 1) := by decide +kernel
theorem dX8_isItem_10 : decode cX8_isItem 10 = .ok (.i2l, 1) := by decide +kernel
theorem dX8_isItem_11 : decode cX8_isItem 11 = .ok (.lconst 0, 1) := by decide +kernel
theorem dX8_isItem_12 : decode cX8_isItem 12 = .ok (.aload_n 0, 1) := by decide +kernel
theorem dX8_isItem_13 : decode cX8_isItem 13 = .ok (.getfield 83, 3) := by decide +kernel
theorem dX8_isItem_16 : decode cX8_isItem 16 = .ok (.iload_n 1, 1) := by decide +kernel
theorem dX8_isItem_17 : decode cX8_isItem 17 = .ok (.iaload, 1) := by decide +kernel
theorem dX8_isItem_18 : decode cX8_isItem 18 = .ok (.iconst 1, 1) := by decide +kernel
theorem dX8_isItem_19 : decode cX8_isItem 19 = .ok (.isub, 1) := by decide +kernel
theorem dX8_isItem_20 : decode cX8_isItem 20 = .ok (.i2l, 1) := by decide +kernel
theorem dX8_isItem_21 : decode cX8_isItem 21 = .ok (.invokestatic 145, 3) := by decide +kernel
theorem dX8_isItem_24 : decode cX8_isItem 24 = .ok (.ifCond .eq 7, 3) := by decide +kernel
theorem dX8_isItem_27 : decode cX8_isItem 27 = .ok (.iconst 1, 1) := by decide +kernel
theorem dX8_isItem_28 : decode cX8_isItem 28 = .ok (.goto 4, 3) := by decide +kernel
theorem dX8_isItem_31 : decode cX8_isItem 31 = .ok (.iconst 0, 1) := by decide +kernel
theorem dX8_isItem_32 : decode cX8_isItem 32 = .ok (.ireturn, 1) := by decide +kernel
set_option maxRecDepth 20000 in
theorem ggX8_put_X8_isSheet : GoodIn wsX8_put wsX8_isSheet := goodIn_r _ [8, 9, 10, 11, 7, 12] (by decide +kernel) (by decide +kernel)
set_option maxRecDepth 20000 in
theorem gX8_put_X8_isSheet : GoodIn wsX8_put (va_wsS RX8 272 yX8_isSheet wsX8_isSheet) := goodIn_app (goodIn_of _ (by decide +kernel)) ggX8_put_X8_isSheet
set_option maxRecDepth 20000 in
theorem ggX8_put_X8_errs : GoodIn wsX8_put wsX8_errs := goodIn_r _ [16, 17, 18, 24, 25, 26, 27, 28, 29, 30, 31, 32, 33, 34, 35, 36, 37, 38, 39, 40, 41, 42, 43, 44, 45, 46, 47, 48, 49, 50, 51, 52, 53, 54, 55, 56] (by decide +kernel) (by decide +kernel)
set_option maxRecDepth 20000 in
theorem gX8_put_X8_errs : GoodIn wsX8_put (wsV RX8 150 RX8 yX8_errs wsX8_errs) := goodIn_app (goodIn_of _ (by decide +kernel)) ggX8_put_X8_errs
set_option maxRecDepth 20000 in
theorem ggX8_put_X8_isItem : GoodIn wsX8_put wsX8_isItem := goodIn_r _ [22, 4, 23, 10, 11, 7, 12, 24, 25, 26, 27, 28, 29, 30, 31, 32, 33, 34, 35, 36, 37, 38, 39, 40, 41, 42, 43, 44, 45, 46, 47, 48, 49, 50, 51, 52, 53, 54, 55, 56] (by decide +kernel) (by decide +kernel)
set_option maxRecDepth 20000 in
theorem gX8_put_X8_isItem : GoodIn wsX8_put (wsV RX8 332 RX8 yX8_isItem wsX8_isItem) := goodIn_app (goodIn_of _ (by decide +kernel)) ggX8_put_X8_isItem
theorem dX8_put_0 : decode cX8_put 0 = .ok (.iload_n 1, 1) := by decide +kernel
theorem dX8_put_1 : decode cX8_put 1 = .ok (.invokestatic 272, 3) := by decide +kernel
theorem dX8_put_4 : decode cX8_put 4 = .ok (.ifCond .ne 10, 3) := by decide +kernel
theorem dX8_put_7 : decode cX8_put 7 = .ok (.aload_n 0, 1) := by decide +kernel
theorem dX8_put_8 : decode cX8_put 8 = .ok (.ldc 149, 2) := by decide +kernel
theorem dX8_put_10 : decode cX8_put 10 = .ok (.invokevirtual 150, 3) := by decide +kernel
theorem dX8_put_13 : decode cX8_put 13 = .ok (.ireturn, 1) := by decide +kernel
theorem dX8_put_14 : decode cX8_put 14 = .ok (.aload_n 0, 1) := by decide +kernel
theorem dX8_put_15 : decode cX8_put 15 = .ok (.iload_n 1, 1) := by decide +kernel
theorem dX8_put_16 : decode cX8_put 16 = .ok (.iload_n 2, 1) := by decide +kernel
theorem dX8_put_17 : decode cX8_put 17 = .ok (.invokevirtual 332, 3) := by decide +kernel
theorem dX8_put_20 : decode cX8_put 20 = .ok (.ifCond .ne 11, 3) := by decide +kernel
theorem dX8_put_23 : decode cX8_put 23 = .ok (.aload_n 0, 1) := by decide +kernel
theorem dX8_put_24 : decode cX8_put 24 = .ok (.ldc_w 275, 3) := by decide +kernel
theorem dX8_put_27 : decode cX8_put 27 = .ok (.invokevirtual 150, 3) := by decide +kernel
theorem dX8_put_30 : decode cX8_put 30 = .ok (.ireturn, 1) := by decide +kernel
theorem dX8_put_31 : decode cX8_put 31 = .ok (.aload_n 0, 1) := by decide +kernel
theorem dX8_put_32 : decode cX8_put 32 = .ok (.getfield 86, 3) := by decide +kernel
theorem dX8_put_35 : decode cX8_put 35 = .ok (.bipush 60, 2) := by decide +kernel
theorem dX8_put_37 : decode cX8_put 37 = .ok (.iload_n 1, 1) := by decide +kernel
theorem dX8_put_38 : decode cX8_put 38 = .ok (.imul, 1) := by decide +kernel
theorem dX8_put_39 : decode cX8_put 39 = .ok (.iload_n 2, 1) := by decide +kernel
theorem dX8_put_40 : decode cX8_put 40 = .ok (.iadd, 1) := by decide +kernel
theorem dX8_put_41 : decode cX8_put 41 = .ok (.aload_n 0, 1) := by decide +kernel
theorem dX8_put_42 : decode cX8_put 42 = .ok (.getfield 80, 3) := by decide +kernel
theorem dX8_put_45 : decode cX8_put 45 = .ok (.iload_n 1, 1) := by decide +kernel
theorem dX8_put_46 : decode cX8_put 46 = .ok (.iaload, 1) := by decide +kernel
theorem dX8_put_47 : decode cX8_put 47 = .ok (.ifCond .ne 17, 3) := by decide +kernel
theorem dX8_put_50 : decode cX8_put 50 = .ok (.lload_n 3, 1) := by decide +kernel
theorem dX8_put_51 : decode cX8_put 51 = .ok (.lconst 0, 1) := by decide +kernel
theorem dX8_put_52 : decode cX8_put 52 = .ok (.lcmp, 1) := by decide +kernel
theorem dX8_put_53 : decode cX8_put 53 = .ok (.ifCond .ne 7, 3) := by decide +kernel
theorem dX8_put_56 : decode cX8_put 56 = .ok (.lconst 0, 1) := by decide +kernel
theorem dX8_put_57 : decode cX8_put 57 = .ok (.goto 41, 3) := by decide +kernel
theorem dX8_put_60 : decode cX8_put 60 = .ok (.lconst 1, 1) := by decide +kernel
theorem dX8_put_61 : decode cX8_put 61 = .ok (.goto 37, 3) := by decide +kernel
theorem dX8_put_64 : decode cX8_put 64 = .ok (.aload_n 0, 1) := by decide +kernel
theorem dX8_put_65 : decode cX8_put 65 = .ok (.getfield 80, 3) := by decide +kernel
theorem dX8_put_68 : decode cX8_put 68 = .ok (.iload_n 1, 1) := by decide +kernel
theorem dX8_put_69 : decode cX8_put 69 = .ok (.iaload, 1) := by decide +kernel
theorem dX8_put_70 : decode cX8_put 70 = .ok (.iconst 1, 1) := by decide +kernel
theorem dX8_put_71 : decode cX8_put 71 = .ok (.if_icmp .ne 10, 3) := by decide +kernel
theorem dX8_put_74 : decode cX8_put 74 = .ok (.lload_n 3, 1) := by decide +kernel
theorem dX8_put_75 : decode cX8_put 75 = .ok (.l2i, 1) := by decide +kernel
theorem dX8_put_76 : decode cX8_put 76 = .ok (.i2s, 1) := by decide +kernel
theorem dX8_put_77 : decode cX8_put 77 = .ok (.i2l, 1) := by decide +kernel
theorem dX8_put_78 : decode cX8_put 78 = .ok (.goto 20, 3) := by decide +kernel
theorem dX8_put_81 : decode cX8_put 81 = .ok (.aload_n 0, 1) := by decide +kernel
theorem dX8_put_82 : decode cX8_put 82 = .ok (.getfield 80, 3) := by decide +kernel
theorem dX8_put_85 : decode cX8_put 85 = .ok (.iload_n 1, 1) := by decide +kernel
theorem dX8_put_86 : decode cX8_put 86 = .ok (.iaload, 1) := by decide +kernel
theorem dX8_put_87 : decode cX8_put 87 = .ok (.iconst 2, 1) := by decide +kernel
theorem dX8_put_88 : decode cX8_put 88 = .ok (.if_icmp .ne 9, 3) := by decide +kernel
theorem dX8_put_91 : decode cX8_put 91 = .ok (.lload_n 3, 1) := by decide +kernel
theorem dX8_put_92 : decode cX8_put 92 = .ok (.l2i, 1) := by decide +kernel
theorem dX8_put_93 : decode cX8_put 93 = .ok (.i2l, 1) := by decide +kernel
theorem dX8_put_94 : decode cX8_put 94 = .ok (.goto 4, 3) := by decide +kernel
theorem dX8_put_97 : decode cX8_put 97 = .ok (.lload_n 3, 1) := by decide +kernel
theorem dX8_put_98 : decode cX8_put 98 = .ok (.lastore, 1) := by decide +kernel
theorem dX8_put_99 : decode cX8_put 99 = .ok (.iconst 1, 1) := by decide +kernel
theorem dX8_put_100 : decode cX8_put 100 = .ok (.ireturn, 1) := by decide +kernel
set_option maxRecDepth 20000 in
theorem ggX8_number_X8_isSheet : GoodIn wsX8_number wsX8_isSheet := goodIn_r _ [7, 8, 9, 10, 6, 11] (by decide +kernel) (by decide +kernel)
set_option maxRecDepth 20000 in
theorem gX8_number_X8_isSheet : GoodIn wsX8_number (va_wsS RX8 272 yX8_isSheet wsX8_isSheet) := goodIn_app (goodIn_of _ (by decide +kernel)) ggX8_number_X8_isSheet
set_option maxRecDepth 20000 in
theorem ggX8_number_X8_errsLong : GoodIn wsX8_number wsX8_errsLong := goodIn_r _ [15, 16, 17, 18, 25, 26, 27, 28, 29, 30, 31, 32, 33, 34, 35, 36, 37, 38, 39, 40, 41, 42, 43, 44, 45, 46, 47, 48, 49, 50, 51, 52, 53, 54, 55, 56, 57] (by decide +kernel) (by decide +kernel)
set_option maxRecDepth 20000 in
theorem gX8_number_X8_errsLong : GoodIn wsX8_number (wsV RX8 266 RX8 yX8_errsLong wsX8_errsLong) := goodIn_app (goodIn_of _ (by decide +kernel)) ggX8_number_X8_errsLong
