set_option maxRecDepth 20000 in
theorem gX7_stitches_X0_countFree : GoodIn wsX7_stitches (wsV RX7 165 RX0 yX0_countFree wsX0_countFree) := goodIn_app (goodIn_of _ (by decide +kernel)) ggX7_stitches_X0_countFree
set_option maxRecDepth 20000 in
theorem ggX7_stitches_X0_leastFree : GoodIn wsX7_stitches wsX0_leastFree := goodIn_r _ [45, 12, 37, 38, 39, 10, 40, 32, 41, 70, 71, 72, 73, 74, 75, 76, 77] (by decide +kernel) (by decide +kernel)
set_option maxRecDepth 20000 in
theorem gX7_stitches_X0_leastFree : GoodIn wsX7_stitches (wsV RX7 172 RX0 yX0_leastFree wsX0_leastFree) := goodIn_app (goodIn_of _ (by decide +kernel)) ggX7_stitches_X0_leastFree
set_option maxRecDepth 20000 in
theorem ggX7_stitches_X7_noneIfBelow0 : GoodIn wsX7_stitches wsX7_noneIfBelow0 := goodIn_r _ [50, 51, 52, 53, 49, 54, 55, 56, 57, 58, 59, 60, 61, 62, 63, 64, 65, 66, 67, 68, 69] (by decide +kernel) (by decide +kernel)
set_option maxRecDepth 20000 in
theorem gX7_stitches_X7_noneIfBelow0 : GoodIn wsX7_stitches (wsV RX7 175 RX7 yX7_noneIfBelow0 wsX7_noneIfBelow0) := goodIn_app (goodIn_of _ (by decide +kernel)) ggX7_stitches_X7_noneIfBelow0
set_option maxRecDepth 20000 in
theorem ggX7_stitches_X7_fail : GoodIn wsX7_stitches wsX7_fail := goodIn_r _ [54, 55, 56, 57, 58, 59, 60, 61, 62, 63, 64, 65, 66, 67, 68, 69] (by decide +kernel) (by decide +kernel)
set_option maxRecDepth 20000 in
theorem gX7_stitches_X7_fail : GoodIn wsX7_stitches (wsV RX7 80 RX7 yX7_fail wsX7_fail) := goodIn_app (goodIn_of _ (by decide +kernel)) ggX7_stitches_X7_fail
theorem dX7_stitches_0 : decode cX7_stitches 0 = .ok (.iload_n 1, 1) := by decide +kernel
theorem dX7_stitches_1 : decode cX7_stitches 1 = .ok (.tableswitch 111 0 6 #[43, 51, 59, 67, 75, 87, 95], 43) := by decide +kernel
theorem dX7_stitches_44 : decode cX7_stitches 44 = .ok (.aload_n 0, 1) := by decide +kernel
theorem dX7_stitches_45 : decode cX7_stitches 45 = .ok (.getfield 33, 3) := by decide +kernel
theorem dX7_stitches_48 : decode cX7_stitches 48 = .ok (.getfield 119, 3) := by decide +kernel
theorem dX7_stitches_51 : decode cX7_stitches 51 = .ok (.ireturn, 1) := by decide +kernel
theorem dX7_stitches_52 : decode cX7_stitches 52 = .ok (.aload_n 0, 1) := by decide +kernel
theorem dX7_stitches_53 : decode cX7_stitches 53 = .ok (.getfield 33, 3) := by decide +kernel
theorem dX7_stitches_56 : decode cX7_stitches 56 = .ok (.getfield 156, 3) := by decide +kernel
theorem dX7_stitches_59 : decode cX7_stitches 59 = .ok (.ireturn, 1) := by decide +kernel
theorem dX7_stitches_60 : decode cX7_stitches 60 = .ok (.aload_n 0, 1) := by decide +kernel
theorem dX7_stitches_61 : decode cX7_stitches 61 = .ok (.getfield 33, 3) := by decide +kernel
theorem dX7_stitches_64 : decode cX7_stitches 64 = .ok (.invokevirtual 159, 3) := by decide +kernel
theorem dX7_stitches_67 : decode cX7_stitches 67 = .ok (.ireturn, 1) := by decide +kernel
theorem dX7_stitches_68 : decode cX7_stitches 68 = .ok (.aload_n 0, 1) := by decide +kernel
theorem dX7_stitches_69 : decode cX7_stitches 69 = .ok (.getfield 33, 3) := by decide +kernel
theorem dX7_stitches_72 : decode cX7_stitches 72 = .ok (.invokevirtual 162, 3) := by decide +kernel
theorem dX7_stitches_75 : decode cX7_stitches 75 = .ok (.ireturn, 1) := by decide +kernel
theorem dX7_stitches_76 : decode cX7_stitches 76 = .ok (.aload_n 0, 1) := by decide +kernel
theorem dX7_stitches_77 : decode cX7_stitches 77 = .ok (.getfield 33, 3) := by decide +kernel
theorem dX7_stitches_80 : decode cX7_stitches 80 = .ok (.aload_n 0, 1) := by decide +kernel
theorem dX7_stitches_81 : decode cX7_stitches 81 = .ok (.getfield 58, 3) := by decide +kernel
theorem dX7_stitches_84 : decode cX7_stitches 84 = .ok (.invokevirtual 165, 3) := by decide +kernel
theorem dX7_stitches_87 : decode cX7_stitches 87 = .ok (.ireturn, 1) := by decide +kernel
theorem dX7_stitches_88 : decode cX7_stitches 88 = .ok (.aload_n 0, 1) := by decide +kernel
theorem dX7_stitches_89 : decode cX7_stitches 89 = .ok (.getfield 12, 3) := by decide +kernel
theorem dX7_stitches_92 : decode cX7_stitches 92 = .ok (.getfield 169, 3) := by decide +kernel
theorem dX7_stitches_95 : decode cX7_stitches 95 = .ok (.ireturn, 1) := by decide +kernel
theorem dX7_stitches_96 : decode cX7_stitches 96 = .ok (.aload_n 0, 1) := by decide +kernel
theorem dX7_stitches_97 : decode cX7_stitches 97 = .ok (.aload_n 0, 1) := by decide +kernel
theorem dX7_stitches_98 : decode cX7_stitches 98 = .ok (.getfield 33, 3) := by decide +kernel
theorem dX7_stitches_101 : decode cX7_stitches 101 = .ok (.aload_n 0, 1) := by decide +kernel
theorem dX7_stitches_102 : decode cX7_stitches 102 = .ok (.getfield 58, 3) := by decide +kernel
theorem dX7_stitches_105 : decode cX7_stitches 105 = .ok (.invokevirtual 172, 3) := by decide +kernel
theorem dX7_stitches_108 : decode cX7_stitches 108 = .ok (.invokevirtual 175, 3) := by decide +kernel
theorem dX7_stitches_111 : decode cX7_stitches 111 = .ok (.ireturn, 1) := by decide +kernel
theorem dX7_stitches_112 : decode cX7_stitches 112 = .ok (.aload_n 0, 1) := by decide +kernel
theorem dX7_stitches_113 : decode cX7_stitches 113 = .ok (.iconst 1, 1) := by decide +kernel
theorem dX7_stitches_114 : decode cX7_stitches 114 = .ok (.invokevirtual 80, 3) := by decide +kernel
theorem dX7_stitches_117 : decode cX7_stitches 117 = .ok (.ireturn, 1) := by decide +kernel
set_option maxRecDepth 20000 in
theorem ggX7_stitch_X7_isStitch : GoodIn wsX7_stitch wsX7_isStitch := goodIn_r _ [12, 1, 13, 43, 44, 45, 46, 47, 48, 49, 50, 51, 52, 53, 54, 55, 56, 57, 58, 59, 60, 61, 62, 63] (by decide +kernel) (by decide +kernel)
set_option maxRecDepth 20000 in
theorem gX7_stitch_X7_isStitch : GoodIn wsX7_stitch (wsV RX7 178 RX7 yX7_isStitch wsX7_isStitch) := goodIn_app (goodIn_of _ (by decide +kernel)) ggX7_stitch_X7_isStitch
set_option maxRecDepth 20000 in
theorem ggX7_stitch_X7_fail : GoodIn wsX7_stitch wsX7_fail := goodIn_r _ [17, 18, 19, 43, 44, 45, 46, 47, 48, 49, 50, 51, 52, 53, 54, 55] (by decide +kernel) (by decide +kernel)
set_option maxRecDepth 20000 in
theorem gX7_stitch_X7_fail : GoodIn wsX7_stitch (wsV RX7 80 RX7 yX7_fail wsX7_fail) := goodIn_app (goodIn_of _ (by decide +kernel)) ggX7_stitch_X7_fail
set_option maxRecDepth 20000 in
theorem ggX7_stitch_J13_bitCount_95d88 : GoodIn wsX7_stitch wsJ13_bitCount_95d88 := goodIn_r _ [23, 24, 25, 26] (by decide +kernel) (by decide +kernel)
set_option maxRecDepth 20000 in
theorem gX7_stitch_J13_bitCount_95d88 : GoodIn wsX7_stitch (va_wsS RX7 198 yJ13_bitCount_95d88 wsJ13_bitCount_95d88) := goodIn_app (goodIn_of _ (by decide +kernel)) ggX7_stitch_J13_bitCount_95d88
set_option maxRecDepth 20000 in
theorem ggX7_stitch_X0_countBehind : GoodIn wsX7_stitch wsX0_countBehind := goodIn_r _ [31, 32, 33, 34, 35, 30, 36, 37, 56, 57, 58, 59, 60, 61, 62, 63] (by decide +kernel) (by decide +kernel)
set_option maxRecDepth 20000 in
theorem gX7_stitch_X0_countBehind : GoodIn wsX7_stitch (wsV RX7 203 RX0 yX0_countBehind wsX0_countBehind) := goodIn_app (goodIn_of _ (by decide +kernel)) ggX7_stitch_X0_countBehind
set_option maxRecDepth 20000 in
theorem ggX7_stitch_X0_isFree : GoodIn wsX7_stitch wsX0_isFree := goodIn_r _ [41, 37, 42, 56, 57, 58, 59, 60, 61, 62, 63] (by decide +kernel) (by decide +kernel)
set_option maxRecDepth 20000 in
theorem gX7_stitch_X0_isFree : GoodIn wsX7_stitch (wsV RX7 206 RX0 yX0_isFree wsX0_isFree) := goodIn_app (goodIn_of _ (by decide +kernel)) ggX7_stitch_X0_isFree
theorem dX7_stitch_0 : decode cX7_stitch 0 = .ok (.aload_n 0, 1) := by decide +kernel
theorem dX7_stitch_1 : decode cX7_stitch 1 = .ok (.iload_n 1, 1) := by decide +kernel
theorem dX7_stitch_2 : decode cX7_stitch 2 = .ok (.i2l, 1) := by decide +kernel
theorem dX7_stitch_3 : decode cX7_stitch 3 = .ok (.invokevirtual 178, 3) := by decide +kernel
theorem dX7_stitch_6 : decode cX7_stitch 6 = .ok (.ifCond .ne 9, 3) := by decide +kernel
theorem dX7_stitch_9 : decode cX7_stitch 9 = .ok (.aload_n 0, 1) := by decide +kernel
theorem dX7_stitch_10 : decode cX7_stitch 10 = .ok (.iconst 1, 1) := by decide +kernel
theorem dX7_stitch_11 : decode cX7_stitch 11 = .ok (.invokevirtual 80, 3) := by decide +kernel
theorem dX7_stitch_14 : decode cX7_stitch 14 = .ok (.ireturn, 1) := by decide +kernel
theorem dX7_stitch_15 : decode cX7_stitch 15 = .ok (.iload_n 2, 1) := by decide +kernel
theorem dX7_stitch_16 : decode cX7_stitch 16 = .ok (.tableswitch 150 0 7 #[48, 58, 68, 78, 88, 101, 110, 129], 48) := by decide +kernel
theorem dX7_stitch_64 : decode cX7_stitch 64 = .ok (.aload_n 0, 1) := by decide +kernel
theorem dX7_stitch_65 : decode cX7_stitch 65 = .ok (.getfield 33, 3) := by decide +kernel
theorem dX7_stitch_68 : decode cX7_stitch 68 = .ok (.getfield 182, 3) := by decide +kernel
theorem dX7_stitch_71 : decode cX7_stitch 71 = .ok (.iload_n 1, 1) := by decide +kernel
theorem dX7_stitch_72 : decode cX7_stitch 72 = .ok (.iaload, 1) := by decide +kernel
theorem dX7_stitch_73 : decode cX7_stitch 73 = .ok (.ireturn, 1) := by decide +kernel
theorem dX7_stitch_74 : decode cX7_stitch 74 = .ok (.aload_n 0, 1) := by decide +kernel
theorem dX7_stitch_75 : decode cX7_stitch 75 = .ok (.getfield 33, 3) := by decide +kernel
theorem dX7_stitch_78 : decode cX7_stitch 78 = .ok (.getfield 185, 3) := by decide +kernel
theorem dX7_stitch_81 : decode cX7_stitch 81 = .ok (.iload_n 1, 1) := by decide +kernel
theorem dX7_stitch_82 : decode cX7_stitch 82 = .ok (.iaload, 1) := by decide +kernel
theorem dX7_stitch_83 : decode cX7_stitch 83 = .ok (.ireturn, 1) := by decide +kernel
theorem dX7_stitch_84 : decode cX7_stitch 84 = .ok (.aload_n 0, 1) := by decide +kernel
theorem dX7_stitch_85 : decode cX7_stitch 85 = .ok (.getfield 33, 3) := by decide +kernel
theorem dX7_stitch_88 : decode cX7_stitch 88 = .ok (.getfield 188, 3) := by decide +kernel
theorem dX7_stitch_91 : decode cX7_stitch 91 = .ok (.iload_n 1, 1) := by decide +kernel
theorem dX7_stitch_92 : decode cX7_stitch 92 = .ok (.iaload, 1) := by decide +kernel
theorem dX7_stitch_93 : decode cX7_stitch 93 = .ok (.ireturn, 1) := by decide +kernel
theorem dX7_stitch_94 : decode cX7_stitch 94 = .ok (.aload_n 0, 1) := by decide +kernel
theorem dX7_stitch_95 : decode cX7_stitch 95 = .ok (.getfield 33, 3) := by decide +kernel
theorem dX7_stitch_98 : decode cX7_stitch 98 = .ok (.getfield 191, 3) := by decide +kernel
theorem dX7_stitch_101 : decode cX7_stitch 101 = .ok (.iload_n 1, 1) := by decide +kernel
theorem dX7_stitch_102 : decode cX7_stitch 102 = .ok (.iaload, 1) := by decide +kernel
theorem dX7_stitch_103 : decode cX7_stitch 103 = .ok (.ireturn, 1) := by decide +kernel
theorem dX7_stitch_104 : decode cX7_stitch 104 = .ok (.aload_n 0, 1) := by decide +kernel
theorem dX7_stitch_105 : decode cX7_stitch 105 = .ok (.getfield 33, 3) := by decide +kernel
theorem dX7_stitch_108 : decode cX7_stitch 108 = .ok (.getfield 194, 3) := by decide +kernel
theorem dX7_stitch_111 : decode cX7_stitch 111 = .ok (.iload_n 1, 1) := by decide +kernel
theorem dX7_stitch_112 : decode cX7_stitch 112 = .ok (.laload, 1) := by decide +kernel
theorem dX7_stitch_113 : decode cX7_stitch 113 = .ok (.invokestatic 198, 3) := by decide +kernel
theorem dX7_stitch_116 : decode cX7_stitch 116 = .ok (.ireturn, 1) := by decide +kernel
theorem dX7_stitch_117 : decode cX7_stitch 117 = .ok (.aload_n 0, 1) := by decide +kernel
theorem dX7_stitch_118 : decode cX7_stitch 118 = .ok (.getfield 33, 3) := by decide +kernel
theorem dX7_stitch_121 : decode cX7_stitch 121 = .ok (.iload_n 1, 1) := by decide +kernel
theorem dX7_stitch_122 : decode cX7_stitch 122 = .ok (.invokevirtual 203, 3) := by decide +kernel
theorem dX7_stitch_125 : decode cX7_stitch 125 = .ok (.ireturn, 1) := by decide +kernel
theorem dX7_stitch_126 : decode cX7_stitch 126 = .ok (.aload_n 0, 1) := by decide +kernel
theorem dX7_stitch_127 : decode cX7_stitch 127 = .ok (.getfield 58, 3) := by decide +kernel
theorem dX7_stitch_130 : decode cX7_stitch 130 = .ok (.iload_n 1, 1) := by decide +kernel
theorem dX7_stitch_131 : decode cX7_stitch 131 = .ok (.lshr, 1) := by decide +kernel
theorem dX7_stitch_132 : decode cX7_stitch 132 = .ok (.lconst 1, 1) := by decide +kernel
theorem dX7_stitch_133 : decode cX7_stitch 133 = .ok (.land, 1) := by decide +kernel
theorem dX7_stitch_134 : decode cX7_stitch 134 = .ok (.lconst 1, 1) := by decide +kernel
theorem dX7_stitch_135 : decode cX7_stitch 135 = .ok (.lcmp, 1) := by decide +kernel
theorem dX7_stitch_136 : decode cX7_stitch 136 = .ok (.ifCond .ne 7, 3) := by decide +kernel
theorem dX7_stitch_139 : decode cX7_stitch 139 = .ok (.iconst 1, 1) := by decide +kernel
theorem dX7_stitch_140 : decode cX7_stitch 140 = .ok (.goto 4, 3) := by decide +kernel
theorem dX7_stitch_143 : decode cX7_stitch 143 = .ok (.iconst 0, 1) := by decide +kernel
theorem dX7_stitch_144 : decode cX7_stitch 144 = .ok (.ireturn, 1) := by decide +kernel
theorem dX7_stitch_145 : decode cX7_stitch 145 = .ok (.aload_n 0, 1) := by decide +kernel
theorem dX7_stitch_146 : decode cX7_stitch 146 = .ok (.getfield 33, 3) := by decide +kernel
theorem dX7_stitch_149 : decode cX7_stitch 149 = .ok (.iload_n 1, 1) := by decide +kernel
theorem dX7_stitch_150 : decode cX7_stitch 150 = .ok (.aload_n 0, 1) := by decide +kernel
theorem dX7_stitch_151 : decode cX7_stitch 151 = .ok (.getfield 58, 3) := by decide +kernel
theorem dX7_stitch_154 : decode cX7_stitch 154 = .ok (.invokevirtual 206, 3) := by decide +kernel
theorem dX7_stitch_157 : decode cX7_stitch 157 = .ok (.ifCond .eq 7, 3) := by decide +kernel
theorem dX7_stitch_160 : decode cX7_stitch 160 = .ok (.iconst 1, 1) := by decide +kernel
theorem dX7_stitch_161 : decode cX7_stitch 161 = .ok (.goto 4, 3) := by decide +kernel
theorem dX7_stitch_164 : decode cX7_stitch 164 = .ok (.iconst 0, 1) := by decide +kernel
theorem dX7_stitch_165 : decode cX7_stitch 165 = .ok (.ireturn, 1) := by decide +kernel
theorem dX7_stitch_166 : decode cX7_stitch 166 = .ok (.aload_n 0, 1) := by decide +kernel
theorem dX7_stitch_167 : decode cX7_stitch 167 = .ok (.iconst 1, 1) := by decide +kernel
theorem dX7_stitch_168 : decode cX7_stitch 168 = .ok (.invokevirtual 80, 3) := by decide +kernel
theorem dX7_stitch_171 : decode cX7_stitch 171 = .ok (.ireturn, 1) := by decide +kernel
set_option maxRecDepth 20000 in
theorem ggX7_ahead_X7_isStitch : GoodIn wsX7_ahead wsX7_isStitch := goodIn_r _ [6, 1, 7, 20, 21, 22, 23, 24, 25, 26, 27, 28, 29, 30, 31, 32, 33, 34, 35, 36, 37, 38, 39, 40] (by decide +kernel) (by decide +kernel)
set_option maxRecDepth 20000 in
theorem gX7_ahead_X7_isStitch : GoodIn wsX7_ahead (wsV RX7 178 RX7 yX7_isStitch wsX7_isStitch) := goodIn_app (goodIn_of _ (by decide +kernel)) ggX7_ahead_X7_isStitch
set_option maxRecDepth 20000 in
theorem ggX7_ahead_X7_fail : GoodIn wsX7_ahead wsX7_fail := goodIn_r _ [11, 12, 13, 20, 21, 22, 23, 24, 25, 26, 27, 28, 29, 30, 31, 32] (by decide +kernel) (by decide +kernel)
set_option maxRecDepth 20000 in
theorem gX7_ahead_X7_fail : GoodIn wsX7_ahead (wsV RX7 80 RX7 yX7_fail wsX7_fail) := goodIn_app (goodIn_of _ (by decide +kernel)) ggX7_ahead_X7_fail
set_option maxRecDepth 20000 in
theorem ggX7_ahead_X0_leads : GoodIn wsX7_ahead wsX0_leads := goodIn_r _ [18, 19, 33, 34, 35, 36, 37, 38, 39, 40] (by decide +kernel) (by decide +kernel)
set_option maxRecDepth 20000 in
theorem gX7_ahead_X0_leads : GoodIn wsX7_ahead (wsV RX7 210 RX0 yX0_leads wsX0_leads) := goodIn_app (goodIn_of _ (by decide +kernel)) ggX7_ahead_X0_leads
theorem dX7_ahead_0 : decode cX7_ahead 0 = .ok (.aload_n 0, 1) := by decide +kernel
theorem dX7_ahead_1 : decode cX7_ahead 1 = .ok (.iload_n 1, 1) := by decide +kernel
theorem dX7_ahead_2 : decode cX7_ahead 2 = .ok (.i2l, 1) := by decide +kernel
theorem dX7_ahead_3 : decode cX7_ahead 3 = .ok (.invokevirtual 178, 3) := by decide +kernel
theorem dX7_ahead_6 : decode cX7_ahead 6 = .ok (.ifCond .eq 12, 3) := by decide +kernel
theorem dX7_ahead_9 : decode cX7_ahead 9 = .ok (.aload_n 0, 1) := by decide +kernel
theorem dX7_ahead_10 : decode cX7_ahead 10 = .ok (.iload_n 2, 1) := by decide +kernel
theorem dX7_ahead_11 : decode cX7_ahead 11 = .ok (.i2l, 1) := by decide +kernel
theorem dX7_ahead_12 : decode cX7_ahead 12 = .ok (.invokevirtual 178, 3) := by decide +kernel
theorem dX7_ahead_15 : decode cX7_ahead 15 = .ok (.ifCond .ne 9, 3) := by decide +kernel
theorem dX7_ahead_18 : decode cX7_ahead 18 = .ok (.aload_n 0, 1) := by decide +kernel
theorem dX7_ahead_19 : decode cX7_ahead 19 = .ok (.iconst 1, 1) := by decide +kernel
theorem dX7_ahead_20 : decode cX7_ahead 20 = .ok (.invokevirtual 80, 3) := by decide +kernel
theorem dX7_ahead_23 : decode cX7_ahead 23 = .ok (.ireturn, 1) := by decide +kernel
theorem dX7_ahead_24 : decode cX7_ahead 24 = .ok (.aload_n 0, 1) := by decide +kernel
theorem dX7_ahead_25 : decode cX7_ahead 25 = .ok (.getfield 33, 3) := by decide +kernel
theorem dX7_ahead_28 : decode cX7_ahead 28 = .ok (.iload_n 1, 1) := by decide +kernel
theorem dX7_ahead_29 : decode cX7_ahead 29 = .ok (.iload_n 2, 1) := by decide +kernel
theorem dX7_ahead_30 : decode cX7_ahead 30 = .ok (.invokevirtual 210, 3) := by decide +kernel
theorem dX7_ahead_33 : decode cX7_ahead 33 = .ok (.ifCond .eq 7, 3) := by decide +kernel
theorem dX7_ahead_36 : decode cX7_ahead 36 = .ok (.iconst 1, 1) := by decide +kernel
theorem dX7_ahead_37 : decode cX7_ahead 37 = .ok (.goto 4, 3) := by decide +kernel
theorem dX7_ahead_40 : decode cX7_ahead 40 = .ok (.iconst 0, 1) := by decide +kernel
theorem dX7_ahead_41 : decode cX7_ahead 41 = .ok (.ireturn, 1) := by decide +kernel
set_option maxRecDepth 20000 in
theorem ggX7_orders_X7_failLong : GoodIn wsX7_orders wsX7_failLong := goodIn_r _ [9, 10, 11, 66, 67, 68, 69, 70, 71, 72, 73, 74, 75, 76, 77, 78] (by decide +kernel) (by decide +kernel)
set_option maxRecDepth 20000 in
theorem gX7_orders_X7_failLong : GoodIn wsX7_orders (wsV RX7 213 RX7 yX7_failLong wsX7_failLong) := goodIn_app (goodIn_of _ (by decide +kernel)) ggX7_orders_X7_failLong
set_option maxRecDepth 20000 in
theorem ggX7_orders_X5_reckon : GoodIn wsX7_orders wsX5_reckon := goodIn_r _ [16, 17, 18, 19, 20, 21, 15, 22, 23, 24, 25, 26, 27, 28, 29, 30, 31, 32, 33, 34, 35, 36, 37, 38, 39, 40, 41, 42, 43, 44, 45, 46, 47, 48, 49, 50, 51, 52, 53, 54, 55, 56, 57, 58, 59, 60, 61, 62, 63, 64, 65, 87, 88, 89, 90, 91, 92, 79, 80, 81, 82, 83, 84, 85, 86] (by decide +kernel) (by decide +kernel)
set_option maxRecDepth 20000 in
theorem gX7_orders_X5_reckon : GoodIn wsX7_orders (wsV RX7 217 RX5 yX5_reckon wsX5_reckon) := goodIn_app (goodIn_of _ (by decide +kernel)) ggX7_orders_X5_reckon
theorem dX7_orders_0 : decode cX7_orders 0 = .ok (.aload_n 0, 1) := by decide +kernel
theorem dX7_orders_1 : decode cX7_orders 1 = .ok (.getfield 33, 3) := by decide +kernel
theorem dX7_orders_4 : decode cX7_orders 4 = .ok (.getfield 119, 3) := by decide +kernel
theorem dX7_orders_7 : decode cX7_orders 7 = .ok (.bipush 20, 2) := by decide +kernel
theorem dX7_orders_9 : decode cX7_orders 9 = .ok (.if_icmp .le 9, 3) := by decide +kernel
theorem dX7_orders_12 : decode cX7_orders 12 = .ok (.aload_n 0, 1) := by decide +kernel
theorem dX7_orders_13 : decode cX7_orders 13 = .ok (.iconst 4, 1) := by decide +kernel
theorem dX7_orders_14 : decode cX7_orders 14 = .ok (.invokevirtual 213, 3) := by decide +kernel
theorem dX7_orders_17 : decode cX7_orders 17 = .ok (.lreturn, 1) := by decide +kernel
theorem dX7_orders_18 : decode cX7_orders 18 = .ok (.aload_n 0, 1) := by decide +kernel
theorem dX7_orders_19 : decode cX7_orders 19 = .ok (.getfield 40, 3) := by decide +kernel
theorem dX7_orders_22 : decode cX7_orders 22 = .ok (.aload_n 0, 1) := by decide +kernel
theorem dX7_orders_23 : decode cX7_orders 23 = .ok (.getfield 33, 3) := by decide +kernel
theorem dX7_orders_26 : decode cX7_orders 26 = .ok (.invokevirtual 217, 3) := by decide +kernel
theorem dX7_orders_29 : decode cX7_orders 29 = .ok (.aload_n 0, 1) := by decide +kernel
theorem dX7_orders_30 : decode cX7_orders 30 = .ok (.getfield 40, 3) := by decide +kernel
theorem dX7_orders_33 : decode cX7_orders 33 = .ok (.getfield 221, 3) := by decide +kernel
theorem dX7_orders_36 : decode cX7_orders 36 = .ok (.iconst 0, 1) := by decide +kernel
theorem dX7_orders_37 : decode cX7_orders 37 = .ok (.laload, 1) := by decide +kernel
theorem dX7_orders_38 : decode cX7_orders 38 = .ok (.lreturn, 1) := by decide +kernel
set_option maxRecDepth 20000 in
theorem ggX7_order_X7_isStitch : GoodIn wsX7_order wsX7_isStitch := goodIn_r _ [9, 1, 2, 78, 79, 80, 81, 82, 83, 84, 85, 86, 87, 88, 89, 90, 91, 92, 93, 94, 95, 96, 97, 98] (by decide +kernel) (by decide +kernel)
set_option maxRecDepth 20000 in
theorem gX7_order_X7_isStitch : GoodIn wsX7_order (wsV RX7 178 RX7 yX7_isStitch wsX7_isStitch) := goodIn_app (goodIn_of _ (by decide +kernel)) ggX7_order_X7_isStitch
set_option maxRecDepth 20000 in
theorem ggX7_order_X7_fail : GoodIn wsX7_order wsX7_fail := goodIn_r _ [13, 14, 15, 78, 79, 80, 81, 82, 83, 84, 85, 86, 87, 88, 89, 90] (by decide +kernel) (by decide +kernel)
set_option maxRecDepth 20000 in
theorem gX7_order_X7_fail : GoodIn wsX7_order (wsV RX7 80 RX7 yX7_fail wsX7_fail) := goodIn_app (goodIn_of _ (by decide +kernel)) ggX7_order_X7_fail
set_option maxRecDepth 20000 in
theorem ggX7_order_X5_reckon : GoodIn wsX7_order wsX5_reckon := goodIn_r _ [20, 21, 22, 23, 24, 25, 19, 26, 27, 28, 29, 30, 31, 32, 33, 34, 35, 36, 37, 38, 39, 40, 41, 42, 43, 44, 45, 46, 47, 48, 49, 50, 51, 52, 53, 54, 55, 56, 57, 58, 59, 60, 61, 62, 63, 64, 65, 66, 67, 68, 69, 99, 100, 101, 102, 103, 104, 91, 92, 93, 94, 95, 96, 97, 98] (by decide +kernel) (by decide +kernel)
set_option maxRecDepth 20000 in
theorem gX7_order_X5_reckon : GoodIn wsX7_order (wsV RX7 217 RX5 yX5_reckon wsX5_reckon) := goodIn_app (goodIn_of _ (by decide +kernel)) ggX7_order_X5_reckon
set_option maxRecDepth 20000 in
theorem ggX7_order_X5_stitchOf : GoodIn wsX7_order wsX5_stitchOf := goodIn_r _ [73, 28, 59, 60, 61, 62, 63, 64, 65, 74, 75, 76, 19, 77, 31, 29, 66, 67, 68, 69, 43, 91, 92, 93, 94, 95, 96, 97, 98, 99, 100, 101, 102, 103, 104] (by decide +kernel) (by decide +kernel)
set_option maxRecDepth 20000 in
theorem gX7_order_X5_stitchOf : GoodIn wsX7_order (wsV RX7 224 RX5 yX5_stitchOf wsX5_stitchOf) := goodIn_app (goodIn_of _ (by decide +kernel)) ggX7_order_X5_stitchOf
theorem dX7_order_0 : decode cX7_order 0 = .ok (.aload_n 0, 1) := by decide +kernel
theorem dX7_order_1 : decode cX7_order 1 = .ok (.iload_n 3, 1) := by decide +kernel
theorem dX7_order_2 : decode cX7_order 2 = .ok (.i2l, 1) := by decide +kernel
theorem dX7_order_3 : decode cX7_order 3 = .ok (.invokevirtual 178, 3) := by decide +kernel
theorem dX7_order_6 : decode cX7_order 6 = .ok (.ifCond .ne 9, 3) := by decide +kernel
theorem dX7_order_9 : decode cX7_order 9 = .ok (.aload_n 0, 1) := by decide +kernel
theorem dX7_order_10 : decode cX7_order 10 = .ok (.iconst 1, 1) := by decide +kernel
theorem dX7_order_11 : decode cX7_order 11 = .ok (.invokevirtual 80, 3) := by decide +kernel
theorem dX7_order_14 : decode cX7_order 14 = .ok (.ireturn, 1) := by decide +kernel
theorem dX7_order_15 : decode cX7_order 15 = .ok (.aload_n 0, 1) := by decide +kernel
theorem dX7_order_16 : decode cX7_order 16 = .ok (.getfield 33, 3) := by decide +kernel
theorem dX7_order_19 : decode cX7_order 19 = .ok (.getfield 119, 3) := by decide +kernel
theorem dX7_order_22 : decode cX7_order 22 = .ok (.bipush 20, 2) := by decide +kernel
theorem dX7_order_24 : decode cX7_order 24 = .ok (.if_icmp .le 9, 3) := by decide +kernel
theorem dX7_order_27 : decode cX7_order 27 = .ok (.aload_n 0, 1) := by decide +kernel
theorem dX7_order_28 : decode cX7_order 28 = .ok (.iconst 4, 1) := by decide +kernel
theorem dX7_order_29 : decode cX7_order 29 = .ok (.invokevirtual 80, 3) := by decide +kernel
theorem dX7_order_32 : decode cX7_order 32 = .ok (.ireturn, 1) := by decide +kernel
theorem dX7_order_33 : decode cX7_order 33 = .ok (.aload_n 0, 1) := by decide +kernel
theorem dX7_order_34 : decode cX7_order 34 = .ok (.getfield 40, 3) := by decide +kernel
theorem dX7_order_37 : decode cX7_order 37 = .ok (.aload_n 0, 1) := by decide +kernel
theorem dX7_order_38 : decode cX7_order 38 = .ok (.getfield 33, 3) := by decide +kernel
theorem dX7_order_41 : decode cX7_order 41 = .ok (.invokevirtual 217, 3) := by decide +kernel
theorem dX7_order_44 : decode cX7_order 44 = .ok (.lload_n 1, 1) := by decide +kernel
theorem dX7_order_45 : decode cX7_order 45 = .ok (.lconst 0, 1) := by decide +kernel
theorem dX7_order_46 : decode cX7_order 46 = .ok (.lcmp, 1) := by decide +kernel
theorem dX7_order_47 : decode cX7_order 47 = .ok (.ifCond .lt 17, 3) := by decide +kernel
theorem dX7_order_50 : decode cX7_order 50 = .ok (.lload_n 1, 1) := by decide +kernel
theorem dX7_order_51 : decode cX7_order 51 = .ok (.aload_n 0, 1) := by decide +kernel
theorem dX7_order_52 : decode cX7_order 52 = .ok (.getfield 40, 3) := by decide +kernel
theorem dX7_order_55 : decode cX7_order 55 = .ok (.getfield 221, 3) := by decide +kernel
theorem dX7_order_58 : decode cX7_order 58 = .ok (.iconst 0, 1) := by decide +kernel
theorem dX7_order_59 : decode cX7_order 59 = .ok (.laload, 1) := by decide +kernel
theorem dX7_order_60 : decode cX7_order 60 = .ok (.lcmp, 1) := by decide +kernel
theorem dX7_order_61 : decode cX7_order 61 = .ok (.ifCond .lt 9, 3) := by decide +kernel
theorem dX7_order_64 : decode cX7_order 64 = .ok (.aload_n 0, 1) := by decide +kernel
theorem dX7_order_65 : decode cX7_order 65 = .ok (.iconst 2, 1) := by decide +kernel
theorem dX7_order_66 : decode cX7_order 66 = .ok (.invokevirtual 80, 3) := by decide +kernel
theorem dX7_order_69 : decode cX7_order 69 = .ok (.ireturn, 1) := by decide +kernel
theorem dX7_order_70 : decode cX7_order 70 = .ok (.aload_n 0, 1) := by decide +kernel
theorem dX7_order_71 : decode cX7_order 71 = .ok (.getfield 40, 3) := by decide +kernel
theorem dX7_order_74 : decode cX7_order 74 = .ok (.aload_n 0, 1) := by decide +kernel
theorem dX7_order_75 : decode cX7_order 75 = .ok (.getfield 33, 3) := by decide +kernel
theorem dX7_order_78 : decode cX7_order 78 = .ok (.lload_n 1, 1) := by decide +kernel
theorem dX7_order_79 : decode cX7_order 79 = .ok (.iload_n 3, 1) := by decide +kernel
theorem dX7_order_80 : decode cX7_order 80 = .ok (.invokevirtual 224, 3) := by decide +kernel
theorem dX7_order_83 : decode cX7_order 83 = .ok (.ireturn, 1) := by decide +kernel
set_option maxRecDepth 20000 in
theorem ggX7_rank_X7_isSheet : GoodIn wsX7_rank wsX7_isSheet := goodIn_r _ [9] (by decide +kernel) (by decide +kernel)
set_option maxRecDepth 20000 in
theorem gX7_rank_X7_isSheet : GoodIn wsX7_rank (va_wsS RX7 228 yX7_isSheet wsX7_isSheet) := goodIn_app (goodIn_of _ (by decide +kernel)) ggX7_rank_X7_isSheet
set_option maxRecDepth 20000 in
theorem ggX7_rank_X7_failLong : GoodIn wsX7_rank wsX7_failLong := goodIn_r _ [13, 14, 15, 81, 82, 83, 84, 85, 86, 87, 88, 89, 90, 91, 92, 93] (by decide +kernel) (by decide +kernel)
set_option maxRecDepth 20000 in
theorem gX7_rank_X7_failLong : GoodIn wsX7_rank (wsV RX7 213 RX7 yX7_failLong wsX7_failLong) := goodIn_app (goodIn_of _ (by decide +kernel)) ggX7_rank_X7_failLong
set_option maxRecDepth 20000 in
theorem ggX7_rank_X5_reckon : GoodIn wsX7_rank wsX5_reckon := goodIn_r _ [20, 21, 22, 23, 24, 25, 19, 26, 27, 28, 29, 30, 31, 32, 33, 34, 35, 36, 37, 38, 39, 40, 41, 42, 43, 44, 45, 46, 47, 48, 49, 50, 51, 52, 53, 54, 55, 56, 57, 58, 59, 60, 61, 62, 63, 64, 65, 66, 67, 68, 69, 105, 106, 107, 108, 109, 110, 94, 95, 96, 97, 98, 99, 100, 101] (by decide +kernel) (by decide +kernel)
set_option maxRecDepth 20000 in
theorem gX7_rank_X5_reckon : GoodIn wsX7_rank (wsV RX7 217 RX5 yX5_reckon wsX5_reckon) := goodIn_app (goodIn_of _ (by decide +kernel)) ggX7_rank_X5_reckon
set_option maxRecDepth 20000 in
theorem ggX7_rank_X5_numberOf : GoodIn wsX7_rank wsX5_numberOf := goodIn_r _ [73, 74, 28, 75, 76, 59, 60, 61, 62, 63, 64, 65, 77, 78, 79, 19, 80, 31, 29, 66, 67, 68, 69, 43, 102, 103, 104, 94, 95, 96, 97, 98, 99, 100, 101, 105, 106, 107, 108, 109, 110] (by decide +kernel) (by decide +kernel)
set_option maxRecDepth 20000 in
theorem gX7_rank_X5_numberOf : GoodIn wsX7_rank (wsV RX7 234 RX5 yX5_numberOf wsX5_numberOf) := goodIn_app (goodIn_of _ (by decide +kernel)) ggX7_rank_X5_numberOf
theorem dX7_rank_0 : decode cX7_rank 0 = .ok (.iload_n 1, 1) := by decide +kernel
theorem dX7_rank_1 : decode cX7_rank 1 = .ok (.invokestatic 228, 3) := by decide +kernel
theorem dX7_rank_4 : decode cX7_rank 4 = .ok (.ifCond .ne 9, 3) := by decide +kernel
theorem dX7_rank_7 : decode cX7_rank 7 = .ok (.aload_n 0, 1) := by decide +kernel
theorem dX7_rank_8 : decode cX7_rank 8 = .ok (.iconst 1, 1) := by decide +kernel
theorem dX7_rank_9 : decode cX7_rank 9 = .ok (.invokevirtual 213, 3) := by decide +kernel
theorem dX7_rank_12 : decode cX7_rank 12 = .ok (.lreturn, 1) := by decide +kernel
theorem dX7_rank_13 : decode cX7_rank 13 = .ok (.aload_n 0, 1) := by decide +kernel
theorem dX7_rank_14 : decode cX7_rank 14 = .ok (.getfield 33, 3) := by decide +kernel
theorem dX7_rank_17 : decode cX7_rank 17 = .ok (.getfield 119, 3) := by decide +kernel
theorem dX7_rank_20 : decode cX7_rank 20 = .ok (.bipush 20, 2) := by decide +kernel
theorem dX7_rank_22 : decode cX7_rank 22 = .ok (.if_icmp .le 9, 3) := by decide +kernel
theorem dX7_rank_25 : decode cX7_rank 25 = .ok (.aload_n 0, 1) := by decide +kernel
theorem dX7_rank_26 : decode cX7_rank 26 = .ok (.iconst 4, 1) := by decide +kernel
theorem dX7_rank_27 : decode cX7_rank 27 = .ok (.invokevirtual 213, 3) := by decide +kernel
theorem dX7_rank_30 : decode cX7_rank 30 = .ok (.lreturn, 1) := by decide +kernel
theorem dX7_rank_31 : decode cX7_rank 31 = .ok (.aload_n 0, 1) := by decide +kernel
theorem dX7_rank_32 : decode cX7_rank 32 = .ok (.getfield 71, 3) := by decide +kernel
theorem dX7_rank_35 : decode cX7_rank 35 = .ok (.iload_n 1, 1) := by decide +kernel
theorem dX7_rank_36 : decode cX7_rank 36 = .ok (.aaload, 1) := by decide +kernel
theorem dX7_rank_37 : decode cX7_rank 37 = .ok (.getfield 231, 3) := by decide +kernel
theorem dX7_rank_40 : decode cX7_rank 40 = .ok (.iconst (-1), 1) := by decide +kernel
theorem dX7_rank_41 : decode cX7_rank 41 = .ok (.if_icmp .ne 10, 3) := by decide +kernel
theorem dX7_rank_44 : decode cX7_rank 44 = .ok (.aload_n 0, 1) := by decide +kernel
theorem dX7_rank_45 : decode cX7_rank 45 = .ok (.bipush 7, 2) := by decide +kernel
theorem dX7_rank_47 : decode cX7_rank 47 = .ok (.invokevirtual 213, 3) := by decide +kernel
theorem dX7_rank_50 : decode cX7_rank 50 = .ok (.lreturn, 1) := by decide +kernel
theorem dX7_rank_51 : decode cX7_rank 51 = .ok (.aload_n 0, 1) := by decide +kernel
theorem dX7_rank_52 : decode cX7_rank 52 = .ok (.getfield 40, 3) := by decide +kernel
theorem dX7_rank_55 : decode cX7_rank 55 = .ok (.aload_n 0, 1) := by decide +kernel
theorem dX7_rank_56 : decode cX7_rank 56 = .ok (.getfield 33, 3) := by decide +kernel
theorem dX7_rank_59 : decode cX7_rank 59 = .ok (.invokevirtual 217, 3) := by decide +kernel
theorem dX7_rank_62 : decode cX7_rank 62 = .ok (.aload_n 0, 1) := by decide +kernel
theorem dX7_rank_63 : decode cX7_rank 63 = .ok (.getfield 40, 3) := by decide +kernel
theorem dX7_rank_66 : decode cX7_rank 66 = .ok (.aload_n 0, 1) := by decide +kernel
theorem dX7_rank_67 : decode cX7_rank 67 = .ok (.getfield 33, 3) := by decide +kernel
theorem dX7_rank_70 : decode cX7_rank 70 = .ok (.aload_n 0, 1) := by decide +kernel
theorem dX7_rank_71 : decode cX7_rank 71 = .ok (.getfield 71, 3) := by decide +kernel
theorem dX7_rank_74 : decode cX7_rank 74 = .ok (.iload_n 1, 1) := by decide +kernel
theorem dX7_rank_75 : decode cX7_rank 75 = .ok (.aaload, 1) := by decide +kernel
theorem dX7_rank_76 : decode cX7_rank 76 = .ok (.invokevirtual 234, 3) := by decide +kernel
theorem dX7_rank_79 : decode cX7_rank 79 = .ok (.lstore_n 2, 1) := by decide +kernel
theorem dX7_rank_80 : decode cX7_rank 80 = .ok (.lload_n 2, 1) := by decide +kernel
theorem dX7_rank_81 : decode cX7_rank 81 = .ok (.lconst 0, 1) := by decide +kernel
theorem dX7_rank_82 : decode cX7_rank 82 = .ok (.lcmp, 1) := by decide +kernel
theorem dX7_rank_83 : decode cX7_rank 83 = .ok (.ifCond .ge 11, 3) := by decide +kernel
theorem dX7_rank_86 : decode cX7_rank 86 = .ok (.aload_n 0, 1) := by decide +kernel
theorem dX7_rank_87 : decode cX7_rank 87 = .ok (.iconst 3, 1) := by decide +kernel
theorem dX7_rank_88 : decode cX7_rank 88 = .ok (.invokevirtual 213, 3) := by decide +kernel
theorem dX7_rank_91 : decode cX7_rank 91 = .ok (.goto 4, 3) := by decide +kernel
theorem dX7_rank_94 : decode cX7_rank 94 = .ok (.lload_n 2, 1) := by decide +kernel
theorem dX7_rank_95 : decode cX7_rank 95 = .ok (.lreturn, 1) := by decide +kernel
set_option maxRecDepth 20000 in
theorem ggX7_work_X7_tryStitch : GoodIn wsX7_work wsX7_tryStitch := goodIn_r _ [8, 2, 9, 10, 1, 3, 11, 12, 13, 14, 15, 16, 17, 7, 18, 19, 20, 21, 22, 23, 24, 25, 26, 27, 28, 29, 30, 31, 32, 33, 34, 35, 36, 37, 38, 39, 40, 41, 42, 43, 44, 45, 46, 47, 48, 49, 50, 51, 52, 53, 54, 55, 56, 57, 58, 59, 60, 61, 62, 63, 64, 65, 66, 67, 68, 69, 70, 71, 72, 73, 74, 75, 76, 77, 78, 79, 80, 81, 82, 83, 84, 85, 86, 87, 88, 89, 90, 91, 92, 93, 94, 95, 96, 110, 111, 112, 113, 114, 115, 116, 117, 118, 119, 120, 121, 122, 123, 124, 125, 126, 127, 128, 129, 130, 131, 132, 133, 134, 135, 136, 137, 138, 139, 140, 141, 142, 143, 144, 145, 146, 147, 148, 149, 150] (by decide +kernel) (by decide +kernel)
set_option maxRecDepth 20000 in
theorem gX7_work_X7_tryStitch : GoodIn wsX7_work (wsV RX7 238 RX7 yX7_tryStitch wsX7_tryStitch) := goodIn_app (goodIn_of _ (by decide +kernel)) ggX7_work_X7_tryStitch
set_option maxRecDepth 20000 in
theorem ggX7_work_X7_fail : GoodIn wsX7_work wsX7_fail := goodIn_r _ [100, 101, 102, 110, 111, 112, 113, 114, 115, 116, 117, 118, 119, 120, 121, 122] (by decide +kernel) (by decide +kernel)
set_option maxRecDepth 20000 in
theorem gX7_work_X7_fail : GoodIn wsX7_work (wsV RX7 80 RX7 yX7_fail wsX7_fail) := goodIn_app (goodIn_of _ (by decide +kernel)) ggX7_work_X7_fail
set_option maxRecDepth 20000 in
theorem ggX7_work_X2_crossingsOf : GoodIn wsX7_work wsX2_crossingsOf := goodIn_r _ [107, 108, 109, 131, 132, 133, 134, 135, 136, 137] (by decide +kernel) (by decide +kernel)
set_option maxRecDepth 20000 in
theorem gX7_work_X2_crossingsOf : GoodIn wsX7_work (wsV RX7 241 RX2 yX2_crossingsOf wsX2_crossingsOf) := goodIn_app (goodIn_of _ (by decide +kernel)) ggX7_work_X2_crossingsOf
theorem dX7_work_0 : decode cX7_work 0 = .ok (.aload_n 0, 1) := by decide +kernel
theorem dX7_work_1 : decode cX7_work 1 = .ok (.iload_n 1, 1) := by decide +kernel
theorem dX7_work_2 : decode cX7_work 2 = .ok (.i2l, 1) := by decide +kernel
theorem dX7_work_3 : decode cX7_work 3 = .ok (.invokevirtual 238, 3) := by decide +kernel
theorem dX7_work_6 : decode cX7_work 6 = .ok (.istore_n 2, 1) := by decide +kernel
theorem dX7_work_7 : decode cX7_work 7 = .ok (.iload_n 2, 1) := by decide +kernel
theorem dX7_work_8 : decode cX7_work 8 = .ok (.ifCond .eq 9, 3) := by decide +kernel
theorem dX7_work_11 : decode cX7_work 11 = .ok (.aload_n 0, 1) := by decide +kernel
theorem dX7_work_12 : decode cX7_work 12 = .ok (.iload_n 2, 1) := by decide +kernel
theorem dX7_work_13 : decode cX7_work 13 = .ok (.invokevirtual 80, 3) := by decide +kernel
theorem dX7_work_16 : decode cX7_work 16 = .ok (.ireturn, 1) := by decide +kernel
theorem dX7_work_17 : decode cX7_work 17 = .ok (.aload_n 0, 1) := by decide +kernel
theorem dX7_work_18 : decode cX7_work 18 = .ok (.getfield 12, 3) := by decide +kernel
theorem dX7_work_21 : decode cX7_work 21 = .ok (.aload_n 0, 1) := by decide +kernel
theorem dX7_work_22 : decode cX7_work 22 = .ok (.getfield 33, 3) := by decide +kernel
theorem dX7_work_25 : decode cX7_work 25 = .ok (.getfield 188, 3) := by decide +kernel
theorem dX7_work_28 : decode cX7_work 28 = .ok (.iload_n 1, 1) := by decide +kernel
theorem dX7_work_29 : decode cX7_work 29 = .ok (.iaload, 1) := by decide +kernel
theorem dX7_work_30 : decode cX7_work 30 = .ok (.invokevirtual 241, 3) := by decide +kernel
theorem dX7_work_33 : decode cX7_work 33 = .ok (.ireturn, 1) := by decide +kernel
set_option maxRecDepth 20000 in
theorem ggX7_works_X7_isSheet : GoodIn wsX7_works wsX7_isSheet := goodIn_r _ [8] (by decide +kernel) (by decide +kernel)
set_option maxRecDepth 20000 in
theorem gX7_works_X7_isSheet : GoodIn wsX7_works (va_wsS RX7 228 yX7_isSheet wsX7_isSheet) := goodIn_app (goodIn_of _ (by decide +kernel)) ggX7_works_X7_isSheet
set_option maxRecDepth 20000 in
theorem ggX7_works_X7_fail : GoodIn wsX7_works wsX7_fail := goodIn_r _ [12, 13, 14, 110, 111, 112, 113, 114, 115, 116, 117, 118, 119, 120, 121, 122] (by decide +kernel) (by decide +kernel)
set_option maxRecDepth 20000 in
theorem gX7_works_X7_fail : GoodIn wsX7_works (wsV RX7 80 RX7 yX7_fail wsX7_fail) := goodIn_app (goodIn_of _ (by decide +kernel)) ggX7_works_X7_fail
set_option maxRecDepth 20000 in
theorem ggX7_works_X7_tryStitch : GoodIn wsX7_works wsX7_tryStitch := goodIn_r _ [18, 19, 20, 21, 22, 23, 24, 25, 26, 27, 28, 29, 30, 7, 31, 32, 33, 34, 35, 36, 37, 38, 39, 40, 41, 42, 43, 44, 45, 46, 47, 48, 49, 50, 51, 52, 53, 54, 55, 56, 57, 58, 59, 60, 61, 62, 63, 64, 65, 66, 67, 68, 69, 70, 71, 72, 73, 74, 75, 76, 77, 78, 79, 80, 81, 82, 83, 84, 85, 86, 87, 88, 89, 90, 91, 92, 93, 94, 95, 96, 97, 98, 99, 100, 101, 102, 103, 104, 105, 106, 107, 108, 109, 110, 111, 112, 113, 114, 115, 116, 117, 118, 119, 120, 121, 122, 126, 127, 128, 129, 130, 131, 132, 133, 134, 135, 136, 137, 138, 139, 140, 141, 142, 143, 144, 145, 146, 147, 148, 149, 150, 151, 152, 153] (by decide +kernel) (by decide +kernel)
set_option maxRecDepth 20000 in
theorem gX7_works_X7_tryStitch : GoodIn wsX7_works (wsV RX7 238 RX7 yX7_tryStitch wsX7_tryStitch) := goodIn_app (goodIn_of _ (by decide +kernel)) ggX7_works_X7_tryStitch
theorem dX7_works_0 : decode cX7_works 0 = .ok (.iload_n 1, 1) := by decide +kernel
theorem dX7_works_1 : decode cX7_works 1 = .ok (.invokestatic 228, 3) := by decide +kernel
theorem dX7_works_4 : decode cX7_works 4 = .ok (.ifCond .ne 9, 3) := by decide +kernel
theorem dX7_works_7 : decode cX7_works 7 = .ok (.aload_n 0, 1) := by decide +kernel
theorem dX7_works_8 : decode cX7_works 8 = .ok (.iconst 1, 1) := by decide +kernel
theorem dX7_works_9 : decode cX7_works 9 = .ok (.invokevirtual 80, 3) := by decide +kernel
theorem dX7_works_12 : decode cX7_works 12 = .ok (.ireturn, 1) := by decide +kernel
theorem dX7_works_13 : decode cX7_works 13 = .ok (.aload_n 0, 1) := by decide +kernel
theorem dX7_works_14 : decode cX7_works 14 = .ok (.getfield 71, 3) := by decide +kernel
theorem dX7_works_17 : decode cX7_works 17 = .ok (.iload_n 1, 1) := by decide +kernel
theorem dX7_works_18 : decode cX7_works 18 = .ok (.aaload, 1) := by decide +kernel
theorem dX7_works_19 : decode cX7_works 19 = .ok (.astore_n 2, 1) := by decide +kernel
theorem dX7_works_20 : decode cX7_works 20 = .ok (.aload_n 2, 1) := by decide +kernel
theorem dX7_works_21 : decode cX7_works 21 = .ok (.getfield 231, 3) := by decide +kernel
theorem dX7_works_24 : decode cX7_works 24 = .ok (.iconst (-1), 1) := by decide +kernel
theorem dX7_works_25 : decode cX7_works 25 = .ok (.if_icmp .ne 10, 3) := by decide +kernel
theorem dX7_works_28 : decode cX7_works 28 = .ok (.aload_n 0, 1) := by decide +kernel
theorem dX7_works_29 : decode cX7_works 29 = .ok (.bipush 7, 2) := by decide +kernel
theorem dX7_works_31 : decode cX7_works 31 = .ok (.invokevirtual 80, 3) := by decide +kernel
theorem dX7_works_34 : decode cX7_works 34 = .ok (.ireturn, 1) := by decide +kernel
theorem dX7_works_35 : decode cX7_works 35 = .ok (.iconst 0, 1) := by decide +kernel
theorem dX7_works_36 : decode cX7_works 36 = .ok (.istore_n 3, 1) := by decide +kernel
theorem dX7_works_37 : decode cX7_works 37 = .ok (.iload_n 3, 1) := by decide +kernel
theorem dX7_works_38 : decode cX7_works 38 = .ok (.aload_n 2, 1) := by decide +kernel
theorem dX7_works_39 : decode cX7_works 39 = .ok (.getfield 244, 3) := by decide +kernel
theorem dX7_works_42 : decode cX7_works 42 = .ok (.if_icmp .ge 24, 3) := by decide +kernel
theorem dX7_works_45 : decode cX7_works 45 = .ok (.aload_n 0, 1) := by decide +kernel
theorem dX7_works_46 : decode cX7_works 46 = .ok (.aload_n 2, 1) := by decide +kernel
theorem dX7_works_47 : decode cX7_works 47 = .ok (.getfield 245, 3) := by decide +kernel
theorem dX7_works_50 : decode cX7_works 50 = .ok (.iload_n 3, 1) := by decide +kernel
theorem dX7_works_51 : decode cX7_works 51 = .ok (.laload, 1) := by decide +kernel
theorem dX7_works_52 : decode cX7_works 52 = .ok (.invokevirtual 238, 3) := by decide +kernel
theorem dX7_works_55 : decode cX7_works 55 = .ok (.ifCond .eq 5, 3) := by decide +kernel
theorem dX7_works_58 : decode cX7_works 58 = .ok (.iload_n 3, 1) := by decide +kernel
theorem dX7_works_59 : decode cX7_works 59 = .ok (.ireturn, 1) := by decide +kernel
theorem dX7_works_60 : decode cX7_works 60 = .ok (.iinc 3 1, 3) := by decide +kernel
theorem dX7_works_63 : decode cX7_works 63 = .ok (.goto (-26), 3) := by decide +kernel
theorem dX7_works_66 : decode cX7_works 66 = .ok (.aload_n 2, 1) := by decide +kernel
theorem dX7_works_67 : decode cX7_works 67 = .ok (.getfield 244, 3) := by decide +kernel
theorem dX7_works_70 : decode cX7_works 70 = .ok (.ireturn, 1) := by decide +kernel
set_option maxRecDepth 20000 in
theorem ggX7_back_X7_fail : GoodIn wsX7_back wsX7_fail := goodIn_r _ [8, 9, 10, 82, 83, 84, 85, 86, 87, 88, 89, 90, 91, 92, 93, 94] (by decide +kernel) (by decide +kernel)
set_option maxRecDepth 20000 in
theorem gX7_back_X7_fail : GoodIn wsX7_back (wsV RX7 80 RX7 yX7_fail wsX7_fail) := goodIn_app (goodIn_of _ (by decide +kernel)) ggX7_back_X7_fail
set_option maxRecDepth 20000 in
theorem ggX7_back_X7_replay : GoodIn wsX7_back wsX7_replay := goodIn_r _ [14, 15, 16, 1, 2, 3, 17, 18, 19, 20, 21, 22, 23, 24, 25, 26, 27, 28, 29, 30, 31, 32, 33, 34, 35, 36, 37, 38, 39, 40, 41, 42, 43, 44, 45, 46, 47, 48, 49, 50, 51, 52, 53, 54, 55, 56, 57, 58, 59, 60, 61, 62, 63, 64, 65, 66, 67, 68, 69, 70, 71, 72, 73, 74, 75, 76, 77, 78, 79, 80, 81, 82, 83, 84, 85, 86, 87, 88, 89, 90, 91, 92, 93, 94, 95, 96, 97, 98, 99, 100, 101, 102, 103, 104, 105, 106, 107, 108, 109, 110, 111, 112, 113, 114, 115, 116, 117, 118, 119, 120, 121, 122] (by decide +kernel) (by decide +kernel)
set_option maxRecDepth 20000 in
theorem gX7_back_X7_replay : GoodIn wsX7_back (wsV RX7 248 RX7 yX7_replay wsX7_replay) := goodIn_app (goodIn_of _ (by decide +kernel)) ggX7_back_X7_replay
theorem dX7_back_0 : decode cX7_back 0 = .ok (.aload_n 0, 1) := by decide +kernel
theorem dX7_back_1 : decode cX7_back 1 = .ok (.getfield 12, 3) := by decide +kernel
theorem dX7_back_4 : decode cX7_back 4 = .ok (.getfield 169, 3) := by decide +kernel
theorem dX7_back_7 : decode cX7_back 7 = .ok (.ifCond .ne 9, 3) := by decide +kernel
theorem dX7_back_10 : decode cX7_back 10 = .ok (.aload_n 0, 1) := by decide +kernel
theorem dX7_back_11 : decode cX7_back 11 = .ok (.iconst 2, 1) := by decide +kernel
theorem dX7_back_12 : decode cX7_back 12 = .ok (.invokevirtual 80, 3) := by decide +kernel
theorem dX7_back_15 : decode cX7_back 15 = .ok (.ireturn, 1) := by decide +kernel
theorem dX7_back_16 : decode cX7_back 16 = .ok (.aload_n 0, 1) := by decide +kernel
theorem dX7_back_17 : decode cX7_back 17 = .ok (.getfield 12, 3) := by decide +kernel
theorem dX7_back_20 : decode cX7_back 20 = .ok (.dup, 1) := by decide +kernel
theorem dX7_back_21 : decode cX7_back 21 = .ok (.getfield 169, 3) := by decide +kernel
theorem dX7_back_24 : decode cX7_back 24 = .ok (.iconst 1, 1) := by decide +kernel
theorem dX7_back_25 : decode cX7_back 25 = .ok (.isub, 1) := by decide +kernel
theorem dX7_back_26 : decode cX7_back 26 = .ok (.putfield 169, 3) := by decide +kernel
theorem dX7_back_29 : decode cX7_back 29 = .ok (.aload_n 0, 1) := by decide +kernel
theorem dX7_back_30 : decode cX7_back 30 = .ok (.invokevirtual 248, 3) := by decide +kernel
theorem dX7_back_33 : decode cX7_back 33 = .ok (.aload_n 0, 1) := by decide +kernel
theorem dX7_back_34 : decode cX7_back 34 = .ok (.getfield 12, 3) := by decide +kernel
theorem dX7_back_37 : decode cX7_back 37 = .ok (.getfield 251, 3) := by decide +kernel
theorem dX7_back_40 : decode cX7_back 40 = .ok (.aload_n 0, 1) := by decide +kernel
theorem dX7_back_41 : decode cX7_back 41 = .ok (.getfield 12, 3) := by decide +kernel
theorem dX7_back_44 : decode cX7_back 44 = .ok (.getfield 169, 3) := by decide +kernel
theorem dX7_back_47 : decode cX7_back 47 = .ok (.iaload, 1) := by decide +kernel
theorem dX7_back_48 : decode cX7_back 48 = .ok (.ireturn, 1) := by decide +kernel
set_option maxRecDepth 20000 in
theorem ggX7_worked_X7_fail : GoodIn wsX7_worked wsX7_fail := goodIn_r _ [8, 9, 10, 11, 12, 13, 14, 15, 16, 17, 18, 19, 20, 21, 22, 23] (by decide +kernel) (by decide +kernel)
set_option maxRecDepth 20000 in
theorem gX7_worked_X7_fail : GoodIn wsX7_worked (wsV RX7 80 RX7 yX7_fail wsX7_fail) := goodIn_app (goodIn_of _ (by decide +kernel)) ggX7_worked_X7_fail
theorem dX7_worked_0 : decode cX7_worked 0 = .ok (.iload_n 1, 1) := by decide +kernel
theorem dX7_worked_1 : decode cX7_worked 1 = .ok (.ifCond .lt 14, 3) := by decide +kernel
theorem dX7_worked_4 : decode cX7_worked 4 = .ok (.iload_n 1, 1) := by decide +kernel
theorem dX7_worked_5 : decode cX7_worked 5 = .ok (.aload_n 0, 1) := by decide +kernel
theorem dX7_worked_6 : decode cX7_worked 6 = .ok (.getfield 12, 3) := by decide +kernel
theorem dX7_worked_9 : decode cX7_worked 9 = .ok (.getfield 169, 3) := by decide +kernel
theorem dX7_worked_12 : decode cX7_worked 12 = .ok (.if_icmp .lt 9, 3) := by decide +kernel
theorem dX7_worked_15 : decode cX7_worked 15 = .ok (.aload_n 0, 1) := by decide +kernel
theorem dX7_worked_16 : decode cX7_worked 16 = .ok (.iconst 1, 1) := by decide +kernel
theorem dX7_worked_17 : decode cX7_worked 17 = .ok (.invokevirtual 80, 3) := by decide +kernel
theorem dX7_worked_20 : decode cX7_worked 20 = .ok (.ireturn, 1) := by decide +kernel
theorem dX7_worked_21 : decode cX7_worked 21 = .ok (.aload_n 0, 1) := by decide +kernel
theorem dX7_worked_22 : decode cX7_worked 22 = .ok (.getfield 12, 3) := by decide +kernel
theorem dX7_worked_25 : decode cX7_worked 25 = .ok (.getfield 251, 3) := by decide +kernel
theorem dX7_worked_28 : decode cX7_worked 28 = .ok (.iload_n 1, 1) := by decide +kernel
theorem dX7_worked_29 : decode cX7_worked 29 = .ok (.iaload, 1) := by decide +kernel
theorem dX7_worked_30 : decode cX7_worked 30 = .ok (.ireturn, 1) := by decide +kernel
set_option maxRecDepth 20000 in
theorem ggX7_at_X7_isThread : GoodIn wsX7_at wsX7_isThread := goodIn_r _ [7, 8, 9, 16, 17, 18, 19, 20, 21, 22, 23, 24, 25, 26, 27, 28, 39, 40, 41, 42, 43, 44, 45] (by decide +kernel) (by decide +kernel)
set_option maxRecDepth 20000 in
theorem gX7_at_X7_isThread : GoodIn wsX7_at (wsV RX7 254 RX7 yX7_isThread wsX7_isThread) := goodIn_app (goodIn_of _ (by decide +kernel)) ggX7_at_X7_isThread
set_option maxRecDepth 20000 in
theorem ggX7_at_X7_fail : GoodIn wsX7_at wsX7_fail := goodIn_r _ [13, 14, 15, 16, 17, 18, 19, 20, 21, 22, 23, 24, 25, 26, 27, 28] (by decide +kernel) (by decide +kernel)
set_option maxRecDepth 20000 in
theorem gX7_at_X7_fail : GoodIn wsX7_at (wsV RX7 80 RX7 yX7_fail wsX7_fail) := goodIn_app (goodIn_of _ (by decide +kernel)) ggX7_at_X7_fail
theorem dX7_at_0 : decode cX7_at 0 = .ok (.aload_n 0, 1) := by decide +kernel
theorem dX7_at_1 : decode cX7_at 1 = .ok (.iload_n 1, 1) := by decide +kernel
theorem dX7_at_2 : decode cX7_at 2 = .ok (.invokevirtual 254, 3) := by decide +kernel
theorem dX7_at_5 : decode cX7_at 5 = .ok (.ifCond .ne 9, 3) := by decide +kernel
theorem dX7_at_8 : decode cX7_at 8 = .ok (.aload_n 0, 1) := by decide +kernel
theorem dX7_at_9 : decode cX7_at 9 = .ok (.iconst 1, 1) := by decide +kernel
theorem dX7_at_10 : decode cX7_at 10 = .ok (.invokevirtual 80, 3) := by decide +kernel
theorem dX7_at_13 : decode cX7_at 13 = .ok (.ireturn, 1) := by decide +kernel
theorem dX7_at_14 : decode cX7_at 14 = .ok (.aload_n 0, 1) := by decide +kernel
theorem dX7_at_15 : decode cX7_at 15 = .ok (.getfield 47, 3) := by decide +kernel
theorem dX7_at_18 : decode cX7_at 18 = .ok (.getfield 257, 3) := by decide +kernel
theorem dX7_at_21 : decode cX7_at 21 = .ok (.iload_n 1, 1) := by decide +kernel
theorem dX7_at_22 : decode cX7_at 22 = .ok (.iaload, 1) := by decide +kernel
theorem dX7_at_23 : decode cX7_at 23 = .ok (.ireturn, 1) := by decide +kernel
set_option maxRecDepth 20000 in
theorem ggX7_wind_X7_isThread : GoodIn wsX7_wind wsX7_isThread := goodIn_r _ [9, 3, 10, 17, 18, 19, 20, 21, 22, 23, 24, 25, 26, 27, 28, 29, 40, 41, 42, 43, 44, 45, 46] (by decide +kernel) (by decide +kernel)
set_option maxRecDepth 20000 in
theorem gX7_wind_X7_isThread : GoodIn wsX7_wind (wsV RX7 254 RX7 yX7_isThread wsX7_isThread) := goodIn_app (goodIn_of _ (by decide +kernel)) ggX7_wind_X7_isThread
set_option maxRecDepth 20000 in
theorem ggX7_wind_X7_fail : GoodIn wsX7_wind wsX7_fail := goodIn_r _ [14, 15, 16, 17, 18, 19, 20, 21, 22, 23, 24, 25, 26, 27, 28, 29] (by decide +kernel) (by decide +kernel)
set_option maxRecDepth 20000 in
theorem gX7_wind_X7_fail : GoodIn wsX7_wind (wsV RX7 80 RX7 yX7_fail wsX7_fail) := goodIn_app (goodIn_of _ (by decide +kernel)) ggX7_wind_X7_fail
theorem dX7_wind_0 : decode cX7_wind 0 = .ok (.aload_n 0, 1) := by decide +kernel
theorem dX7_wind_1 : decode cX7_wind 1 = .ok (.iload_n 1, 1) := by decide +kernel
theorem dX7_wind_2 : decode cX7_wind 2 = .ok (.invokevirtual 254, 3) := by decide +kernel
theorem dX7_wind_5 : decode cX7_wind 5 = .ok (.ifCond .eq 14, 3) := by decide +kernel
theorem dX7_wind_8 : decode cX7_wind 8 = .ok (.iload_n 2, 1) := by decide +kernel
theorem dX7_wind_9 : decode cX7_wind 9 = .ok (.ifCond .lt 10, 3) := by decide +kernel
theorem dX7_wind_12 : decode cX7_wind 12 = .ok (.iload_n 2, 1) := by decide +kernel
theorem dX7_wind_13 : decode cX7_wind 13 = .ok (.sipush 9999, 3) := by decide +kernel
theorem dX7_wind_16 : decode cX7_wind 16 = .ok (.if_icmp .le 9, 3) := by decide +kernel
theorem dX7_wind_19 : decode cX7_wind 19 = .ok (.aload_n 0, 1) := by decide +kernel
theorem dX7_wind_20 : decode cX7_wind 20 = .ok (.iconst 1, 1) := by decide +kernel
theorem dX7_wind_21 : decode cX7_wind 21 = .ok (.invokevirtual 80, 3) := by decide +kernel
theorem dX7_wind_24 : decode cX7_wind 24 = .ok (.ireturn, 1) := by decide +kernel
theorem dX7_wind_25 : decode cX7_wind 25 = .ok (.aload_n 0, 1) := by decide +kernel
theorem dX7_wind_26 : decode cX7_wind 26 = .ok (.getfield 47, 3) := by decide +kernel
theorem dX7_wind_29 : decode cX7_wind 29 = .ok (.getfield 260, 3) := by decide +kernel
theorem dX7_wind_32 : decode cX7_wind 32 = .ok (.iload_n 1, 1) := by decide +kernel
theorem dX7_wind_33 : decode cX7_wind 33 = .ok (.iaload, 1) := by decide +kernel
theorem dX7_wind_34 : decode cX7_wind 34 = .ok (.iload_n 2, 1) := by decide +kernel
theorem dX7_wind_35 : decode cX7_wind 35 = .ok (.if_icmp .le 9, 3) := by decide +kernel
theorem dX7_wind_38 : decode cX7_wind 38 = .ok (.aload_n 0, 1) := by decide +kernel
theorem dX7_wind_39 : decode cX7_wind 39 = .ok (.iconst 3, 1) := by decide +kernel
theorem dX7_wind_40 : decode cX7_wind 40 = .ok (.invokevirtual 80, 3) := by decide +kernel
theorem dX7_wind_43 : decode cX7_wind 43 = .ok (.ireturn, 1) := by decide +kernel
theorem dX7_wind_44 : decode cX7_wind 44 = .ok (.aload_n 0, 1) := by decide +kernel
theorem dX7_wind_45 : decode cX7_wind 45 = .ok (.getfield 12, 3) := by decide +kernel
theorem dX7_wind_48 : decode cX7_wind 48 = .ok (.getfield 263, 3) := by decide +kernel
theorem dX7_wind_51 : decode cX7_wind 51 = .ok (.iload_n 1, 1) := by decide +kernel
theorem dX7_wind_52 : decode cX7_wind 52 = .ok (.iaload, 1) := by decide +kernel
theorem dX7_wind_53 : decode cX7_wind 53 = .ok (.istore_n 3, 1) := by decide +kernel
theorem dX7_wind_54 : decode cX7_wind 54 = .ok (.aload_n 0, 1) := by decide +kernel
theorem dX7_wind_55 : decode cX7_wind 55 = .ok (.getfield 12, 3) := by decide +kernel
theorem dX7_wind_58 : decode cX7_wind 58 = .ok (.getfield 263, 3) := by decide +kernel
theorem dX7_wind_61 : decode cX7_wind 61 = .ok (.iload_n 1, 1) := by decide +kernel
theorem dX7_wind_62 : decode cX7_wind 62 = .ok (.iload_n 2, 1) := by decide +kernel
theorem dX7_wind_63 : decode cX7_wind 63 = .ok (.iastore, 1) := by decide +kernel
theorem dX7_wind_64 : decode cX7_wind 64 = .ok (.iload_n 3, 1) := by decide +kernel
theorem dX7_wind_65 : decode cX7_wind 65 = .ok (.ireturn, 1) := by decide +kernel
set_option maxRecDepth 20000 in
theorem ggX7_thread_X7_isThread : GoodIn wsX7_thread wsX7_isThread := goodIn_r _ [16, 1, 17, 97, 98, 99, 100, 101, 102, 103, 104, 105, 106, 107, 108, 109, 110, 111, 112, 113, 114, 115, 116] (by decide +kernel) (by decide +kernel)
set_option maxRecDepth 20000 in
theorem gX7_thread_X7_isThread : GoodIn wsX7_thread (wsV RX7 254 RX7 yX7_isThread wsX7_isThread) := goodIn_app (goodIn_of _ (by decide +kernel)) ggX7_thread_X7_isThread
set_option maxRecDepth 20000 in
theorem ggX7_thread_X7_fail : GoodIn wsX7_thread wsX7_fail := goodIn_r _ [21, 22, 23, 97, 98, 99, 100, 101, 102, 103, 104, 105, 106, 107, 108, 109] (by decide +kernel) (by decide +kernel)
set_option maxRecDepth 20000 in
theorem gX7_thread_X7_fail : GoodIn wsX7_thread (wsV RX7 80 RX7 yX7_fail wsX7_fail) := goodIn_app (goodIn_of _ (by decide +kernel)) ggX7_thread_X7_fail
set_option maxRecDepth 20000 in
theorem ggX7_thread_X7_thinkStitches : GoodIn wsX7_thread wsX7_thinkStitches := goodIn_r _ [27, 28, 8, 1, 6, 29, 30, 31, 32, 33, 34, 35, 36, 37, 38, 39, 40, 41, 42, 43, 44, 45, 46, 47, 48, 49, 50, 51, 52, 53, 54, 55, 56, 57, 58, 59, 60, 61, 62, 63, 64, 65, 66, 67, 68, 69, 70, 71, 72, 73, 74, 75, 76, 77, 78, 79, 80, 81, 82, 83, 84, 85, 86, 87, 88, 89, 90, 91, 92, 97, 98, 99, 100, 101, 102, 103, 104, 105, 106, 107, 108, 109, 127, 128, 129, 130, 131, 132, 133, 134, 117, 118, 119, 120, 121, 122, 123, 124, 125, 126, 135, 136, 137, 110, 111, 112, 113, 114, 115, 116] (by decide +kernel) (by decide +kernel)
set_option maxRecDepth 20000 in
theorem gX7_thread_X7_thinkStitches : GoodIn wsX7_thread (wsV RX7 266 RX7 yX7_thinkStitches wsX7_thinkStitches) := goodIn_app (goodIn_of _ (by decide +kernel)) ggX7_thread_X7_thinkStitches
set_option maxRecDepth 20000 in
theorem ggX7_thread_X6_turnsOf : GoodIn wsX7_thread wsX6_turnsOf := goodIn_r _ [96, 49, 117, 118, 119, 120, 121, 122, 123, 124, 125, 126] (by decide +kernel) (by decide +kernel)
set_option maxRecDepth 20000 in
theorem gX7_thread_X6_turnsOf : GoodIn wsX7_thread (wsV RX7 269 RX6 yX6_turnsOf wsX6_turnsOf) := goodIn_app (goodIn_of _ (by decide +kernel)) ggX7_thread_X6_turnsOf
theorem dX7_thread_0 : decode cX7_thread 0 = .ok (.aload_n 0, 1) := by decide +kernel
theorem dX7_thread_1 : decode cX7_thread 1 = .ok (.iload_n 1, 1) := by decide +kernel
theorem dX7_thread_2 : decode cX7_thread 2 = .ok (.invokevirtual 254, 3) := by decide +kernel
theorem dX7_thread_5 : decode cX7_thread 5 = .ok (.ifCond .eq 13, 3) := by decide +kernel
theorem dX7_thread_8 : decode cX7_thread 8 = .ok (.iload_n 2, 1) := by decide +kernel
theorem dX7_thread_9 : decode cX7_thread 9 = .ok (.ifCond .lt 9, 3) := by decide +kernel
theorem dX7_thread_12 : decode cX7_thread 12 = .ok (.iload_n 2, 1) := by decide +kernel
theorem dX7_thread_13 : decode cX7_thread 13 = .ok (.bipush 7, 2) := by decide +kernel
theorem dX7_thread_15 : decode cX7_thread 15 = .ok (.if_icmp .le 9, 3) := by decide +kernel
theorem dX7_thread_18 : decode cX7_thread 18 = .ok (.aload_n 0, 1) := by decide +kernel
theorem dX7_thread_19 : decode cX7_thread 19 = .ok (.iconst 1, 1) := by decide +kernel
theorem dX7_thread_20 : decode cX7_thread 20 = .ok (.invokevirtual 80, 3) := by decide +kernel
theorem dX7_thread_23 : decode cX7_thread 23 = .ok (.ireturn, 1) := by decide +kernel
theorem dX7_thread_24 : decode cX7_thread 24 = .ok (.iload_n 2, 1) := by decide +kernel
theorem dX7_thread_25 : decode cX7_thread 25 = .ok (.ifCond .ne 13, 3) := by decide +kernel
theorem dX7_thread_28 : decode cX7_thread 28 = .ok (.aload_n 0, 1) := by decide +kernel
theorem dX7_thread_29 : decode cX7_thread 29 = .ok (.getfield 12, 3) := by decide +kernel
theorem dX7_thread_32 : decode cX7_thread 32 = .ok (.getfield 263, 3) := by decide +kernel
theorem dX7_thread_35 : decode cX7_thread 35 = .ok (.iload_n 1, 1) := by decide +kernel
theorem dX7_thread_36 : decode cX7_thread 36 = .ok (.iaload, 1) := by decide +kernel
theorem dX7_thread_37 : decode cX7_thread 37 = .ok (.ireturn, 1) := by decide +kernel
theorem dX7_thread_38 : decode cX7_thread 38 = .ok (.iload_n 2, 1) := by decide +kernel
theorem dX7_thread_39 : decode cX7_thread 39 = .ok (.iconst 1, 1) := by decide +kernel
theorem dX7_thread_40 : decode cX7_thread 40 = .ok (.if_icmp .ne 23, 3) := by decide +kernel
theorem dX7_thread_43 : decode cX7_thread 43 = .ok (.aload_n 0, 1) := by decide +kernel
theorem dX7_thread_44 : decode cX7_thread 44 = .ok (.getfield 12, 3) := by decide +kernel
theorem dX7_thread_47 : decode cX7_thread 47 = .ok (.getfield 263, 3) := by decide +kernel
theorem dX7_thread_50 : decode cX7_thread 50 = .ok (.iload_n 1, 1) := by decide +kernel
theorem dX7_thread_51 : decode cX7_thread 51 = .ok (.iaload, 1) := by decide +kernel
theorem dX7_thread_52 : decode cX7_thread 52 = .ok (.aload_n 0, 1) := by decide +kernel
theorem dX7_thread_53 : decode cX7_thread 53 = .ok (.getfield 47, 3) := by decide +kernel
theorem dX7_thread_56 : decode cX7_thread 56 = .ok (.getfield 260, 3) := by decide +kernel
theorem dX7_thread_59 : decode cX7_thread 59 = .ok (.iload_n 1, 1) := by decide +kernel
theorem dX7_thread_60 : decode cX7_thread 60 = .ok (.iaload, 1) := by decide +kernel
theorem dX7_thread_61 : decode cX7_thread 61 = .ok (.isub, 1) := by decide +kernel
theorem dX7_thread_62 : decode cX7_thread 62 = .ok (.ireturn, 1) := by decide +kernel
theorem dX7_thread_63 : decode cX7_thread 63 = .ok (.iload_n 2, 1) := by decide +kernel
theorem dX7_thread_64 : decode cX7_thread 64 = .ok (.iconst 2, 1) := by decide +kernel
theorem dX7_thread_65 : decode cX7_thread 65 = .ok (.if_icmp .ne 13, 3) := by decide +kernel
theorem dX7_thread_68 : decode cX7_thread 68 = .ok (.aload_n 0, 1) := by decide +kernel
theorem dX7_thread_69 : decode cX7_thread 69 = .ok (.getfield 47, 3) := by decide +kernel
theorem dX7_thread_72 : decode cX7_thread 72 = .ok (.getfield 150, 3) := by decide +kernel
theorem dX7_thread_75 : decode cX7_thread 75 = .ok (.iload_n 1, 1) := by decide +kernel
theorem dX7_thread_76 : decode cX7_thread 76 = .ok (.iaload, 1) := by decide +kernel
theorem dX7_thread_77 : decode cX7_thread 77 = .ok (.ireturn, 1) := by decide +kernel
theorem dX7_thread_78 : decode cX7_thread 78 = .ok (.aload_n 0, 1) := by decide +kernel
theorem dX7_thread_79 : decode cX7_thread 79 = .ok (.aload_n 0, 1) := by decide +kernel
theorem dX7_thread_80 : decode cX7_thread 80 = .ok (.getfield 33, 3) := by decide +kernel
theorem dX7_thread_83 : decode cX7_thread 83 = .ok (.getfield 119, 3) := by decide +kernel
theorem dX7_thread_86 : decode cX7_thread 86 = .ok (.invokevirtual 266, 3) := by decide +kernel
theorem dX7_thread_89 : decode cX7_thread 89 = .ok (.iload_n 2, 1) := by decide +kernel
theorem dX7_thread_90 : decode cX7_thread 90 = .ok (.tableswitch 69 3 6 #[30, 39, 49, 59], 30) := by decide +kernel
theorem dX7_thread_120 : decode cX7_thread 120 = .ok (.aload_n 0, 1) := by decide +kernel
theorem dX7_thread_121 : decode cX7_thread 121 = .ok (.getfield 51, 3) := by decide +kernel
theorem dX7_thread_124 : decode cX7_thread 124 = .ok (.iload_n 1, 1) := by decide +kernel
theorem dX7_thread_125 : decode cX7_thread 125 = .ok (.invokevirtual 269, 3) := by decide +kernel
theorem dX7_thread_128 : decode cX7_thread 128 = .ok (.ireturn, 1) := by decide +kernel
theorem dX7_thread_129 : decode cX7_thread 129 = .ok (.aload_n 0, 1) := by decide +kernel
theorem dX7_thread_130 : decode cX7_thread 130 = .ok (.getfield 51, 3) := by decide +kernel
theorem dX7_thread_133 : decode cX7_thread 133 = .ok (.getfield 260, 3) := by decide +kernel
theorem dX7_thread_136 : decode cX7_thread 136 = .ok (.iload_n 1, 1) := by decide +kernel
theorem dX7_thread_137 : decode cX7_thread 137 = .ok (.iaload, 1) := by decide +kernel
theorem dX7_thread_138 : decode cX7_thread 138 = .ok (.ireturn, 1) := by decide +kernel
theorem dX7_thread_139 : decode cX7_thread 139 = .ok (.aload_n 0, 1) := by decide +kernel
theorem dX7_thread_140 : decode cX7_thread 140 = .ok (.getfield 51, 3) := by decide +kernel
theorem dX7_thread_143 : decode cX7_thread 143 = .ok (.getfield 272, 3) := by decide +kernel
theorem dX7_thread_146 : decode cX7_thread 146 = .ok (.iload_n 1, 1) := by decide +kernel
theorem dX7_thread_147 : decode cX7_thread 147 = .ok (.iaload, 1) := by decide +kernel
theorem dX7_thread_148 : decode cX7_thread 148 = .ok (.ireturn, 1) := by decide +kernel
theorem dX7_thread_149 : decode cX7_thread 149 = .ok (.aload_n 0, 1) := by decide +kernel
theorem dX7_thread_150 : decode cX7_thread 150 = .ok (.getfield 51, 3) := by decide +kernel
theorem dX7_thread_153 : decode cX7_thread 153 = .ok (.getfield 275, 3) := by decide +kernel
theorem dX7_thread_156 : decode cX7_thread 156 = .ok (.iload_n 1, 1) := by decide +kernel
theorem dX7_thread_157 : decode cX7_thread 157 = .ok (.iaload, 1) := by decide +kernel
theorem dX7_thread_158 : decode cX7_thread 158 = .ok (.ireturn, 1) := by decide +kernel
theorem dX7_thread_159 : decode cX7_thread 159 = .ok (.aload_n 0, 1) := by decide +kernel
theorem dX7_thread_160 : decode cX7_thread 160 = .ok (.getfield 51, 3) := by decide +kernel
theorem dX7_thread_163 : decode cX7_thread 163 = .ok (.getfield 278, 3) := by decide +kernel
theorem dX7_thread_166 : decode cX7_thread 166 = .ok (.iload_n 1, 1) := by decide +kernel
theorem dX7_thread_167 : decode cX7_thread 167 = .ok (.iaload, 1) := by decide +kernel
theorem dX7_thread_168 : decode cX7_thread 168 = .ok (.ireturn, 1) := by decide +kernel
set_option maxRecDepth 20000 in
theorem ggX7_place_X7_isThread : GoodIn wsX7_place wsX7_isThread := goodIn_r _ [9, 10, 11, 87, 88, 89, 90, 91, 92, 93, 94, 95, 96, 97, 98, 99, 118, 119, 120, 121, 122, 123, 124] (by decide +kernel) (by decide +kernel)
set_option maxRecDepth 20000 in
theorem gX7_place_X7_isThread : GoodIn wsX7_place (wsV RX7 254 RX7 yX7_isThread wsX7_isThread) := goodIn_app (goodIn_of _ (by decide +kernel)) ggX7_place_X7_isThread
set_option maxRecDepth 20000 in
theorem ggX7_place_X7_fail : GoodIn wsX7_place wsX7_fail := goodIn_r _ [15, 16, 17, 87, 88, 89, 90, 91, 92, 93, 94, 95, 96, 97, 98, 99] (by decide +kernel) (by decide +kernel)
set_option maxRecDepth 20000 in
theorem gX7_place_X7_fail : GoodIn wsX7_place (wsV RX7 80 RX7 yX7_fail wsX7_fail) := goodIn_app (goodIn_of _ (by decide +kernel)) ggX7_place_X7_fail
set_option maxRecDepth 20000 in
theorem ggX7_place_X7_thinkStitches : GoodIn wsX7_place wsX7_thinkStitches := goodIn_r _ [21, 22, 3, 10, 1, 23, 24, 25, 26, 27, 28, 29, 30, 31, 32, 33, 34, 35, 36, 37, 38, 39, 40, 41, 42, 43, 44, 45, 46, 47, 48, 49, 50, 51, 52, 53, 54, 55, 56, 57, 58, 59, 60, 61, 62, 63, 64, 65, 66, 67, 68, 69, 70, 71, 72, 73, 74, 75, 76, 77, 78, 79, 80, 81, 82, 83, 84, 85, 86, 87, 88, 89, 90, 91, 92, 93, 94, 95, 96, 97, 98, 99, 100, 101, 102, 103, 104, 105, 106, 107, 108, 109, 110, 111, 112, 113, 114, 115, 116, 117, 125, 126, 127, 118, 119, 120, 121, 122, 123, 124] (by decide +kernel) (by decide +kernel)
set_option maxRecDepth 20000 in
theorem gX7_place_X7_thinkStitches : GoodIn wsX7_place (wsV RX7 266 RX7 yX7_thinkStitches wsX7_thinkStitches) := goodIn_app (goodIn_of _ (by decide +kernel)) ggX7_place_X7_thinkStitches
theorem dX7_place_0 : decode cX7_place 0 = .ok (.aload_n 0, 1) := by decide +kernel
theorem dX7_place_1 : decode cX7_place 1 = .ok (.iload_n 1, 1) := by decide +kernel
theorem dX7_place_2 : decode cX7_place 2 = .ok (.invokevirtual 254, 3) := by decide +kernel
theorem dX7_place_5 : decode cX7_place 5 = .ok (.ifCond .eq 18, 3) := by decide +kernel
theorem dX7_place_8 : decode cX7_place 8 = .ok (.iload_n 2, 1) := by decide +kernel
theorem dX7_place_9 : decode cX7_place 9 = .ok (.ifCond .lt 14, 3) := by decide +kernel
theorem dX7_place_12 : decode cX7_place 12 = .ok (.iload_n 2, 1) := by decide +kernel
theorem dX7_place_13 : decode cX7_place 13 = .ok (.aload_n 0, 1) := by decide +kernel
theorem dX7_place_14 : decode cX7_place 14 = .ok (.getfield 33, 3) := by decide +kernel
theorem dX7_place_17 : decode cX7_place 17 = .ok (.getfield 119, 3) := by decide +kernel
theorem dX7_place_20 : decode cX7_place 20 = .ok (.if_icmp .le 9, 3) := by decide +kernel
theorem dX7_place_23 : decode cX7_place 23 = .ok (.aload_n 0, 1) := by decide +kernel
theorem dX7_place_24 : decode cX7_place 24 = .ok (.iconst 1, 1) := by decide +kernel
theorem dX7_place_25 : decode cX7_place 25 = .ok (.invokevirtual 80, 3) := by decide +kernel
theorem dX7_place_28 : decode cX7_place 28 = .ok (.ireturn, 1) := by decide +kernel
theorem dX7_place_29 : decode cX7_place 29 = .ok (.aload_n 0, 1) := by decide +kernel
theorem dX7_place_30 : decode cX7_place 30 = .ok (.iload_n 2, 1) := by decide +kernel
theorem dX7_place_31 : decode cX7_place 31 = .ok (.invokevirtual 266, 3) := by decide +kernel
theorem dX7_place_34 : decode cX7_place 34 = .ok (.aload_n 0, 1) := by decide +kernel
theorem dX7_place_35 : decode cX7_place 35 = .ok (.getfield 51, 3) := by decide +kernel
theorem dX7_place_38 : decode cX7_place 38 = .ok (.getfield 150, 3) := by decide +kernel
theorem dX7_place_41 : decode cX7_place 41 = .ok (.iload_n 1, 1) := by decide +kernel
theorem dX7_place_42 : decode cX7_place 42 = .ok (.iaload, 1) := by decide +kernel
theorem dX7_place_43 : decode cX7_place 43 = .ok (.ireturn, 1) := by decide +kernel
set_option maxRecDepth 20000 in
theorem ggX7_rounds_X7_thinkStitches : GoodIn wsX7_rounds wsX7_thinkStitches := goodIn_r _ [8, 9, 3, 10, 1, 11, 12, 13, 14, 15, 16, 17, 18, 19, 20, 21, 22, 23, 24, 25, 26, 27, 28, 29, 30, 31, 32, 33, 34, 35, 36, 37, 38, 39, 40, 41, 42, 43, 44, 45, 46, 47, 48, 49, 50, 51, 52, 53, 54, 55, 56, 57, 58, 59, 60, 61, 62, 63, 64, 65, 66, 67, 68, 69, 70, 71, 72, 73, 74, 86, 87, 88, 89, 90, 91, 92, 93, 94, 95, 96, 97, 98, 99, 100, 101, 102, 103, 104, 105, 106, 107, 108, 109, 110, 111, 112, 113, 114, 115, 116, 117, 118, 119, 120, 121, 122, 123, 124, 125, 126] (by decide +kernel) (by decide +kernel)
set_option maxRecDepth 20000 in
theorem gX7_rounds_X7_thinkStitches : GoodIn wsX7_rounds (wsV RX7 266 RX7 yX7_thinkStitches wsX7_thinkStitches) := goodIn_app (goodIn_of _ (by decide +kernel)) ggX7_rounds_X7_thinkStitches
set_option maxRecDepth 20000 in
theorem ggX7_rounds_X6_commonTurns : GoodIn wsX7_rounds wsX6_commonTurns := goodIn_r _ [78, 79, 80, 81, 16, 82, 31, 83, 84, 85, 107, 108, 109, 110, 111, 112, 113, 114, 115, 116] (by decide +kernel) (by decide +kernel)
set_option maxRecDepth 20000 in
theorem gX7_rounds_X6_commonTurns : GoodIn wsX7_rounds (wsV RX7 146 RX6 yX6_commonTurns wsX6_commonTurns) := goodIn_app (goodIn_of _ (by decide +kernel)) ggX7_rounds_X6_commonTurns
theorem dX7_rounds_0 : decode cX7_rounds 0 = .ok (.aload_n 0, 1) := by decide +kernel
theorem dX7_rounds_1 : decode cX7_rounds 1 = .ok (.aload_n 0, 1) := by decide +kernel
theorem dX7_rounds_2 : decode cX7_rounds 2 = .ok (.getfield 33, 3) := by decide +kernel
theorem dX7_rounds_5 : decode cX7_rounds 5 = .ok (.getfield 119, 3) := by decide +kernel
theorem dX7_rounds_8 : decode cX7_rounds 8 = .ok (.invokevirtual 266, 3) := by decide +kernel
theorem dX7_rounds_11 : decode cX7_rounds 11 = .ok (.aload_n 0, 1) := by decide +kernel
theorem dX7_rounds_12 : decode cX7_rounds 12 = .ok (.getfield 51, 3) := by decide +kernel
theorem dX7_rounds_15 : decode cX7_rounds 15 = .ok (.invokevirtual 146, 3) := by decide +kernel
theorem dX7_rounds_18 : decode cX7_rounds 18 = .ok (.lreturn, 1) := by decide +kernel
set_option maxRecDepth 20000 in
theorem ggX7_link_X7_isThread : GoodIn wsX7_link wsX7_isThread := goodIn_r _ [9, 10, 11, 87, 88, 89, 90, 91, 92, 93, 94, 95, 96, 97, 98, 99, 118, 119, 120, 121, 122, 123, 124] (by decide +kernel) (by decide +kernel)
set_option maxRecDepth 20000 in
theorem gX7_link_X7_isThread : GoodIn wsX7_link (wsV RX7 254 RX7 yX7_isThread wsX7_isThread) := goodIn_app (goodIn_of _ (by decide +kernel)) ggX7_link_X7_isThread
set_option maxRecDepth 20000 in
theorem ggX7_link_X7_fail : GoodIn wsX7_link wsX7_fail := goodIn_r _ [15, 16, 17, 87, 88, 89, 90, 91, 92, 93, 94, 95, 96, 97, 98, 99] (by decide +kernel) (by decide +kernel)
set_option maxRecDepth 20000 in
theorem gX7_link_X7_fail : GoodIn wsX7_link (wsV RX7 80 RX7 yX7_fail wsX7_fail) := goodIn_app (goodIn_of _ (by decide +kernel)) ggX7_link_X7_fail
set_option maxRecDepth 20000 in
theorem ggX7_link_X7_thinkStitches : GoodIn wsX7_link wsX7_thinkStitches := goodIn_r _ [21, 22, 3, 10, 1, 23, 24, 25, 26, 27, 28, 29, 30, 31, 32, 33, 34, 35, 36, 37, 38, 39, 40, 41, 42, 43, 44, 45, 46, 47, 48, 49, 50, 51, 52, 53, 54, 55, 56, 57, 58, 59, 60, 61, 62, 63, 64, 65, 66, 67, 68, 69, 70, 71, 72, 73, 74, 75, 76, 77, 78, 79, 80, 81, 82, 83, 84, 85, 86, 87, 88, 89, 90, 91, 92, 93, 94, 95, 96, 97, 98, 99, 100, 101, 102, 103, 104, 105, 106, 107, 108, 109, 110, 111, 112, 113, 114, 115, 116, 117, 125, 126, 127, 118, 119, 120, 121, 122, 123, 124] (by decide +kernel) (by decide +kernel)
set_option maxRecDepth 20000 in
theorem gX7_link_X7_thinkStitches : GoodIn wsX7_link (wsV RX7 266 RX7 yX7_thinkStitches wsX7_thinkStitches) := goodIn_app (goodIn_of _ (by decide +kernel)) ggX7_link_X7_thinkStitches
theorem dX7_link_0 : decode cX7_link 0 = .ok (.aload_n 0, 1) := by decide +kernel
theorem dX7_link_1 : decode cX7_link 1 = .ok (.iload_n 1, 1) := by decide +kernel
theorem dX7_link_2 : decode cX7_link 2 = .ok (.invokevirtual 254, 3) := by decide +kernel
theorem dX7_link_5 : decode cX7_link 5 = .ok (.ifCond .eq 16, 3) := by decide +kernel
theorem dX7_link_8 : decode cX7_link 8 = .ok (.aload_n 0, 1) := by decide +kernel
theorem dX7_link_9 : decode cX7_link 9 = .ok (.iload_n 2, 1) := by decide +kernel
theorem dX7_link_10 : decode cX7_link 10 = .ok (.invokevirtual 254, 3) := by decide +kernel
theorem dX7_link_13 : decode cX7_link 13 = .ok (.ifCond .eq 8, 3) := by decide +kernel
theorem dX7_link_16 : decode cX7_link 16 = .ok (.iload_n 1, 1) := by decide +kernel
theorem dX7_link_17 : decode cX7_link 17 = .ok (.iload_n 2, 1) := by decide +kernel
theorem dX7_link_18 : decode cX7_link 18 = .ok (.if_icmp .ne 9, 3) := by decide +kernel
theorem dX7_link_21 : decode cX7_link 21 = .ok (.aload_n 0, 1) := by decide +kernel
theorem dX7_link_22 : decode cX7_link 22 = .ok (.iconst 1, 1) := by decide +kernel
theorem dX7_link_23 : decode cX7_link 23 = .ok (.invokevirtual 80, 3) := by decide +kernel
theorem dX7_link_26 : decode cX7_link 26 = .ok (.ireturn, 1) := by decide +kernel
theorem dX7_link_27 : decode cX7_link 27 = .ok (.aload_n 0, 1) := by decide +kernel
theorem dX7_link_28 : decode cX7_link 28 = .ok (.aload_n 0, 1) := by decide +kernel
theorem dX7_link_29 : decode cX7_link 29 = .ok (.getfield 33, 3) := by decide +kernel
theorem dX7_link_32 : decode cX7_link 32 = .ok (.getfield 119, 3) := by decide +kernel
theorem dX7_link_35 : decode cX7_link 35 = .ok (.invokevirtual 266, 3) := by decide +kernel
theorem dX7_link_38 : decode cX7_link 38 = .ok (.aload_n 0, 1) := by decide +kernel
theorem dX7_link_39 : decode cX7_link 39 = .ok (.getfield 51, 3) := by decide +kernel
theorem dX7_link_42 : decode cX7_link 42 = .ok (.getfield 281, 3) := by decide +kernel
theorem dX7_link_45 : decode cX7_link 45 = .ok (.iload_n 1, 1) := by decide +kernel
theorem dX7_link_46 : decode cX7_link 46 = .ok (.bipush 16, 2) := by decide +kernel
theorem dX7_link_48 : decode cX7_link 48 = .ok (.imul, 1) := by decide +kernel
theorem dX7_link_49 : decode cX7_link 49 = .ok (.iload_n 2, 1) := by decide +kernel
theorem dX7_link_50 : decode cX7_link 50 = .ok (.iadd, 1) := by decide +kernel
theorem dX7_link_51 : decode cX7_link 51 = .ok (.iaload, 1) := by decide +kernel
theorem dX7_link_52 : decode cX7_link 52 = .ok (.aload_n 0, 1) := by decide +kernel
theorem dX7_link_53 : decode cX7_link 53 = .ok (.getfield 51, 3) := by decide +kernel
theorem dX7_link_56 : decode cX7_link 56 = .ok (.getfield 281, 3) := by decide +kernel
theorem dX7_link_59 : decode cX7_link 59 = .ok (.iload_n 2, 1) := by decide +kernel
theorem dX7_link_60 : decode cX7_link 60 = .ok (.bipush 16, 2) := by decide +kernel
theorem dX7_link_62 : decode cX7_link 62 = .ok (.imul, 1) := by decide +kernel
theorem dX7_link_63 : decode cX7_link 63 = .ok (.iload_n 1, 1) := by decide +kernel
theorem dX7_link_64 : decode cX7_link 64 = .ok (.iadd, 1) := by decide +kernel
theorem dX7_link_65 : decode cX7_link 65 = .ok (.iaload, 1) := by decide +kernel
theorem dX7_link_66 : decode cX7_link 66 = .ok (.isub, 1) := by decide +kernel
theorem dX7_link_67 : decode cX7_link 67 = .ok (.ireturn, 1) := by decide +kernel
set_option maxRecDepth 20000 in
theorem ggX7_meet_X7_isThread : GoodIn wsX7_meet wsX7_isThread := goodIn_r _ [8, 9, 10, 90, 91, 92, 93, 94, 95, 96, 97, 98, 99, 100, 101, 102, 111, 112, 113, 114, 115, 116, 117] (by decide +kernel) (by decide +kernel)
set_option maxRecDepth 20000 in
theorem gX7_meet_X7_isThread : GoodIn wsX7_meet (wsV RX7 254 RX7 yX7_isThread wsX7_isThread) := goodIn_app (goodIn_of _ (by decide +kernel)) ggX7_meet_X7_isThread
set_option maxRecDepth 20000 in
theorem ggX7_meet_X7_fail : GoodIn wsX7_meet wsX7_fail := goodIn_r _ [14, 15, 16, 90, 91, 92, 93, 94, 95, 96, 97, 98, 99, 100, 101, 102] (by decide +kernel) (by decide +kernel)
set_option maxRecDepth 20000 in
theorem gX7_meet_X7_fail : GoodIn wsX7_meet (wsV RX7 80 RX7 yX7_fail wsX7_fail) := goodIn_app (goodIn_of _ (by decide +kernel)) ggX7_meet_X7_fail
set_option maxRecDepth 20000 in
theorem ggX7_meet_X7_thinkStitches : GoodIn wsX7_meet wsX7_thinkStitches := goodIn_r _ [20, 21, 3, 9, 1, 22, 23, 24, 25, 26, 27, 28, 29, 30, 31, 32, 33, 34, 35, 36, 37, 38, 39, 40, 41, 42, 43, 44, 45, 46, 47, 48, 49, 50, 51, 52, 53, 54, 55, 56, 57, 58, 59, 60, 61, 62, 63, 64, 65, 66, 67, 68, 69, 70, 71, 72, 73, 74, 75, 76, 77, 78, 79, 80, 81, 82, 83, 84, 85, 90, 91, 92, 93, 94, 95, 96, 97, 98, 99, 100, 101, 102, 103, 104, 105, 106, 107, 108, 109, 110, 118, 119, 120, 121, 122, 123, 124, 125, 126, 127, 128, 129, 130, 111, 112, 113, 114, 115, 116, 117] (by decide +kernel) (by decide +kernel)
set_option maxRecDepth 20000 in
theorem gX7_meet_X7_thinkStitches : GoodIn wsX7_meet (wsV RX7 266 RX7 yX7_thinkStitches wsX7_thinkStitches) := goodIn_app (goodIn_of _ (by decide +kernel)) ggX7_meet_X7_thinkStitches
set_option maxRecDepth 20000 in
theorem ggX7_meet_X6_haveCrossed : GoodIn wsX7_meet wsX6_haveCrossed := goodIn_r _ [89, 34, 118, 119, 120, 121, 122, 123, 124, 125, 126, 127] (by decide +kernel) (by decide +kernel)
set_option maxRecDepth 20000 in
theorem gX7_meet_X6_haveCrossed : GoodIn wsX7_meet (wsV RX7 284 RX6 yX6_haveCrossed wsX6_haveCrossed) := goodIn_app (goodIn_of _ (by decide +kernel)) ggX7_meet_X6_haveCrossed
theorem dX7_meet_0 : decode cX7_meet 0 = .ok (.aload_n 0, 1) := by decide +kernel
theorem dX7_meet_1 : decode cX7_meet 1 = .ok (.iload_n 1, 1) := by decide +kernel
theorem dX7_meet_2 : decode cX7_meet 2 = .ok (.invokevirtual 254, 3) := by decide +kernel
theorem dX7_meet_5 : decode cX7_meet 5 = .ok (.ifCond .eq 16, 3) := by decide +kernel
theorem dX7_meet_8 : decode cX7_meet 8 = .ok (.aload_n 0, 1) := by decide +kernel
theorem dX7_meet_9 : decode cX7_meet 9 = .ok (.iload_n 2, 1) := by decide +kernel
theorem dX7_meet_10 : decode cX7_meet 10 = .ok (.invokevirtual 254, 3) := by decide +kernel
theorem dX7_meet_13 : decode cX7_meet 13 = .ok (.ifCond .eq 8, 3) := by decide +kernel
theorem dX7_meet_16 : decode cX7_meet 16 = .ok (.iload_n 1, 1) := by decide +kernel
theorem dX7_meet_17 : decode cX7_meet 17 = .ok (.iload_n 2, 1) := by decide +kernel
theorem dX7_meet_18 : decode cX7_meet 18 = .ok (.if_icmp .ne 9, 3) := by decide +kernel
theorem dX7_meet_21 : decode cX7_meet 21 = .ok (.aload_n 0, 1) := by decide +kernel
theorem dX7_meet_22 : decode cX7_meet 22 = .ok (.iconst 1, 1) := by decide +kernel
theorem dX7_meet_23 : decode cX7_meet 23 = .ok (.invokevirtual 80, 3) := by decide +kernel
theorem dX7_meet_26 : decode cX7_meet 26 = .ok (.ireturn, 1) := by decide +kernel
theorem dX7_meet_27 : decode cX7_meet 27 = .ok (.iconst 0, 1) := by decide +kernel
theorem dX7_meet_28 : decode cX7_meet 28 = .ok (.istore_n 3, 1) := by decide +kernel
theorem dX7_meet_29 : decode cX7_meet 29 = .ok (.iload_n 3, 1) := by decide +kernel
theorem dX7_meet_30 : decode cX7_meet 30 = .ok (.aload_n 0, 1) := by decide +kernel
theorem dX7_meet_31 : decode cX7_meet 31 = .ok (.getfield 33, 3) := by decide +kernel
theorem dX7_meet_34 : decode cX7_meet 34 = .ok (.getfield 119, 3) := by decide +kernel
theorem dX7_meet_37 : decode cX7_meet 37 = .ok (.if_icmp .ge 30, 3) := by decide +kernel
theorem dX7_meet_40 : decode cX7_meet 40 = .ok (.aload_n 0, 1) := by decide +kernel
theorem dX7_meet_41 : decode cX7_meet 41 = .ok (.iload_n 3, 1) := by decide +kernel
theorem dX7_meet_42 : decode cX7_meet 42 = .ok (.iconst 1, 1) := by decide +kernel
theorem dX7_meet_43 : decode cX7_meet 43 = .ok (.iadd, 1) := by decide +kernel
theorem dX7_meet_44 : decode cX7_meet 44 = .ok (.invokevirtual 266, 3) := by decide +kernel
theorem dX7_meet_47 : decode cX7_meet 47 = .ok (.aload_n 0, 1) := by decide +kernel
theorem dX7_meet_48 : decode cX7_meet 48 = .ok (.getfield 51, 3) := by decide +kernel
theorem dX7_meet_51 : decode cX7_meet 51 = .ok (.iload_n 1, 1) := by decide +kernel
theorem dX7_meet_52 : decode cX7_meet 52 = .ok (.iload_n 2, 1) := by decide +kernel
theorem dX7_meet_53 : decode cX7_meet 53 = .ok (.invokevirtual 284, 3) := by decide +kernel
theorem dX7_meet_56 : decode cX7_meet 56 = .ok (.ifCond .eq 5, 3) := by decide +kernel
theorem dX7_meet_59 : decode cX7_meet 59 = .ok (.iload_n 3, 1) := by decide +kernel
theorem dX7_meet_60 : decode cX7_meet 60 = .ok (.ireturn, 1) := by decide +kernel
theorem dX7_meet_61 : decode cX7_meet 61 = .ok (.iinc 3 1, 3) := by decide +kernel
theorem dX7_meet_64 : decode cX7_meet 64 = .ok (.goto (-35), 3) := by decide +kernel
theorem dX7_meet_67 : decode cX7_meet 67 = .ok (.aload_n 0, 1) := by decide +kernel
theorem dX7_meet_68 : decode cX7_meet 68 = .ok (.iconst 2, 1) := by decide +kernel
theorem dX7_meet_69 : decode cX7_meet 69 = .ok (.invokevirtual 80, 3) := by decide +kernel
theorem dX7_meet_72 : decode cX7_meet 72 = .ok (.ireturn, 1) := by decide +kernel
set_option maxRecDepth 20000 in
theorem ggX7_lacks_X7_fail : GoodIn wsX7_lacks wsX7_fail := goodIn_r _ [10, 11, 12, 86, 87, 88, 89, 90, 91, 92, 93, 94, 95, 96, 97, 98] (by decide +kernel) (by decide +kernel)
set_option maxRecDepth 20000 in
theorem gX7_lacks_X7_fail : GoodIn wsX7_lacks (wsV RX7 80 RX7 yX7_fail wsX7_fail) := goodIn_app (goodIn_of _ (by decide +kernel)) ggX7_lacks_X7_fail
set_option maxRecDepth 20000 in
theorem ggX7_lacks_X7_thinkStitches : GoodIn wsX7_lacks wsX7_thinkStitches := goodIn_r _ [16, 17, 3, 4, 1, 18, 19, 20, 21, 22, 23, 24, 25, 26, 27, 28, 29, 30, 31, 32, 33, 34, 35, 36, 37, 38, 39, 40, 41, 42, 43, 44, 45, 46, 47, 48, 49, 50, 51, 52, 53, 54, 55, 56, 57, 58, 59, 60, 61, 62, 63, 64, 65, 66, 67, 68, 69, 70, 71, 72, 73, 74, 75, 76, 77, 78, 79, 80, 81, 86, 87, 88, 89, 90, 91, 92, 93, 94, 95, 96, 97, 98, 99, 100, 101, 102, 103, 104, 105, 106, 114, 115, 116, 117, 118, 119, 120, 121, 122, 123, 124, 125, 126, 107, 108, 109, 110, 111, 112, 113] (by decide +kernel) (by decide +kernel)
set_option maxRecDepth 20000 in
theorem gX7_lacks_X7_thinkStitches : GoodIn wsX7_lacks (wsV RX7 266 RX7 yX7_thinkStitches wsX7_thinkStitches) := goodIn_app (goodIn_of _ (by decide +kernel)) ggX7_lacks_X7_thinkStitches
set_option maxRecDepth 20000 in
theorem ggX7_lacks_X6_leastLacking : GoodIn wsX7_lacks wsX6_leastLacking := goodIn_r _ [85, 25, 114, 115, 116, 117, 118, 119, 120, 121, 122, 123] (by decide +kernel) (by decide +kernel)
set_option maxRecDepth 20000 in
theorem gX7_lacks_X6_leastLacking : GoodIn wsX7_lacks (wsV RX7 287 RX6 yX6_leastLacking wsX6_leastLacking) := goodIn_app (goodIn_of _ (by decide +kernel)) ggX7_lacks_X6_leastLacking
theorem dX7_lacks_0 : decode cX7_lacks 0 = .ok (.iload_n 1, 1) := by decide +kernel
theorem dX7_lacks_1 : decode cX7_lacks 1 = .ok (.ifCond .lt 8, 3) := by decide +kernel
theorem dX7_lacks_4 : decode cX7_lacks 4 = .ok (.iload_n 1, 1) := by decide +kernel
theorem dX7_lacks_5 : decode cX7_lacks 5 = .ok (.iconst 1, 1) := by decide +kernel
theorem dX7_lacks_6 : decode cX7_lacks 6 = .ok (.if_icmp .le 9, 3) := by decide +kernel
theorem dX7_lacks_9 : decode cX7_lacks 9 = .ok (.aload_n 0, 1) := by decide +kernel
theorem dX7_lacks_10 : decode cX7_lacks 10 = .ok (.iconst 1, 1) := by decide +kernel
theorem dX7_lacks_11 : decode cX7_lacks 11 = .ok (.invokevirtual 80, 3) := by decide +kernel
theorem dX7_lacks_14 : decode cX7_lacks 14 = .ok (.ireturn, 1) := by decide +kernel
theorem dX7_lacks_15 : decode cX7_lacks 15 = .ok (.iconst 0, 1) := by decide +kernel
theorem dX7_lacks_16 : decode cX7_lacks 16 = .ok (.istore_n 2, 1) := by decide +kernel
theorem dX7_lacks_17 : decode cX7_lacks 17 = .ok (.iload_n 2, 1) := by decide +kernel
theorem dX7_lacks_18 : decode cX7_lacks 18 = .ok (.aload_n 0, 1) := by decide +kernel
theorem dX7_lacks_19 : decode cX7_lacks 19 = .ok (.getfield 33, 3) := by decide +kernel
theorem dX7_lacks_22 : decode cX7_lacks 22 = .ok (.getfield 119, 3) := by decide +kernel
theorem dX7_lacks_25 : decode cX7_lacks 25 = .ok (.if_icmp .ge 45, 3) := by decide +kernel
theorem dX7_lacks_28 : decode cX7_lacks 28 = .ok (.aload_n 0, 1) := by decide +kernel
theorem dX7_lacks_29 : decode cX7_lacks 29 = .ok (.iload_n 2, 1) := by decide +kernel
theorem dX7_lacks_30 : decode cX7_lacks 30 = .ok (.iconst 1, 1) := by decide +kernel
theorem dX7_lacks_31 : decode cX7_lacks 31 = .ok (.iadd, 1) := by decide +kernel
theorem dX7_lacks_32 : decode cX7_lacks 32 = .ok (.invokevirtual 266, 3) := by decide +kernel
theorem dX7_lacks_35 : decode cX7_lacks 35 = .ok (.aload_n 0, 1) := by decide +kernel
theorem dX7_lacks_36 : decode cX7_lacks 36 = .ok (.getfield 51, 3) := by decide +kernel
theorem dX7_lacks_39 : decode cX7_lacks 39 = .ok (.aload_n 0, 1) := by decide +kernel
theorem dX7_lacks_40 : decode cX7_lacks 40 = .ok (.getfield 12, 3) := by decide +kernel
theorem dX7_lacks_43 : decode cX7_lacks 43 = .ok (.getfield 263, 3) := by decide +kernel
theorem dX7_lacks_46 : decode cX7_lacks 46 = .ok (.invokevirtual 287, 3) := by decide +kernel
theorem dX7_lacks_49 : decode cX7_lacks 49 = .ok (.istore_n 3, 1) := by decide +kernel
theorem dX7_lacks_50 : decode cX7_lacks 50 = .ok (.iload_n 3, 1) := by decide +kernel
theorem dX7_lacks_51 : decode cX7_lacks 51 = .ok (.ifCond .lt 13, 3) := by decide +kernel
theorem dX7_lacks_54 : decode cX7_lacks 54 = .ok (.iload_n 1, 1) := by decide +kernel
theorem dX7_lacks_55 : decode cX7_lacks 55 = .ok (.ifCond .ne 7, 3) := by decide +kernel
theorem dX7_lacks_58 : decode cX7_lacks 58 = .ok (.iload_n 2, 1) := by decide +kernel
theorem dX7_lacks_59 : decode cX7_lacks 59 = .ok (.goto 4, 3) := by decide +kernel
theorem dX7_lacks_62 : decode cX7_lacks 62 = .ok (.iload_n 3, 1) := by decide +kernel
theorem dX7_lacks_63 : decode cX7_lacks 63 = .ok (.ireturn, 1) := by decide +kernel
theorem dX7_lacks_64 : decode cX7_lacks 64 = .ok (.iinc 2 1, 3) := by decide +kernel
theorem dX7_lacks_67 : decode cX7_lacks 67 = .ok (.goto (-50), 3) := by decide +kernel
theorem dX7_lacks_70 : decode cX7_lacks 70 = .ok (.aload_n 0, 1) := by decide +kernel
theorem dX7_lacks_71 : decode cX7_lacks 71 = .ok (.iconst 2, 1) := by decide +kernel
theorem dX7_lacks_72 : decode cX7_lacks 72 = .ok (.invokevirtual 80, 3) := by decide +kernel
theorem dX7_lacks_75 : decode cX7_lacks 75 = .ok (.ireturn, 1) := by decide +kernel
set_option maxRecDepth 20000 in
theorem ggX7_lace_X7_fail : GoodIn wsX7_lace wsX7_fail := goodIn_r _ [8, 9, 10, 110, 111, 112, 113, 114, 115, 116, 117, 118, 119, 120, 121, 122] (by decide +kernel) (by decide +kernel)
set_option maxRecDepth 20000 in
theorem gX7_lace_X7_fail : GoodIn wsX7_lace (wsV RX7 80 RX7 yX7_fail wsX7_fail) := goodIn_app (goodIn_of _ (by decide +kernel)) ggX7_lace_X7_fail
set_option maxRecDepth 20000 in
theorem ggX7_lace_X7_weaveOf : GoodIn wsX7_lace wsX7_weaveOf := goodIn_r _ [14, 15, 16, 17, 18, 19, 20, 21, 7, 22, 23, 24, 25, 26, 27, 28, 29, 30, 31, 32, 33, 34, 35, 36, 37, 38, 39, 40, 41, 42, 43, 44, 45, 46, 47, 48, 49, 50, 51, 52, 53, 54, 55, 56, 57, 58, 59, 60, 61, 62, 63, 64, 65, 66, 67, 68, 69, 70, 71, 72, 73, 74, 75, 76, 77, 78, 79, 80, 81, 82, 83, 84, 85, 86, 87, 88, 110, 111, 112, 113, 114, 115, 116, 117, 118, 119, 120, 121, 122, 123, 124, 125, 126, 127, 128, 129, 130, 97, 98, 99, 100, 101, 102, 103, 104, 105, 106, 107, 108, 109, 131, 132, 133, 134, 135, 136, 137] (by decide +kernel) (by decide +kernel)
set_option maxRecDepth 20000 in
theorem gX7_lace_X7_weaveOf : GoodIn wsX7_lace (wsV RX7 291 RX7 yX7_weaveOf wsX7_weaveOf) := goodIn_app (goodIn_of _ (by decide +kernel)) ggX7_lace_X7_weaveOf
set_option maxRecDepth 20000 in
theorem ggX7_lace_X1_countLayers : GoodIn wsX7_lace wsX1_countLayers := goodIn_r _ [92, 57, 81, 82, 83, 84, 107, 108, 109] (by decide +kernel) (by decide +kernel)
set_option maxRecDepth 20000 in
theorem gX7_lace_X1_countLayers : GoodIn wsX7_lace (wsV RX7 295 RX1 yX1_countLayers wsX1_countLayers) := goodIn_app (goodIn_of _ (by decide +kernel)) ggX7_lace_X1_countLayers
set_option maxRecDepth 20000 in
theorem ggX7_lace_X1_countSign : GoodIn wsX7_lace wsX1_countSign := goodIn_r _ [96, 56, 107, 108, 109] (by decide +kernel) (by decide +kernel)
set_option maxRecDepth 20000 in
theorem gX7_lace_X1_countSign : GoodIn wsX7_lace (wsV RX7 298 RX1 yX1_countSign wsX1_countSign) := goodIn_app (goodIn_of _ (by decide +kernel)) ggX7_lace_X1_countSign
theorem dX7_lace_0 : decode cX7_lace 0 = .ok (.iload_n 1, 1) := by decide +kernel
theorem dX7_lace_1 : decode cX7_lace 1 = .ok (.ifCond .lt 17, 3) := by decide +kernel
theorem dX7_lace_4 : decode cX7_lace 4 = .ok (.iload_n 1, 1) := by decide +kernel
theorem dX7_lace_5 : decode cX7_lace 5 = .ok (.iconst 1, 1) := by decide +kernel
theorem dX7_lace_6 : decode cX7_lace 6 = .ok (.if_icmp .gt 12, 3) := by decide +kernel
theorem dX7_lace_9 : decode cX7_lace 9 = .ok (.iload_n 2, 1) := by decide +kernel
theorem dX7_lace_10 : decode cX7_lace 10 = .ok (.ifCond .lt 8, 3) := by decide +kernel
theorem dX7_lace_13 : decode cX7_lace 13 = .ok (.iload_n 2, 1) := by decide +kernel
theorem dX7_lace_14 : decode cX7_lace 14 = .ok (.iconst 3, 1) := by decide +kernel
theorem dX7_lace_15 : decode cX7_lace 15 = .ok (.if_icmp .le 9, 3) := by decide +kernel
theorem dX7_lace_18 : decode cX7_lace 18 = .ok (.aload_n 0, 1) := by decide +kernel
theorem dX7_lace_19 : decode cX7_lace 19 = .ok (.iconst 1, 1) := by decide +kernel
theorem dX7_lace_20 : decode cX7_lace 20 = .ok (.invokevirtual 80, 3) := by decide +kernel
theorem dX7_lace_23 : decode cX7_lace 23 = .ok (.ireturn, 1) := by decide +kernel
theorem dX7_lace_24 : decode cX7_lace 24 = .ok (.aload_n 0, 1) := by decide +kernel
theorem dX7_lace_25 : decode cX7_lace 25 = .ok (.iload_n 1, 1) := by decide +kernel
theorem dX7_lace_26 : decode cX7_lace 26 = .ok (.invokevirtual 291, 3) := by decide +kernel
theorem dX7_lace_29 : decode cX7_lace 29 = .ok (.astore_n 3, 1) := by decide +kernel
theorem dX7_lace_30 : decode cX7_lace 30 = .ok (.iload_n 2, 1) := by decide +kernel
theorem dX7_lace_31 : decode cX7_lace 31 = .ok (.tableswitch 46 0 2 #[25, 30, 38], 25) := by decide +kernel
theorem dX7_lace_56 : decode cX7_lace 56 = .ok (.aload_n 3, 1) := by decide +kernel
theorem dX7_lace_57 : decode cX7_lace 57 = .ok (.getfield 139, 3) := by decide +kernel
theorem dX7_lace_60 : decode cX7_lace 60 = .ok (.ireturn, 1) := by decide +kernel
theorem dX7_lace_61 : decode cX7_lace 61 = .ok (.aload_n 3, 1) := by decide +kernel
theorem dX7_lace_62 : decode cX7_lace 62 = .ok (.getfield 142, 3) := by decide +kernel
theorem dX7_lace_65 : decode cX7_lace 65 = .ok (.getfield 145, 3) := by decide +kernel
theorem dX7_lace_68 : decode cX7_lace 68 = .ok (.ireturn, 1) := by decide +kernel
theorem dX7_lace_69 : decode cX7_lace 69 = .ok (.aload_n 3, 1) := by decide +kernel
theorem dX7_lace_70 : decode cX7_lace 70 = .ok (.getfield 142, 3) := by decide +kernel
theorem dX7_lace_73 : decode cX7_lace 73 = .ok (.invokevirtual 295, 3) := by decide +kernel
theorem dX7_lace_76 : decode cX7_lace 76 = .ok (.ireturn, 1) := by decide +kernel
theorem dX7_lace_77 : decode cX7_lace 77 = .ok (.aload_n 3, 1) := by decide +kernel
theorem dX7_lace_78 : decode cX7_lace 78 = .ok (.getfield 142, 3) := by decide +kernel
theorem dX7_lace_81 : decode cX7_lace 81 = .ok (.iconst 1, 1) := by decide +kernel
theorem dX7_lace_82 : decode cX7_lace 82 = .ok (.invokevirtual 298, 3) := by decide +kernel
theorem dX7_lace_85 : decode cX7_lace 85 = .ok (.ireturn, 1) := by decide +kernel
set_option maxRecDepth 20000 in
theorem ggX7_layer_X7_fail : GoodIn wsX7_layer wsX7_fail := goodIn_r _ [8, 9, 10, 92, 93, 94, 95, 96, 97, 98, 99, 100, 101, 102, 103, 104] (by decide +kernel) (by decide +kernel)
set_option maxRecDepth 20000 in
theorem gX7_layer_X7_fail : GoodIn wsX7_layer (wsV RX7 80 RX7 yX7_fail wsX7_fail) := goodIn_app (goodIn_of _ (by decide +kernel)) ggX7_layer_X7_fail
set_option maxRecDepth 20000 in
theorem ggX7_layer_X7_weaveOf : GoodIn wsX7_layer wsX7_weaveOf := goodIn_r _ [14, 15, 16, 17, 18, 19, 20, 21, 7, 22, 23, 1, 24, 25, 26, 27, 28, 29, 30, 31, 32, 33, 34, 35, 36, 37, 38, 39, 40, 41, 42, 43, 44, 45, 46, 47, 48, 49, 50, 51, 52, 53, 54, 55, 56, 57, 58, 59, 60, 61, 62, 63, 64, 65, 66, 67, 68, 69, 70, 71, 72, 73, 74, 75, 76, 77, 78, 79, 80, 81, 82, 83, 84, 85, 86, 87, 92, 93, 94, 95, 96, 97, 98, 99, 100, 101, 102, 103, 104, 122, 123, 124, 125, 126, 127, 128, 129, 112, 113, 114, 115, 116, 117, 118, 119, 120, 121, 130, 131, 132, 105, 106, 107, 108, 109, 110, 111] (by decide +kernel) (by decide +kernel)
set_option maxRecDepth 20000 in
theorem gX7_layer_X7_weaveOf : GoodIn wsX7_layer (wsV RX7 291 RX7 yX7_weaveOf wsX7_weaveOf) := goodIn_app (goodIn_of _ (by decide +kernel)) ggX7_layer_X7_weaveOf
set_option maxRecDepth 20000 in
theorem ggX7_layer_X1_signAt : GoodIn wsX7_layer wsX1_signAt := goodIn_r _ [91, 55, 130, 131, 132] (by decide +kernel) (by decide +kernel)
set_option maxRecDepth 20000 in
theorem gX7_layer_X1_signAt : GoodIn wsX7_layer (wsV RX7 301 RX1 yX1_signAt wsX1_signAt) := goodIn_app (goodIn_of _ (by decide +kernel)) ggX7_layer_X1_signAt
theorem dX7_layer_0 : decode cX7_layer 0 = .ok (.iload_n 1, 1) := by decide +kernel
theorem dX7_layer_1 : decode cX7_layer 1 = .ok (.ifCond .lt 31, 3) := by decide +kernel
theorem dX7_layer_4 : decode cX7_layer 4 = .ok (.iload_n 1, 1) := by decide +kernel
theorem dX7_layer_5 : decode cX7_layer 5 = .ok (.iconst 1, 1) := by decide +kernel
theorem dX7_layer_6 : decode cX7_layer 6 = .ok (.if_icmp .gt 26, 3) := by decide +kernel
theorem dX7_layer_9 : decode cX7_layer 9 = .ok (.iload_n 2, 1) := by decide +kernel
theorem dX7_layer_10 : decode cX7_layer 10 = .ok (.ifCond .lt 22, 3) := by decide +kernel
theorem dX7_layer_13 : decode cX7_layer 13 = .ok (.iload_n 3, 1) := by decide +kernel
theorem dX7_layer_14 : decode cX7_layer 14 = .ok (.ifCond .lt 18, 3) := by decide +kernel
theorem dX7_layer_17 : decode cX7_layer 17 = .ok (.iload_n 3, 1) := by decide +kernel
theorem dX7_layer_18 : decode cX7_layer 18 = .ok (.iconst 2, 1) := by decide +kernel
theorem dX7_layer_19 : decode cX7_layer 19 = .ok (.aload_n 0, 1) := by decide +kernel
theorem dX7_layer_20 : decode cX7_layer 20 = .ok (.getfield 12, 3) := by decide +kernel
theorem dX7_layer_23 : decode cX7_layer 23 = .ok (.getfield 84, 3) := by decide +kernel
theorem dX7_layer_26 : decode cX7_layer 26 = .ok (.imul, 1) := by decide +kernel
theorem dX7_layer_27 : decode cX7_layer 27 = .ok (.iconst 2, 1) := by decide +kernel
theorem dX7_layer_28 : decode cX7_layer 28 = .ok (.isub, 1) := by decide +kernel
theorem dX7_layer_29 : decode cX7_layer 29 = .ok (.if_icmp .le 9, 3) := by decide +kernel
theorem dX7_layer_32 : decode cX7_layer 32 = .ok (.aload_n 0, 1) := by decide +kernel
theorem dX7_layer_33 : decode cX7_layer 33 = .ok (.iconst 1, 1) := by decide +kernel
theorem dX7_layer_34 : decode cX7_layer 34 = .ok (.invokevirtual 80, 3) := by decide +kernel
theorem dX7_layer_37 : decode cX7_layer 37 = .ok (.ireturn, 1) := by decide +kernel
theorem dX7_layer_38 : decode cX7_layer 38 = .ok (.aload_n 0, 1) := by decide +kernel
theorem dX7_layer_39 : decode cX7_layer 39 = .ok (.iload_n 1, 1) := by decide +kernel
theorem dX7_layer_40 : decode cX7_layer 40 = .ok (.invokevirtual 291, 3) := by decide +kernel
theorem dX7_layer_43 : decode cX7_layer 43 = .ok (.getfield 142, 3) := by decide +kernel
theorem dX7_layer_46 : decode cX7_layer 46 = .ok (.iload_n 2, 1) := by decide +kernel
theorem dX7_layer_47 : decode cX7_layer 47 = .ok (.iload_n 3, 1) := by decide +kernel
theorem dX7_layer_48 : decode cX7_layer 48 = .ok (.invokevirtual 301, 3) := by decide +kernel
theorem dX7_layer_51 : decode cX7_layer 51 = .ok (.ireturn, 1) := by decide +kernel
set_option maxRecDepth 20000 in
theorem ggX7_repeat_X2_repeatsBy : GoodIn wsX7_repeat wsX2_repeatsBy := goodIn_r _ [8, 9, 38, 39, 40, 41, 42, 43, 44] (by decide +kernel) (by decide +kernel)
set_option maxRecDepth 20000 in
theorem gX7_repeat_X2_repeatsBy : GoodIn wsX7_repeat (wsV RX7 305 RX2 yX2_repeatsBy wsX2_repeatsBy) := goodIn_app (goodIn_of _ (by decide +kernel)) ggX7_repeat_X2_repeatsBy
set_option maxRecDepth 20000 in
theorem ggX7_repeat_X7_fail : GoodIn wsX7_repeat wsX7_fail := goodIn_r _ [14, 15, 16, 17, 18, 19, 20, 21, 22, 23, 24, 25, 26, 27, 28, 29] (by decide +kernel) (by decide +kernel)
set_option maxRecDepth 20000 in
theorem gX7_repeat_X7_fail : GoodIn wsX7_repeat (wsV RX7 80 RX7 yX7_fail wsX7_fail) := goodIn_app (goodIn_of _ (by decide +kernel)) ggX7_repeat_X7_fail
theorem dX7_repeat_0 : decode cX7_repeat 0 = .ok (.iconst 1, 1) := by decide +kernel
theorem dX7_repeat_1 : decode cX7_repeat 1 = .ok (.istore_n 1, 1) := by decide +kernel
theorem dX7_repeat_2 : decode cX7_repeat 2 = .ok (.iload_n 1, 1) := by decide +kernel
theorem dX7_repeat_3 : decode cX7_repeat 3 = .ok (.aload_n 0, 1) := by decide +kernel
theorem dX7_repeat_4 : decode cX7_repeat 4 = .ok (.getfield 33, 3) := by decide +kernel
theorem dX7_repeat_7 : decode cX7_repeat 7 = .ok (.getfield 156, 3) := by decide +kernel
theorem dX7_repeat_10 : decode cX7_repeat 10 = .ok (.if_icmp .gt 29, 3) := by decide +kernel
theorem dX7_repeat_13 : decode cX7_repeat 13 = .ok (.aload_n 0, 1) := by decide +kernel
theorem dX7_repeat_14 : decode cX7_repeat 14 = .ok (.getfield 12, 3) := by decide +kernel
theorem dX7_repeat_17 : decode cX7_repeat 17 = .ok (.iload_n 1, 1) := by decide +kernel
theorem dX7_repeat_18 : decode cX7_repeat 18 = .ok (.aload_n 0, 1) := by decide +kernel
theorem dX7_repeat_19 : decode cX7_repeat 19 = .ok (.getfield 33, 3) := by decide +kernel
theorem dX7_repeat_22 : decode cX7_repeat 22 = .ok (.getfield 156, 3) := by decide +kernel
theorem dX7_repeat_25 : decode cX7_repeat 25 = .ok (.invokevirtual 305, 3) := by decide +kernel
theorem dX7_repeat_28 : decode cX7_repeat 28 = .ok (.ifCond .eq 5, 3) := by decide +kernel
theorem dX7_repeat_31 : decode cX7_repeat 31 = .ok (.iload_n 1, 1) := by decide +kernel
theorem dX7_repeat_32 : decode cX7_repeat 32 = .ok (.ireturn, 1) := by decide +kernel
theorem dX7_repeat_33 : decode cX7_repeat 33 = .ok (.iinc 1 1, 3) := by decide +kernel
theorem dX7_repeat_36 : decode cX7_repeat 36 = .ok (.goto (-34), 3) := by decide +kernel
theorem dX7_repeat_39 : decode cX7_repeat 39 = .ok (.aload_n 0, 1) := by decide +kernel
theorem dX7_repeat_40 : decode cX7_repeat 40 = .ok (.iconst 2, 1) := by decide +kernel
theorem dX7_repeat_41 : decode cX7_repeat 41 = .ok (.invokevirtual 80, 3) := by decide +kernel
theorem dX7_repeat_44 : decode cX7_repeat 44 = .ok (.ireturn, 1) := by decide +kernel
set_option maxRecDepth 20000 in
theorem ggX7_motif_X7_isSheet : GoodIn wsX7_motif wsX7_isSheet := goodIn_r _ [9] (by decide +kernel) (by decide +kernel)
set_option maxRecDepth 20000 in
theorem gX7_motif_X7_isSheet : GoodIn wsX7_motif (va_wsS RX7 228 yX7_isSheet wsX7_isSheet) := goodIn_app (goodIn_of _ (by decide +kernel)) ggX7_motif_X7_isSheet
set_option maxRecDepth 20000 in
theorem ggX7_motif_X7_fail : GoodIn wsX7_motif wsX7_fail := goodIn_r _ [13, 14, 15, 29, 30, 31, 32, 33, 34, 35, 36, 37, 38, 39, 40, 41] (by decide +kernel) (by decide +kernel)
set_option maxRecDepth 20000 in
theorem gX7_motif_X7_fail : GoodIn wsX7_motif (wsV RX7 80 RX7 yX7_fail wsX7_fail) := goodIn_app (goodIn_of _ (by decide +kernel)) ggX7_motif_X7_fail
set_option maxRecDepth 20000 in
theorem ggX7_motif_X2_fits : GoodIn wsX7_motif wsX2_fits := goodIn_r _ [20, 21, 22, 23, 24, 25, 26, 19, 27, 28, 45, 46, 47, 48, 49, 50, 51, 42, 43, 44] (by decide +kernel) (by decide +kernel)
set_option maxRecDepth 20000 in
theorem gX7_motif_X2_fits : GoodIn wsX7_motif (wsV RX7 308 RX2 yX2_fits wsX2_fits) := goodIn_app (goodIn_of _ (by decide +kernel)) ggX7_motif_X2_fits
theorem dX7_motif_0 : decode cX7_motif 0 = .ok (.iload_n 1, 1) := by decide +kernel
theorem dX7_motif_1 : decode cX7_motif 1 = .ok (.invokestatic 228, 3) := by decide +kernel
theorem dX7_motif_4 : decode cX7_motif 4 = .ok (.ifCond .eq 23, 3) := by decide +kernel
theorem dX7_motif_7 : decode cX7_motif 7 = .ok (.iload_n 2, 1) := by decide +kernel
theorem dX7_motif_8 : decode cX7_motif 8 = .ok (.iconst 1, 1) := by decide +kernel
theorem dX7_motif_9 : decode cX7_motif 9 = .ok (.if_icmp .lt 18, 3) := by decide +kernel
theorem dX7_motif_12 : decode cX7_motif 12 = .ok (.iload_n 2, 1) := by decide +kernel
theorem dX7_motif_13 : decode cX7_motif 13 = .ok (.bipush 7, 2) := by decide +kernel
theorem dX7_motif_15 : decode cX7_motif 15 = .ok (.if_icmp .gt 12, 3) := by decide +kernel
theorem dX7_motif_18 : decode cX7_motif 18 = .ok (.iload_n 3, 1) := by decide +kernel
theorem dX7_motif_19 : decode cX7_motif 19 = .ok (.ifCond .lt 8, 3) := by decide +kernel
theorem dX7_motif_22 : decode cX7_motif 22 = .ok (.iload_n 3, 1) := by decide +kernel
theorem dX7_motif_23 : decode cX7_motif 23 = .ok (.iconst 1, 1) := by decide +kernel
theorem dX7_motif_24 : decode cX7_motif 24 = .ok (.if_icmp .le 9, 3) := by decide +kernel
theorem dX7_motif_27 : decode cX7_motif 27 = .ok (.aload_n 0, 1) := by decide +kernel
theorem dX7_motif_28 : decode cX7_motif 28 = .ok (.iconst 1, 1) := by decide +kernel
theorem dX7_motif_29 : decode cX7_motif 29 = .ok (.invokevirtual 80, 3) := by decide +kernel
theorem dX7_motif_32 : decode cX7_motif 32 = .ok (.ireturn, 1) := by decide +kernel
theorem dX7_motif_33 : decode cX7_motif 33 = .ok (.aload_n 0, 1) := by decide +kernel
theorem dX7_motif_34 : decode cX7_motif 34 = .ok (.getfield 71, 3) := by decide +kernel
theorem dX7_motif_37 : decode cX7_motif 37 = .ok (.iload_n 1, 1) := by decide +kernel
theorem dX7_motif_38 : decode cX7_motif 38 = .ok (.aaload, 1) := by decide +kernel
theorem dX7_motif_39 : decode cX7_motif 39 = .ok (.astore 4, 2) := by decide +kernel
theorem dX7_motif_41 : decode cX7_motif 41 = .ok (.aload 4, 2) := by decide +kernel
theorem dX7_motif_43 : decode cX7_motif 43 = .ok (.getfield 231, 3) := by decide +kernel
theorem dX7_motif_46 : decode cX7_motif 46 = .ok (.iconst (-1), 1) := by decide +kernel
theorem dX7_motif_47 : decode cX7_motif 47 = .ok (.if_icmp .ne 10, 3) := by decide +kernel
theorem dX7_motif_50 : decode cX7_motif 50 = .ok (.aload_n 0, 1) := by decide +kernel
theorem dX7_motif_51 : decode cX7_motif 51 = .ok (.bipush 7, 2) := by decide +kernel
theorem dX7_motif_53 : decode cX7_motif 53 = .ok (.invokevirtual 80, 3) := by decide +kernel
theorem dX7_motif_56 : decode cX7_motif 56 = .ok (.ireturn, 1) := by decide +kernel
theorem dX7_motif_57 : decode cX7_motif 57 = .ok (.aload 4, 2) := by decide +kernel
theorem dX7_motif_59 : decode cX7_motif 59 = .ok (.getfield 244, 3) := by decide +kernel
theorem dX7_motif_62 : decode cX7_motif 62 = .ok (.ifCond .eq 13, 3) := by decide +kernel
theorem dX7_motif_65 : decode cX7_motif 65 = .ok (.aload 4, 2) := by decide +kernel
theorem dX7_motif_67 : decode cX7_motif 67 = .ok (.getfield 244, 3) := by decide +kernel
theorem dX7_motif_70 : decode cX7_motif 70 = .ok (.iload_n 2, 1) := by decide +kernel
theorem dX7_motif_71 : decode cX7_motif 71 = .ok (.irem, 1) := by decide +kernel
theorem dX7_motif_72 : decode cX7_motif 72 = .ok (.ifCond .eq 9, 3) := by decide +kernel
theorem dX7_motif_75 : decode cX7_motif 75 = .ok (.aload_n 0, 1) := by decide +kernel
theorem dX7_motif_76 : decode cX7_motif 76 = .ok (.iconst 3, 1) := by decide +kernel
theorem dX7_motif_77 : decode cX7_motif 77 = .ok (.invokevirtual 80, 3) := by decide +kernel
theorem dX7_motif_80 : decode cX7_motif 80 = .ok (.ireturn, 1) := by decide +kernel
theorem dX7_motif_81 : decode cX7_motif 81 = .ok (.iconst 0, 1) := by decide +kernel
theorem dX7_motif_82 : decode cX7_motif 82 = .ok (.istore 5, 2) := by decide +kernel
theorem dX7_motif_84 : decode cX7_motif 84 = .ok (.iconst 0, 1) := by decide +kernel
theorem dX7_motif_85 : decode cX7_motif 85 = .ok (.istore 6, 2) := by decide +kernel
theorem dX7_motif_87 : decode cX7_motif 87 = .ok (.iload 6, 2) := by decide +kernel
theorem dX7_motif_89 : decode cX7_motif 89 = .ok (.bipush 12, 2) := by decide +kernel
theorem dX7_motif_91 : decode cX7_motif 91 = .ok (.if_icmp .ge 66, 3) := by decide +kernel
theorem dX7_motif_94 : decode cX7_motif 94 = .ok (.iconst 0, 1) := by decide +kernel
theorem dX7_motif_95 : decode cX7_motif 95 = .ok (.istore 7, 2) := by decide +kernel
theorem dX7_motif_97 : decode cX7_motif 97 = .ok (.iload 7, 2) := by decide +kernel
theorem dX7_motif_99 : decode cX7_motif 99 = .ok (.aload_n 0, 1) := by decide +kernel
theorem dX7_motif_100 : decode cX7_motif 100 = .ok (.getfield 12, 3) := by decide +kernel
theorem dX7_motif_103 : decode cX7_motif 103 = .ok (.getfield 84, 3) := by decide +kernel
theorem dX7_motif_106 : decode cX7_motif 106 = .ok (.iconst 1, 1) := by decide +kernel
theorem dX7_motif_107 : decode cX7_motif 107 = .ok (.isub, 1) := by decide +kernel
theorem dX7_motif_108 : decode cX7_motif 108 = .ok (.if_icmp .ge 43, 3) := by decide +kernel
theorem dX7_motif_111 : decode cX7_motif 111 = .ok (.aload_n 0, 1) := by decide +kernel
theorem dX7_motif_112 : decode cX7_motif 112 = .ok (.getfield 12, 3) := by decide +kernel
theorem dX7_motif_115 : decode cX7_motif 115 = .ok (.aload 4, 2) := by decide +kernel
theorem dX7_motif_117 : decode cX7_motif 117 = .ok (.iload_n 2, 1) := by decide +kernel
theorem dX7_motif_118 : decode cX7_motif 118 = .ok (.iload 6, 2) := by decide +kernel
theorem dX7_motif_120 : decode cX7_motif 120 = .ok (.iload 7, 2) := by decide +kernel
theorem dX7_motif_122 : decode cX7_motif 122 = .ok (.invokevirtual 308, 3) := by decide +kernel
theorem dX7_motif_125 : decode cX7_motif 125 = .ok (.ifCond .eq 20, 3) := by decide +kernel
theorem dX7_motif_128 : decode cX7_motif 128 = .ok (.iload_n 3, 1) := by decide +kernel
theorem dX7_motif_129 : decode cX7_motif 129 = .ok (.iconst 1, 1) := by decide +kernel
theorem dX7_motif_130 : decode cX7_motif 130 = .ok (.if_icmp .ne 12, 3) := by decide +kernel
theorem dX7_motif_133 : decode cX7_motif 133 = .ok (.bipush 10, 2) := by decide +kernel
theorem dX7_motif_135 : decode cX7_motif 135 = .ok (.iload 6, 2) := by decide +kernel
theorem dX7_motif_137 : decode cX7_motif 137 = .ok (.imul, 1) := by decide +kernel
theorem dX7_motif_138 : decode cX7_motif 138 = .ok (.iload 7, 2) := by decide +kernel
theorem dX7_motif_140 : decode cX7_motif 140 = .ok (.iadd, 1) := by decide +kernel
theorem dX7_motif_141 : decode cX7_motif 141 = .ok (.ireturn, 1) := by decide +kernel
theorem dX7_motif_142 : decode cX7_motif 142 = .ok (.iinc 5 1, 3) := by decide +kernel
theorem dX7_motif_145 : decode cX7_motif 145 = .ok (.iinc 7 1, 3) := by decide +kernel
theorem dX7_motif_148 : decode cX7_motif 148 = .ok (.goto (-51), 3) := by decide +kernel
theorem dX7_motif_151 : decode cX7_motif 151 = .ok (.iinc 6 1, 3) := by decide +kernel
theorem dX7_motif_154 : decode cX7_motif 154 = .ok (.goto (-67), 3) := by decide +kernel
theorem dX7_motif_157 : decode cX7_motif 157 = .ok (.iload_n 3, 1) := by decide +kernel
theorem dX7_motif_158 : decode cX7_motif 158 = .ok (.iconst 1, 1) := by decide +kernel
theorem dX7_motif_159 : decode cX7_motif 159 = .ok (.if_icmp .ne 11, 3) := by decide +kernel
theorem dX7_motif_162 : decode cX7_motif 162 = .ok (.aload_n 0, 1) := by decide +kernel
theorem dX7_motif_163 : decode cX7_motif 163 = .ok (.iconst 2, 1) := by decide +kernel
theorem dX7_motif_164 : decode cX7_motif 164 = .ok (.invokevirtual 80, 3) := by decide +kernel
theorem dX7_motif_167 : decode cX7_motif 167 = .ok (.goto 5, 3) := by decide +kernel
theorem dX7_motif_170 : decode cX7_motif 170 = .ok (.iload 5, 2) := by decide +kernel
theorem dX7_motif_172 : decode cX7_motif 172 = .ok (.ireturn, 1) := by decide +kernel
set_option maxRecDepth 20000 in
theorem ggX7_sheet_X7_isSheet : GoodIn wsX7_sheet wsX7_isSheet := goodIn_r _ [6] (by decide +kernel) (by decide +kernel)
set_option maxRecDepth 20000 in
theorem gX7_sheet_X7_isSheet : GoodIn wsX7_sheet (va_wsS RX7 228 yX7_isSheet wsX7_isSheet) := goodIn_app (goodIn_of _ (by decide +kernel)) ggX7_sheet_X7_isSheet
set_option maxRecDepth 20000 in
theorem ggX7_sheet_X7_fail : GoodIn wsX7_sheet wsX7_fail := goodIn_r _ [10, 11, 12, 25, 26, 27, 28, 29, 30, 31, 32, 33, 34, 35, 36, 37] (by decide +kernel) (by decide +kernel)
set_option maxRecDepth 20000 in
theorem gX7_sheet_X7_fail : GoodIn wsX7_sheet (wsV RX7 80 RX7 yX7_fail wsX7_fail) := goodIn_app (goodIn_of _ (by decide +kernel)) ggX7_sheet_X7_fail
set_option maxRecDepth 20000 in
theorem ggX7_sheet_X3_begin : GoodIn wsX7_sheet wsX3_begin := goodIn_r _ [17, 18, 19, 20, 21, 22, 23, 24, 38, 39, 40] (by decide +kernel) (by decide +kernel)
set_option maxRecDepth 20000 in
theorem gX7_sheet_X3_begin : GoodIn wsX7_sheet (wsV RX7 312 RX3 yX3_begin wsX3_begin) := goodIn_app (goodIn_of _ (by decide +kernel)) ggX7_sheet_X3_begin
theorem dX7_sheet_0 : decode cX7_sheet 0 = .ok (.iload_n 1, 1) := by decide +kernel
theorem dX7_sheet_1 : decode cX7_sheet 1 = .ok (.invokestatic 228, 3) := by decide +kernel
theorem dX7_sheet_4 : decode cX7_sheet 4 = .ok (.ifCond .eq 13, 3) := by decide +kernel
theorem dX7_sheet_7 : decode cX7_sheet 7 = .ok (.iload_n 2, 1) := by decide +kernel
theorem dX7_sheet_8 : decode cX7_sheet 8 = .ok (.iconst (-1), 1) := by decide +kernel
theorem dX7_sheet_9 : decode cX7_sheet 9 = .ok (.if_icmp .lt 8, 3) := by decide +kernel
theorem dX7_sheet_12 : decode cX7_sheet 12 = .ok (.iload_n 2, 1) := by decide +kernel
theorem dX7_sheet_13 : decode cX7_sheet 13 = .ok (.iconst 3, 1) := by decide +kernel
theorem dX7_sheet_14 : decode cX7_sheet 14 = .ok (.if_icmp .le 9, 3) := by decide +kernel
theorem dX7_sheet_17 : decode cX7_sheet 17 = .ok (.aload_n 0, 1) := by decide +kernel
theorem dX7_sheet_18 : decode cX7_sheet 18 = .ok (.iconst 1, 1) := by decide +kernel
theorem dX7_sheet_19 : decode cX7_sheet 19 = .ok (.invokevirtual 80, 3) := by decide +kernel
theorem dX7_sheet_22 : decode cX7_sheet 22 = .ok (.ireturn, 1) := by decide +kernel
theorem dX7_sheet_23 : decode cX7_sheet 23 = .ok (.iload_n 2, 1) := by decide +kernel
theorem dX7_sheet_24 : decode cX7_sheet 24 = .ok (.iconst (-1), 1) := by decide +kernel
theorem dX7_sheet_25 : decode cX7_sheet 25 = .ok (.if_icmp .ne 15, 3) := by decide +kernel
theorem dX7_sheet_28 : decode cX7_sheet 28 = .ok (.aload_n 0, 1) := by decide +kernel
theorem dX7_sheet_29 : decode cX7_sheet 29 = .ok (.getfield 71, 3) := by decide +kernel
theorem dX7_sheet_32 : decode cX7_sheet 32 = .ok (.iload_n 1, 1) := by decide +kernel
theorem dX7_sheet_33 : decode cX7_sheet 33 = .ok (.aaload, 1) := by decide +kernel
theorem dX7_sheet_34 : decode cX7_sheet 34 = .ok (.iconst (-1), 1) := by decide +kernel
theorem dX7_sheet_35 : decode cX7_sheet 35 = .ok (.putfield 231, 3) := by decide +kernel
theorem dX7_sheet_38 : decode cX7_sheet 38 = .ok (.iconst 1, 1) := by decide +kernel
theorem dX7_sheet_39 : decode cX7_sheet 39 = .ok (.ireturn, 1) := by decide +kernel
theorem dX7_sheet_40 : decode cX7_sheet 40 = .ok (.iload_n 3, 1) := by decide +kernel
theorem dX7_sheet_41 : decode cX7_sheet 41 = .ok (.ifCond .ge 9, 3) := by decide +kernel
theorem dX7_sheet_44 : decode cX7_sheet 44 = .ok (.aload_n 0, 1) := by decide +kernel
theorem dX7_sheet_45 : decode cX7_sheet 45 = .ok (.iconst 3, 1) := by decide +kernel
theorem dX7_sheet_46 : decode cX7_sheet 46 = .ok (.invokevirtual 80, 3) := by decide +kernel
theorem dX7_sheet_49 : decode cX7_sheet 49 = .ok (.ireturn, 1) := by decide +kernel
theorem dX7_sheet_50 : decode cX7_sheet 50 = .ok (.iload_n 3, 1) := by decide +kernel
theorem dX7_sheet_51 : decode cX7_sheet 51 = .ok (.bipush 60, 2) := by decide +kernel
theorem dX7_sheet_53 : decode cX7_sheet 53 = .ok (.if_icmp .le 9, 3) := by decide +kernel
theorem dX7_sheet_56 : decode cX7_sheet 56 = .ok (.aload_n 0, 1) := by decide +kernel
theorem dX7_sheet_57 : decode cX7_sheet 57 = .ok (.iconst 1, 1) := by decide +kernel
theorem dX7_sheet_58 : decode cX7_sheet 58 = .ok (.invokevirtual 80, 3) := by decide +kernel
theorem dX7_sheet_61 : decode cX7_sheet 61 = .ok (.ireturn, 1) := by decide +kernel
theorem dX7_sheet_62 : decode cX7_sheet 62 = .ok (.aload_n 0, 1) := by decide +kernel
theorem dX7_sheet_63 : decode cX7_sheet 63 = .ok (.getfield 71, 3) := by decide +kernel
theorem dX7_sheet_66 : decode cX7_sheet 66 = .ok (.iload_n 1, 1) := by decide +kernel
theorem dX7_sheet_67 : decode cX7_sheet 67 = .ok (.aaload, 1) := by decide +kernel
theorem dX7_sheet_68 : decode cX7_sheet 68 = .ok (.iload_n 2, 1) := by decide +kernel
theorem dX7_sheet_69 : decode cX7_sheet 69 = .ok (.iload_n 3, 1) := by decide +kernel
theorem dX7_sheet_70 : decode cX7_sheet 70 = .ok (.invokevirtual 312, 3) := by decide +kernel
theorem dX7_sheet_73 : decode cX7_sheet 73 = .ok (.iconst 1, 1) := by decide +kernel
theorem dX7_sheet_74 : decode cX7_sheet 74 = .ok (.ireturn, 1) := by decide +kernel
set_option maxRecDepth 20000 in
theorem ggX7_put_X7_isSheet : GoodIn wsX7_put wsX7_isSheet := goodIn_r _ [6] (by decide +kernel) (by decide +kernel)
set_option maxRecDepth 20000 in
theorem gX7_put_X7_isSheet : GoodIn wsX7_put (va_wsS RX7 228 yX7_isSheet wsX7_isSheet) := goodIn_app (goodIn_of _ (by decide +kernel)) ggX7_put_X7_isSheet
set_option maxRecDepth 20000 in
theorem ggX7_put_X7_fail : GoodIn wsX7_put wsX7_fail := goodIn_r _ [10, 11, 12, 24, 25, 26, 27, 28, 29, 30, 31, 32, 33, 34, 35, 36] (by decide +kernel) (by decide +kernel)
set_option maxRecDepth 20000 in
theorem gX7_put_X7_fail : GoodIn wsX7_put (wsV RX7 80 RX7 yX7_fail wsX7_fail) := goodIn_app (goodIn_of _ (by decide +kernel)) ggX7_put_X7_fail
set_option maxRecDepth 20000 in
theorem ggX7_put_X3_has : GoodIn wsX7_put wsX3_has := goodIn_r _ [17, 18, 19, 37, 38, 39] (by decide +kernel) (by decide +kernel)
set_option maxRecDepth 20000 in
theorem gX7_put_X3_has : GoodIn wsX7_put (wsV RX7 316 RX3 yX3_has wsX3_has) := goodIn_app (goodIn_of _ (by decide +kernel)) ggX7_put_X3_has
set_option maxRecDepth 20000 in
theorem ggX7_put_X3_cut : GoodIn wsX7_put wsX3_cut := goodIn_r _ [23, 18, 37, 38, 39] (by decide +kernel) (by decide +kernel)
set_option maxRecDepth 20000 in
theorem gX7_put_X3_cut : GoodIn wsX7_put (wsV RX7 319 RX3 yX3_cut wsX3_cut) := goodIn_app (goodIn_of _ (by decide +kernel)) ggX7_put_X3_cut
theorem dX7_put_0 : decode cX7_put 0 = .ok (.iload_n 1, 1) := by decide +kernel
theorem dX7_put_1 : decode cX7_put 1 = .ok (.invokestatic 228, 3) := by decide +kernel
theorem dX7_put_4 : decode cX7_put 4 = .ok (.ifCond .ne 9, 3) := by decide +kernel
theorem dX7_put_7 : decode cX7_put 7 = .ok (.aload_n 0, 1) := by decide +kernel
theorem dX7_put_8 : decode cX7_put 8 = .ok (.iconst 1, 1) := by decide +kernel
theorem dX7_put_9 : decode cX7_put 9 = .ok (.invokevirtual 80, 3) := by decide +kernel
theorem dX7_put_12 : decode cX7_put 12 = .ok (.ireturn, 1) := by decide +kernel
theorem dX7_put_13 : decode cX7_put 13 = .ok (.aload_n 0, 1) := by decide +kernel
theorem dX7_put_14 : decode cX7_put 14 = .ok (.getfield 71, 3) := by decide +kernel
theorem dX7_put_17 : decode cX7_put 17 = .ok (.iload_n 1, 1) := by decide +kernel
theorem dX7_put_18 : decode cX7_put 18 = .ok (.aaload, 1) := by decide +kernel
theorem dX7_put_19 : decode cX7_put 19 = .ok (.iload_n 2, 1) := by decide +kernel
theorem dX7_put_20 : decode cX7_put 20 = .ok (.invokevirtual 316, 3) := by decide +kernel
theorem dX7_put_23 : decode cX7_put 23 = .ok (.ifCond .ne 10, 3) := by decide +kernel
theorem dX7_put_26 : decode cX7_put 26 = .ok (.aload_n 0, 1) := by decide +kernel
theorem dX7_put_27 : decode cX7_put 27 = .ok (.bipush 7, 2) := by decide +kernel
theorem dX7_put_29 : decode cX7_put 29 = .ok (.invokevirtual 80, 3) := by decide +kernel
theorem dX7_put_32 : decode cX7_put 32 = .ok (.ireturn, 1) := by decide +kernel
theorem dX7_put_33 : decode cX7_put 33 = .ok (.aload_n 0, 1) := by decide +kernel
theorem dX7_put_34 : decode cX7_put 34 = .ok (.getfield 71, 3) := by decide +kernel
theorem dX7_put_37 : decode cX7_put 37 = .ok (.iload_n 1, 1) := by decide +kernel
theorem dX7_put_38 : decode cX7_put 38 = .ok (.aaload, 1) := by decide +kernel
theorem dX7_put_39 : decode cX7_put 39 = .ok (.getfield 245, 3) := by decide +kernel
theorem dX7_put_42 : decode cX7_put 42 = .ok (.iload_n 2, 1) := by decide +kernel
theorem dX7_put_43 : decode cX7_put 43 = .ok (.aload_n 0, 1) := by decide +kernel
theorem dX7_put_44 : decode cX7_put 44 = .ok (.getfield 71, 3) := by decide +kernel
theorem dX7_put_47 : decode cX7_put 47 = .ok (.iload_n 1, 1) := by decide +kernel
theorem dX7_put_48 : decode cX7_put 48 = .ok (.aaload, 1) := by decide +kernel
theorem dX7_put_49 : decode cX7_put 49 = .ok (.lload_n 3, 1) := by decide +kernel
theorem dX7_put_50 : decode cX7_put 50 = .ok (.invokevirtual 319, 3) := by decide +kernel
theorem dX7_put_53 : decode cX7_put 53 = .ok (.lastore, 1) := by decide +kernel
theorem dX7_put_54 : decode cX7_put 54 = .ok (.iconst 1, 1) := by decide +kernel
theorem dX7_put_55 : decode cX7_put 55 = .ok (.ireturn, 1) := by decide +kernel
set_option maxRecDepth 20000 in
theorem ggX7_number_X7_isSheet : GoodIn wsX7_number wsX7_isSheet := goodIn_r _ [6] (by decide +kernel) (by decide +kernel)
set_option maxRecDepth 20000 in
theorem gX7_number_X7_isSheet : GoodIn wsX7_number (va_wsS RX7 228 yX7_isSheet wsX7_isSheet) := goodIn_app (goodIn_of _ (by decide +kernel)) ggX7_number_X7_isSheet
set_option maxRecDepth 20000 in
theorem ggX7_number_X7_failLong : GoodIn wsX7_number wsX7_failLong := goodIn_r _ [10, 11, 12, 20, 21, 22, 23, 24, 25, 26, 27, 28, 29, 30, 31, 32] (by decide +kernel) (by decide +kernel)
set_option maxRecDepth 20000 in
theorem gX7_number_X7_failLong : GoodIn wsX7_number (wsV RX7 213 RX7 yX7_failLong wsX7_failLong) := goodIn_app (goodIn_of _ (by decide +kernel)) ggX7_number_X7_failLong
set_option maxRecDepth 20000 in
theorem ggX7_number_X3_has : GoodIn wsX7_number wsX3_has := goodIn_r _ [17, 18, 19, 33, 34, 35] (by decide +kernel) (by decide +kernel)
set_option maxRecDepth 20000 in
theorem gX7_number_X3_has : GoodIn wsX7_number (wsV RX7 316 RX3 yX3_has wsX3_has) := goodIn_app (goodIn_of _ (by decide +kernel)) ggX7_number_X3_has
theorem dX7_number_0 : decode cX7_number 0 = .ok (.iload_n 1, 1) := by decide +kernel
theorem dX7_number_1 : decode cX7_number 1 = .ok (.invokestatic 228, 3) := by decide +kernel
theorem dX7_number_4 : decode cX7_number 4 = .ok (.ifCond .ne 9, 3) := by decide +kernel
theorem dX7_number_7 : decode cX7_number 7 = .ok (.aload_n 0, 1) := by decide +kernel
theorem dX7_number_8 : decode cX7_number 8 = .ok (.iconst 1, 1) := by decide +kernel
theorem dX7_number_9 : decode cX7_number 9 = .ok (.invokevirtual 213, 3) := by decide +kernel
theorem dX7_number_12 : decode cX7_number 12 = .ok (.lreturn, 1) := by decide +kernel
theorem dX7_number_13 : decode cX7_number 13 = .ok (.aload_n 0, 1) := by decide +kernel
theorem dX7_number_14 : decode cX7_number 14 = .ok (.getfield 71, 3) := by decide +kernel
theorem dX7_number_17 : decode cX7_number 17 = .ok (.iload_n 1, 1) := by decide +kernel
theorem dX7_number_18 : decode cX7_number 18 = .ok (.aaload, 1) := by decide +kernel
theorem dX7_number_19 : decode cX7_number 19 = .ok (.iload_n 2, 1) := by decide +kernel
theorem dX7_number_20 : decode cX7_number 20 = .ok (.invokevirtual 316, 3) := by decide +kernel
theorem dX7_number_23 : decode cX7_number 23 = .ok (.ifCond .ne 10, 3) := by decide +kernel
theorem dX7_number_26 : decode cX7_number 26 = .ok (.aload_n 0, 1) := by decide +kernel
theorem dX7_number_27 : decode cX7_number 27 = .ok (.bipush 7, 2) := by decide +kernel
theorem dX7_number_29 : decode cX7_number 29 = .ok (.invokevirtual 213, 3) := by decide +kernel
theorem dX7_number_32 : decode cX7_number 32 = .ok (.lreturn, 1) := by decide +kernel
theorem dX7_number_33 : decode cX7_number 33 = .ok (.aload_n 0, 1) := by decide +kernel
theorem dX7_number_34 : decode cX7_number 34 = .ok (.getfield 71, 3) := by decide +kernel
theorem dX7_number_37 : decode cX7_number 37 = .ok (.iload_n 1, 1) := by decide +kernel
theorem dX7_number_38 : decode cX7_number 38 = .ok (.aaload, 1) := by decide +kernel
theorem dX7_number_39 : decode cX7_number 39 = .ok (.getfield 245, 3) := by decide +kernel
theorem dX7_number_42 : decode cX7_number 42 = .ok (.iload_n 2, 1) := by decide +kernel
theorem dX7_number_43 : decode cX7_number 43 = .ok (.laload, 1) := by decide +kernel
theorem dX7_number_44 : decode cX7_number 44 = .ok (.lreturn, 1) := by decide +kernel
set_option maxRecDepth 20000 in
theorem ggX7_image_X2_copyFrom : GoodIn wsX7_image wsX2_copyFrom := goodIn_r _ [12, 13, 14, 15, 16, 17, 18, 19, 20, 21, 22, 23, 56, 57, 58, 59, 60, 61, 62] (by decide +kernel) (by decide +kernel)
set_option maxRecDepth 20000 in
theorem gX7_image_X2_copyFrom : GoodIn wsX7_image (wsV RX7 323 RX2 yX2_copyFrom wsX2_copyFrom) := goodIn_app (goodIn_of _ (by decide +kernel)) ggX7_image_X2_copyFrom
set_option maxRecDepth 20000 in
theorem ggX7_image_X1_copyFrom : GoodIn wsX7_image wsX1_copyFrom := goodIn_r _ [28, 29, 30, 31, 16, 17, 18, 32, 63, 64, 65] (by decide +kernel) (by decide +kernel)
set_option maxRecDepth 20000 in
theorem gX7_image_X1_copyFrom : GoodIn wsX7_image (wsV RX7 326 RX1 yX1_copyFrom wsX1_copyFrom) := goodIn_app (goodIn_of _ (by decide +kernel)) ggX7_image_X1_copyFrom
theorem dX7_image_0 : decode cX7_image 0 = .ok (.aload_n 0, 1) := by decide +kernel
theorem dX7_image_1 : decode cX7_image 1 = .ok (.getfield 16, 3) := by decide +kernel
theorem dX7_image_4 : decode cX7_image 4 = .ok (.aload_n 0, 1) := by decide +kernel
theorem dX7_image_5 : decode cX7_image 5 = .ok (.getfield 12, 3) := by decide +kernel
theorem dX7_image_8 : decode cX7_image 8 = .ok (.invokevirtual 323, 3) := by decide +kernel
theorem dX7_image_11 : decode cX7_image 11 = .ok (.aload_n 0, 1) := by decide +kernel
theorem dX7_image_12 : decode cX7_image 12 = .ok (.getfield 22, 3) := by decide +kernel
theorem dX7_image_15 : decode cX7_image 15 = .ok (.aload_n 0, 1) := by decide +kernel
theorem dX7_image_16 : decode cX7_image 16 = .ok (.getfield 47, 3) := by decide +kernel
theorem dX7_image_19 : decode cX7_image 19 = .ok (.getfield 142, 3) := by decide +kernel
theorem dX7_image_22 : decode cX7_image 22 = .ok (.invokevirtual 326, 3) := by decide +kernel
theorem dX7_image_25 : decode cX7_image 25 = .ok (.aload_n 0, 1) := by decide +kernel
theorem dX7_image_26 : decode cX7_image 26 = .ok (.iconst 1, 1) := by decide +kernel
theorem dX7_image_27 : decode cX7_image 27 = .ok (.putfield 26, 3) := by decide +kernel
theorem dX7_image_30 : decode cX7_image 30 = .ok (.aload_n 0, 1) := by decide +kernel
theorem dX7_image_31 : decode cX7_image 31 = .ok (.getfield 16, 3) := by decide +kernel
theorem dX7_image_34 : decode cX7_image 34 = .ok (.getfield 169, 3) := by decide +kernel
theorem dX7_image_37 : decode cX7_image 37 = .ok (.ireturn, 1) := by decide +kernel
set_option maxRecDepth 20000 in
theorem ggX7_restore_X7_fail : GoodIn wsX7_restore wsX7_fail := goodIn_r _ [9, 10, 11, 129, 130, 131, 132, 133, 134, 135, 136, 137, 138, 139, 140, 141] (by decide +kernel) (by decide +kernel)
set_option maxRecDepth 20000 in
theorem gX7_restore_X7_fail : GoodIn wsX7_restore (wsV RX7 80 RX7 yX7_fail wsX7_fail) := goodIn_app (goodIn_of _ (by decide +kernel)) ggX7_restore_X7_fail
set_option maxRecDepth 20000 in
theorem ggX7_restore_X2_copyFrom : GoodIn wsX7_restore wsX2_copyFrom := goodIn_r _ [16, 17, 18, 19, 20, 21, 22, 23, 24, 25, 26, 27, 142, 143, 144, 145, 146, 147, 148] (by decide +kernel) (by decide +kernel)
set_option maxRecDepth 20000 in
theorem gX7_restore_X2_copyFrom : GoodIn wsX7_restore (wsV RX7 323 RX2 yX2_copyFrom wsX2_copyFrom) := goodIn_app (goodIn_of _ (by decide +kernel)) ggX7_restore_X2_copyFrom
set_option maxRecDepth 20000 in
theorem ggX7_restore_X7_regard : GoodIn wsX7_restore wsX7_regard := goodIn_r _ [31, 32, 2, 33, 34, 35, 36, 37, 38, 39, 40, 41, 42, 43, 44, 45, 46, 47, 48, 49, 50, 51, 52, 53, 54, 55, 56, 57, 58, 59, 60, 129, 130, 131, 132, 133, 134, 135, 136, 137, 138, 139, 140, 141, 149, 150, 151, 152, 153, 154, 155, 156, 157, 158, 159, 160, 161, 162, 142, 143, 144, 145, 146, 147, 148] (by decide +kernel) (by decide +kernel)
set_option maxRecDepth 20000 in
theorem gX7_restore_X7_regard : GoodIn wsX7_restore (wsV RX7 329 RX7 yX7_regard wsX7_regard) := goodIn_app (goodIn_of _ (by decide +kernel)) ggX7_restore_X7_regard
set_option maxRecDepth 20000 in
theorem ggX7_restore_X7_replay : GoodIn wsX7_restore wsX7_replay := goodIn_r _ [64, 65, 66, 2, 4, 67, 32, 68, 69, 70, 71, 72, 73, 74, 75, 76, 77, 78, 79, 80, 81, 82, 83, 84, 85, 86, 87, 88, 89, 90, 91, 92, 93, 94, 95, 96, 97, 98, 99, 100, 101, 102, 103, 104, 105, 106, 107, 108, 109, 110, 111, 112, 113, 114, 115, 116, 117, 118, 119, 120, 121, 122, 123, 124, 59, 56, 60, 125, 126, 127, 128, 129, 130, 131, 132, 133, 134, 135, 136, 137, 138, 139, 140, 141, 142, 143, 144, 145, 146, 147, 148, 155, 156, 157, 158, 159, 160, 161, 162, 163, 164, 165, 166, 167, 168, 169, 170, 171, 172, 173, 174, 175] (by decide +kernel) (by decide +kernel)
set_option maxRecDepth 20000 in
theorem gX7_restore_X7_replay : GoodIn wsX7_restore (wsV RX7 248 RX7 yX7_replay wsX7_replay) := goodIn_app (goodIn_of _ (by decide +kernel)) ggX7_restore_X7_replay
theorem dX7_restore_0 : decode cX7_restore 0 = .ok (.aload_n 0, 1) := by decide +kernel
theorem dX7_restore_1 : decode cX7_restore 1 = .ok (.getfield 26, 3) := by decide +kernel
theorem dX7_restore_4 : decode cX7_restore 4 = .ok (.ifCond .ne 9, 3) := by decide +kernel
theorem dX7_restore_7 : decode cX7_restore 7 = .ok (.aload_n 0, 1) := by decide +kernel
theorem dX7_restore_8 : decode cX7_restore 8 = .ok (.iconst 2, 1) := by decide +kernel
theorem dX7_restore_9 : decode cX7_restore 9 = .ok (.invokevirtual 80, 3) := by decide +kernel
theorem dX7_restore_12 : decode cX7_restore 12 = .ok (.ireturn, 1) := by decide +kernel
theorem dX7_restore_13 : decode cX7_restore 13 = .ok (.aload_n 0, 1) := by decide +kernel
theorem dX7_restore_14 : decode cX7_restore 14 = .ok (.getfield 12, 3) := by decide +kernel
theorem dX7_restore_17 : decode cX7_restore 17 = .ok (.aload_n 0, 1) := by decide +kernel
theorem dX7_restore_18 : decode cX7_restore 18 = .ok (.getfield 16, 3) := by decide +kernel
theorem dX7_restore_21 : decode cX7_restore 21 = .ok (.invokevirtual 323, 3) := by decide +kernel
theorem dX7_restore_24 : decode cX7_restore 24 = .ok (.aload_n 0, 1) := by decide +kernel
theorem dX7_restore_25 : decode cX7_restore 25 = .ok (.invokevirtual 329, 3) := by decide +kernel
theorem dX7_restore_28 : decode cX7_restore 28 = .ok (.aload_n 0, 1) := by decide +kernel
theorem dX7_restore_29 : decode cX7_restore 29 = .ok (.invokevirtual 248, 3) := by decide +kernel
theorem dX7_restore_32 : decode cX7_restore 32 = .ok (.aload_n 0, 1) := by decide +kernel
theorem dX7_restore_33 : decode cX7_restore 33 = .ok (.getfield 12, 3) := by decide +kernel
theorem dX7_restore_36 : decode cX7_restore 36 = .ok (.getfield 169, 3) := by decide +kernel
theorem dX7_restore_39 : decode cX7_restore 39 = .ok (.ireturn, 1) := by decide +kernel
set_option maxRecDepth 20000 in
theorem ggX7_alike_X7_fail : GoodIn wsX7_alike wsX7_fail := goodIn_r _ [9, 10, 11, 18, 19, 20, 21, 22, 23, 24, 25, 26, 27, 28, 29, 30] (by decide +kernel) (by decide +kernel)
set_option maxRecDepth 20000 in
theorem gX7_alike_X7_fail : GoodIn wsX7_alike (wsV RX7 80 RX7 yX7_fail wsX7_fail) := goodIn_app (goodIn_of _ (by decide +kernel)) ggX7_alike_X7_fail
set_option maxRecDepth 20000 in
theorem ggX7_alike_X1_isAs : GoodIn wsX7_alike wsX1_isAs := goodIn_r _ [16, 17, 41, 42, 43] (by decide +kernel) (by decide +kernel)
set_option maxRecDepth 20000 in
theorem gX7_alike_X1_isAs : GoodIn wsX7_alike (wsV RX7 332 RX1 yX1_isAs wsX1_isAs) := goodIn_app (goodIn_of _ (by decide +kernel)) ggX7_alike_X1_isAs
theorem dX7_alike_0 : decode cX7_alike 0 = .ok (.aload_n 0, 1) := by decide +kernel
theorem dX7_alike_1 : decode cX7_alike 1 = .ok (.getfield 26, 3) := by decide +kernel
theorem dX7_alike_4 : decode cX7_alike 4 = .ok (.ifCond .ne 9, 3) := by decide +kernel
theorem dX7_alike_7 : decode cX7_alike 7 = .ok (.aload_n 0, 1) := by decide +kernel
theorem dX7_alike_8 : decode cX7_alike 8 = .ok (.iconst 2, 1) := by decide +kernel
theorem dX7_alike_9 : decode cX7_alike 9 = .ok (.invokevirtual 80, 3) := by decide +kernel
theorem dX7_alike_12 : decode cX7_alike 12 = .ok (.ireturn, 1) := by decide +kernel
theorem dX7_alike_13 : decode cX7_alike 13 = .ok (.aload_n 0, 1) := by decide +kernel
theorem dX7_alike_14 : decode cX7_alike 14 = .ok (.getfield 47, 3) := by decide +kernel
theorem dX7_alike_17 : decode cX7_alike 17 = .ok (.getfield 142, 3) := by decide +kernel
theorem dX7_alike_20 : decode cX7_alike 20 = .ok (.aload_n 0, 1) := by decide +kernel
theorem dX7_alike_21 : decode cX7_alike 21 = .ok (.getfield 22, 3) := by decide +kernel
theorem dX7_alike_24 : decode cX7_alike 24 = .ok (.invokevirtual 332, 3) := by decide +kernel
theorem dX7_alike_27 : decode cX7_alike 27 = .ok (.ifCond .eq 7, 3) := by decide +kernel
theorem dX7_alike_30 : decode cX7_alike 30 = .ok (.iconst 1, 1) := by decide +kernel
theorem dX7_alike_31 : decode cX7_alike 31 = .ok (.goto 4, 3) := by decide +kernel
theorem dX7_alike_34 : decode cX7_alike 34 = .ok (.iconst 0, 1) := by decide +kernel
theorem dX7_alike_35 : decode cX7_alike 35 = .ok (.ireturn, 1) := by decide +kernel
set_option maxRecDepth 20000 in
theorem ggX7_count_X7_sumOf : GoodIn wsX7_count wsX7_sumOf := goodIn_r _ [12] (by decide +kernel) (by decide +kernel)
set_option maxRecDepth 20000 in
theorem gX7_count_X7_sumOf : GoodIn wsX7_count (va_wsS RX7 336 yX7_sumOf wsX7_sumOf) := goodIn_app (goodIn_of _ (by decide +kernel)) ggX7_count_X7_sumOf
set_option maxRecDepth 20000 in
theorem ggX7_count_X6_countAtHome : GoodIn wsX7_count wsX6_countAtHome := goodIn_r _ [17, 18, 47, 48, 49, 50, 51, 52, 53, 54, 55, 56] (by decide +kernel) (by decide +kernel)
set_option maxRecDepth 20000 in
theorem gX7_count_X6_countAtHome : GoodIn wsX7_count (wsV RX7 340 RX6 yX6_countAtHome wsX6_countAtHome) := goodIn_app (goodIn_of _ (by decide +kernel)) ggX7_count_X6_countAtHome
set_option maxRecDepth 20000 in
theorem ggX7_count_X7_fail : GoodIn wsX7_count wsX7_fail := goodIn_r _ [22, 23, 24, 25, 26, 27, 28, 29, 30, 31, 32, 33, 34, 35, 36, 37] (by decide +kernel) (by decide +kernel)
set_option maxRecDepth 20000 in
theorem gX7_count_X7_fail : GoodIn wsX7_count (wsV RX7 80 RX7 yX7_fail wsX7_fail) := goodIn_app (goodIn_of _ (by decide +kernel)) ggX7_count_X7_fail
theorem dX7_count_0 : decode cX7_count 0 = .ok (.iconst 2, 1) := by decide +kernel
theorem dX7_count_1 : decode cX7_count 1 = .ok (.aload_n 0, 1) := by decide +kernel
theorem dX7_count_2 : decode cX7_count 2 = .ok (.getfield 12, 3) := by decide +kernel
theorem dX7_count_5 : decode cX7_count 5 = .ok (.getfield 84, 3) := by decide +kernel
theorem dX7_count_8 : decode cX7_count 8 = .ok (.imul, 1) := by decide +kernel
theorem dX7_count_9 : decode cX7_count 9 = .ok (.istore_n 2, 1) := by decide +kernel
theorem dX7_count_10 : decode cX7_count 10 = .ok (.iload_n 1, 1) := by decide +kernel
theorem dX7_count_11 : decode cX7_count 11 = .ok (.tableswitch 106 0 5 #[37, 45, 53, 77, 89, 97], 37) := by decide +kernel
theorem dX7_count_48 : decode cX7_count 48 = .ok (.aload_n 0, 1) := by decide +kernel
theorem dX7_count_49 : decode cX7_count 49 = .ok (.getfield 12, 3) := by decide +kernel
theorem dX7_count_52 : decode cX7_count 52 = .ok (.getfield 84, 3) := by decide +kernel
theorem dX7_count_55 : decode cX7_count 55 = .ok (.ireturn, 1) := by decide +kernel
theorem dX7_count_56 : decode cX7_count 56 = .ok (.aload_n 0, 1) := by decide +kernel
theorem dX7_count_57 : decode cX7_count 57 = .ok (.getfield 65, 3) := by decide +kernel
theorem dX7_count_60 : decode cX7_count 60 = .ok (.getfield 106, 3) := by decide +kernel
theorem dX7_count_63 : decode cX7_count 63 = .ok (.ireturn, 1) := by decide +kernel
theorem dX7_count_64 : decode cX7_count 64 = .ok (.aload_n 0, 1) := by decide +kernel
theorem dX7_count_65 : decode cX7_count 65 = .ok (.getfield 12, 3) := by decide +kernel
theorem dX7_count_68 : decode cX7_count 68 = .ok (.getfield 263, 3) := by decide +kernel
theorem dX7_count_71 : decode cX7_count 71 = .ok (.iload_n 2, 1) := by decide +kernel
theorem dX7_count_72 : decode cX7_count 72 = .ok (.invokestatic 336, 3) := by decide +kernel
theorem dX7_count_75 : decode cX7_count 75 = .ok (.aload_n 0, 1) := by decide +kernel
theorem dX7_count_76 : decode cX7_count 76 = .ok (.getfield 47, 3) := by decide +kernel
theorem dX7_count_79 : decode cX7_count 79 = .ok (.getfield 260, 3) := by decide +kernel
theorem dX7_count_82 : decode cX7_count 82 = .ok (.iload_n 2, 1) := by decide +kernel
theorem dX7_count_83 : decode cX7_count 83 = .ok (.invokestatic 336, 3) := by decide +kernel
theorem dX7_count_86 : decode cX7_count 86 = .ok (.isub, 1) := by decide +kernel
theorem dX7_count_87 : decode cX7_count 87 = .ok (.ireturn, 1) := by decide +kernel
theorem dX7_count_88 : decode cX7_count 88 = .ok (.aload_n 0, 1) := by decide +kernel
theorem dX7_count_89 : decode cX7_count 89 = .ok (.getfield 12, 3) := by decide +kernel
theorem dX7_count_92 : decode cX7_count 92 = .ok (.getfield 263, 3) := by decide +kernel
theorem dX7_count_95 : decode cX7_count 95 = .ok (.iload_n 2, 1) := by decide +kernel
theorem dX7_count_96 : decode cX7_count 96 = .ok (.invokestatic 336, 3) := by decide +kernel
theorem dX7_count_99 : decode cX7_count 99 = .ok (.ireturn, 1) := by decide +kernel
theorem dX7_count_100 : decode cX7_count 100 = .ok (.aload_n 0, 1) := by decide +kernel
theorem dX7_count_101 : decode cX7_count 101 = .ok (.getfield 47, 3) := by decide +kernel
theorem dX7_count_104 : decode cX7_count 104 = .ok (.getfield 139, 3) := by decide +kernel
theorem dX7_count_107 : decode cX7_count 107 = .ok (.ireturn, 1) := by decide +kernel
theorem dX7_count_108 : decode cX7_count 108 = .ok (.aload_n 0, 1) := by decide +kernel
theorem dX7_count_109 : decode cX7_count 109 = .ok (.getfield 47, 3) := by decide +kernel
theorem dX7_count_112 : decode cX7_count 112 = .ok (.iload_n 2, 1) := by decide +kernel
theorem dX7_count_113 : decode cX7_count 113 = .ok (.invokevirtual 340, 3) := by decide +kernel
theorem dX7_count_116 : decode cX7_count 116 = .ok (.ireturn, 1) := by decide +kernel
theorem dX7_count_117 : decode cX7_count 117 = .ok (.aload_n 0, 1) := by decide +kernel
theorem dX7_count_118 : decode cX7_count 118 = .ok (.iconst 1, 1) := by decide +kernel
theorem dX7_count_119 : decode cX7_count 119 = .ok (.invokevirtual 80, 3) := by decide +kernel
theorem dX7_count_122 : decode cX7_count 122 = .ok (.ireturn, 1) := by decide +kernel
set_option maxRecDepth 20000 in
theorem ggX7_told_X7_fail : GoodIn wsX7_told wsX7_fail := goodIn_r _ [6, 1, 7, 8, 9, 10, 11, 12, 13, 14, 15, 16, 17, 18, 19, 20] (by decide +kernel) (by decide +kernel)
set_option maxRecDepth 20000 in
theorem gX7_told_X7_fail : GoodIn wsX7_told (wsV RX7 80 RX7 yX7_fail wsX7_fail) := goodIn_app (goodIn_of _ (by decide +kernel)) ggX7_told_X7_fail
theorem dX7_told_0 : decode cX7_told 0 = .ok (.iload_n 1, 1) := by decide +kernel
theorem dX7_told_1 : decode cX7_told 1 = .ok (.iconst 1, 1) := by decide +kernel
theorem dX7_told_2 : decode cX7_told 2 = .ok (.if_icmp .lt 9, 3) := by decide +kernel
theorem dX7_told_5 : decode cX7_told 5 = .ok (.iload_n 1, 1) := by decide +kernel
theorem dX7_told_6 : decode cX7_told 6 = .ok (.bipush 7, 2) := by decide +kernel
theorem dX7_told_8 : decode cX7_told 8 = .ok (.if_icmp .le 9, 3) := by decide +kernel
theorem dX7_told_11 : decode cX7_told 11 = .ok (.aload_n 0, 1) := by decide +kernel
theorem dX7_told_12 : decode cX7_told 12 = .ok (.iconst 1, 1) := by decide +kernel
theorem dX7_told_13 : decode cX7_told 13 = .ok (.invokevirtual 80, 3) := by decide +kernel
theorem dX7_told_16 : decode cX7_told 16 = .ok (.ireturn, 1) := by decide +kernel
theorem dX7_told_17 : decode cX7_told 17 = .ok (.aload_n 0, 1) := by decide +kernel
theorem dX7_told_18 : decode cX7_told 18 = .ok (.getfield 75, 3) := by decide +kernel
theorem dX7_told_21 : decode cX7_told 21 = .ok (.iload_n 1, 1) := by decide +kernel
theorem dX7_told_22 : decode cX7_told 22 = .ok (.iaload, 1) := by decide +kernel
theorem dX7_told_23 : decode cX7_told 23 = .ok (.ireturn, 1) := by decide +kernel
theorem dX7_fail_0 : decode cX7_fail 0 = .ok (.aload_n 0, 1) := by decide +kernel
theorem dX7_fail_1 : decode cX7_fail 1 = .ok (.getfield 75, 3) := by decide +kernel
theorem dX7_fail_4 : decode cX7_fail 4 = .ok (.iload_n 1, 1) := by decide +kernel
theorem dX7_fail_5 : decode cX7_fail 5 = .ok (.dup2, 1) := by decide +kernel
theorem dX7_fail_6 : decode cX7_fail 6 = .ok (.iaload, 1) := by decide +kernel
theorem dX7_fail_7 : decode cX7_fail 7 = .ok (.iconst 1, 1) := by decide +kernel
theorem dX7_fail_8 : decode cX7_fail 8 = .ok (.iadd, 1) := by decide +kernel
theorem dX7_fail_9 : decode cX7_fail 9 = .ok (.iastore, 1) := by decide +kernel
theorem dX7_fail_10 : decode cX7_fail 10 = .ok (.ldc_w 343, 3) := by decide +kernel
theorem dX7_fail_13 : decode cX7_fail 13 = .ok (.iload_n 1, 1) := by decide +kernel
theorem dX7_fail_14 : decode cX7_fail 14 = .ok (.isub, 1) := by decide +kernel
theorem dX7_fail_15 : decode cX7_fail 15 = .ok (.ireturn, 1) := by decide +kernel
theorem dX7_failLong_0 : decode cX7_failLong 0 = .ok (.aload_n 0, 1) := by decide +kernel
theorem dX7_failLong_1 : decode cX7_failLong 1 = .ok (.getfield 75, 3) := by decide +kernel
theorem dX7_failLong_4 : decode cX7_failLong 4 = .ok (.iload_n 1, 1) := by decide +kernel
theorem dX7_failLong_5 : decode cX7_failLong 5 = .ok (.dup2, 1) := by decide +kernel
theorem dX7_failLong_6 : decode cX7_failLong 6 = .ok (.iaload, 1) := by decide +kernel
theorem dX7_failLong_7 : decode cX7_failLong 7 = .ok (.iconst 1, 1) := by decide +kernel
theorem dX7_failLong_8 : decode cX7_failLong 8 = .ok (.iadd, 1) := by decide +kernel
theorem dX7_failLong_9 : decode cX7_failLong 9 = .ok (.iastore, 1) := by decide +kernel
theorem dX7_failLong_10 : decode cX7_failLong 10 = .ok (.ldc2_w 344, 3) := by decide +kernel
theorem dX7_failLong_13 : decode cX7_failLong 13 = .ok (.iload_n 1, 1) := by decide +kernel
theorem dX7_failLong_14 : decode cX7_failLong 14 = .ok (.i2l, 1) := by decide +kernel
theorem dX7_failLong_15 : decode cX7_failLong 15 = .ok (.lsub, 1) := by decide +kernel
theorem dX7_failLong_16 : decode cX7_failLong 16 = .ok (.lreturn, 1) := by decide +kernel
set_option maxRecDepth 20000 in
theorem ggX7_noneIfBelow0_X7_fail : GoodIn wsX7_noneIfBelow0 wsX7_fail := goodIn_r _ [5, 6, 7, 8, 9, 10, 11, 12, 13, 14, 15, 16, 17, 18, 19, 20] (by decide +kernel) (by decide +kernel)
set_option maxRecDepth 20000 in
theorem gX7_noneIfBelow0_X7_fail : GoodIn wsX7_noneIfBelow0 (wsV RX7 80 RX7 yX7_fail wsX7_fail) := goodIn_app (goodIn_of _ (by decide +kernel)) ggX7_noneIfBelow0_X7_fail
theorem dX7_noneIfBelow0_0 : decode cX7_noneIfBelow0 0 = .ok (.iload_n 1, 1) := by decide +kernel
theorem dX7_noneIfBelow0_1 : decode cX7_noneIfBelow0 1 = .ok (.ifCond .ge 11, 3) := by decide +kernel
theorem dX7_noneIfBelow0_4 : decode cX7_noneIfBelow0 4 = .ok (.aload_n 0, 1) := by decide +kernel
theorem dX7_noneIfBelow0_5 : decode cX7_noneIfBelow0 5 = .ok (.iconst 2, 1) := by decide +kernel
theorem dX7_noneIfBelow0_6 : decode cX7_noneIfBelow0 6 = .ok (.invokevirtual 80, 3) := by decide +kernel
theorem dX7_noneIfBelow0_9 : decode cX7_noneIfBelow0 9 = .ok (.goto 4, 3) := by decide +kernel
theorem dX7_noneIfBelow0_12 : decode cX7_noneIfBelow0 12 = .ok (.iload_n 1, 1) := by decide +kernel
theorem dX7_noneIfBelow0_13 : decode cX7_noneIfBelow0 13 = .ok (.ireturn, 1) := by decide +kernel
theorem dX7_isCell_0 : decode cX7_isCell 0 = .ok (.iload_n 1, 1) := by decide +kernel
theorem dX7_isCell_1 : decode cX7_isCell 1 = .ok (.ifCond .lt 30, 3) := by decide +kernel
theorem dX7_isCell_4 : decode cX7_isCell 4 = .ok (.iload_n 1, 1) := by decide +kernel
theorem dX7_isCell_5 : decode cX7_isCell 5 = .ok (.bipush 12, 2) := by decide +kernel
theorem dX7_isCell_7 : decode cX7_isCell 7 = .ok (.if_icmp .ge 24, 3) := by decide +kernel
theorem dX7_isCell_10 : decode cX7_isCell 10 = .ok (.iload_n 2, 1) := by decide +kernel
theorem dX7_isCell_11 : decode cX7_isCell 11 = .ok (.ifCond .lt 20, 3) := by decide +kernel
theorem dX7_isCell_14 : decode cX7_isCell 14 = .ok (.iload_n 2, 1) := by decide +kernel
theorem dX7_isCell_15 : decode cX7_isCell 15 = .ok (.aload_n 0, 1) := by decide +kernel
theorem dX7_isCell_16 : decode cX7_isCell 16 = .ok (.getfield 12, 3) := by decide +kernel
theorem dX7_isCell_19 : decode cX7_isCell 19 = .ok (.getfield 84, 3) := by decide +kernel
theorem dX7_isCell_22 : decode cX7_isCell 22 = .ok (.iconst 1, 1) := by decide +kernel
theorem dX7_isCell_23 : decode cX7_isCell 23 = .ok (.isub, 1) := by decide +kernel
theorem dX7_isCell_24 : decode cX7_isCell 24 = .ok (.if_icmp .ge 7, 3) := by decide +kernel
theorem dX7_isCell_27 : decode cX7_isCell 27 = .ok (.iconst 1, 1) := by decide +kernel
theorem dX7_isCell_28 : decode cX7_isCell 28 = .ok (.goto 4, 3) := by decide +kernel
theorem dX7_isCell_31 : decode cX7_isCell 31 = .ok (.iconst 0, 1) := by decide +kernel
theorem dX7_isCell_32 : decode cX7_isCell 32 = .ok (.ireturn, 1) := by decide +kernel
set_option maxRecDepth 20000 in
theorem ggX7_holds_X7_isCell : GoodIn wsX7_holds wsX7_isCell := goodIn_r _ [7, 1, 8, 9, 10, 11, 12, 13, 14, 15, 16, 17, 18, 19, 20, 21, 22, 23, 24, 25, 26, 27, 28] (by decide +kernel) (by decide +kernel)
set_option maxRecDepth 20000 in
theorem gX7_holds_X7_isCell : GoodIn wsX7_holds (wsV RX7 99 RX7 yX7_isCell wsX7_isCell) := goodIn_app (goodIn_of _ (by decide +kernel)) ggX7_holds_X7_isCell
theorem dX7_holds_0 : decode cX7_holds 0 = .ok (.aload_n 0, 1) := by decide +kernel
theorem dX7_holds_1 : decode cX7_holds 1 = .ok (.iload_n 1, 1) := by decide +kernel
theorem dX7_holds_2 : decode cX7_holds 2 = .ok (.iload_n 2, 1) := by decide +kernel
theorem dX7_holds_3 : decode cX7_holds 3 = .ok (.invokevirtual 99, 3) := by decide +kernel
theorem dX7_holds_6 : decode cX7_holds 6 = .ok (.ifCond .eq 25, 3) := by decide +kernel
theorem dX7_holds_9 : decode cX7_holds 9 = .ok (.aload_n 0, 1) := by decide +kernel
theorem dX7_holds_10 : decode cX7_holds 10 = .ok (.getfield 12, 3) := by decide +kernel
theorem dX7_holds_13 : decode cX7_holds 13 = .ok (.getfield 87, 3) := by decide +kernel
theorem dX7_holds_16 : decode cX7_holds 16 = .ok (.iload_n 1, 1) := by decide +kernel
theorem dX7_holds_17 : decode cX7_holds 17 = .ok (.bipush 7, 2) := by decide +kernel
theorem dX7_holds_19 : decode cX7_holds 19 = .ok (.imul, 1) := by decide +kernel
theorem dX7_holds_20 : decode cX7_holds 20 = .ok (.iload_n 2, 1) := by decide +kernel
theorem dX7_holds_21 : decode cX7_holds 21 = .ok (.iadd, 1) := by decide +kernel
theorem dX7_holds_22 : decode cX7_holds 22 = .ok (.iaload, 1) := by decide +kernel
theorem dX7_holds_23 : decode cX7_holds 23 = .ok (.iconst (-1), 1) := by decide +kernel
theorem dX7_holds_24 : decode cX7_holds 24 = .ok (.if_icmp .eq 7, 3) := by decide +kernel
theorem dX7_holds_27 : decode cX7_holds 27 = .ok (.iconst 1, 1) := by decide +kernel
theorem dX7_holds_28 : decode cX7_holds 28 = .ok (.goto 4, 3) := by decide +kernel
theorem dX7_holds_31 : decode cX7_holds 31 = .ok (.iconst 0, 1) := by decide +kernel
theorem dX7_holds_32 : decode cX7_holds 32 = .ok (.ireturn, 1) := by decide +kernel
theorem dX7_isThread_0 : decode cX7_isThread 0 = .ok (.iload_n 1, 1) := by decide +kernel
theorem dX7_isThread_1 : decode cX7_isThread 1 = .ok (.ifCond .lt 20, 3) := by decide +kernel
theorem dX7_isThread_4 : decode cX7_isThread 4 = .ok (.iload_n 1, 1) := by decide +kernel
theorem dX7_isThread_5 : decode cX7_isThread 5 = .ok (.iconst 2, 1) := by decide +kernel
theorem dX7_isThread_6 : decode cX7_isThread 6 = .ok (.aload_n 0, 1) := by decide +kernel
theorem dX7_isThread_7 : decode cX7_isThread 7 = .ok (.getfield 12, 3) := by decide +kernel
theorem dX7_isThread_10 : decode cX7_isThread 10 = .ok (.getfield 84, 3) := by decide +kernel
theorem dX7_isThread_13 : decode cX7_isThread 13 = .ok (.imul, 1) := by decide +kernel
theorem dX7_isThread_14 : decode cX7_isThread 14 = .ok (.if_icmp .ge 7, 3) := by decide +kernel
theorem dX7_isThread_17 : decode cX7_isThread 17 = .ok (.iconst 1, 1) := by decide +kernel
theorem dX7_isThread_18 : decode cX7_isThread 18 = .ok (.goto 4, 3) := by decide +kernel
theorem dX7_isThread_21 : decode cX7_isThread 21 = .ok (.iconst 0, 1) := by decide +kernel
theorem dX7_isThread_22 : decode cX7_isThread 22 = .ok (.ireturn, 1) := by decide +kernel
theorem dX7_isStitch_0 : decode cX7_isStitch 0 = .ok (.lload_n 1, 1) := by decide +kernel
theorem dX7_isStitch_1 : decode cX7_isStitch 1 = .ok (.lconst 0, 1) := by decide +kernel
theorem dX7_isStitch_2 : decode cX7_isStitch 2 = .ok (.lcmp, 1) := by decide +kernel
theorem dX7_isStitch_3 : decode cX7_isStitch 3 = .ok (.ifCond .lt 20, 3) := by decide +kernel
theorem dX7_isStitch_6 : decode cX7_isStitch 6 = .ok (.lload_n 1, 1) := by decide +kernel
theorem dX7_isStitch_7 : decode cX7_isStitch 7 = .ok (.aload_n 0, 1) := by decide +kernel
theorem dX7_isStitch_8 : decode cX7_isStitch 8 = .ok (.getfield 33, 3) := by decide +kernel
theorem dX7_isStitch_11 : decode cX7_isStitch 11 = .ok (.getfield 119, 3) := by decide +kernel
theorem dX7_isStitch_14 : decode cX7_isStitch 14 = .ok (.i2l, 1) := by decide +kernel
theorem dX7_isStitch_15 : decode cX7_isStitch 15 = .ok (.lcmp, 1) := by decide +kernel
theorem dX7_isStitch_16 : decode cX7_isStitch 16 = .ok (.ifCond .ge 7, 3) := by decide +kernel
theorem dX7_isStitch_19 : decode cX7_isStitch 19 = .ok (.iconst 1, 1) := by decide +kernel
theorem dX7_isStitch_20 : decode cX7_isStitch 20 = .ok (.goto 4, 3) := by decide +kernel
theorem dX7_isStitch_23 : decode cX7_isStitch 23 = .ok (.iconst 0, 1) := by decide +kernel
theorem dX7_isStitch_24 : decode cX7_isStitch 24 = .ok (.ireturn, 1) := by decide +kernel
theorem dX7_isKind_0 : decode cX7_isKind 0 = .ok (.iload_n 0, 1) := by decide +kernel
theorem dX7_isKind_1 : decode cX7_isKind 1 = .ok (.ifCond .lt 13, 3) := by decide +kernel
theorem dX7_isKind_4 : decode cX7_isKind 4 = .ok (.iload_n 0, 1) := by decide +kernel
theorem dX7_isKind_5 : decode cX7_isKind 5 = .ok (.bipush 6, 2) := by decide +kernel
theorem dX7_isKind_7 : decode cX7_isKind 7 = .ok (.if_icmp .ge 7, 3) := by decide +kernel
theorem dX7_isKind_10 : decode cX7_isKind 10 = .ok (.iconst 1, 1) := by decide +kernel
theorem dX7_isKind_11 : decode cX7_isKind 11 = .ok (.goto 4, 3) := by decide +kernel
theorem dX7_isKind_14 : decode cX7_isKind 14 = .ok (.iconst 0, 1) := by decide +kernel
theorem dX7_isKind_15 : decode cX7_isKind 15 = .ok (.ireturn, 1) := by decide +kernel
theorem dX7_isSheet_0 : decode cX7_isSheet 0 = .ok (.iload_n 0, 1) := by decide +kernel
theorem dX7_isSheet_1 : decode cX7_isSheet 1 = .ok (.ifCond .lt 12, 3) := by decide +kernel
theorem dX7_isSheet_4 : decode cX7_isSheet 4 = .ok (.iload_n 0, 1) := by decide +kernel
theorem dX7_isSheet_5 : decode cX7_isSheet 5 = .ok (.iconst 4, 1) := by decide +kernel
theorem dX7_isSheet_6 : decode cX7_isSheet 6 = .ok (.if_icmp .ge 7, 3) := by decide +kernel
theorem dX7_isSheet_9 : decode cX7_isSheet 9 = .ok (.iconst 1, 1) := by decide +kernel
theorem dX7_isSheet_10 : decode cX7_isSheet 10 = .ok (.goto 4, 3) := by decide +kernel
theorem dX7_isSheet_13 : decode cX7_isSheet 13 = .ok (.iconst 0, 1) := by decide +kernel
theorem dX7_isSheet_14 : decode cX7_isSheet 14 = .ok (.ireturn, 1) := by decide +kernel
theorem dX7_sumOf_0 : decode cX7_sumOf 0 = .ok (.iconst 0, 1) := by decide +kernel
theorem dX7_sumOf_1 : decode cX7_sumOf 1 = .ok (.istore_n 2, 1) := by decide +kernel
theorem dX7_sumOf_2 : decode cX7_sumOf 2 = .ok (.iconst 0, 1) := by decide +kernel
theorem dX7_sumOf_3 : decode cX7_sumOf 3 = .ok (.istore_n 3, 1) := by decide +kernel
theorem dX7_sumOf_4 : decode cX7_sumOf 4 = .ok (.iload_n 3, 1) := by decide +kernel
theorem dX7_sumOf_5 : decode cX7_sumOf 5 = .ok (.iload_n 1, 1) := by decide +kernel
theorem dX7_sumOf_6 : decode cX7_sumOf 6 = .ok (.if_icmp .ge 21, 3) := by decide +kernel
theorem dX7_sumOf_9 : decode cX7_sumOf 9 = .ok (.iload_n 3, 1) := by decide +kernel
theorem dX7_sumOf_10 : decode cX7_sumOf 10 = .ok (.aload_n 0, 1) := by decide +kernel
theorem dX7_sumOf_11 : decode cX7_sumOf 11 = .ok (.arraylength, 1) := by decide +kernel
theorem dX7_sumOf_12 : decode cX7_sumOf 12 = .ok (.if_icmp .ge 15, 3) := by decide +kernel
theorem dX7_sumOf_15 : decode cX7_sumOf 15 = .ok (.iload_n 2, 1) := by decide +kernel
theorem dX7_sumOf_16 : decode cX7_sumOf 16 = .ok (.aload_n 0, 1) := by decide +kernel
theorem dX7_sumOf_17 : decode cX7_sumOf 17 = .ok (.iload_n 3, 1) := by decide +kernel
theorem dX7_sumOf_18 : decode cX7_sumOf 18 = .ok (.iaload, 1) := by decide +kernel
theorem dX7_sumOf_19 : decode cX7_sumOf 19 = .ok (.iadd, 1) := by decide +kernel
theorem dX7_sumOf_20 : decode cX7_sumOf 20 = .ok (.istore_n 2, 1) := by decide +kernel
theorem dX7_sumOf_21 : decode cX7_sumOf 21 = .ok (.iinc 3 1, 3) := by decide +kernel
theorem dX7_sumOf_24 : decode cX7_sumOf 24 = .ok (.goto (-20), 3) := by decide +kernel
theorem dX7_sumOf_27 : decode cX7_sumOf 27 = .ok (.iload_n 2, 1) := by decide +kernel
theorem dX7_sumOf_28 : decode cX7_sumOf 28 = .ok (.ireturn, 1) := by decide +kernel
set_option maxRecDepth 20000 in
theorem ggX7_beginAnew_X6_clear : GoodIn wsX7_beginAnew wsX6_clear := goodIn_r _ [9, 10, 11, 12, 13, 14, 15, 16, 17, 18, 19, 20, 8, 21, 22, 23, 24, 25, 26, 27, 28, 29, 30, 31, 32, 33, 34, 35, 36, 91, 92, 93, 94, 95, 96, 97, 98, 99, 100, 101, 102, 103] (by decide +kernel) (by decide +kernel)
set_option maxRecDepth 20000 in
theorem gX7_beginAnew_X6_clear : GoodIn wsX7_beginAnew (wsV RX7 346 RX6 yX6_clear wsX6_clear) := goodIn_app (goodIn_of _ (by decide +kernel)) ggX7_beginAnew_X6_clear
set_option maxRecDepth 20000 in
theorem ggX7_beginAnew_X7_regard : GoodIn wsX7_beginAnew wsX7_regard := goodIn_r _ [41, 42, 1, 43, 44, 45, 46, 47, 48, 49, 50, 51, 52, 53, 54, 55, 56, 57, 58, 59, 60, 61, 62, 63, 64, 65, 66, 67, 68, 69, 70, 71, 72, 73, 74, 75, 76, 77, 78, 79, 80, 81, 82, 83, 104, 105, 106, 107, 108, 109, 110, 111, 112, 113, 114, 115, 116, 117, 84, 85, 86, 87, 88, 89, 90] (by decide +kernel) (by decide +kernel)
set_option maxRecDepth 20000 in
theorem gX7_beginAnew_X7_regard : GoodIn wsX7_beginAnew (wsV RX7 329 RX7 yX7_regard wsX7_regard) := goodIn_app (goodIn_of _ (by decide +kernel)) ggX7_beginAnew_X7_regard
theorem dX7_beginAnew_0 : decode cX7_beginAnew 0 = .ok (.aload_n 0, 1) := by decide +kernel
theorem dX7_beginAnew_1 : decode cX7_beginAnew 1 = .ok (.getfield 12, 3) := by decide +kernel
theorem dX7_beginAnew_4 : decode cX7_beginAnew 4 = .ok (.iconst 0, 1) := by decide +kernel
theorem dX7_beginAnew_5 : decode cX7_beginAnew 5 = .ok (.putfield 169, 3) := by decide +kernel
theorem dX7_beginAnew_8 : decode cX7_beginAnew 8 = .ok (.aload_n 0, 1) := by decide +kernel
theorem dX7_beginAnew_9 : decode cX7_beginAnew 9 = .ok (.getfield 47, 3) := by decide +kernel
theorem dX7_beginAnew_12 : decode cX7_beginAnew 12 = .ok (.invokevirtual 346, 3) := by decide +kernel
theorem dX7_beginAnew_15 : decode cX7_beginAnew 15 = .ok (.aload_n 0, 1) := by decide +kernel
theorem dX7_beginAnew_16 : decode cX7_beginAnew 16 = .ok (.lconst 0, 1) := by decide +kernel
theorem dX7_beginAnew_17 : decode cX7_beginAnew 17 = .ok (.putfield 58, 3) := by decide +kernel
theorem dX7_beginAnew_20 : decode cX7_beginAnew 20 = .ok (.aload_n 0, 1) := by decide +kernel
theorem dX7_beginAnew_21 : decode cX7_beginAnew 21 = .ok (.invokevirtual 329, 3) := by decide +kernel
theorem dX7_beginAnew_24 : decode cX7_beginAnew 24 = .ok (.return_, 1) := by decide +kernel
set_option maxRecDepth 20000 in
theorem ggX7_regard_X0_gather : GoodIn wsX7_regard wsX0_gather := goodIn_r _ [10, 11, 12, 13, 14, 15, 16, 17, 9, 18, 19, 20, 21, 22, 23, 24, 25, 26, 27, 28, 29, 30, 50, 51, 52, 53, 54, 55, 56, 57, 58, 59, 60, 61, 62, 63, 64] (by decide +kernel) (by decide +kernel)
set_option maxRecDepth 20000 in
theorem gX7_regard_X0_gather : GoodIn wsX7_regard (wsV RX7 349 RX0 yX0_gather wsX0_gather) := goodIn_app (goodIn_of _ (by decide +kernel)) ggX7_regard_X0_gather
theorem dX7_regard_0 : decode cX7_regard 0 = .ok (.aload_n 0, 1) := by decide +kernel
theorem dX7_regard_1 : decode cX7_regard 1 = .ok (.getfield 33, 3) := by decide +kernel
theorem dX7_regard_4 : decode cX7_regard 4 = .ok (.aload_n 0, 1) := by decide +kernel
theorem dX7_regard_5 : decode cX7_regard 5 = .ok (.getfield 12, 3) := by decide +kernel
theorem dX7_regard_8 : decode cX7_regard 8 = .ok (.invokevirtual 349, 3) := by decide +kernel
theorem dX7_regard_11 : decode cX7_regard 11 = .ok (.aload_n 0, 1) := by decide +kernel
theorem dX7_regard_12 : decode cX7_regard 12 = .ok (.getfield 40, 3) := by decide +kernel
theorem dX7_regard_15 : decode cX7_regard 15 = .ok (.iconst 0, 1) := by decide +kernel
theorem dX7_regard_16 : decode cX7_regard 16 = .ok (.putfield 352, 3) := by decide +kernel
theorem dX7_regard_19 : decode cX7_regard 19 = .ok (.aload_n 0, 1) := by decide +kernel
theorem dX7_regard_20 : decode cX7_regard 20 = .ok (.iconst (-1), 1) := by decide +kernel
theorem dX7_regard_21 : decode cX7_regard 21 = .ok (.putfield 54, 3) := by decide +kernel
theorem dX7_regard_24 : decode cX7_regard 24 = .ok (.return_, 1) := by decide +kernel
set_option maxRecDepth 20000 in
theorem ggX7_replay_X6_clear : GoodIn wsX7_replay wsX6_clear := goodIn_r _ [13, 14, 15, 16, 17, 18, 19, 20, 21, 22, 23, 24, 12, 25, 26, 27, 28, 29, 30, 31, 32, 33, 34, 35, 36, 37, 38, 39, 40, 99, 100, 101, 102, 103, 104, 105, 106, 107, 108, 109, 110, 111] (by decide +kernel) (by decide +kernel)
set_option maxRecDepth 20000 in
theorem gX7_replay_X6_clear : GoodIn wsX7_replay (wsV RX7 346 RX6 yX6_clear wsX6_clear) := goodIn_app (goodIn_of _ (by decide +kernel)) ggX7_replay_X6_clear
set_option maxRecDepth 20000 in
theorem ggX7_replay_X6_make : GoodIn wsX7_replay wsX6_make := goodIn_r _ [44, 14, 26, 45, 46, 47, 48, 49, 12, 50, 27, 20, 21, 51, 52, 53, 54, 15, 16, 19, 55, 56, 57, 58, 18, 17, 59, 60, 61, 35, 62, 39, 63, 64, 65, 66, 38, 37, 67, 68, 69, 70, 99, 100, 101, 102, 103, 104, 105, 106, 107, 108, 84, 85, 86, 87, 88, 89, 90, 109, 110, 111] (by decide +kernel) (by decide +kernel)
set_option maxRecDepth 20000 in
theorem gX7_replay_X6_make : GoodIn wsX7_replay (wsV RX7 355 RX6 yX6_make wsX6_make) := goodIn_app (goodIn_of _ (by decide +kernel)) ggX7_replay_X6_make
theorem dX7_replay_0 : decode cX7_replay 0 = .ok (.aload_n 0, 1) := by decide +kernel
theorem dX7_replay_1 : decode cX7_replay 1 = .ok (.getfield 47, 3) := by decide +kernel
theorem dX7_replay_4 : decode cX7_replay 4 = .ok (.invokevirtual 346, 3) := by decide +kernel
theorem dX7_replay_7 : decode cX7_replay 7 = .ok (.aload_n 0, 1) := by decide +kernel
theorem dX7_replay_8 : decode cX7_replay 8 = .ok (.lconst 0, 1) := by decide +kernel
theorem dX7_replay_9 : decode cX7_replay 9 = .ok (.putfield 58, 3) := by decide +kernel
theorem dX7_replay_12 : decode cX7_replay 12 = .ok (.iconst 0, 1) := by decide +kernel
theorem dX7_replay_13 : decode cX7_replay 13 = .ok (.istore_n 1, 1) := by decide +kernel
theorem dX7_replay_14 : decode cX7_replay 14 = .ok (.iload_n 1, 1) := by decide +kernel
theorem dX7_replay_15 : decode cX7_replay 15 = .ok (.aload_n 0, 1) := by decide +kernel
theorem dX7_replay_16 : decode cX7_replay 16 = .ok (.getfield 12, 3) := by decide +kernel
theorem dX7_replay_19 : decode cX7_replay 19 = .ok (.getfield 169, 3) := by decide +kernel
theorem dX7_replay_22 : decode cX7_replay 22 = .ok (.if_icmp .ge 60, 3) := by decide +kernel
theorem dX7_replay_25 : decode cX7_replay 25 = .ok (.aload_n 0, 1) := by decide +kernel
theorem dX7_replay_26 : decode cX7_replay 26 = .ok (.getfield 12, 3) := by decide +kernel
theorem dX7_replay_29 : decode cX7_replay 29 = .ok (.getfield 251, 3) := by decide +kernel
theorem dX7_replay_32 : decode cX7_replay 32 = .ok (.iload_n 1, 1) := by decide +kernel
theorem dX7_replay_33 : decode cX7_replay 33 = .ok (.iaload, 1) := by decide +kernel
theorem dX7_replay_34 : decode cX7_replay 34 = .ok (.istore_n 2, 1) := by decide +kernel
theorem dX7_replay_35 : decode cX7_replay 35 = .ok (.aload_n 0, 1) := by decide +kernel
theorem dX7_replay_36 : decode cX7_replay 36 = .ok (.getfield 47, 3) := by decide +kernel
theorem dX7_replay_39 : decode cX7_replay 39 = .ok (.aload_n 0, 1) := by decide +kernel
theorem dX7_replay_40 : decode cX7_replay 40 = .ok (.getfield 12, 3) := by decide +kernel
theorem dX7_replay_43 : decode cX7_replay 43 = .ok (.aload_n 0, 1) := by decide +kernel
theorem dX7_replay_44 : decode cX7_replay 44 = .ok (.getfield 33, 3) := by decide +kernel
theorem dX7_replay_47 : decode cX7_replay 47 = .ok (.getfield 188, 3) := by decide +kernel
theorem dX7_replay_50 : decode cX7_replay 50 = .ok (.iload_n 2, 1) := by decide +kernel
theorem dX7_replay_51 : decode cX7_replay 51 = .ok (.iaload, 1) := by decide +kernel
theorem dX7_replay_52 : decode cX7_replay 52 = .ok (.aload_n 0, 1) := by decide +kernel
theorem dX7_replay_53 : decode cX7_replay 53 = .ok (.getfield 33, 3) := by decide +kernel
theorem dX7_replay_56 : decode cX7_replay 56 = .ok (.getfield 185, 3) := by decide +kernel
theorem dX7_replay_59 : decode cX7_replay 59 = .ok (.iload_n 2, 1) := by decide +kernel
theorem dX7_replay_60 : decode cX7_replay 60 = .ok (.iaload, 1) := by decide +kernel
theorem dX7_replay_61 : decode cX7_replay 61 = .ok (.invokevirtual 355, 3) := by decide +kernel
theorem dX7_replay_64 : decode cX7_replay 64 = .ok (.aload_n 0, 1) := by decide +kernel
theorem dX7_replay_65 : decode cX7_replay 65 = .ok (.dup, 1) := by decide +kernel
theorem dX7_replay_66 : decode cX7_replay 66 = .ok (.getfield 58, 3) := by decide +kernel
theorem dX7_replay_69 : decode cX7_replay 69 = .ok (.lconst 1, 1) := by decide +kernel
theorem dX7_replay_70 : decode cX7_replay 70 = .ok (.iload_n 2, 1) := by decide +kernel
theorem dX7_replay_71 : decode cX7_replay 71 = .ok (.lshl, 1) := by decide +kernel
theorem dX7_replay_72 : decode cX7_replay 72 = .ok (.lor, 1) := by decide +kernel
theorem dX7_replay_73 : decode cX7_replay 73 = .ok (.putfield 58, 3) := by decide +kernel
theorem dX7_replay_76 : decode cX7_replay 76 = .ok (.iinc 1 1, 3) := by decide +kernel
theorem dX7_replay_79 : decode cX7_replay 79 = .ok (.goto (-65), 3) := by decide +kernel
theorem dX7_replay_82 : decode cX7_replay 82 = .ok (.return_, 1) := by decide +kernel
set_option maxRecDepth 20000 in
theorem ggX7_tryStitch_X7_isStitch : GoodIn wsX7_tryStitch wsX7_isStitch := goodIn_r _ [14, 1, 15, 93, 94, 95, 96, 97, 98, 99, 100, 101, 102, 103, 104, 105, 106, 107, 108, 109, 110, 111, 112, 113] (by decide +kernel) (by decide +kernel)
set_option maxRecDepth 20000 in
theorem gX7_tryStitch_X7_isStitch : GoodIn wsX7_tryStitch (wsV RX7 178 RX7 yX7_isStitch wsX7_isStitch) := goodIn_app (goodIn_of _ (by decide +kernel)) ggX7_tryStitch_X7_isStitch
set_option maxRecDepth 20000 in
theorem ggX7_tryStitch_X0_isFree : GoodIn wsX7_tryStitch wsX0_isFree := goodIn_r _ [20, 21, 22, 106, 107, 108, 109, 110, 111, 112, 113] (by decide +kernel) (by decide +kernel)
set_option maxRecDepth 20000 in
theorem gX7_tryStitch_X0_isFree : GoodIn wsX7_tryStitch (wsV RX7 206 RX0 yX0_isFree wsX0_isFree) := goodIn_app (goodIn_of _ (by decide +kernel)) ggX7_tryStitch_X0_isFree
set_option maxRecDepth 20000 in
theorem ggX7_tryStitch_X6_make : GoodIn wsX7_tryStitch wsX6_make := goodIn_r _ [27, 28, 29, 30, 31, 32, 33, 34, 26, 35, 36, 37, 38, 39, 40, 41, 42, 43, 44, 45, 46, 47, 48, 49, 50, 51, 52, 53, 54, 55, 56, 57, 58, 59, 60, 61, 62, 63, 64, 65, 66, 67, 121, 122, 123, 124, 125, 126, 127, 128, 129, 130, 114, 115, 116, 117, 118, 119, 120, 131, 132, 133] (by decide +kernel) (by decide +kernel)
set_option maxRecDepth 20000 in
theorem gX7_tryStitch_X6_make : GoodIn wsX7_tryStitch (wsV RX7 355 RX6 yX6_make wsX6_make) := goodIn_app (goodIn_of _ (by decide +kernel)) ggX7_tryStitch_X6_make
set_option maxRecDepth 20000 in
theorem ggX7_tryStitch_X6_leastLacking : GoodIn wsX7_tryStitch wsX6_leastLacking := goodIn_r _ [71, 28, 121, 122, 123, 124, 125, 126, 127, 128, 129, 130] (by decide +kernel) (by decide +kernel)
set_option maxRecDepth 20000 in
theorem gX7_tryStitch_X6_leastLacking : GoodIn wsX7_tryStitch (wsV RX7 287 RX6 yX6_leastLacking wsX6_leastLacking) := goodIn_app (goodIn_of _ (by decide +kernel)) ggX7_tryStitch_X6_leastLacking
set_option maxRecDepth 20000 in
theorem ggX7_tryStitch_X7_replay : GoodIn wsX7_tryStitch wsX7_replay := goodIn_r _ [75, 3, 2, 4, 9, 8, 1, 5, 6, 76, 77, 78, 26, 79, 28, 43, 44, 51, 50, 45, 37, 38, 80, 81, 82, 83, 29, 36, 84, 85, 86, 87, 88, 89, 90, 55, 91, 63, 62, 57, 92, 23, 24, 25, 27, 30, 31, 32, 33, 34, 35, 39, 40, 41, 42, 46, 47, 48, 49, 52, 53, 54, 56, 58, 59, 60, 61, 64, 65, 66, 67, 93, 94, 95, 96, 97, 98, 99, 100, 101, 102, 103, 104, 105, 114, 115, 116, 117, 118, 119, 120, 106, 107, 108, 109, 110, 111, 112, 113, 121, 122, 123, 124, 125, 126, 127, 128, 129, 130, 131, 132, 133] (by decide +kernel) (by decide +kernel)
set_option maxRecDepth 20000 in
theorem gX7_tryStitch_X7_replay : GoodIn wsX7_tryStitch (wsV RX7 248 RX7 yX7_replay wsX7_replay) := goodIn_app (goodIn_of _ (by decide +kernel)) ggX7_tryStitch_X7_replay
theorem dX7_tryStitch_0 : decode cX7_tryStitch 0 = .ok (.aload_n 0, 1) := by decide +kernel
theorem dX7_tryStitch_1 : decode cX7_tryStitch 1 = .ok (.lload_n 1, 1) := by decide +kernel
theorem dX7_tryStitch_2 : decode cX7_tryStitch 2 = .ok (.invokevirtual 178, 3) := by decide +kernel
theorem dX7_tryStitch_5 : decode cX7_tryStitch 5 = .ok (.ifCond .ne 5, 3) := by decide +kernel
theorem dX7_tryStitch_8 : decode cX7_tryStitch 8 = .ok (.iconst 1, 1) := by decide +kernel
theorem dX7_tryStitch_9 : decode cX7_tryStitch 9 = .ok (.ireturn, 1) := by decide +kernel
theorem dX7_tryStitch_10 : decode cX7_tryStitch 10 = .ok (.lload_n 1, 1) := by decide +kernel
theorem dX7_tryStitch_11 : decode cX7_tryStitch 11 = .ok (.l2i, 1) := by decide +kernel
theorem dX7_tryStitch_12 : decode cX7_tryStitch 12 = .ok (.istore_n 3, 1) := by decide +kernel
theorem dX7_tryStitch_13 : decode cX7_tryStitch 13 = .ok (.aload_n 0, 1) := by decide +kernel
theorem dX7_tryStitch_14 : decode cX7_tryStitch 14 = .ok (.getfield 33, 3) := by decide +kernel
theorem dX7_tryStitch_17 : decode cX7_tryStitch 17 = .ok (.iload_n 3, 1) := by decide +kernel
theorem dX7_tryStitch_18 : decode cX7_tryStitch 18 = .ok (.aload_n 0, 1) := by decide +kernel
theorem dX7_tryStitch_19 : decode cX7_tryStitch 19 = .ok (.getfield 58, 3) := by decide +kernel
theorem dX7_tryStitch_22 : decode cX7_tryStitch 22 = .ok (.invokevirtual 206, 3) := by decide +kernel
theorem dX7_tryStitch_25 : decode cX7_tryStitch 25 = .ok (.ifCond .ne 5, 3) := by decide +kernel
theorem dX7_tryStitch_28 : decode cX7_tryStitch 28 = .ok (.iconst 3, 1) := by decide +kernel
theorem dX7_tryStitch_29 : decode cX7_tryStitch 29 = .ok (.ireturn, 1) := by decide +kernel
theorem dX7_tryStitch_30 : decode cX7_tryStitch 30 = .ok (.aload_n 0, 1) := by decide +kernel
theorem dX7_tryStitch_31 : decode cX7_tryStitch 31 = .ok (.getfield 47, 3) := by decide +kernel
theorem dX7_tryStitch_34 : decode cX7_tryStitch 34 = .ok (.aload_n 0, 1) := by decide +kernel
theorem dX7_tryStitch_35 : decode cX7_tryStitch 35 = .ok (.getfield 12, 3) := by decide +kernel
theorem dX7_tryStitch_38 : decode cX7_tryStitch 38 = .ok (.aload_n 0, 1) := by decide +kernel
theorem dX7_tryStitch_39 : decode cX7_tryStitch 39 = .ok (.getfield 33, 3) := by decide +kernel
theorem dX7_tryStitch_42 : decode cX7_tryStitch 42 = .ok (.getfield 188, 3) := by decide +kernel
theorem dX7_tryStitch_45 : decode cX7_tryStitch 45 = .ok (.iload_n 3, 1) := by decide +kernel
theorem dX7_tryStitch_46 : decode cX7_tryStitch 46 = .ok (.iaload, 1) := by decide +kernel
theorem dX7_tryStitch_47 : decode cX7_tryStitch 47 = .ok (.aload_n 0, 1) := by decide +kernel
theorem dX7_tryStitch_48 : decode cX7_tryStitch 48 = .ok (.getfield 33, 3) := by decide +kernel
theorem dX7_tryStitch_51 : decode cX7_tryStitch 51 = .ok (.getfield 185, 3) := by decide +kernel
theorem dX7_tryStitch_54 : decode cX7_tryStitch 54 = .ok (.iload_n 3, 1) := by decide +kernel
theorem dX7_tryStitch_55 : decode cX7_tryStitch 55 = .ok (.iaload, 1) := by decide +kernel
theorem dX7_tryStitch_56 : decode cX7_tryStitch 56 = .ok (.invokevirtual 355, 3) := by decide +kernel
theorem dX7_tryStitch_59 : decode cX7_tryStitch 59 = .ok (.aload_n 0, 1) := by decide +kernel
theorem dX7_tryStitch_60 : decode cX7_tryStitch 60 = .ok (.getfield 47, 3) := by decide +kernel
theorem dX7_tryStitch_63 : decode cX7_tryStitch 63 = .ok (.aload_n 0, 1) := by decide +kernel
theorem dX7_tryStitch_64 : decode cX7_tryStitch 64 = .ok (.getfield 12, 3) := by decide +kernel
theorem dX7_tryStitch_67 : decode cX7_tryStitch 67 = .ok (.getfield 263, 3) := by decide +kernel
theorem dX7_tryStitch_70 : decode cX7_tryStitch 70 = .ok (.invokevirtual 287, 3) := by decide +kernel
theorem dX7_tryStitch_73 : decode cX7_tryStitch 73 = .ok (.ifCond .lt 10, 3) := by decide +kernel
theorem dX7_tryStitch_76 : decode cX7_tryStitch 76 = .ok (.aload_n 0, 1) := by decide +kernel
theorem dX7_tryStitch_77 : decode cX7_tryStitch 77 = .ok (.invokevirtual 248, 3) := by decide +kernel
theorem dX7_tryStitch_80 : decode cX7_tryStitch 80 = .ok (.bipush 6, 2) := by decide +kernel
theorem dX7_tryStitch_82 : decode cX7_tryStitch 82 = .ok (.ireturn, 1) := by decide +kernel
theorem dX7_tryStitch_83 : decode cX7_tryStitch 83 = .ok (.aload_n 0, 1) := by decide +kernel
theorem dX7_tryStitch_84 : decode cX7_tryStitch 84 = .ok (.dup, 1) := by decide +kernel
theorem dX7_tryStitch_85 : decode cX7_tryStitch 85 = .ok (.getfield 58, 3) := by decide +kernel
theorem dX7_tryStitch_88 : decode cX7_tryStitch 88 = .ok (.lconst 1, 1) := by decide +kernel
theorem dX7_tryStitch_89 : decode cX7_tryStitch 89 = .ok (.iload_n 3, 1) := by decide +kernel
theorem dX7_tryStitch_90 : decode cX7_tryStitch 90 = .ok (.lshl, 1) := by decide +kernel
theorem dX7_tryStitch_91 : decode cX7_tryStitch 91 = .ok (.lor, 1) := by decide +kernel
theorem dX7_tryStitch_92 : decode cX7_tryStitch 92 = .ok (.putfield 58, 3) := by decide +kernel
theorem dX7_tryStitch_95 : decode cX7_tryStitch 95 = .ok (.aload_n 0, 1) := by decide +kernel
theorem dX7_tryStitch_96 : decode cX7_tryStitch 96 = .ok (.getfield 12, 3) := by decide +kernel
theorem dX7_tryStitch_99 : decode cX7_tryStitch 99 = .ok (.getfield 251, 3) := by decide +kernel
theorem dX7_tryStitch_102 : decode cX7_tryStitch 102 = .ok (.aload_n 0, 1) := by decide +kernel
theorem dX7_tryStitch_103 : decode cX7_tryStitch 103 = .ok (.getfield 12, 3) := by decide +kernel
theorem dX7_tryStitch_106 : decode cX7_tryStitch 106 = .ok (.getfield 169, 3) := by decide +kernel
theorem dX7_tryStitch_109 : decode cX7_tryStitch 109 = .ok (.iload_n 3, 1) := by decide +kernel
theorem dX7_tryStitch_110 : decode cX7_tryStitch 110 = .ok (.iastore, 1) := by decide +kernel
theorem dX7_tryStitch_111 : decode cX7_tryStitch 111 = .ok (.aload_n 0, 1) := by decide +kernel
theorem dX7_tryStitch_112 : decode cX7_tryStitch 112 = .ok (.getfield 12, 3) := by decide +kernel
theorem dX7_tryStitch_115 : decode cX7_tryStitch 115 = .ok (.dup, 1) := by decide +kernel
theorem dX7_tryStitch_116 : decode cX7_tryStitch 116 = .ok (.getfield 169, 3) := by decide +kernel
theorem dX7_tryStitch_119 : decode cX7_tryStitch 119 = .ok (.iconst 1, 1) := by decide +kernel
theorem dX7_tryStitch_120 : decode cX7_tryStitch 120 = .ok (.iadd, 1) := by decide +kernel
theorem dX7_tryStitch_121 : decode cX7_tryStitch 121 = .ok (.putfield 169, 3) := by decide +kernel
theorem dX7_tryStitch_124 : decode cX7_tryStitch 124 = .ok (.iconst 0, 1) := by decide +kernel
theorem dX7_tryStitch_125 : decode cX7_tryStitch 125 = .ok (.ireturn, 1) := by decide +kernel
set_option maxRecDepth 20000 in
theorem ggX7_thinkStitches_X6_clear : GoodIn wsX7_thinkStitches wsX6_clear := goodIn_r _ [11, 12, 13, 14, 15, 16, 17, 18, 19, 20, 21, 22, 10, 23, 24, 25, 26, 27, 28, 29, 30, 31, 32, 33, 34, 35, 36, 37, 38, 90, 91, 92, 93, 94, 95, 96, 97, 98, 99, 100, 101, 102] (by decide +kernel) (by decide +kernel)
set_option maxRecDepth 20000 in
theorem gX7_thinkStitches_X6_clear : GoodIn wsX7_thinkStitches (wsV RX7 346 RX6 yX6_clear wsX6_clear) := goodIn_app (goodIn_of _ (by decide +kernel)) ggX7_thinkStitches_X6_clear
set_option maxRecDepth 20000 in
theorem ggX7_thinkStitches_X6_make : GoodIn wsX7_thinkStitches wsX6_make := goodIn_r _ [42, 12, 24, 43, 44, 45, 46, 47, 10, 48, 25, 18, 19, 49, 50, 51, 52, 13, 14, 17, 53, 54, 55, 56, 16, 15, 57, 58, 59, 33, 60, 37, 61, 62, 63, 64, 36, 35, 65, 66, 67, 68, 90, 91, 92, 93, 94, 95, 96, 97, 98, 99, 103, 104, 105, 106, 107, 108, 109, 100, 101, 102] (by decide +kernel) (by decide +kernel)
set_option maxRecDepth 20000 in
theorem gX7_thinkStitches_X6_make : GoodIn wsX7_thinkStitches (wsV RX7 355 RX6 yX6_make wsX6_make) := goodIn_app (goodIn_of _ (by decide +kernel)) ggX7_thinkStitches_X6_make
theorem dX7_thinkStitches_0 : decode cX7_thinkStitches 0 = .ok (.aload_n 0, 1) := by decide +kernel
theorem dX7_thinkStitches_1 : decode cX7_thinkStitches 1 = .ok (.getfield 54, 3) := by decide +kernel
theorem dX7_thinkStitches_4 : decode cX7_thinkStitches 4 = .ok (.ifCond .lt 11, 3) := by decide +kernel
theorem dX7_thinkStitches_7 : decode cX7_thinkStitches 7 = .ok (.aload_n 0, 1) := by decide +kernel
theorem dX7_thinkStitches_8 : decode cX7_thinkStitches 8 = .ok (.getfield 54, 3) := by decide +kernel
theorem dX7_thinkStitches_11 : decode cX7_thinkStitches 11 = .ok (.iload_n 1, 1) := by decide +kernel
theorem dX7_thinkStitches_12 : decode cX7_thinkStitches 12 = .ok (.if_icmp .le 15, 3) := by decide +kernel
theorem dX7_thinkStitches_15 : decode cX7_thinkStitches 15 = .ok (.aload_n 0, 1) := by decide +kernel
theorem dX7_thinkStitches_16 : decode cX7_thinkStitches 16 = .ok (.getfield 51, 3) := by decide +kernel
theorem dX7_thinkStitches_19 : decode cX7_thinkStitches 19 = .ok (.invokevirtual 346, 3) := by decide +kernel
theorem dX7_thinkStitches_22 : decode cX7_thinkStitches 22 = .ok (.aload_n 0, 1) := by decide +kernel
theorem dX7_thinkStitches_23 : decode cX7_thinkStitches 23 = .ok (.iconst 0, 1) := by decide +kernel
theorem dX7_thinkStitches_24 : decode cX7_thinkStitches 24 = .ok (.putfield 54, 3) := by decide +kernel
theorem dX7_thinkStitches_27 : decode cX7_thinkStitches 27 = .ok (.aload_n 0, 1) := by decide +kernel
theorem dX7_thinkStitches_28 : decode cX7_thinkStitches 28 = .ok (.getfield 54, 3) := by decide +kernel
theorem dX7_thinkStitches_31 : decode cX7_thinkStitches 31 = .ok (.istore_n 2, 1) := by decide +kernel
theorem dX7_thinkStitches_32 : decode cX7_thinkStitches 32 = .ok (.iload_n 2, 1) := by decide +kernel
theorem dX7_thinkStitches_33 : decode cX7_thinkStitches 33 = .ok (.iload_n 1, 1) := by decide +kernel
theorem dX7_thinkStitches_34 : decode cX7_thinkStitches 34 = .ok (.if_icmp .ge 38, 3) := by decide +kernel
theorem dX7_thinkStitches_37 : decode cX7_thinkStitches 37 = .ok (.aload_n 0, 1) := by decide +kernel
theorem dX7_thinkStitches_38 : decode cX7_thinkStitches 38 = .ok (.getfield 51, 3) := by decide +kernel
theorem dX7_thinkStitches_41 : decode cX7_thinkStitches 41 = .ok (.aload_n 0, 1) := by decide +kernel
theorem dX7_thinkStitches_42 : decode cX7_thinkStitches 42 = .ok (.getfield 12, 3) := by decide +kernel
theorem dX7_thinkStitches_45 : decode cX7_thinkStitches 45 = .ok (.aload_n 0, 1) := by decide +kernel
theorem dX7_thinkStitches_46 : decode cX7_thinkStitches 46 = .ok (.getfield 33, 3) := by decide +kernel
theorem dX7_thinkStitches_49 : decode cX7_thinkStitches 49 = .ok (.getfield 188, 3) := by decide +kernel
theorem dX7_thinkStitches_52 : decode cX7_thinkStitches 52 = .ok (.iload_n 2, 1) := by decide +kernel
theorem dX7_thinkStitches_53 : decode cX7_thinkStitches 53 = .ok (.iaload, 1) := by decide +kernel
theorem dX7_thinkStitches_54 : decode cX7_thinkStitches 54 = .ok (.aload_n 0, 1) := by decide +kernel
theorem dX7_thinkStitches_55 : decode cX7_thinkStitches 55 = .ok (.getfield 33, 3) := by decide +kernel
theorem dX7_thinkStitches_58 : decode cX7_thinkStitches 58 = .ok (.getfield 185, 3) := by decide +kernel
theorem dX7_thinkStitches_61 : decode cX7_thinkStitches 61 = .ok (.iload_n 2, 1) := by decide +kernel
theorem dX7_thinkStitches_62 : decode cX7_thinkStitches 62 = .ok (.iaload, 1) := by decide +kernel
theorem dX7_thinkStitches_63 : decode cX7_thinkStitches 63 = .ok (.invokevirtual 355, 3) := by decide +kernel
theorem dX7_thinkStitches_66 : decode cX7_thinkStitches 66 = .ok (.iinc 2 1, 3) := by decide +kernel
theorem dX7_thinkStitches_69 : decode cX7_thinkStitches 69 = .ok (.goto (-37), 3) := by decide +kernel
theorem dX7_thinkStitches_72 : decode cX7_thinkStitches 72 = .ok (.aload_n 0, 1) := by decide +kernel
theorem dX7_thinkStitches_73 : decode cX7_thinkStitches 73 = .ok (.iload_n 1, 1) := by decide +kernel
theorem dX7_thinkStitches_74 : decode cX7_thinkStitches 74 = .ok (.putfield 54, 3) := by decide +kernel
theorem dX7_thinkStitches_77 : decode cX7_thinkStitches 77 = .ok (.return_, 1) := by decide +kernel
set_option maxRecDepth 20000 in
theorem ggX7_thinkWord_X6_clear : GoodIn wsX7_thinkWord wsX6_clear := goodIn_r _ [8, 9, 10, 11, 12, 13, 14, 15, 16, 17, 18, 19, 7, 20, 21, 22, 23, 24, 25, 26, 27, 28, 29, 30, 31, 32, 33, 34, 35, 79, 80, 81, 82, 83, 84, 85, 86, 87, 88, 89, 90, 91] (by decide +kernel) (by decide +kernel)
set_option maxRecDepth 20000 in
theorem gX7_thinkWord_X6_clear : GoodIn wsX7_thinkWord (wsV RX7 346 RX6 yX6_clear wsX6_clear) := goodIn_app (goodIn_of _ (by decide +kernel)) ggX7_thinkWord_X6_clear
set_option maxRecDepth 20000 in
theorem ggX7_thinkWord_X6_make : GoodIn wsX7_thinkWord wsX6_make := goodIn_r _ [39, 9, 21, 40, 41, 42, 43, 44, 7, 45, 22, 15, 16, 46, 47, 48, 49, 10, 11, 14, 50, 51, 52, 53, 13, 12, 54, 55, 56, 30, 57, 34, 58, 59, 60, 61, 33, 32, 62, 63, 64, 65, 79, 80, 81, 82, 83, 84, 85, 86, 87, 88, 92, 93, 94, 95, 96, 97, 98, 89, 90, 91] (by decide +kernel) (by decide +kernel)
set_option maxRecDepth 20000 in
theorem gX7_thinkWord_X6_make : GoodIn wsX7_thinkWord (wsV RX7 355 RX6 yX6_make wsX6_make) := goodIn_app (goodIn_of _ (by decide +kernel)) ggX7_thinkWord_X6_make
theorem dX7_thinkWord_0 : decode cX7_thinkWord 0 = .ok (.aload_n 0, 1) := by decide +kernel
theorem dX7_thinkWord_1 : decode cX7_thinkWord 1 = .ok (.getfield 51, 3) := by decide +kernel
theorem dX7_thinkWord_4 : decode cX7_thinkWord 4 = .ok (.invokevirtual 346, 3) := by decide +kernel
theorem dX7_thinkWord_7 : decode cX7_thinkWord 7 = .ok (.aload_n 0, 1) := by decide +kernel
theorem dX7_thinkWord_8 : decode cX7_thinkWord 8 = .ok (.getfield 51, 3) := by decide +kernel
theorem dX7_thinkWord_11 : decode cX7_thinkWord 11 = .ok (.aload_n 0, 1) := by decide +kernel
theorem dX7_thinkWord_12 : decode cX7_thinkWord 12 = .ok (.getfield 12, 3) := by decide +kernel
theorem dX7_thinkWord_15 : decode cX7_thinkWord 15 = .ok (.iload_n 1, 1) := by decide +kernel
theorem dX7_thinkWord_16 : decode cX7_thinkWord 16 = .ok (.iconst 0, 1) := by decide +kernel
theorem dX7_thinkWord_17 : decode cX7_thinkWord 17 = .ok (.invokevirtual 355, 3) := by decide +kernel
theorem dX7_thinkWord_20 : decode cX7_thinkWord 20 = .ok (.aload_n 0, 1) := by decide +kernel
theorem dX7_thinkWord_21 : decode cX7_thinkWord 21 = .ok (.iconst (-1), 1) := by decide +kernel
theorem dX7_thinkWord_22 : decode cX7_thinkWord 22 = .ok (.putfield 54, 3) := by decide +kernel
theorem dX7_thinkWord_25 : decode cX7_thinkWord 25 = .ok (.return_, 1) := by decide +kernel
set_option maxRecDepth 20000 in
theorem ggX7_weaveOf_X7_thinkStitches : GoodIn wsX7_weaveOf wsX7_thinkStitches := goodIn_r _ [9, 10, 4, 11, 2, 12, 13, 14, 15, 16, 17, 18, 19, 20, 21, 22, 23, 24, 25, 26, 27, 28, 29, 30, 31, 32, 33, 34, 35, 36, 37, 38, 39, 40, 41, 42, 43, 44, 45, 46, 47, 48, 49, 50, 51, 52, 53, 54, 55, 56, 57, 58, 59, 60, 61, 62, 63, 64, 65, 66, 67, 68, 69, 70, 71, 72, 73, 74, 75, 76, 77, 78, 79, 80, 81, 82, 83, 84, 85, 86, 87, 88, 89, 90, 91, 92, 93, 94, 95, 96, 97, 98, 99, 100, 101, 102, 103, 104, 105, 106, 107, 108, 109, 110, 111, 112, 113, 114, 115, 116] (by decide +kernel) (by decide +kernel)
set_option maxRecDepth 20000 in
theorem gX7_weaveOf_X7_thinkStitches : GoodIn wsX7_weaveOf (wsV RX7 266 RX7 yX7_thinkStitches wsX7_thinkStitches) := goodIn_app (goodIn_of _ (by decide +kernel)) ggX7_weaveOf_X7_thinkStitches
theorem dX7_weaveOf_0 : decode cX7_weaveOf 0 = .ok (.iload_n 1, 1) := by decide +kernel
theorem dX7_weaveOf_1 : decode cX7_weaveOf 1 = .ok (.ifCond .ne 8, 3) := by decide +kernel
theorem dX7_weaveOf_4 : decode cX7_weaveOf 4 = .ok (.aload_n 0, 1) := by decide +kernel
theorem dX7_weaveOf_5 : decode cX7_weaveOf 5 = .ok (.getfield 47, 3) := by decide +kernel
theorem dX7_weaveOf_8 : decode cX7_weaveOf 8 = .ok (.areturn, 1) := by decide +kernel
theorem dX7_weaveOf_9 : decode cX7_weaveOf 9 = .ok (.aload_n 0, 1) := by decide +kernel
theorem dX7_weaveOf_10 : decode cX7_weaveOf 10 = .ok (.aload_n 0, 1) := by decide +kernel
theorem dX7_weaveOf_11 : decode cX7_weaveOf 11 = .ok (.getfield 33, 3) := by decide +kernel
theorem dX7_weaveOf_14 : decode cX7_weaveOf 14 = .ok (.getfield 119, 3) := by decide +kernel
theorem dX7_weaveOf_17 : decode cX7_weaveOf 17 = .ok (.invokevirtual 266, 3) := by decide +kernel
theorem dX7_weaveOf_20 : decode cX7_weaveOf 20 = .ok (.aload_n 0, 1) := by decide +kernel
theorem dX7_weaveOf_21 : decode cX7_weaveOf 21 = .ok (.getfield 51, 3) := by decide +kernel
theorem dX7_weaveOf_24 : decode cX7_weaveOf 24 = .ok (.areturn, 1) := by decide +kernel
set_option maxRecDepth 20000 in
theorem ggX8_init_J0_length_8abf5 : GoodIn wsX8_init wsJ0_length_8abf5 := goodIn_r _ [38, 39, 40, 41, 42, 37, 43, 44, 45] (by decide +kernel) (by decide +kernel)
set_option maxRecDepth 20000 in
theorem gX8_init_J0_length_8abf5 : GoodIn wsX8_init (wsV RX8 106 RJ0 yJ0_length_8abf5 wsJ0_length_8abf5) := goodIn_app (goodIn_of _ (by decide +kernel)) ggX8_init_J0_length_8abf5
set_option maxRecDepth 20000 in
theorem ggX8_init_J0_charAt_5068e : GoodIn wsX8_init wsJ0_charAt_5068e := goodIn_r _ [49, 39, 50, 51, 52, 37, 53, 44, 45, 54, 55, 56, 57, 58, 59, 60, 61, 62, 63, 64, 65, 66, 67, 68, 69, 70, 71, 72, 73, 74, 75, 76, 77, 78, 79, 80, 81, 82] (by decide +kernel) (by decide +kernel)
set_option maxRecDepth 20000 in
theorem gX8_init_J0_charAt_5068e : GoodIn wsX8_init (wsV RX8 110 RJ0 yJ0_charAt_5068e wsJ0_charAt_5068e) := goodIn_app (goodIn_of _ (by decide +kernel)) ggX8_init_J0_charAt_5068e
set_option maxRecDepth 20000 in
theorem ggX8_init_X8_lists : GoodIn wsX8_init wsX8_lists := goodIn_r _ [87, 88, 89, 90, 91, 86, 92, 5, 93, 94, 95, 96, 97, 98, 99, 100, 9, 10, 11, 14, 12, 101, 102, 103, 104, 105, 106, 107, 108, 109, 110, 111, 112, 113, 114, 115, 116, 117, 118, 119, 120, 121, 122, 123, 124, 125, 126, 127, 128, 129, 130, 131, 132, 133] (by decide +kernel) (by decide +kernel)
set_option maxRecDepth 20000 in
theorem gX8_init_X8_lists : GoodIn wsX8_init (wsV RX8 114 RX8 yX8_lists wsX8_lists) := goodIn_app (goodIn_of _ (by decide +kernel)) ggX8_init_X8_lists
theorem dX8_init_0 : decode cX8_init 0 = .ok (.aload_n 0, 1) := by decide +kernel
theorem dX8_init_1 : decode cX8_init 1 = .ok (.invokespecial 3, 3) := by decide +kernel
theorem dX8_init_4 : decode cX8_init 4 = .ok (.aload_n 0, 1) := by decide +kernel
theorem dX8_init_5 : decode cX8_init 5 = .ok (.sipush 204, 3) := by decide +kernel
theorem dX8_init_8 : decode cX8_init 8 = .ok (.newarray .int, 2) := by decide +kernel
theorem dX8_init_10 : decode cX8_init 10 = .ok (.putfield 9, 3) := by decide +kernel
theorem dX8_init_13 : decode cX8_init 13 = .ok (.aload_n 0, 1) := by decide +kernel
theorem dX8_init_14 : decode cX8_init 14 = .ok (.sipush 204, 3) := by decide +kernel
theorem dX8_init_17 : decode cX8_init 17 = .ok (.newarray .int, 2) := by decide +kernel
theorem dX8_init_19 : decode cX8_init 19 = .ok (.putfield 13, 3) := by decide +kernel
theorem dX8_init_22 : decode cX8_init 22 = .ok (.aload_n 0, 1) := by decide +kernel
theorem dX8_init_23 : decode cX8_init 23 = .ok (.sipush 204, 3) := by decide +kernel
theorem dX8_init_26 : decode cX8_init 26 = .ok (.newarray .int, 2) := by decide +kernel
theorem dX8_init_28 : decode cX8_init 28 = .ok (.putfield 16, 3) := by decide +kernel
theorem dX8_init_31 : decode cX8_init 31 = .ok (.aload_n 0, 1) := by decide +kernel
theorem dX8_init_32 : decode cX8_init 32 = .ok (.bipush 8, 2) := by decide +kernel
theorem dX8_init_34 : decode cX8_init 34 = .ok (.newarray .int, 2) := by decide +kernel
theorem dX8_init_36 : decode cX8_init 36 = .ok (.putfield 19, 3) := by decide +kernel
theorem dX8_init_39 : decode cX8_init 39 = .ok (.aload_n 0, 1) := by decide +kernel
theorem dX8_init_40 : decode cX8_init 40 = .ok (.bipush 48, 2) := by decide +kernel
theorem dX8_init_42 : decode cX8_init 42 = .ok (.newarray .int, 2) := by decide +kernel
theorem dX8_init_44 : decode cX8_init 44 = .ok (.putfield 22, 3) := by decide +kernel
theorem dX8_init_47 : decode cX8_init 47 = .ok (.aload_n 0, 1) := by decide +kernel
theorem dX8_init_48 : decode cX8_init 48 = .ok (.bipush 48, 2) := by decide +kernel
theorem dX8_init_50 : decode cX8_init 50 = .ok (.newarray .int, 2) := by decide +kernel
theorem dX8_init_52 : decode cX8_init 52 = .ok (.putfield 25, 3) := by decide +kernel
theorem dX8_init_55 : decode cX8_init 55 = .ok (.aload_n 0, 1) := by decide +kernel
theorem dX8_init_56 : decode cX8_init 56 = .ok (.bipush 48, 2) := by decide +kernel
theorem dX8_init_58 : decode cX8_init 58 = .ok (.newarray .int, 2) := by decide +kernel
theorem dX8_init_60 : decode cX8_init 60 = .ok (.putfield 28, 3) := by decide +kernel
theorem dX8_init_63 : decode cX8_init 63 = .ok (.aload_n 0, 1) := by decide +kernel
theorem dX8_init_64 : decode cX8_init 64 = .ok (.bipush 48, 2) := by decide +kernel
theorem dX8_init_66 : decode cX8_init 66 = .ok (.newarray .int, 2) := by decide +kernel
theorem dX8_init_68 : decode cX8_init 68 = .ok (.putfield 31, 3) := by decide +kernel
theorem dX8_init_71 : decode cX8_init 71 = .ok (.aload_n 0, 1) := by decide +kernel
theorem dX8_init_72 : decode cX8_init 72 = .ok (.bipush 48, 2) := by decide +kernel
theorem dX8_init_74 : decode cX8_init 74 = .ok (.newarray .long, 2) := by decide +kernel
theorem dX8_init_76 : decode cX8_init 76 = .ok (.putfield 34, 3) := by decide +kernel
theorem dX8_init_79 : decode cX8_init 79 = .ok (.aload_n 0, 1) := by decide +kernel
theorem dX8_init_80 : decode cX8_init 80 = .ok (.bipush 120, 2) := by decide +kernel
theorem dX8_init_82 : decode cX8_init 82 = .ok (.newarray .int, 2) := by decide +kernel
theorem dX8_init_84 : decode cX8_init 84 = .ok (.putfield 38, 3) := by decide +kernel
theorem dX8_init_87 : decode cX8_init 87 = .ok (.aload_n 0, 1) := by decide +kernel
theorem dX8_init_88 : decode cX8_init 88 = .ok (.bipush 16, 2) := by decide +kernel
theorem dX8_init_90 : decode cX8_init 90 = .ok (.newarray .int, 2) := by decide +kernel
theorem dX8_init_92 : decode cX8_init 92 = .ok (.putfield 41, 3) := by decide +kernel
theorem dX8_init_95 : decode cX8_init 95 = .ok (.aload_n 0, 1) := by decide +kernel
theorem dX8_init_96 : decode cX8_init 96 = .ok (.bipush 16, 2) := by decide +kernel
theorem dX8_init_98 : decode cX8_init 98 = .ok (.newarray .int, 2) := by decide +kernel
theorem dX8_init_100 : decode cX8_init 100 = .ok (.putfield 44, 3) := by decide +kernel
theorem dX8_init_103 : decode cX8_init 103 = .ok (.aload_n 0, 1) := by decide +kernel
theorem dX8_init_104 : decode cX8_init 104 = .ok (.sipush 800, 3) := by decide +kernel
theorem dX8_init_107 : decode cX8_init 107 = .ok (.newarray .int, 2) := by decide +kernel
theorem dX8_init_109 : decode cX8_init 109 = .ok (.putfield 47, 3) := by decide +kernel
theorem dX8_init_112 : decode cX8_init 112 = .ok (.aload_n 0, 1) := by decide +kernel
theorem dX8_init_113 : decode cX8_init 113 = .ok (.sipush 800, 3) := by decide +kernel
theorem dX8_init_116 : decode cX8_init 116 = .ok (.newarray .int, 2) := by decide +kernel
theorem dX8_init_118 : decode cX8_init 118 = .ok (.putfield 50, 3) := by decide +kernel
theorem dX8_init_121 : decode cX8_init 121 = .ok (.aload_n 0, 1) := by decide +kernel
theorem dX8_init_122 : decode cX8_init 122 = .ok (.sipush 800, 3) := by decide +kernel
theorem dX8_init_125 : decode cX8_init 125 = .ok (.newarray .int, 2) := by decide +kernel
theorem dX8_init_127 : decode cX8_init 127 = .ok (.putfield 53, 3) := by decide +kernel
theorem dX8_init_130 : decode cX8_init 130 = .ok (.aload_n 0, 1) := by decide +kernel
theorem dX8_init_131 : decode cX8_init 131 = .ok (.sipush 800, 3) := by decide +kernel
theorem dX8_init_134 : decode cX8_init 134 = .ok (.newarray .int, 2) := by decide +kernel
theorem dX8_init_136 : decode cX8_init 136 = .ok (.putfield 56, 3) := by decide +kernel
theorem dX8_init_139 : decode cX8_init 139 = .ok (.aload_n 0, 1) := by decide +kernel
theorem dX8_init_140 : decode cX8_init 140 = .ok (.sipush 800, 3) := by decide +kernel
theorem dX8_init_143 : decode cX8_init 143 = .ok (.newarray .int, 2) := by decide +kernel
theorem dX8_init_145 : decode cX8_init 145 = .ok (.putfield 59, 3) := by decide +kernel
theorem dX8_init_148 : decode cX8_init 148 = .ok (.aload_n 0, 1) := by decide +kernel
theorem dX8_init_149 : decode cX8_init 149 = .ok (.sipush 800, 3) := by decide +kernel
theorem dX8_init_152 : decode cX8_init 152 = .ok (.newarray .int, 2) := by decide +kernel
theorem dX8_init_154 : decode cX8_init 154 = .ok (.putfield 62, 3) := by decide +kernel
theorem dX8_init_157 : decode cX8_init 157 = .ok (.aload_n 0, 1) := by decide +kernel
theorem dX8_init_158 : decode cX8_init 158 = .ok (.sipush 800, 3) := by decide +kernel
theorem dX8_init_161 : decode cX8_init 161 = .ok (.newarray .int, 2) := by decide +kernel
theorem dX8_init_163 : decode cX8_init 163 = .ok (.putfield 65, 3) := by decide +kernel
theorem dX8_init_166 : decode cX8_init 166 = .ok (.aload_n 0, 1) := by decide +kernel
theorem dX8_init_167 : decode cX8_init 167 = .ok (.sipush 800, 3) := by decide +kernel
theorem dX8_init_170 : decode cX8_init 170 = .ok (.newarray .int, 2) := by decide +kernel
theorem dX8_init_172 : decode cX8_init 172 = .ok (.putfield 68, 3) := by decide +kernel
theorem dX8_init_175 : decode cX8_init 175 = .ok (.aload_n 0, 1) := by decide +kernel
theorem dX8_init_176 : decode cX8_init 176 = .ok (.bipush 48, 2) := by decide +kernel
theorem dX8_init_178 : decode cX8_init 178 = .ok (.newarray .int, 2) := by decide +kernel
theorem dX8_init_180 : decode cX8_init 180 = .ok (.putfield 71, 3) := by decide +kernel
theorem dX8_init_183 : decode cX8_init 183 = .ok (.aload_n 0, 1) := by decide +kernel
theorem dX8_init_184 : decode cX8_init 184 = .ok (.sipush 8192, 3) := by decide +kernel
theorem dX8_init_187 : decode cX8_init 187 = .ok (.newarray .int, 2) := by decide +kernel
theorem dX8_init_189 : decode cX8_init 189 = .ok (.putfield 74, 3) := by decide +kernel
theorem dX8_init_192 : decode cX8_init 192 = .ok (.aload_n 0, 1) := by decide +kernel
theorem dX8_init_193 : decode cX8_init 193 = .ok (.sipush 8192, 3) := by decide +kernel
theorem dX8_init_196 : decode cX8_init 196 = .ok (.newarray .long, 2) := by decide +kernel
theorem dX8_init_198 : decode cX8_init 198 = .ok (.putfield 77, 3) := by decide +kernel
theorem dX8_init_201 : decode cX8_init 201 = .ok (.aload_n 0, 1) := by decide +kernel
theorem dX8_init_202 : decode cX8_init 202 = .ok (.iconst 4, 1) := by decide +kernel
theorem dX8_init_203 : decode cX8_init 203 = .ok (.newarray .int, 2) := by decide +kernel
theorem dX8_init_205 : decode cX8_init 205 = .ok (.dup, 1) := by decide +kernel
theorem dX8_init_206 : decode cX8_init 206 = .ok (.iconst 0, 1) := by decide +kernel
theorem dX8_init_207 : decode cX8_init 207 = .ok (.iconst (-1), 1) := by decide +kernel
theorem dX8_init_208 : decode cX8_init 208 = .ok (.iastore, 1) := by decide +kernel
theorem dX8_init_209 : decode cX8_init 209 = .ok (.dup, 1) := by decide +kernel
theorem dX8_init_210 : decode cX8_init 210 = .ok (.iconst 1, 1) := by decide +kernel
theorem dX8_init_211 : decode cX8_init 211 = .ok (.iconst (-1), 1) := by decide +kernel
theorem dX8_init_212 : decode cX8_init 212 = .ok (.iastore, 1) := by decide +kernel
theorem dX8_init_213 : decode cX8_init 213 = .ok (.dup, 1) := by decide +kernel
theorem dX8_init_214 : decode cX8_init 214 = .ok (.iconst 2, 1) := by decide +kernel
theorem dX8_init_215 : decode cX8_init 215 = .ok (.iconst (-1), 1) := by decide +kernel
theorem dX8_init_216 : decode cX8_init 216 = .ok (.iastore, 1) := by decide +kernel
theorem dX8_init_217 : decode cX8_init 217 = .ok (.dup, 1) := by decide +kernel
theorem dX8_init_218 : decode cX8_init 218 = .ok (.iconst 3, 1) := by decide +kernel
theorem dX8_init_219 : decode cX8_init 219 = .ok (.iconst (-1), 1) := by decide +kernel
theorem dX8_init_220 : decode cX8_init 220 = .ok (.iastore, 1) := by decide +kernel
theorem dX8_init_221 : decode cX8_init 221 = .ok (.putfield 80, 3) := by decide +kernel
theorem dX8_init_224 : decode cX8_init 224 = .ok (.aload_n 0, 1) := by decide +kernel
theorem dX8_init_225 : decode cX8_init 225 = .ok (.iconst 4, 1) := by decide +kernel
theorem dX8_init_226 : decode cX8_init 226 = .ok (.newarray .int, 2) := by decide +kernel
theorem dX8_init_228 : decode cX8_init 228 = .ok (.putfield 83, 3) := by decide +kernel
theorem dX8_init_231 : decode cX8_init 231 = .ok (.aload_n 0, 1) := by decide +kernel
theorem dX8_init_232 : decode cX8_init 232 = .ok (.sipush 240, 3) := by decide +kernel
theorem dX8_init_235 : decode cX8_init 235 = .ok (.newarray .long, 2) := by decide +kernel
theorem dX8_init_237 : decode cX8_init 237 = .ok (.putfield 86, 3) := by decide +kernel
theorem dX8_init_240 : decode cX8_init 240 = .ok (.aload_n 0, 1) := by decide +kernel
theorem dX8_init_241 : decode cX8_init 241 = .ok (.sipush 12800, 3) := by decide +kernel
theorem dX8_init_244 : decode cX8_init 244 = .ok (.newarray .int, 2) := by decide +kernel
theorem dX8_init_246 : decode cX8_init 246 = .ok (.putfield 89, 3) := by decide +kernel
theorem dX8_init_249 : decode cX8_init 249 = .ok (.aload_n 0, 1) := by decide +kernel
theorem dX8_init_250 : decode cX8_init 250 = .ok (.getfield 9, 3) := by decide +kernel
theorem dX8_init_253 : decode cX8_init 253 = .ok (.iconst 0, 1) := by decide +kernel
theorem dX8_init_254 : decode cX8_init 254 = .ok (.iconst 4, 1) := by decide +kernel
theorem dX8_init_255 : decode cX8_init 255 = .ok (.iastore, 1) := by decide +kernel
theorem dX8_init_256 : decode cX8_init 256 = .ok (.iconst 0, 1) := by decide +kernel
theorem dX8_init_257 : decode cX8_init 257 = .ok (.istore_n 1, 1) := by decide +kernel
theorem dX8_init_258 : decode cX8_init 258 = .ok (.iload_n 1, 1) := by decide +kernel
theorem dX8_init_259 : decode cX8_init 259 = .ok (.bipush 84, 2) := by decide +kernel
theorem dX8_init_261 : decode cX8_init 261 = .ok (.if_icmp .ge 18, 3) := by decide +kernel
theorem dX8_init_264 : decode cX8_init 264 = .ok (.aload_n 0, 1) := by decide +kernel
theorem dX8_init_265 : decode cX8_init 265 = .ok (.getfield 9, 3) := by decide +kernel
theorem dX8_init_268 : decode cX8_init 268 = .ok (.iconst 2, 1) := by decide +kernel
theorem dX8_init_269 : decode cX8_init 269 = .ok (.iload_n 1, 1) := by decide +kernel
theorem dX8_init_270 : decode cX8_init 270 = .ok (.iadd, 1) := by decide +kernel
theorem dX8_init_271 : decode cX8_init 271 = .ok (.iconst (-1), 1) := by decide +kernel
theorem dX8_init_272 : decode cX8_init 272 = .ok (.iastore, 1) := by decide +kernel
theorem dX8_init_273 : decode cX8_init 273 = .ok (.iinc 1 1, 3) := by decide +kernel
theorem dX8_init_276 : decode cX8_init 276 = .ok (.goto (-18), 3) := by decide +kernel
theorem dX8_init_279 : decode cX8_init 279 = .ok (.iconst 0, 1) := by decide +kernel
theorem dX8_init_280 : decode cX8_init 280 = .ok (.istore_n 1, 1) := by decide +kernel
theorem dX8_init_281 : decode cX8_init 281 = .ok (.iload_n 1, 1) := by decide +kernel
theorem dX8_init_282 : decode cX8_init 282 = .ok (.bipush 16, 2) := by decide +kernel
theorem dX8_init_284 : decode cX8_init 284 = .ok (.if_icmp .ge 22, 3) := by decide +kernel
theorem dX8_init_287 : decode cX8_init 287 = .ok (.aload_n 0, 1) := by decide +kernel
theorem dX8_init_288 : decode cX8_init 288 = .ok (.getfield 9, 3) := by decide +kernel
theorem dX8_init_291 : decode cX8_init 291 = .ok (.sipush 140, 3) := by decide +kernel
theorem dX8_init_294 : decode cX8_init 294 = .ok (.iload_n 1, 1) := by decide +kernel
theorem dX8_init_295 : decode cX8_init 295 = .ok (.iadd, 1) := by decide +kernel
theorem dX8_init_296 : decode cX8_init 296 = .ok (.sipush 200, 3) := by decide +kernel
theorem dX8_init_299 : decode cX8_init 299 = .ok (.iastore, 1) := by decide +kernel
theorem dX8_init_300 : decode cX8_init 300 = .ok (.iinc 1 1, 3) := by decide +kernel
theorem dX8_init_303 : decode cX8_init 303 = .ok (.goto (-22), 3) := by decide +kernel
theorem dX8_init_306 : decode cX8_init 306 = .ok (.bipush 6, 2) := by decide +kernel
theorem dX8_init_308 : decode cX8_init 308 = .ok (.anewarray 92, 3) := by decide +kernel
theorem dX8_init_311 : decode cX8_init 311 = .ok (.dup, 1) := by decide +kernel
theorem dX8_init_312 : decode cX8_init 312 = .ok (.iconst 0, 1) := by decide +kernel
theorem dX8_init_313 : decode cX8_init 313 = .ok (.ldc 94, 2) := by decide +kernel
theorem dX8_init_315 : decode cX8_init 315 = .ok (.aastore, 1) := by decide +kernel
theorem dX8_init_316 : decode cX8_init 316 = .ok (.dup, 1) := by decide +kernel
theorem dX8_init_317 : decode cX8_init 317 = .ok (.iconst 1, 1) := by decide +kernel
theorem dX8_init_318 : decode cX8_init 318 = .ok (.ldc 96, 2) := by decide +kernel
theorem dX8_init_320 : decode cX8_init 320 = .ok (.aastore, 1) := by decide +kernel
theorem dX8_init_321 : decode cX8_init 321 = .ok (.dup, 1) := by decide +kernel
theorem dX8_init_322 : decode cX8_init 322 = .ok (.iconst 2, 1) := by decide +kernel
theorem dX8_init_323 : decode cX8_init 323 = .ok (.ldc 98, 2) := by decide +kernel
theorem dX8_init_325 : decode cX8_init 325 = .ok (.aastore, 1) := by decide +kernel
theorem dX8_init_326 : decode cX8_init 326 = .ok (.dup, 1) := by decide +kernel
