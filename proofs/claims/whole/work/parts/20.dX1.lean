theorem dX1_init_0 : decode cX1_init 0 = .ok (.aload_n 0, 1) := by decide +kernel
theorem dX1_init_1 : decode cX1_init 1 = .ok (.invokespecial 1, 3) := by decide +kernel
theorem dX1_init_4 : decode cX1_init 4 = .ok (.aload_n 0, 1) := by decide +kernel
theorem dX1_init_5 : decode cX1_init 5 = .ok (.bipush 25, 2) := by decide +kernel
theorem dX1_init_7 : decode cX1_init 7 = .ok (.newarray .long, 2) := by decide +kernel
theorem dX1_init_9 : decode cX1_init 9 = .ok (.putfield 9, 3) := by decide +kernel
theorem dX1_init_12 : decode cX1_init 12 = .ok (.aload_n 0, 1) := by decide +kernel
theorem dX1_init_13 : decode cX1_init 13 = .ok (.bipush 24, 2) := by decide +kernel
theorem dX1_init_15 : decode cX1_init 15 = .ok (.newarray .long, 2) := by decide +kernel
theorem dX1_init_17 : decode cX1_init 17 = .ok (.putfield 15, 3) := by decide +kernel
theorem dX1_init_20 : decode cX1_init 20 = .ok (.return_, 1) := by decide +kernel
set_option maxRecDepth 20000 in
theorem ggX1_quotient_X3_sign : GoodIn wsX1_quotient wsX3_sign := goodIn_r _ [13, 14, 82, 83, 84] (by decide +kernel) (by decide +kernel)
set_option maxRecDepth 20000 in
theorem gX1_quotient_X3_sign : GoodIn wsX1_quotient (wsV RX1 18 RX3 yX3_sign wsX3_sign) := goodIn_app (goodIn_of _ (by decide +kernel)) ggX1_quotient_X3_sign
set_option maxRecDepth 20000 in
theorem ggX1_quotient_X3_clear : GoodIn wsX1_quotient wsX3_clear := goodIn_r _ [18, 19, 14, 82, 83, 84] (by decide +kernel) (by decide +kernel)
set_option maxRecDepth 20000 in
theorem gX1_quotient_X3_clear : GoodIn wsX1_quotient (wsV RX1 22 RX3 yX3_clear wsX3_clear) := goodIn_app (goodIn_of _ (by decide +kernel)) ggX1_quotient_X3_clear
set_option maxRecDepth 20000 in
theorem ggX1_quotient_X3_size : GoodIn wsX1_quotient wsX3_size := goodIn_r _ [23, 19, 82, 83, 84] (by decide +kernel) (by decide +kernel)
set_option maxRecDepth 20000 in
theorem gX1_quotient_X3_size : GoodIn wsX1_quotient (wsV RX1 25 RX3 yX3_size wsX3_size) := goodIn_app (goodIn_of _ (by decide +kernel)) ggX1_quotient_X3_size
set_option maxRecDepth 20000 in
theorem ggX1_quotient_X3_bits : GoodIn wsX1_quotient wsX3_bits := goodIn_r _ [27, 19, 28, 29, 30, 31, 32, 33, 34, 35, 36, 37, 82, 83, 84] (by decide +kernel) (by decide +kernel)
set_option maxRecDepth 20000 in
theorem gX1_quotient_X3_bits : GoodIn wsX1_quotient (wsV RX1 41 RX3 yX3_bits wsX3_bits) := goodIn_app (goodIn_of _ (by decide +kernel)) ggX1_quotient_X3_bits
set_option maxRecDepth 20000 in
theorem ggX1_quotient_X3_raisedLimb : GoodIn wsX1_quotient wsX3_raisedLimb := goodIn_r _ [41, 42, 43, 44, 45, 12, 46, 19, 28, 82, 83, 84] (by decide +kernel) (by decide +kernel)
set_option maxRecDepth 20000 in
theorem gX1_quotient_X3_raisedLimb : GoodIn wsX1_quotient (wsV RX1 44 RX3 yX3_raisedLimb wsX3_raisedLimb) := goodIn_app (goodIn_of _ (by decide +kernel)) ggX1_quotient_X3_raisedLimb
set_option maxRecDepth 20000 in
theorem ggX1_quotient_X1_nextLimb : GoodIn wsX1_quotient wsX1_nextLimb := goodIn_r _ [51, 52, 53, 54, 50, 55, 7, 1, 8, 56, 57, 58, 59, 60, 61, 62, 63, 64, 65, 78, 79, 80, 81] (by decide +kernel) (by decide +kernel)
set_option maxRecDepth 20000 in
theorem gX1_quotient_X1_nextLimb : GoodIn wsX1_quotient (wsV RX1 51 RX1 yX1_nextLimb wsX1_nextLimb) := goodIn_app (goodIn_of _ (by decide +kernel)) ggX1_quotient_X1_nextLimb
set_option maxRecDepth 20000 in
theorem ggX1_quotient_X1_isNothingLeft : GoodIn wsX1_quotient wsX1_isNothingLeft := goodIn_r _ [69, 2, 7, 78, 79, 80, 81] (by decide +kernel) (by decide +kernel)
set_option maxRecDepth 20000 in
theorem gX1_quotient_X1_isNothingLeft : GoodIn wsX1_quotient (wsV RX1 55 RX1 yX1_isNothingLeft wsX1_isNothingLeft) := goodIn_app (goodIn_of _ (by decide +kernel)) ggX1_quotient_X1_isNothingLeft
set_option maxRecDepth 20000 in
theorem ggX1_quotient_X3_trim : GoodIn wsX1_quotient wsX3_trim := goodIn_r _ [73, 19, 28, 14, 82, 83, 84] (by decide +kernel) (by decide +kernel)
set_option maxRecDepth 20000 in
theorem gX1_quotient_X3_trim : GoodIn wsX1_quotient (wsV RX1 61 RX3 yX3_trim wsX3_trim) := goodIn_app (goodIn_of _ (by decide +kernel)) ggX1_quotient_X3_trim
set_option maxRecDepth 20000 in
theorem ggX1_quotient_X3_stepDown : GoodIn wsX1_quotient wsX3_stepDown := goodIn_r _ [77, 19, 28, 42, 14, 82, 83, 84] (by decide +kernel) (by decide +kernel)
set_option maxRecDepth 20000 in
theorem gX1_quotient_X3_stepDown : GoodIn wsX1_quotient (wsV RX1 65 RX3 yX3_stepDown wsX3_stepDown) := goodIn_app (goodIn_of _ (by decide +kernel)) ggX1_quotient_X3_stepDown
theorem dX1_quotient_0 : decode cX1_quotient 0 = .ok (.aload_n 3, 1) := by decide +kernel
theorem dX1_quotient_1 : decode cX1_quotient 1 = .ok (.invokevirtual 18, 3) := by decide +kernel
theorem dX1_quotient_4 : decode cX1_quotient 4 = .ok (.ifCond .gt 9, 3) := by decide +kernel
theorem dX1_quotient_7 : decode cX1_quotient 7 = .ok (.aload_n 1, 1) := by decide +kernel
theorem dX1_quotient_8 : decode cX1_quotient 8 = .ok (.invokevirtual 22, 3) := by decide +kernel
theorem dX1_quotient_11 : decode cX1_quotient 11 = .ok (.iconst 1, 1) := by decide +kernel
theorem dX1_quotient_12 : decode cX1_quotient 12 = .ok (.ireturn, 1) := by decide +kernel
theorem dX1_quotient_13 : decode cX1_quotient 13 = .ok (.aload_n 0, 1) := by decide +kernel
theorem dX1_quotient_14 : decode cX1_quotient 14 = .ok (.aload_n 3, 1) := by decide +kernel
theorem dX1_quotient_15 : decode cX1_quotient 15 = .ok (.invokevirtual 25, 3) := by decide +kernel
theorem dX1_quotient_18 : decode cX1_quotient 18 = .ok (.putfield 28, 3) := by decide +kernel
theorem dX1_quotient_21 : decode cX1_quotient 21 = .ok (.aload_n 0, 1) := by decide +kernel
theorem dX1_quotient_22 : decode cX1_quotient 22 = .ok (.aload_n 2, 1) := by decide +kernel
theorem dX1_quotient_23 : decode cX1_quotient 23 = .ok (.invokevirtual 25, 3) := by decide +kernel
theorem dX1_quotient_26 : decode cX1_quotient 26 = .ok (.iconst 1, 1) := by decide +kernel
theorem dX1_quotient_27 : decode cX1_quotient 27 = .ok (.iadd, 1) := by decide +kernel
theorem dX1_quotient_28 : decode cX1_quotient 28 = .ok (.putfield 32, 3) := by decide +kernel
theorem dX1_quotient_31 : decode cX1_quotient 31 = .ok (.aload_n 2, 1) := by decide +kernel
theorem dX1_quotient_32 : decode cX1_quotient 32 = .ok (.invokevirtual 18, 3) := by decide +kernel
theorem dX1_quotient_35 : decode cX1_quotient 35 = .ok (.istore 4, 2) := by decide +kernel
theorem dX1_quotient_37 : decode cX1_quotient 37 = .ok (.iconst 0, 1) := by decide +kernel
theorem dX1_quotient_38 : decode cX1_quotient 38 = .ok (.aload_n 0, 1) := by decide +kernel
theorem dX1_quotient_39 : decode cX1_quotient 39 = .ok (.getfield 32, 3) := by decide +kernel
theorem dX1_quotient_42 : decode cX1_quotient 42 = .ok (.aload_n 0, 1) := by decide +kernel
theorem dX1_quotient_43 : decode cX1_quotient 43 = .ok (.getfield 28, 3) := by decide +kernel
theorem dX1_quotient_46 : decode cX1_quotient 46 = .ok (.isub, 1) := by decide +kernel
theorem dX1_quotient_47 : decode cX1_quotient 47 = .ok (.invokestatic 35, 3) := by decide +kernel
theorem dX1_quotient_50 : decode cX1_quotient 50 = .ok (.istore 5, 2) := by decide +kernel
theorem dX1_quotient_52 : decode cX1_quotient 52 = .ok (.aload_n 0, 1) := by decide +kernel
theorem dX1_quotient_53 : decode cX1_quotient 53 = .ok (.getfield 28, 3) := by decide +kernel
theorem dX1_quotient_56 : decode cX1_quotient 56 = .ok (.bipush 32, 2) := by decide +kernel
theorem dX1_quotient_58 : decode cX1_quotient 58 = .ok (.imul, 1) := by decide +kernel
theorem dX1_quotient_59 : decode cX1_quotient 59 = .ok (.aload_n 3, 1) := by decide +kernel
theorem dX1_quotient_60 : decode cX1_quotient 60 = .ok (.invokevirtual 41, 3) := by decide +kernel
theorem dX1_quotient_63 : decode cX1_quotient 63 = .ok (.isub, 1) := by decide +kernel
theorem dX1_quotient_64 : decode cX1_quotient 64 = .ok (.istore 6, 2) := by decide +kernel
theorem dX1_quotient_66 : decode cX1_quotient 66 = .ok (.iconst 0, 1) := by decide +kernel
theorem dX1_quotient_67 : decode cX1_quotient 67 = .ok (.istore 7, 2) := by decide +kernel
theorem dX1_quotient_69 : decode cX1_quotient 69 = .ok (.iload 7, 2) := by decide +kernel
theorem dX1_quotient_71 : decode cX1_quotient 71 = .ok (.aload_n 0, 1) := by decide +kernel
theorem dX1_quotient_72 : decode cX1_quotient 72 = .ok (.getfield 32, 3) := by decide +kernel
theorem dX1_quotient_75 : decode cX1_quotient 75 = .ok (.if_icmp .ge 24, 3) := by decide +kernel
theorem dX1_quotient_78 : decode cX1_quotient 78 = .ok (.aload_n 0, 1) := by decide +kernel
theorem dX1_quotient_79 : decode cX1_quotient 79 = .ok (.getfield 9, 3) := by decide +kernel
theorem dX1_quotient_82 : decode cX1_quotient 82 = .ok (.iload 7, 2) := by decide +kernel
theorem dX1_quotient_84 : decode cX1_quotient 84 = .ok (.aload_n 2, 1) := by decide +kernel
theorem dX1_quotient_85 : decode cX1_quotient 85 = .ok (.iload 7, 2) := by decide +kernel
theorem dX1_quotient_87 : decode cX1_quotient 87 = .ok (.iload 6, 2) := by decide +kernel
theorem dX1_quotient_89 : decode cX1_quotient 89 = .ok (.invokevirtual 44, 3) := by decide +kernel
theorem dX1_quotient_92 : decode cX1_quotient 92 = .ok (.lastore, 1) := by decide +kernel
theorem dX1_quotient_93 : decode cX1_quotient 93 = .ok (.iinc 7 1, 3) := by decide +kernel
theorem dX1_quotient_96 : decode cX1_quotient 96 = .ok (.goto (-27), 3) := by decide +kernel
theorem dX1_quotient_99 : decode cX1_quotient 99 = .ok (.iconst 0, 1) := by decide +kernel
theorem dX1_quotient_100 : decode cX1_quotient 100 = .ok (.istore 7, 2) := by decide +kernel
theorem dX1_quotient_102 : decode cX1_quotient 102 = .ok (.iload 7, 2) := by decide +kernel
theorem dX1_quotient_104 : decode cX1_quotient 104 = .ok (.aload_n 0, 1) := by decide +kernel
theorem dX1_quotient_105 : decode cX1_quotient 105 = .ok (.getfield 28, 3) := by decide +kernel
theorem dX1_quotient_108 : decode cX1_quotient 108 = .ok (.if_icmp .ge 24, 3) := by decide +kernel
theorem dX1_quotient_111 : decode cX1_quotient 111 = .ok (.aload_n 0, 1) := by decide +kernel
theorem dX1_quotient_112 : decode cX1_quotient 112 = .ok (.getfield 15, 3) := by decide +kernel
theorem dX1_quotient_115 : decode cX1_quotient 115 = .ok (.iload 7, 2) := by decide +kernel
theorem dX1_quotient_117 : decode cX1_quotient 117 = .ok (.aload_n 3, 1) := by decide +kernel
theorem dX1_quotient_118 : decode cX1_quotient 118 = .ok (.iload 7, 2) := by decide +kernel
theorem dX1_quotient_120 : decode cX1_quotient 120 = .ok (.iload 6, 2) := by decide +kernel
theorem dX1_quotient_122 : decode cX1_quotient 122 = .ok (.invokevirtual 44, 3) := by decide +kernel
theorem dX1_quotient_125 : decode cX1_quotient 125 = .ok (.lastore, 1) := by decide +kernel
theorem dX1_quotient_126 : decode cX1_quotient 126 = .ok (.iinc 7 1, 3) := by decide +kernel
theorem dX1_quotient_129 : decode cX1_quotient 129 = .ok (.goto (-27), 3) := by decide +kernel
theorem dX1_quotient_132 : decode cX1_quotient 132 = .ok (.iload 5, 2) := by decide +kernel
theorem dX1_quotient_134 : decode cX1_quotient 134 = .ok (.iconst 1, 1) := by decide +kernel
theorem dX1_quotient_135 : decode cX1_quotient 135 = .ok (.isub, 1) := by decide +kernel
theorem dX1_quotient_136 : decode cX1_quotient 136 = .ok (.istore 7, 2) := by decide +kernel
theorem dX1_quotient_138 : decode cX1_quotient 138 = .ok (.iload 7, 2) := by decide +kernel
theorem dX1_quotient_140 : decode cX1_quotient 140 = .ok (.ifCond .lt 22, 3) := by decide +kernel
theorem dX1_quotient_143 : decode cX1_quotient 143 = .ok (.aload_n 1, 1) := by decide +kernel
theorem dX1_quotient_144 : decode cX1_quotient 144 = .ok (.getfield 48, 3) := by decide +kernel
theorem dX1_quotient_147 : decode cX1_quotient 147 = .ok (.iload 7, 2) := by decide +kernel
theorem dX1_quotient_149 : decode cX1_quotient 149 = .ok (.aload_n 0, 1) := by decide +kernel
theorem dX1_quotient_150 : decode cX1_quotient 150 = .ok (.iload 7, 2) := by decide +kernel
theorem dX1_quotient_152 : decode cX1_quotient 152 = .ok (.invokevirtual 51, 3) := by decide +kernel
theorem dX1_quotient_155 : decode cX1_quotient 155 = .ok (.lastore, 1) := by decide +kernel
theorem dX1_quotient_156 : decode cX1_quotient 156 = .ok (.iinc 7 (-1), 3) := by decide +kernel
theorem dX1_quotient_159 : decode cX1_quotient 159 = .ok (.goto (-21), 3) := by decide +kernel
theorem dX1_quotient_162 : decode cX1_quotient 162 = .ok (.aload_n 0, 1) := by decide +kernel
theorem dX1_quotient_163 : decode cX1_quotient 163 = .ok (.invokevirtual 55, 3) := by decide +kernel
theorem dX1_quotient_166 : decode cX1_quotient 166 = .ok (.istore 7, 2) := by decide +kernel
theorem dX1_quotient_168 : decode cX1_quotient 168 = .ok (.aload_n 1, 1) := by decide +kernel
theorem dX1_quotient_169 : decode cX1_quotient 169 = .ok (.iload 4, 2) := by decide +kernel
theorem dX1_quotient_171 : decode cX1_quotient 171 = .ok (.putfield 59, 3) := by decide +kernel
theorem dX1_quotient_174 : decode cX1_quotient 174 = .ok (.aload_n 1, 1) := by decide +kernel
theorem dX1_quotient_175 : decode cX1_quotient 175 = .ok (.iload 5, 2) := by decide +kernel
theorem dX1_quotient_177 : decode cX1_quotient 177 = .ok (.invokevirtual 61, 3) := by decide +kernel
theorem dX1_quotient_180 : decode cX1_quotient 180 = .ok (.iload 4, 2) := by decide +kernel
theorem dX1_quotient_182 : decode cX1_quotient 182 = .ok (.ifCond .ge 12, 3) := by decide +kernel
theorem dX1_quotient_185 : decode cX1_quotient 185 = .ok (.iload 7, 2) := by decide +kernel
theorem dX1_quotient_187 : decode cX1_quotient 187 = .ok (.ifCond .ne 7, 3) := by decide +kernel
theorem dX1_quotient_190 : decode cX1_quotient 190 = .ok (.aload_n 1, 1) := by decide +kernel
theorem dX1_quotient_191 : decode cX1_quotient 191 = .ok (.invokevirtual 65, 3) := by decide +kernel
theorem dX1_quotient_194 : decode cX1_quotient 194 = .ok (.iload 7, 2) := by decide +kernel
theorem dX1_quotient_196 : decode cX1_quotient 196 = .ok (.ireturn, 1) := by decide +kernel
set_option maxRecDepth 20000 in
theorem ggX1_nextLimb_X1_guess : GoodIn wsX1_nextLimb wsX1_guess := goodIn_r _ [5, 6, 7, 8, 9, 10, 19, 20, 21, 22] (by decide +kernel) (by decide +kernel)
set_option maxRecDepth 20000 in
theorem gX1_nextLimb_X1_guess : GoodIn wsX1_nextLimb (wsV RX1 68 RX1 yX1_guess wsX1_guess) := goodIn_app (goodIn_of _ (by decide +kernel)) ggX1_nextLimb_X1_guess
set_option maxRecDepth 20000 in
theorem ggX1_nextLimb_X1_subtract : GoodIn wsX1_nextLimb wsX1_subtract := goodIn_r _ [14, 7, 8, 6, 9, 19, 20, 21, 22] (by decide +kernel) (by decide +kernel)
set_option maxRecDepth 20000 in
theorem gX1_nextLimb_X1_subtract : GoodIn wsX1_nextLimb (wsV RX1 71 RX1 yX1_subtract wsX1_subtract) := goodIn_app (goodIn_of _ (by decide +kernel)) ggX1_nextLimb_X1_subtract
set_option maxRecDepth 20000 in
theorem ggX1_nextLimb_X1_addBack : GoodIn wsX1_nextLimb wsX1_addBack := goodIn_r _ [18, 7, 6, 8, 9, 19, 20, 21, 22] (by decide +kernel) (by decide +kernel)
set_option maxRecDepth 20000 in
theorem gX1_nextLimb_X1_addBack : GoodIn wsX1_nextLimb (wsV RX1 75 RX1 yX1_addBack wsX1_addBack) := goodIn_app (goodIn_of _ (by decide +kernel)) ggX1_nextLimb_X1_addBack
theorem dX1_nextLimb_0 : decode cX1_nextLimb 0 = .ok (.aload_n 0, 1) := by decide +kernel
theorem dX1_nextLimb_1 : decode cX1_nextLimb 1 = .ok (.iload_n 1, 1) := by decide +kernel
theorem dX1_nextLimb_2 : decode cX1_nextLimb 2 = .ok (.invokevirtual 68, 3) := by decide +kernel
theorem dX1_nextLimb_5 : decode cX1_nextLimb 5 = .ok (.lstore_n 2, 1) := by decide +kernel
theorem dX1_nextLimb_6 : decode cX1_nextLimb 6 = .ok (.aload_n 0, 1) := by decide +kernel
theorem dX1_nextLimb_7 : decode cX1_nextLimb 7 = .ok (.lload_n 2, 1) := by decide +kernel
theorem dX1_nextLimb_8 : decode cX1_nextLimb 8 = .ok (.iload_n 1, 1) := by decide +kernel
theorem dX1_nextLimb_9 : decode cX1_nextLimb 9 = .ok (.invokevirtual 71, 3) := by decide +kernel
theorem dX1_nextLimb_12 : decode cX1_nextLimb 12 = .ok (.ifCond .eq 12, 3) := by decide +kernel
theorem dX1_nextLimb_15 : decode cX1_nextLimb 15 = .ok (.aload_n 0, 1) := by decide +kernel
theorem dX1_nextLimb_16 : decode cX1_nextLimb 16 = .ok (.iload_n 1, 1) := by decide +kernel
theorem dX1_nextLimb_17 : decode cX1_nextLimb 17 = .ok (.invokevirtual 75, 3) := by decide +kernel
theorem dX1_nextLimb_20 : decode cX1_nextLimb 20 = .ok (.lload_n 2, 1) := by decide +kernel
theorem dX1_nextLimb_21 : decode cX1_nextLimb 21 = .ok (.lconst 1, 1) := by decide +kernel
theorem dX1_nextLimb_22 : decode cX1_nextLimb 22 = .ok (.lsub, 1) := by decide +kernel
theorem dX1_nextLimb_23 : decode cX1_nextLimb 23 = .ok (.lstore_n 2, 1) := by decide +kernel
theorem dX1_nextLimb_24 : decode cX1_nextLimb 24 = .ok (.lload_n 2, 1) := by decide +kernel
theorem dX1_nextLimb_25 : decode cX1_nextLimb 25 = .ok (.lreturn, 1) := by decide +kernel
theorem dX1_guess_0 : decode cX1_guess 0 = .ok (.aload_n 0, 1) := by decide +kernel
theorem dX1_guess_1 : decode cX1_guess 1 = .ok (.getfield 9, 3) := by decide +kernel
theorem dX1_guess_4 : decode cX1_guess 4 = .ok (.iload_n 1, 1) := by decide +kernel
theorem dX1_guess_5 : decode cX1_guess 5 = .ok (.aload_n 0, 1) := by decide +kernel
theorem dX1_guess_6 : decode cX1_guess 6 = .ok (.getfield 28, 3) := by decide +kernel
theorem dX1_guess_9 : decode cX1_guess 9 = .ok (.iadd, 1) := by decide +kernel
theorem dX1_guess_10 : decode cX1_guess 10 = .ok (.laload, 1) := by decide +kernel
theorem dX1_guess_11 : decode cX1_guess 11 = .ok (.lstore_n 2, 1) := by decide +kernel
theorem dX1_guess_12 : decode cX1_guess 12 = .ok (.aload_n 0, 1) := by decide +kernel
theorem dX1_guess_13 : decode cX1_guess 13 = .ok (.getfield 9, 3) := by decide +kernel
theorem dX1_guess_16 : decode cX1_guess 16 = .ok (.iload_n 1, 1) := by decide +kernel
theorem dX1_guess_17 : decode cX1_guess 17 = .ok (.aload_n 0, 1) := by decide +kernel
theorem dX1_guess_18 : decode cX1_guess 18 = .ok (.getfield 28, 3) := by decide +kernel
theorem dX1_guess_21 : decode cX1_guess 21 = .ok (.iadd, 1) := by decide +kernel
theorem dX1_guess_22 : decode cX1_guess 22 = .ok (.iconst 1, 1) := by decide +kernel
theorem dX1_guess_23 : decode cX1_guess 23 = .ok (.isub, 1) := by decide +kernel
theorem dX1_guess_24 : decode cX1_guess 24 = .ok (.laload, 1) := by decide +kernel
theorem dX1_guess_25 : decode cX1_guess 25 = .ok (.lstore 4, 2) := by decide +kernel
theorem dX1_guess_27 : decode cX1_guess 27 = .ok (.aload_n 0, 1) := by decide +kernel
theorem dX1_guess_28 : decode cX1_guess 28 = .ok (.getfield 15, 3) := by decide +kernel
theorem dX1_guess_31 : decode cX1_guess 31 = .ok (.aload_n 0, 1) := by decide +kernel
theorem dX1_guess_32 : decode cX1_guess 32 = .ok (.getfield 28, 3) := by decide +kernel
theorem dX1_guess_35 : decode cX1_guess 35 = .ok (.iconst 1, 1) := by decide +kernel
theorem dX1_guess_36 : decode cX1_guess 36 = .ok (.isub, 1) := by decide +kernel
theorem dX1_guess_37 : decode cX1_guess 37 = .ok (.laload, 1) := by decide +kernel
theorem dX1_guess_38 : decode cX1_guess 38 = .ok (.lstore 6, 2) := by decide +kernel
theorem dX1_guess_40 : decode cX1_guess 40 = .ok (.ldc2_w 78, 3) := by decide +kernel
theorem dX1_guess_43 : decode cX1_guess 43 = .ok (.lstore 8, 2) := by decide +kernel
theorem dX1_guess_45 : decode cX1_guess 45 = .ok (.lload 4, 2) := by decide +kernel
theorem dX1_guess_47 : decode cX1_guess 47 = .ok (.lload 6, 2) := by decide +kernel
theorem dX1_guess_49 : decode cX1_guess 49 = .ok (.ladd, 1) := by decide +kernel
theorem dX1_guess_50 : decode cX1_guess 50 = .ok (.lstore 10, 2) := by decide +kernel
theorem dX1_guess_52 : decode cX1_guess 52 = .ok (.lload_n 2, 1) := by decide +kernel
theorem dX1_guess_53 : decode cX1_guess 53 = .ok (.lload 6, 2) := by decide +kernel
theorem dX1_guess_55 : decode cX1_guess 55 = .ok (.lcmp, 1) := by decide +kernel
theorem dX1_guess_56 : decode cX1_guess 56 = .ok (.ifCond .ge 54, 3) := by decide +kernel
theorem dX1_guess_59 : decode cX1_guess 59 = .ok (.lload_n 2, 1) := by decide +kernel
theorem dX1_guess_60 : decode cX1_guess 60 = .ok (.bipush 32, 2) := by decide +kernel
theorem dX1_guess_62 : decode cX1_guess 62 = .ok (.lshl, 1) := by decide +kernel
theorem dX1_guess_63 : decode cX1_guess 63 = .ok (.lload 4, 2) := by decide +kernel
theorem dX1_guess_65 : decode cX1_guess 65 = .ok (.lor, 1) := by decide +kernel
theorem dX1_guess_66 : decode cX1_guess 66 = .ok (.lstore 12, 2) := by decide +kernel
theorem dX1_guess_68 : decode cX1_guess 68 = .ok (.lload 12, 2) := by decide +kernel
theorem dX1_guess_70 : decode cX1_guess 70 = .ok (.iconst 1, 1) := by decide +kernel
theorem dX1_guess_71 : decode cX1_guess 71 = .ok (.lushr, 1) := by decide +kernel
theorem dX1_guess_72 : decode cX1_guess 72 = .ok (.lload 6, 2) := by decide +kernel
theorem dX1_guess_74 : decode cX1_guess 74 = .ok (.ldiv, 1) := by decide +kernel
theorem dX1_guess_75 : decode cX1_guess 75 = .ok (.iconst 1, 1) := by decide +kernel
theorem dX1_guess_76 : decode cX1_guess 76 = .ok (.lshl, 1) := by decide +kernel
theorem dX1_guess_77 : decode cX1_guess 77 = .ok (.lstore 8, 2) := by decide +kernel
theorem dX1_guess_79 : decode cX1_guess 79 = .ok (.lload 12, 2) := by decide +kernel
theorem dX1_guess_81 : decode cX1_guess 81 = .ok (.lload 8, 2) := by decide +kernel
theorem dX1_guess_83 : decode cX1_guess 83 = .ok (.lload 6, 2) := by decide +kernel
theorem dX1_guess_85 : decode cX1_guess 85 = .ok (.lmul, 1) := by decide +kernel
theorem dX1_guess_86 : decode cX1_guess 86 = .ok (.lsub, 1) := by decide +kernel
theorem dX1_guess_87 : decode cX1_guess 87 = .ok (.lstore 10, 2) := by decide +kernel
theorem dX1_guess_89 : decode cX1_guess 89 = .ok (.lload 10, 2) := by decide +kernel
theorem dX1_guess_91 : decode cX1_guess 91 = .ok (.lload 6, 2) := by decide +kernel
theorem dX1_guess_93 : decode cX1_guess 93 = .ok (.lcmp, 1) := by decide +kernel
theorem dX1_guess_94 : decode cX1_guess 94 = .ok (.ifCond .lt 16, 3) := by decide +kernel
theorem dX1_guess_97 : decode cX1_guess 97 = .ok (.lload 8, 2) := by decide +kernel
theorem dX1_guess_99 : decode cX1_guess 99 = .ok (.lconst 1, 1) := by decide +kernel
theorem dX1_guess_100 : decode cX1_guess 100 = .ok (.ladd, 1) := by decide +kernel
theorem dX1_guess_101 : decode cX1_guess 101 = .ok (.lstore 8, 2) := by decide +kernel
theorem dX1_guess_103 : decode cX1_guess 103 = .ok (.lload 10, 2) := by decide +kernel
theorem dX1_guess_105 : decode cX1_guess 105 = .ok (.lload 6, 2) := by decide +kernel
theorem dX1_guess_107 : decode cX1_guess 107 = .ok (.lsub, 1) := by decide +kernel
theorem dX1_guess_108 : decode cX1_guess 108 = .ok (.lstore 10, 2) := by decide +kernel
theorem dX1_guess_110 : decode cX1_guess 110 = .ok (.aload_n 0, 1) := by decide +kernel
theorem dX1_guess_111 : decode cX1_guess 111 = .ok (.getfield 28, 3) := by decide +kernel
theorem dX1_guess_114 : decode cX1_guess 114 = .ok (.iconst 1, 1) := by decide +kernel
theorem dX1_guess_115 : decode cX1_guess 115 = .ok (.if_icmp .le 19, 3) := by decide +kernel
theorem dX1_guess_118 : decode cX1_guess 118 = .ok (.aload_n 0, 1) := by decide +kernel
theorem dX1_guess_119 : decode cX1_guess 119 = .ok (.getfield 9, 3) := by decide +kernel
theorem dX1_guess_122 : decode cX1_guess 122 = .ok (.iload_n 1, 1) := by decide +kernel
theorem dX1_guess_123 : decode cX1_guess 123 = .ok (.aload_n 0, 1) := by decide +kernel
theorem dX1_guess_124 : decode cX1_guess 124 = .ok (.getfield 28, 3) := by decide +kernel
theorem dX1_guess_127 : decode cX1_guess 127 = .ok (.iadd, 1) := by decide +kernel
theorem dX1_guess_128 : decode cX1_guess 128 = .ok (.iconst 2, 1) := by decide +kernel
theorem dX1_guess_129 : decode cX1_guess 129 = .ok (.isub, 1) := by decide +kernel
theorem dX1_guess_130 : decode cX1_guess 130 = .ok (.laload, 1) := by decide +kernel
theorem dX1_guess_131 : decode cX1_guess 131 = .ok (.goto 4, 3) := by decide +kernel
theorem dX1_guess_134 : decode cX1_guess 134 = .ok (.lconst 0, 1) := by decide +kernel
theorem dX1_guess_135 : decode cX1_guess 135 = .ok (.lstore 12, 2) := by decide +kernel
theorem dX1_guess_137 : decode cX1_guess 137 = .ok (.aload_n 0, 1) := by decide +kernel
theorem dX1_guess_138 : decode cX1_guess 138 = .ok (.getfield 28, 3) := by decide +kernel
theorem dX1_guess_141 : decode cX1_guess 141 = .ok (.iconst 1, 1) := by decide +kernel
theorem dX1_guess_142 : decode cX1_guess 142 = .ok (.if_icmp .le 17, 3) := by decide +kernel
theorem dX1_guess_145 : decode cX1_guess 145 = .ok (.aload_n 0, 1) := by decide +kernel
theorem dX1_guess_146 : decode cX1_guess 146 = .ok (.getfield 15, 3) := by decide +kernel
theorem dX1_guess_149 : decode cX1_guess 149 = .ok (.aload_n 0, 1) := by decide +kernel
theorem dX1_guess_150 : decode cX1_guess 150 = .ok (.getfield 28, 3) := by decide +kernel
theorem dX1_guess_153 : decode cX1_guess 153 = .ok (.iconst 2, 1) := by decide +kernel
theorem dX1_guess_154 : decode cX1_guess 154 = .ok (.isub, 1) := by decide +kernel
theorem dX1_guess_155 : decode cX1_guess 155 = .ok (.laload, 1) := by decide +kernel
theorem dX1_guess_156 : decode cX1_guess 156 = .ok (.goto 4, 3) := by decide +kernel
theorem dX1_guess_159 : decode cX1_guess 159 = .ok (.lconst 0, 1) := by decide +kernel
theorem dX1_guess_160 : decode cX1_guess 160 = .ok (.lstore 14, 2) := by decide +kernel
theorem dX1_guess_162 : decode cX1_guess 162 = .ok (.iconst 0, 1) := by decide +kernel
theorem dX1_guess_163 : decode cX1_guess 163 = .ok (.istore 16, 2) := by decide +kernel
theorem dX1_guess_165 : decode cX1_guess 165 = .ok (.iload 16, 2) := by decide +kernel
theorem dX1_guess_167 : decode cX1_guess 167 = .ok (.iconst 2, 1) := by decide +kernel
theorem dX1_guess_168 : decode cX1_guess 168 = .ok (.if_icmp .ge 63, 3) := by decide +kernel
theorem dX1_guess_171 : decode cX1_guess 171 = .ok (.lload 10, 2) := by decide +kernel
theorem dX1_guess_173 : decode cX1_guess 173 = .ok (.ldc2_w 78, 3) := by decide +kernel
theorem dX1_guess_176 : decode cX1_guess 176 = .ok (.lcmp, 1) := by decide +kernel
theorem dX1_guess_177 : decode cX1_guess 177 = .ok (.ifCond .gt 54, 3) := by decide +kernel
theorem dX1_guess_180 : decode cX1_guess 180 = .ok (.lload 8, 2) := by decide +kernel
theorem dX1_guess_182 : decode cX1_guess 182 = .ok (.lload 14, 2) := by decide +kernel
theorem dX1_guess_184 : decode cX1_guess 184 = .ok (.lmul, 1) := by decide +kernel
theorem dX1_guess_185 : decode cX1_guess 185 = .ok (.ldc2_w 82, 3) := by decide +kernel
theorem dX1_guess_188 : decode cX1_guess 188 = .ok (.ladd, 1) := by decide +kernel
theorem dX1_guess_189 : decode cX1_guess 189 = .ok (.lstore 17, 2) := by decide +kernel
theorem dX1_guess_191 : decode cX1_guess 191 = .ok (.lload 17, 2) := by decide +kernel
theorem dX1_guess_193 : decode cX1_guess 193 = .ok (.lload 10, 2) := by decide +kernel
theorem dX1_guess_195 : decode cX1_guess 195 = .ok (.bipush 32, 2) := by decide +kernel
theorem dX1_guess_197 : decode cX1_guess 197 = .ok (.lshl, 1) := by decide +kernel
theorem dX1_guess_198 : decode cX1_guess 198 = .ok (.lload 12, 2) := by decide +kernel
theorem dX1_guess_200 : decode cX1_guess 200 = .ok (.lor, 1) := by decide +kernel
theorem dX1_guess_201 : decode cX1_guess 201 = .ok (.ldc2_w 82, 3) := by decide +kernel
theorem dX1_guess_204 : decode cX1_guess 204 = .ok (.ladd, 1) := by decide +kernel
theorem dX1_guess_205 : decode cX1_guess 205 = .ok (.lcmp, 1) := by decide +kernel
theorem dX1_guess_206 : decode cX1_guess 206 = .ok (.ifCond .gt 6, 3) := by decide +kernel
theorem dX1_guess_209 : decode cX1_guess 209 = .ok (.goto 22, 3) := by decide +kernel
theorem dX1_guess_212 : decode cX1_guess 212 = .ok (.lload 8, 2) := by decide +kernel
theorem dX1_guess_214 : decode cX1_guess 214 = .ok (.lconst 1, 1) := by decide +kernel
theorem dX1_guess_215 : decode cX1_guess 215 = .ok (.lsub, 1) := by decide +kernel
theorem dX1_guess_216 : decode cX1_guess 216 = .ok (.lstore 8, 2) := by decide +kernel
theorem dX1_guess_218 : decode cX1_guess 218 = .ok (.lload 10, 2) := by decide +kernel
theorem dX1_guess_220 : decode cX1_guess 220 = .ok (.lload 6, 2) := by decide +kernel
theorem dX1_guess_222 : decode cX1_guess 222 = .ok (.ladd, 1) := by decide +kernel
theorem dX1_guess_223 : decode cX1_guess 223 = .ok (.lstore 10, 2) := by decide +kernel
theorem dX1_guess_225 : decode cX1_guess 225 = .ok (.iinc 16 1, 3) := by decide +kernel
theorem dX1_guess_228 : decode cX1_guess 228 = .ok (.goto (-63), 3) := by decide +kernel
theorem dX1_guess_231 : decode cX1_guess 231 = .ok (.lload 8, 2) := by decide +kernel
theorem dX1_guess_233 : decode cX1_guess 233 = .ok (.lreturn, 1) := by decide +kernel
theorem dX1_subtract_0 : decode cX1_subtract 0 = .ok (.lconst 0, 1) := by decide +kernel
theorem dX1_subtract_1 : decode cX1_subtract 1 = .ok (.lstore 4, 2) := by decide +kernel
theorem dX1_subtract_3 : decode cX1_subtract 3 = .ok (.iconst 0, 1) := by decide +kernel
theorem dX1_subtract_4 : decode cX1_subtract 4 = .ok (.istore 6, 2) := by decide +kernel
theorem dX1_subtract_6 : decode cX1_subtract 6 = .ok (.iload 6, 2) := by decide +kernel
theorem dX1_subtract_8 : decode cX1_subtract 8 = .ok (.aload_n 0, 1) := by decide +kernel
theorem dX1_subtract_9 : decode cX1_subtract 9 = .ok (.getfield 28, 3) := by decide +kernel
theorem dX1_subtract_12 : decode cX1_subtract 12 = .ok (.if_icmp .ge 77, 3) := by decide +kernel
theorem dX1_subtract_15 : decode cX1_subtract 15 = .ok (.lload_n 1, 1) := by decide +kernel
theorem dX1_subtract_16 : decode cX1_subtract 16 = .ok (.aload_n 0, 1) := by decide +kernel
theorem dX1_subtract_17 : decode cX1_subtract 17 = .ok (.getfield 15, 3) := by decide +kernel
theorem dX1_subtract_20 : decode cX1_subtract 20 = .ok (.iload 6, 2) := by decide +kernel
theorem dX1_subtract_22 : decode cX1_subtract 22 = .ok (.laload, 1) := by decide +kernel
theorem dX1_subtract_23 : decode cX1_subtract 23 = .ok (.lmul, 1) := by decide +kernel
theorem dX1_subtract_24 : decode cX1_subtract 24 = .ok (.lload 4, 2) := by decide +kernel
theorem dX1_subtract_26 : decode cX1_subtract 26 = .ok (.ladd, 1) := by decide +kernel
theorem dX1_subtract_27 : decode cX1_subtract 27 = .ok (.lstore 7, 2) := by decide +kernel
theorem dX1_subtract_29 : decode cX1_subtract 29 = .ok (.aload_n 0, 1) := by decide +kernel
theorem dX1_subtract_30 : decode cX1_subtract 30 = .ok (.getfield 9, 3) := by decide +kernel
theorem dX1_subtract_33 : decode cX1_subtract 33 = .ok (.iload 6, 2) := by decide +kernel
theorem dX1_subtract_35 : decode cX1_subtract 35 = .ok (.iload_n 3, 1) := by decide +kernel
theorem dX1_subtract_36 : decode cX1_subtract 36 = .ok (.iadd, 1) := by decide +kernel
theorem dX1_subtract_37 : decode cX1_subtract 37 = .ok (.laload, 1) := by decide +kernel
theorem dX1_subtract_38 : decode cX1_subtract 38 = .ok (.lload 7, 2) := by decide +kernel
theorem dX1_subtract_40 : decode cX1_subtract 40 = .ok (.ldc2_w 78, 3) := by decide +kernel
theorem dX1_subtract_43 : decode cX1_subtract 43 = .ok (.land, 1) := by decide +kernel
theorem dX1_subtract_44 : decode cX1_subtract 44 = .ok (.lsub, 1) := by decide +kernel
theorem dX1_subtract_45 : decode cX1_subtract 45 = .ok (.lstore 9, 2) := by decide +kernel
theorem dX1_subtract_47 : decode cX1_subtract 47 = .ok (.aload_n 0, 1) := by decide +kernel
theorem dX1_subtract_48 : decode cX1_subtract 48 = .ok (.getfield 9, 3) := by decide +kernel
theorem dX1_subtract_51 : decode cX1_subtract 51 = .ok (.iload 6, 2) := by decide +kernel
theorem dX1_subtract_53 : decode cX1_subtract 53 = .ok (.iload_n 3, 1) := by decide +kernel
theorem dX1_subtract_54 : decode cX1_subtract 54 = .ok (.iadd, 1) := by decide +kernel
theorem dX1_subtract_55 : decode cX1_subtract 55 = .ok (.lload 9, 2) := by decide +kernel
theorem dX1_subtract_57 : decode cX1_subtract 57 = .ok (.ldc2_w 78, 3) := by decide +kernel
theorem dX1_subtract_60 : decode cX1_subtract 60 = .ok (.land, 1) := by decide +kernel
theorem dX1_subtract_61 : decode cX1_subtract 61 = .ok (.lastore, 1) := by decide +kernel
theorem dX1_subtract_62 : decode cX1_subtract 62 = .ok (.lload 7, 2) := by decide +kernel
theorem dX1_subtract_64 : decode cX1_subtract 64 = .ok (.bipush 32, 2) := by decide +kernel
theorem dX1_subtract_66 : decode cX1_subtract 66 = .ok (.lushr, 1) := by decide +kernel
theorem dX1_subtract_67 : decode cX1_subtract 67 = .ok (.lload 9, 2) := by decide +kernel
theorem dX1_subtract_69 : decode cX1_subtract 69 = .ok (.lconst 0, 1) := by decide +kernel
theorem dX1_subtract_70 : decode cX1_subtract 70 = .ok (.lcmp, 1) := by decide +kernel
theorem dX1_subtract_71 : decode cX1_subtract 71 = .ok (.ifCond .ge 7, 3) := by decide +kernel
theorem dX1_subtract_74 : decode cX1_subtract 74 = .ok (.iconst 1, 1) := by decide +kernel
theorem dX1_subtract_75 : decode cX1_subtract 75 = .ok (.goto 4, 3) := by decide +kernel
theorem dX1_subtract_78 : decode cX1_subtract 78 = .ok (.iconst 0, 1) := by decide +kernel
theorem dX1_subtract_79 : decode cX1_subtract 79 = .ok (.i2l, 1) := by decide +kernel
theorem dX1_subtract_80 : decode cX1_subtract 80 = .ok (.ladd, 1) := by decide +kernel
theorem dX1_subtract_81 : decode cX1_subtract 81 = .ok (.lstore 4, 2) := by decide +kernel
theorem dX1_subtract_83 : decode cX1_subtract 83 = .ok (.iinc 6 1, 3) := by decide +kernel
theorem dX1_subtract_86 : decode cX1_subtract 86 = .ok (.goto (-80), 3) := by decide +kernel
theorem dX1_subtract_89 : decode cX1_subtract 89 = .ok (.aload_n 0, 1) := by decide +kernel
theorem dX1_subtract_90 : decode cX1_subtract 90 = .ok (.getfield 9, 3) := by decide +kernel
theorem dX1_subtract_93 : decode cX1_subtract 93 = .ok (.iload_n 3, 1) := by decide +kernel
theorem dX1_subtract_94 : decode cX1_subtract 94 = .ok (.aload_n 0, 1) := by decide +kernel
theorem dX1_subtract_95 : decode cX1_subtract 95 = .ok (.getfield 28, 3) := by decide +kernel
theorem dX1_subtract_98 : decode cX1_subtract 98 = .ok (.iadd, 1) := by decide +kernel
theorem dX1_subtract_99 : decode cX1_subtract 99 = .ok (.laload, 1) := by decide +kernel
theorem dX1_subtract_100 : decode cX1_subtract 100 = .ok (.lload 4, 2) := by decide +kernel
theorem dX1_subtract_102 : decode cX1_subtract 102 = .ok (.lsub, 1) := by decide +kernel
theorem dX1_subtract_103 : decode cX1_subtract 103 = .ok (.lstore 6, 2) := by decide +kernel
theorem dX1_subtract_105 : decode cX1_subtract 105 = .ok (.aload_n 0, 1) := by decide +kernel
theorem dX1_subtract_106 : decode cX1_subtract 106 = .ok (.getfield 9, 3) := by decide +kernel
theorem dX1_subtract_109 : decode cX1_subtract 109 = .ok (.iload_n 3, 1) := by decide +kernel
theorem dX1_subtract_110 : decode cX1_subtract 110 = .ok (.aload_n 0, 1) := by decide +kernel
theorem dX1_subtract_111 : decode cX1_subtract 111 = .ok (.getfield 28, 3) := by decide +kernel
theorem dX1_subtract_114 : decode cX1_subtract 114 = .ok (.iadd, 1) := by decide +kernel
theorem dX1_subtract_115 : decode cX1_subtract 115 = .ok (.lload 6, 2) := by decide +kernel
theorem dX1_subtract_117 : decode cX1_subtract 117 = .ok (.ldc2_w 78, 3) := by decide +kernel
theorem dX1_subtract_120 : decode cX1_subtract 120 = .ok (.land, 1) := by decide +kernel
theorem dX1_subtract_121 : decode cX1_subtract 121 = .ok (.lastore, 1) := by decide +kernel
theorem dX1_subtract_122 : decode cX1_subtract 122 = .ok (.lload 6, 2) := by decide +kernel
theorem dX1_subtract_124 : decode cX1_subtract 124 = .ok (.lconst 0, 1) := by decide +kernel
theorem dX1_subtract_125 : decode cX1_subtract 125 = .ok (.lcmp, 1) := by decide +kernel
theorem dX1_subtract_126 : decode cX1_subtract 126 = .ok (.ifCond .ge 7, 3) := by decide +kernel
theorem dX1_subtract_129 : decode cX1_subtract 129 = .ok (.iconst 1, 1) := by decide +kernel
theorem dX1_subtract_130 : decode cX1_subtract 130 = .ok (.goto 4, 3) := by decide +kernel
theorem dX1_subtract_133 : decode cX1_subtract 133 = .ok (.iconst 0, 1) := by decide +kernel
theorem dX1_subtract_134 : decode cX1_subtract 134 = .ok (.ireturn, 1) := by decide +kernel
theorem dX1_addBack_0 : decode cX1_addBack 0 = .ok (.lconst 0, 1) := by decide +kernel
theorem dX1_addBack_1 : decode cX1_addBack 1 = .ok (.lstore_n 2, 1) := by decide +kernel
theorem dX1_addBack_2 : decode cX1_addBack 2 = .ok (.iconst 0, 1) := by decide +kernel
theorem dX1_addBack_3 : decode cX1_addBack 3 = .ok (.istore 4, 2) := by decide +kernel
theorem dX1_addBack_5 : decode cX1_addBack 5 = .ok (.iload 4, 2) := by decide +kernel
theorem dX1_addBack_7 : decode cX1_addBack 7 = .ok (.aload_n 0, 1) := by decide +kernel
theorem dX1_addBack_8 : decode cX1_addBack 8 = .ok (.getfield 28, 3) := by decide +kernel
theorem dX1_addBack_11 : decode cX1_addBack 11 = .ok (.if_icmp .ge 51, 3) := by decide +kernel
theorem dX1_addBack_14 : decode cX1_addBack 14 = .ok (.aload_n 0, 1) := by decide +kernel
theorem dX1_addBack_15 : decode cX1_addBack 15 = .ok (.getfield 9, 3) := by decide +kernel
theorem dX1_addBack_18 : decode cX1_addBack 18 = .ok (.iload 4, 2) := by decide +kernel
theorem dX1_addBack_20 : decode cX1_addBack 20 = .ok (.iload_n 1, 1) := by decide +kernel
theorem dX1_addBack_21 : decode cX1_addBack 21 = .ok (.iadd, 1) := by decide +kernel
theorem dX1_addBack_22 : decode cX1_addBack 22 = .ok (.laload, 1) := by decide +kernel
theorem dX1_addBack_23 : decode cX1_addBack 23 = .ok (.aload_n 0, 1) := by decide +kernel
theorem dX1_addBack_24 : decode cX1_addBack 24 = .ok (.getfield 15, 3) := by decide +kernel
theorem dX1_addBack_27 : decode cX1_addBack 27 = .ok (.iload 4, 2) := by decide +kernel
theorem dX1_addBack_29 : decode cX1_addBack 29 = .ok (.laload, 1) := by decide +kernel
theorem dX1_addBack_30 : decode cX1_addBack 30 = .ok (.ladd, 1) := by decide +kernel
theorem dX1_addBack_31 : decode cX1_addBack 31 = .ok (.lload_n 2, 1) := by decide +kernel
theorem dX1_addBack_32 : decode cX1_addBack 32 = .ok (.ladd, 1) := by decide +kernel
theorem dX1_addBack_33 : decode cX1_addBack 33 = .ok (.lstore 5, 2) := by decide +kernel
theorem dX1_addBack_35 : decode cX1_addBack 35 = .ok (.aload_n 0, 1) := by decide +kernel
theorem dX1_addBack_36 : decode cX1_addBack 36 = .ok (.getfield 9, 3) := by decide +kernel
theorem dX1_addBack_39 : decode cX1_addBack 39 = .ok (.iload 4, 2) := by decide +kernel
theorem dX1_addBack_41 : decode cX1_addBack 41 = .ok (.iload_n 1, 1) := by decide +kernel
theorem dX1_addBack_42 : decode cX1_addBack 42 = .ok (.iadd, 1) := by decide +kernel
theorem dX1_addBack_43 : decode cX1_addBack 43 = .ok (.lload 5, 2) := by decide +kernel
theorem dX1_addBack_45 : decode cX1_addBack 45 = .ok (.ldc2_w 78, 3) := by decide +kernel
theorem dX1_addBack_48 : decode cX1_addBack 48 = .ok (.land, 1) := by decide +kernel
theorem dX1_addBack_49 : decode cX1_addBack 49 = .ok (.lastore, 1) := by decide +kernel
theorem dX1_addBack_50 : decode cX1_addBack 50 = .ok (.lload 5, 2) := by decide +kernel
theorem dX1_addBack_52 : decode cX1_addBack 52 = .ok (.bipush 32, 2) := by decide +kernel
theorem dX1_addBack_54 : decode cX1_addBack 54 = .ok (.lushr, 1) := by decide +kernel
theorem dX1_addBack_55 : decode cX1_addBack 55 = .ok (.lstore_n 2, 1) := by decide +kernel
theorem dX1_addBack_56 : decode cX1_addBack 56 = .ok (.iinc 4 1, 3) := by decide +kernel
theorem dX1_addBack_59 : decode cX1_addBack 59 = .ok (.goto (-54), 3) := by decide +kernel
theorem dX1_addBack_62 : decode cX1_addBack 62 = .ok (.aload_n 0, 1) := by decide +kernel
theorem dX1_addBack_63 : decode cX1_addBack 63 = .ok (.getfield 9, 3) := by decide +kernel
theorem dX1_addBack_66 : decode cX1_addBack 66 = .ok (.iload_n 1, 1) := by decide +kernel
theorem dX1_addBack_67 : decode cX1_addBack 67 = .ok (.aload_n 0, 1) := by decide +kernel
theorem dX1_addBack_68 : decode cX1_addBack 68 = .ok (.getfield 28, 3) := by decide +kernel
theorem dX1_addBack_71 : decode cX1_addBack 71 = .ok (.iadd, 1) := by decide +kernel
theorem dX1_addBack_72 : decode cX1_addBack 72 = .ok (.aload_n 0, 1) := by decide +kernel
theorem dX1_addBack_73 : decode cX1_addBack 73 = .ok (.getfield 9, 3) := by decide +kernel
theorem dX1_addBack_76 : decode cX1_addBack 76 = .ok (.iload_n 1, 1) := by decide +kernel
theorem dX1_addBack_77 : decode cX1_addBack 77 = .ok (.aload_n 0, 1) := by decide +kernel
theorem dX1_addBack_78 : decode cX1_addBack 78 = .ok (.getfield 28, 3) := by decide +kernel
theorem dX1_addBack_81 : decode cX1_addBack 81 = .ok (.iadd, 1) := by decide +kernel
theorem dX1_addBack_82 : decode cX1_addBack 82 = .ok (.laload, 1) := by decide +kernel
theorem dX1_addBack_83 : decode cX1_addBack 83 = .ok (.lload_n 2, 1) := by decide +kernel
theorem dX1_addBack_84 : decode cX1_addBack 84 = .ok (.ladd, 1) := by decide +kernel
theorem dX1_addBack_85 : decode cX1_addBack 85 = .ok (.ldc2_w 78, 3) := by decide +kernel
theorem dX1_addBack_88 : decode cX1_addBack 88 = .ok (.land, 1) := by decide +kernel
theorem dX1_addBack_89 : decode cX1_addBack 89 = .ok (.lastore, 1) := by decide +kernel
theorem dX1_addBack_90 : decode cX1_addBack 90 = .ok (.return_, 1) := by decide +kernel
theorem dX1_isNothingLeft_0 : decode cX1_isNothingLeft 0 = .ok (.iconst 0, 1) := by decide +kernel
theorem dX1_isNothingLeft_1 : decode cX1_isNothingLeft 1 = .ok (.istore_n 1, 1) := by decide +kernel
theorem dX1_isNothingLeft_2 : decode cX1_isNothingLeft 2 = .ok (.iload_n 1, 1) := by decide +kernel
theorem dX1_isNothingLeft_3 : decode cX1_isNothingLeft 3 = .ok (.aload_n 0, 1) := by decide +kernel
theorem dX1_isNothingLeft_4 : decode cX1_isNothingLeft 4 = .ok (.getfield 32, 3) := by decide +kernel
theorem dX1_isNothingLeft_7 : decode cX1_isNothingLeft 7 = .ok (.if_icmp .ge 22, 3) := by decide +kernel
theorem dX1_isNothingLeft_10 : decode cX1_isNothingLeft 10 = .ok (.aload_n 0, 1) := by decide +kernel
theorem dX1_isNothingLeft_11 : decode cX1_isNothingLeft 11 = .ok (.getfield 9, 3) := by decide +kernel
theorem dX1_isNothingLeft_14 : decode cX1_isNothingLeft 14 = .ok (.iload_n 1, 1) := by decide +kernel
theorem dX1_isNothingLeft_15 : decode cX1_isNothingLeft 15 = .ok (.laload, 1) := by decide +kernel
theorem dX1_isNothingLeft_16 : decode cX1_isNothingLeft 16 = .ok (.lconst 0, 1) := by decide +kernel
theorem dX1_isNothingLeft_17 : decode cX1_isNothingLeft 17 = .ok (.lcmp, 1) := by decide +kernel
theorem dX1_isNothingLeft_18 : decode cX1_isNothingLeft 18 = .ok (.ifCond .eq 5, 3) := by decide +kernel
theorem dX1_isNothingLeft_21 : decode cX1_isNothingLeft 21 = .ok (.iconst 0, 1) := by decide +kernel
theorem dX1_isNothingLeft_22 : decode cX1_isNothingLeft 22 = .ok (.ireturn, 1) := by decide +kernel
theorem dX1_isNothingLeft_23 : decode cX1_isNothingLeft 23 = .ok (.iinc 1 1, 3) := by decide +kernel
theorem dX1_isNothingLeft_26 : decode cX1_isNothingLeft 26 = .ok (.goto (-24), 3) := by decide +kernel
theorem dX1_isNothingLeft_29 : decode cX1_isNothingLeft 29 = .ok (.iconst 1, 1) := by decide +kernel
theorem dX1_isNothingLeft_30 : decode cX1_isNothingLeft 30 = .ok (.ireturn, 1) := by decide +kernel
