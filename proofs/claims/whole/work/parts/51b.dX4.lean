theorem dX4_sine_85 : decode cX4_sine 85 = .ok (.getfield 70, 3) := by decide +kernel
theorem dX4_sine_88 : decode cX4_sine 88 = .ok (.invokevirtual 170, 3) := by decide +kernel
theorem dX4_sine_91 : decode cX4_sine 91 = .ok (.invokevirtual 118, 3) := by decide +kernel
theorem dX4_sine_94 : decode cX4_sine 94 = .ok (.aload_n 0, 1) := by decide +kernel
theorem dX4_sine_95 : decode cX4_sine 95 = .ok (.getfield 36, 3) := by decide +kernel
theorem dX4_sine_98 : decode cX4_sine 98 = .ok (.iconst 1, 1) := by decide +kernel
theorem dX4_sine_99 : decode cX4_sine 99 = .ok (.invokevirtual 109, 3) := by decide +kernel
theorem dX4_sine_102 : decode cX4_sine 102 = .ok (.aload_n 0, 1) := by decide +kernel
theorem dX4_sine_103 : decode cX4_sine 103 = .ok (.getfield 33, 3) := by decide +kernel
theorem dX4_sine_106 : decode cX4_sine 106 = .ok (.aload_n 0, 1) := by decide +kernel
theorem dX4_sine_107 : decode cX4_sine 107 = .ok (.getfield 33, 3) := by decide +kernel
theorem dX4_sine_110 : decode cX4_sine 110 = .ok (.aload_n 0, 1) := by decide +kernel
theorem dX4_sine_111 : decode cX4_sine 111 = .ok (.getfield 36, 3) := by decide +kernel
theorem dX4_sine_114 : decode cX4_sine 114 = .ok (.invokevirtual 99, 3) := by decide +kernel
theorem dX4_sine_117 : decode cX4_sine 117 = .ok (.aload_n 0, 1) := by decide +kernel
theorem dX4_sine_118 : decode cX4_sine 118 = .ok (.getfield 70, 3) := by decide +kernel
theorem dX4_sine_121 : decode cX4_sine 121 = .ok (.aload_n 0, 1) := by decide +kernel
theorem dX4_sine_122 : decode cX4_sine 122 = .ok (.getfield 33, 3) := by decide +kernel
theorem dX4_sine_125 : decode cX4_sine 125 = .ok (.invokevirtual 174, 3) := by decide +kernel
theorem dX4_sine_128 : decode cX4_sine 128 = .ok (.aload_n 0, 1) := by decide +kernel
theorem dX4_sine_129 : decode cX4_sine 129 = .ok (.getfield 33, 3) := by decide +kernel
theorem dX4_sine_132 : decode cX4_sine 132 = .ok (.bipush 64, 2) := by decide +kernel
theorem dX4_sine_134 : decode cX4_sine 134 = .ok (.invokevirtual 109, 3) := by decide +kernel
theorem dX4_sine_137 : decode cX4_sine 137 = .ok (.aload_n 0, 1) := by decide +kernel
theorem dX4_sine_138 : decode cX4_sine 138 = .ok (.getfield 23, 3) := by decide +kernel
theorem dX4_sine_141 : decode cX4_sine 141 = .ok (.getfield 85, 3) := by decide +kernel
theorem dX4_sine_144 : decode cX4_sine 144 = .ok (.aload_n 0, 1) := by decide +kernel
theorem dX4_sine_145 : decode cX4_sine 145 = .ok (.getfield 33, 3) := by decide +kernel
theorem dX4_sine_148 : decode cX4_sine 148 = .ok (.invokevirtual 118, 3) := by decide +kernel
theorem dX4_sine_151 : decode cX4_sine 151 = .ok (.aload_n 0, 1) := by decide +kernel
theorem dX4_sine_152 : decode cX4_sine 152 = .ok (.getfield 23, 3) := by decide +kernel
theorem dX4_sine_155 : decode cX4_sine 155 = .ok (.getfield 92, 3) := by decide +kernel
theorem dX4_sine_158 : decode cX4_sine 158 = .ok (.aload 4, 2) := by decide +kernel
theorem dX4_sine_160 : decode cX4_sine 160 = .ok (.getfield 92, 3) := by decide +kernel
theorem dX4_sine_163 : decode cX4_sine 163 = .ok (.invokevirtual 118, 3) := by decide +kernel
theorem dX4_sine_166 : decode cX4_sine 166 = .ok (.aload_n 0, 1) := by decide +kernel
theorem dX4_sine_167 : decode cX4_sine 167 = .ok (.aload_n 0, 1) := by decide +kernel
theorem dX4_sine_168 : decode cX4_sine 168 = .ok (.getfield 23, 3) := by decide +kernel
theorem dX4_sine_171 : decode cX4_sine 171 = .ok (.getfield 92, 3) := by decide +kernel
theorem dX4_sine_174 : decode cX4_sine 174 = .ok (.ldc2_w 177, 3) := by decide +kernel
theorem dX4_sine_177 : decode cX4_sine 177 = .ok (.invokevirtual 121, 3) := by decide +kernel
theorem dX4_sine_180 : decode cX4_sine 180 = .ok (.aload_n 0, 1) := by decide +kernel
theorem dX4_sine_181 : decode cX4_sine 181 = .ok (.iload_n 1, 1) := by decide +kernel
theorem dX4_sine_182 : decode cX4_sine 182 = .ok (.invokevirtual 95, 3) := by decide +kernel
theorem dX4_sine_185 : decode cX4_sine 185 = .ok (.ireturn, 1) := by decide +kernel
set_option maxRecDepth 20000 in
theorem ggX4_pi_X4_isPlace : GoodIn wsX4_pi wsX4_isPlace := goodIn_r _ [9] rfl (by decide +kernel)
set_option maxRecDepth 20000 in
theorem gX4_pi_X4_isPlace : GoodIn wsX4_pi (va_wsS RX4 74 yX4_isPlace wsX4_isPlace) := goodIn_app (goodIn_of _ (by decide +kernel)) ggX4_pi_X4_isPlace
set_option maxRecDepth 20000 in
theorem ggX4_pi_X2_halfTurn : GoodIn wsX4_pi wsX2_halfTurn := goodIn_r _ [14, 15, 16, 17, 18, 19, 20, 21, 22, 23, 24, 25, 26, 27, 28, 29, 30, 31, 32, 33, 34, 35, 36, 37, 38, 39, 40, 41, 42, 43, 44, 45, 46, 47, 48, 49, 13, 50, 51, 52, 53, 54, 55, 56, 57, 58, 59, 60, 61, 62, 63, 64, 65, 66, 67, 68, 69, 70, 71, 72, 73, 74, 75, 76, 77, 78, 79, 80, 81, 82, 83, 84, 85, 86, 87, 88, 89, 90, 91, 92, 93, 94, 95, 96, 97, 98, 99, 100, 101, 102, 103, 104, 105, 106, 107, 108, 109, 110, 111, 112, 113, 114, 115, 116, 117, 118, 119, 120, 121, 122, 123, 124, 125, 126, 127, 128, 171, 172, 173, 174, 175, 176, 177, 178, 179, 180, 181, 182, 183, 184, 185] rfl (by decide +kernel)
set_option maxRecDepth 20000 in
theorem gX4_pi_X2_halfTurn : GoodIn wsX4_pi (wsV RX4 170 RX2 yX2_halfTurn wsX2_halfTurn) := goodIn_app (goodIn_of _ (by decide +kernel)) ggX4_pi_X2_halfTurn
set_option maxRecDepth 20000 in
theorem ggX4_pi_X3_become_ : GoodIn wsX4_pi wsX3_become_ := goodIn_r _ [27, 28, 29, 30, 31, 32, 33, 23, 183, 184, 185] rfl (by decide +kernel)
set_option maxRecDepth 20000 in
theorem gX4_pi_X3_become_ : GoodIn wsX4_pi (wsV RX4 118 RX3 yX3_become_ wsX3_become_) := goodIn_app (goodIn_of _ (by decide +kernel)) ggX4_pi_X3_become_
set_option maxRecDepth 20000 in
theorem ggX4_pi_X3_lower : GoodIn wsX4_pi wsX3_lower := goodIn_r _ [71, 23, 29, 72, 73, 74, 75, 28, 46, 76, 77, 78, 21, 79, 38, 39, 40, 41, 42, 43, 44, 45, 183, 184, 185] rfl (by decide +kernel)
set_option maxRecDepth 20000 in
theorem gX4_pi_X3_lower : GoodIn wsX4_pi (wsV RX4 109 RX3 yX3_lower wsX3_lower) := goodIn_app (goodIn_of _ (by decide +kernel)) ggX4_pi_X3_lower
set_option maxRecDepth 20000 in
theorem ggX4_pi_X3_become : GoodIn wsX4_pi wsX3_become := goodIn_r _ [134, 28, 46, 23, 135, 136, 107, 137, 38, 39, 40, 21, 41, 29, 183, 184, 185] rfl (by decide +kernel)
set_option maxRecDepth 20000 in
theorem gX4_pi_X3_become : GoodIn wsX4_pi (wsV RX4 78 RX3 yX3_become wsX3_become) := goodIn_app (goodIn_of _ (by decide +kernel)) ggX4_pi_X3_become
set_option maxRecDepth 20000 in
theorem ggX4_pi_X4_keep : GoodIn wsX4_pi wsX4_keep := goodIn_r _ [141, 1, 142, 143, 144, 145, 146, 147, 148, 149, 150, 151, 98, 99, 21, 100, 29, 28, 101, 102, 103, 104, 105, 106, 107, 108, 152, 19, 20, 22, 23, 153, 154, 155, 156, 157, 25, 26, 27, 30, 31, 32, 33, 158, 159, 160, 161, 162, 163, 164, 165, 166, 167, 168, 169, 170, 183, 184, 185] rfl (by decide +kernel)
set_option maxRecDepth 20000 in
theorem gX4_pi_X4_keep : GoodIn wsX4_pi (wsV RX4 95 RX4 yX4_keep wsX4_keep) := goodIn_app (goodIn_of _ (by decide +kernel)) ggX4_pi_X4_keep
theorem dX4_pi_0 : decode cX4_pi 0 = .ok (.iload_n 1, 1) := by decide +kernel
theorem dX4_pi_1 : decode cX4_pi 1 = .ok (.invokestatic 74, 3) := by decide +kernel
theorem dX4_pi_4 : decode cX4_pi 4 = .ok (.ifCond .ne 5, 3) := by decide +kernel
theorem dX4_pi_7 : decode cX4_pi 7 = .ok (.iconst (-1), 1) := by decide +kernel
theorem dX4_pi_8 : decode cX4_pi 8 = .ok (.ireturn, 1) := by decide +kernel
theorem dX4_pi_9 : decode cX4_pi 9 = .ok (.aload_n 0, 1) := by decide +kernel
theorem dX4_pi_10 : decode cX4_pi 10 = .ok (.getfield 23, 3) := by decide +kernel
theorem dX4_pi_13 : decode cX4_pi 13 = .ok (.getfield 85, 3) := by decide +kernel
theorem dX4_pi_16 : decode cX4_pi 16 = .ok (.aload_n 0, 1) := by decide +kernel
theorem dX4_pi_17 : decode cX4_pi 17 = .ok (.getfield 70, 3) := by decide +kernel
theorem dX4_pi_20 : decode cX4_pi 20 = .ok (.invokevirtual 170, 3) := by decide +kernel
theorem dX4_pi_23 : decode cX4_pi 23 = .ok (.invokevirtual 118, 3) := by decide +kernel
theorem dX4_pi_26 : decode cX4_pi 26 = .ok (.aload_n 0, 1) := by decide +kernel
theorem dX4_pi_27 : decode cX4_pi 27 = .ok (.getfield 23, 3) := by decide +kernel
theorem dX4_pi_30 : decode cX4_pi 30 = .ok (.getfield 85, 3) := by decide +kernel
theorem dX4_pi_33 : decode cX4_pi 33 = .ok (.bipush 64, 2) := by decide +kernel
theorem dX4_pi_35 : decode cX4_pi 35 = .ok (.invokevirtual 109, 3) := by decide +kernel
theorem dX4_pi_38 : decode cX4_pi 38 = .ok (.aload_n 0, 1) := by decide +kernel
theorem dX4_pi_39 : decode cX4_pi 39 = .ok (.getfield 23, 3) := by decide +kernel
theorem dX4_pi_42 : decode cX4_pi 42 = .ok (.getfield 92, 3) := by decide +kernel
theorem dX4_pi_45 : decode cX4_pi 45 = .ok (.ldc2_w 177, 3) := by decide +kernel
theorem dX4_pi_48 : decode cX4_pi 48 = .ok (.invokevirtual 78, 3) := by decide +kernel
theorem dX4_pi_51 : decode cX4_pi 51 = .ok (.aload_n 0, 1) := by decide +kernel
theorem dX4_pi_52 : decode cX4_pi 52 = .ok (.iload_n 1, 1) := by decide +kernel
theorem dX4_pi_53 : decode cX4_pi 53 = .ok (.invokevirtual 95, 3) := by decide +kernel
theorem dX4_pi_56 : decode cX4_pi 56 = .ok (.ireturn, 1) := by decide +kernel
set_option maxRecDepth 20000 in
theorem ggX4_widen_X4_isPlace : GoodIn wsX4_widen wsX4_isPlace := goodIn_r _ [7] rfl (by decide +kernel)
set_option maxRecDepth 20000 in
theorem gX4_widen_X4_isPlace : GoodIn wsX4_widen (va_wsS RX4 74 yX4_isPlace wsX4_isPlace) := goodIn_app (goodIn_of _ (by decide +kernel)) ggX4_widen_X4_isPlace
set_option maxRecDepth 20000 in
theorem ggX4_widen_X0_become : GoodIn wsX4_widen wsX0_become := goodIn_r _ [12, 13, 14, 15, 16, 17, 18, 19, 20, 21, 22, 23, 24, 25, 26, 101, 102, 103, 104, 105] rfl (by decide +kernel)
set_option maxRecDepth 20000 in
theorem gX4_widen_X0_become : GoodIn wsX4_widen (wsV RX4 179 RX0 yX0_become wsX0_become) := goodIn_app (goodIn_of _ (by decide +kernel)) ggX4_widen_X0_become
set_option maxRecDepth 20000 in
theorem ggX4_widen_X4_change : GoodIn wsX4_widen wsX4_change := goodIn_r _ [30, 31, 32, 33, 34, 18, 35, 20, 36, 26, 37, 38, 39, 40, 41, 42, 43, 44, 21, 45, 46, 47, 48, 49, 50, 51, 52, 53, 54, 55, 56, 57, 58, 59, 60, 61, 62, 63, 64, 65, 66, 67, 68, 69, 70, 71, 72, 73, 74, 75, 90, 91, 92, 93, 94, 95, 96, 97, 98, 99, 100, 103, 104, 105] rfl (by decide +kernel)
set_option maxRecDepth 20000 in
theorem gX4_widen_X4_change : GoodIn wsX4_widen (wsV RX4 121 RX4 yX4_change wsX4_change) := goodIn_app (goodIn_of _ (by decide +kernel)) ggX4_widen_X4_change
set_option maxRecDepth 20000 in
theorem ggX4_widen_X4_keep : GoodIn wsX4_widen wsX4_keep := goodIn_r _ [79, 1, 80, 2, 81, 82, 83, 11, 84, 13, 14, 85, 62, 63, 18, 64, 21, 20, 65, 66, 67, 68, 69, 70, 39, 71, 86, 87, 88, 89, 26, 8, 9, 10, 12, 15, 16, 17, 19, 22, 23, 24, 25, 90, 91, 92, 93, 94, 95, 96, 97, 98, 99, 100, 101, 102, 103, 104, 105] rfl (by decide +kernel)
set_option maxRecDepth 20000 in
theorem gX4_widen_X4_keep : GoodIn wsX4_widen (wsV RX4 95 RX4 yX4_keep wsX4_keep) := goodIn_app (goodIn_of _ (by decide +kernel)) ggX4_widen_X4_keep
theorem dX4_widen_0 : decode cX4_widen 0 = .ok (.iload_n 1, 1) := by decide +kernel
theorem dX4_widen_1 : decode cX4_widen 1 = .ok (.invokestatic 74, 3) := by decide +kernel
theorem dX4_widen_4 : decode cX4_widen 4 = .ok (.ifCond .eq 9, 3) := by decide +kernel
theorem dX4_widen_7 : decode cX4_widen 7 = .ok (.lload_n 2, 1) := by decide +kernel
theorem dX4_widen_8 : decode cX4_widen 8 = .ok (.lconst 0, 1) := by decide +kernel
theorem dX4_widen_9 : decode cX4_widen 9 = .ok (.lcmp, 1) := by decide +kernel
theorem dX4_widen_10 : decode cX4_widen 10 = .ok (.ifCond .ge 5, 3) := by decide +kernel
theorem dX4_widen_13 : decode cX4_widen 13 = .ok (.iconst (-1), 1) := by decide +kernel
theorem dX4_widen_14 : decode cX4_widen 14 = .ok (.ireturn, 1) := by decide +kernel
theorem dX4_widen_15 : decode cX4_widen 15 = .ok (.aload_n 0, 1) := by decide +kernel
theorem dX4_widen_16 : decode cX4_widen 16 = .ok (.getfield 23, 3) := by decide +kernel
theorem dX4_widen_19 : decode cX4_widen 19 = .ok (.aload_n 0, 1) := by decide +kernel
theorem dX4_widen_20 : decode cX4_widen 20 = .ok (.getfield 18, 3) := by decide +kernel
theorem dX4_widen_23 : decode cX4_widen 23 = .ok (.iload_n 1, 1) := by decide +kernel
theorem dX4_widen_24 : decode cX4_widen 24 = .ok (.aaload, 1) := by decide +kernel
theorem dX4_widen_25 : decode cX4_widen 25 = .ok (.invokevirtual 179, 3) := by decide +kernel
theorem dX4_widen_28 : decode cX4_widen 28 = .ok (.aload_n 0, 1) := by decide +kernel
theorem dX4_widen_29 : decode cX4_widen 29 = .ok (.aload_n 0, 1) := by decide +kernel
theorem dX4_widen_30 : decode cX4_widen 30 = .ok (.getfield 23, 3) := by decide +kernel
theorem dX4_widen_33 : decode cX4_widen 33 = .ok (.getfield 92, 3) := by decide +kernel
theorem dX4_widen_36 : decode cX4_widen 36 = .ok (.lload_n 2, 1) := by decide +kernel
theorem dX4_widen_37 : decode cX4_widen 37 = .ok (.invokevirtual 121, 3) := by decide +kernel
theorem dX4_widen_40 : decode cX4_widen 40 = .ok (.aload_n 0, 1) := by decide +kernel
theorem dX4_widen_41 : decode cX4_widen 41 = .ok (.iload_n 1, 1) := by decide +kernel
theorem dX4_widen_42 : decode cX4_widen 42 = .ok (.invokevirtual 95, 3) := by decide +kernel
theorem dX4_widen_45 : decode cX4_widen 45 = .ok (.ireturn, 1) := by decide +kernel
set_option maxRecDepth 20000 in
theorem ggX4_join_X4_isPlace : GoodIn wsX4_join wsX4_isPlace := goodIn_r _ [9] rfl (by decide +kernel)
set_option maxRecDepth 20000 in
theorem gX4_join_X4_isPlace : GoodIn wsX4_join (va_wsS RX4 74 yX4_isPlace wsX4_isPlace) := goodIn_app (goodIn_of _ (by decide +kernel)) ggX4_join_X4_isPlace
set_option maxRecDepth 20000 in
theorem ggX4_join_X4_findEnds : GoodIn wsX4_join wsX4_findEnds := goodIn_r _ [13, 3, 14, 15, 5, 16, 17, 18, 19, 20, 21, 22, 23, 24, 25, 26, 27, 28, 29, 30, 31, 32, 33, 34, 35, 36, 37, 38, 39, 40, 41, 42, 43, 44, 45, 46, 47, 48, 49, 50, 51, 52, 53, 54, 55, 56, 57, 58, 59, 60, 116, 117, 118, 119, 120, 121, 122, 123, 124, 125, 126, 127, 128, 129, 130, 131] rfl (by decide +kernel)
set_option maxRecDepth 20000 in
theorem gX4_join_X4_findEnds : GoodIn wsX4_join (wsV RX4 137 RX4 yX4_findEnds wsX4_findEnds) := goodIn_app (goodIn_of _ (by decide +kernel)) ggX4_join_X4_findEnds
set_option maxRecDepth 20000 in
theorem ggX4_join_X4_findOtherEnds : GoodIn wsX4_join wsX4_findOtherEnds := goodIn_r _ [64, 2, 14, 15, 4, 16, 17, 18, 19, 20, 21, 22, 23, 24, 25, 26, 27, 28, 29, 30, 31, 32, 33, 34, 35, 36, 37, 38, 39, 40, 41, 42, 43, 44, 45, 46, 47, 48, 49, 50, 51, 52, 53, 54, 55, 56, 57, 58, 59, 60, 116, 117, 118, 119, 120, 121, 122, 123, 124, 125, 126, 127, 128, 129, 130, 131] rfl (by decide +kernel)
set_option maxRecDepth 20000 in
theorem gX4_join_X4_findOtherEnds : GoodIn wsX4_join (wsV RX4 181 RX4 yX4_findOtherEnds wsX4_findOtherEnds) := goodIn_app (goodIn_of _ (by decide +kernel)) ggX4_join_X4_findOtherEnds
set_option maxRecDepth 20000 in
theorem ggX4_join_X3_order : GoodIn wsX4_join wsX3_order := goodIn_r _ [68, 21, 41, 42, 43, 44, 37, 38, 39, 19, 40, 30, 35, 45, 46, 47, 48, 129, 130, 131] rfl (by decide +kernel)
set_option maxRecDepth 20000 in
theorem gX4_join_X3_order : GoodIn wsX4_join (wsV RX4 125 RX3 yX3_order wsX3_order) := goodIn_app (goodIn_of _ (by decide +kernel)) ggX4_join_X3_order
set_option maxRecDepth 20000 in
theorem ggX4_join_X3_become_ : GoodIn wsX4_join wsX3_become_ := goodIn_r _ [72, 35, 30, 73, 74, 75, 76, 21, 129, 130, 131] rfl (by decide +kernel)
set_option maxRecDepth 20000 in
theorem gX4_join_X3_become_ : GoodIn wsX4_join (wsV RX4 118 RX3 yX3_become_ wsX3_become_) := goodIn_app (goodIn_of _ (by decide +kernel)) ggX4_join_X3_become_
set_option maxRecDepth 20000 in
theorem ggX4_join_X4_keepEnds : GoodIn wsX4_join wsX4_keepEnds := goodIn_r _ [80, 81, 14, 3, 5, 15, 57, 58, 59, 19, 60, 21, 22, 23, 24, 25, 26, 27, 28, 29, 30, 31, 32, 33, 34, 35, 36, 37, 38, 39, 40, 41, 42, 43, 44, 45, 46, 47, 48, 49, 50, 51, 52, 53, 54, 55, 56, 82, 83, 84, 85, 86, 87, 88, 89, 90, 91, 92, 93, 16, 17, 18, 20, 94, 95, 96, 8, 97, 98, 1, 99, 100, 101, 102, 103, 104, 105, 106, 107, 108, 109, 110, 111, 112, 113, 114, 115, 70, 71, 72, 73, 74, 75, 76, 116, 117, 118, 119, 120, 121, 122, 123, 124, 125, 126, 127, 128, 129, 130, 131] rfl (by decide +kernel)
set_option maxRecDepth 20000 in
theorem gX4_join_X4_keepEnds : GoodIn wsX4_join (wsV RX4 144 RX4 yX4_keepEnds wsX4_keepEnds) := goodIn_app (goodIn_of _ (by decide +kernel)) ggX4_join_X4_keepEnds
theorem dX4_join_0 : decode cX4_join 0 = .ok (.iload_n 1, 1) := by decide +kernel
theorem dX4_join_1 : decode cX4_join 1 = .ok (.invokestatic 74, 3) := by decide +kernel
theorem dX4_join_4 : decode cX4_join 4 = .ok (.ifCond .eq 17, 3) := by decide +kernel
theorem dX4_join_7 : decode cX4_join 7 = .ok (.iload_n 2, 1) := by decide +kernel
theorem dX4_join_8 : decode cX4_join 8 = .ok (.invokestatic 74, 3) := by decide +kernel
theorem dX4_join_11 : decode cX4_join 11 = .ok (.ifCond .eq 10, 3) := by decide +kernel
theorem dX4_join_14 : decode cX4_join 14 = .ok (.iload_n 3, 1) := by decide +kernel
theorem dX4_join_15 : decode cX4_join 15 = .ok (.invokestatic 74, 3) := by decide +kernel
theorem dX4_join_18 : decode cX4_join 18 = .ok (.ifCond .ne 5, 3) := by decide +kernel
theorem dX4_join_21 : decode cX4_join 21 = .ok (.iconst (-1), 1) := by decide +kernel
theorem dX4_join_22 : decode cX4_join 22 = .ok (.ireturn, 1) := by decide +kernel
theorem dX4_join_23 : decode cX4_join 23 = .ok (.aload_n 0, 1) := by decide +kernel
theorem dX4_join_24 : decode cX4_join 24 = .ok (.aload_n 0, 1) := by decide +kernel
theorem dX4_join_25 : decode cX4_join 25 = .ok (.getfield 18, 3) := by decide +kernel
theorem dX4_join_28 : decode cX4_join 28 = .ok (.iload_n 2, 1) := by decide +kernel
theorem dX4_join_29 : decode cX4_join 29 = .ok (.aaload, 1) := by decide +kernel
theorem dX4_join_30 : decode cX4_join 30 = .ok (.invokevirtual 137, 3) := by decide +kernel
theorem dX4_join_33 : decode cX4_join 33 = .ok (.aload_n 0, 1) := by decide +kernel
theorem dX4_join_34 : decode cX4_join 34 = .ok (.aload_n 0, 1) := by decide +kernel
theorem dX4_join_35 : decode cX4_join 35 = .ok (.getfield 18, 3) := by decide +kernel
theorem dX4_join_38 : decode cX4_join 38 = .ok (.iload_n 3, 1) := by decide +kernel
theorem dX4_join_39 : decode cX4_join 39 = .ok (.aaload, 1) := by decide +kernel
theorem dX4_join_40 : decode cX4_join 40 = .ok (.invokevirtual 181, 3) := by decide +kernel
theorem dX4_join_43 : decode cX4_join 43 = .ok (.aload_n 0, 1) := by decide +kernel
theorem dX4_join_44 : decode cX4_join 44 = .ok (.getfield 33, 3) := by decide +kernel
theorem dX4_join_47 : decode cX4_join 47 = .ok (.aload_n 0, 1) := by decide +kernel
theorem dX4_join_48 : decode cX4_join 48 = .ok (.getfield 27, 3) := by decide +kernel
theorem dX4_join_51 : decode cX4_join 51 = .ok (.invokevirtual 125, 3) := by decide +kernel
theorem dX4_join_54 : decode cX4_join 54 = .ok (.ifCond .ge 14, 3) := by decide +kernel
theorem dX4_join_57 : decode cX4_join 57 = .ok (.aload_n 0, 1) := by decide +kernel
theorem dX4_join_58 : decode cX4_join 58 = .ok (.getfield 27, 3) := by decide +kernel
theorem dX4_join_61 : decode cX4_join 61 = .ok (.aload_n 0, 1) := by decide +kernel
theorem dX4_join_62 : decode cX4_join 62 = .ok (.getfield 33, 3) := by decide +kernel
theorem dX4_join_65 : decode cX4_join 65 = .ok (.invokevirtual 118, 3) := by decide +kernel
theorem dX4_join_68 : decode cX4_join 68 = .ok (.aload_n 0, 1) := by decide +kernel
theorem dX4_join_69 : decode cX4_join 69 = .ok (.getfield 36, 3) := by decide +kernel
theorem dX4_join_72 : decode cX4_join 72 = .ok (.aload_n 0, 1) := by decide +kernel
theorem dX4_join_73 : decode cX4_join 73 = .ok (.getfield 30, 3) := by decide +kernel
theorem dX4_join_76 : decode cX4_join 76 = .ok (.invokevirtual 125, 3) := by decide +kernel
theorem dX4_join_79 : decode cX4_join 79 = .ok (.ifCond .le 14, 3) := by decide +kernel
theorem dX4_join_82 : decode cX4_join 82 = .ok (.aload_n 0, 1) := by decide +kernel
theorem dX4_join_83 : decode cX4_join 83 = .ok (.getfield 30, 3) := by decide +kernel
theorem dX4_join_86 : decode cX4_join 86 = .ok (.aload_n 0, 1) := by decide +kernel
theorem dX4_join_87 : decode cX4_join 87 = .ok (.getfield 36, 3) := by decide +kernel
theorem dX4_join_90 : decode cX4_join 90 = .ok (.invokevirtual 118, 3) := by decide +kernel
theorem dX4_join_93 : decode cX4_join 93 = .ok (.aload_n 0, 1) := by decide +kernel
theorem dX4_join_94 : decode cX4_join 94 = .ok (.iload_n 1, 1) := by decide +kernel
theorem dX4_join_95 : decode cX4_join 95 = .ok (.invokevirtual 144, 3) := by decide +kernel
theorem dX4_join_98 : decode cX4_join 98 = .ok (.ireturn, 1) := by decide +kernel
set_option maxRecDepth 20000 in
theorem ggX4_lies_X4_isPlace : GoodIn wsX4_lies wsX4_isPlace := goodIn_r _ [9] rfl (by decide +kernel)
set_option maxRecDepth 20000 in
theorem gX4_lies_X4_isPlace : GoodIn wsX4_lies (va_wsS RX4 74 yX4_isPlace wsX4_isPlace) := goodIn_app (goodIn_of _ (by decide +kernel)) ggX4_lies_X4_isPlace
set_option maxRecDepth 20000 in
theorem ggX4_lies_X4_findEnds : GoodIn wsX4_lies wsX4_findEnds := goodIn_r _ [13, 4, 14, 15, 2, 16, 17, 18, 19, 20, 21, 22, 23, 24, 25, 26, 27, 28, 29, 30, 31, 32, 33, 34, 35, 36, 37, 38, 39, 40, 41, 42, 43, 44, 45, 46, 47, 48, 49, 50, 51, 52, 53, 54, 55, 56, 57, 58, 59, 60, 69, 70, 71, 72, 73, 74, 75, 76, 77, 78, 79, 80, 81, 82, 83, 84] rfl (by decide +kernel)
set_option maxRecDepth 20000 in
theorem gX4_lies_X4_findEnds : GoodIn wsX4_lies (wsV RX4 137 RX4 yX4_findEnds wsX4_findEnds) := goodIn_app (goodIn_of _ (by decide +kernel)) ggX4_lies_X4_findEnds
set_option maxRecDepth 20000 in
theorem ggX4_lies_X4_findOtherEnds : GoodIn wsX4_lies wsX4_findOtherEnds := goodIn_r _ [64, 3, 14, 15, 5, 16, 17, 18, 19, 20, 21, 22, 23, 24, 25, 26, 27, 28, 29, 30, 31, 32, 33, 34, 35, 36, 37, 38, 39, 40, 41, 42, 43, 44, 45, 46, 47, 48, 49, 50, 51, 52, 53, 54, 55, 56, 57, 58, 59, 60, 69, 70, 71, 72, 73, 74, 75, 76, 77, 78, 79, 80, 81, 82, 83, 84] rfl (by decide +kernel)
set_option maxRecDepth 20000 in
theorem gX4_lies_X4_findOtherEnds : GoodIn wsX4_lies (wsV RX4 181 RX4 yX4_findOtherEnds wsX4_findOtherEnds) := goodIn_app (goodIn_of _ (by decide +kernel)) ggX4_lies_X4_findOtherEnds
set_option maxRecDepth 20000 in
theorem ggX4_lies_X3_order : GoodIn wsX4_lies wsX3_order := goodIn_r _ [68, 21, 41, 42, 43, 44, 37, 38, 39, 19, 40, 30, 35, 45, 46, 47, 48, 82, 83, 84] rfl (by decide +kernel)
set_option maxRecDepth 20000 in
theorem gX4_lies_X3_order : GoodIn wsX4_lies (wsV RX4 125 RX3 yX3_order wsX3_order) := goodIn_app (goodIn_of _ (by decide +kernel)) ggX4_lies_X3_order
theorem dX4_lies_0 : decode cX4_lies 0 = .ok (.iload_n 1, 1) := by decide +kernel
theorem dX4_lies_1 : decode cX4_lies 1 = .ok (.invokestatic 74, 3) := by decide +kernel
theorem dX4_lies_4 : decode cX4_lies 4 = .ok (.ifCond .eq 10, 3) := by decide +kernel
theorem dX4_lies_7 : decode cX4_lies 7 = .ok (.iload_n 2, 1) := by decide +kernel
theorem dX4_lies_8 : decode cX4_lies 8 = .ok (.invokestatic 74, 3) := by decide +kernel
theorem dX4_lies_11 : decode cX4_lies 11 = .ok (.ifCond .ne 5, 3) := by decide +kernel
theorem dX4_lies_14 : decode cX4_lies 14 = .ok (.iconst (-1), 1) := by decide +kernel
theorem dX4_lies_15 : decode cX4_lies 15 = .ok (.ireturn, 1) := by decide +kernel
theorem dX4_lies_16 : decode cX4_lies 16 = .ok (.aload_n 0, 1) := by decide +kernel
theorem dX4_lies_17 : decode cX4_lies 17 = .ok (.aload_n 0, 1) := by decide +kernel
theorem dX4_lies_18 : decode cX4_lies 18 = .ok (.getfield 18, 3) := by decide +kernel
theorem dX4_lies_21 : decode cX4_lies 21 = .ok (.iload_n 1, 1) := by decide +kernel
theorem dX4_lies_22 : decode cX4_lies 22 = .ok (.aaload, 1) := by decide +kernel
theorem dX4_lies_23 : decode cX4_lies 23 = .ok (.invokevirtual 137, 3) := by decide +kernel
theorem dX4_lies_26 : decode cX4_lies 26 = .ok (.aload_n 0, 1) := by decide +kernel
theorem dX4_lies_27 : decode cX4_lies 27 = .ok (.aload_n 0, 1) := by decide +kernel
theorem dX4_lies_28 : decode cX4_lies 28 = .ok (.getfield 18, 3) := by decide +kernel
theorem dX4_lies_31 : decode cX4_lies 31 = .ok (.iload_n 2, 1) := by decide +kernel
theorem dX4_lies_32 : decode cX4_lies 32 = .ok (.aaload, 1) := by decide +kernel
theorem dX4_lies_33 : decode cX4_lies 33 = .ok (.invokevirtual 181, 3) := by decide +kernel
theorem dX4_lies_36 : decode cX4_lies 36 = .ok (.aload_n 0, 1) := by decide +kernel
theorem dX4_lies_37 : decode cX4_lies 37 = .ok (.getfield 30, 3) := by decide +kernel
theorem dX4_lies_40 : decode cX4_lies 40 = .ok (.aload_n 0, 1) := by decide +kernel
theorem dX4_lies_41 : decode cX4_lies 41 = .ok (.getfield 33, 3) := by decide +kernel
theorem dX4_lies_44 : decode cX4_lies 44 = .ok (.invokevirtual 125, 3) := by decide +kernel
theorem dX4_lies_47 : decode cX4_lies 47 = .ok (.ifCond .ge 6, 3) := by decide +kernel
theorem dX4_lies_50 : decode cX4_lies 50 = .ok (.bipush (-2), 2) := by decide +kernel
theorem dX4_lies_52 : decode cX4_lies 52 = .ok (.ireturn, 1) := by decide +kernel
theorem dX4_lies_53 : decode cX4_lies 53 = .ok (.aload_n 0, 1) := by decide +kernel
theorem dX4_lies_54 : decode cX4_lies 54 = .ok (.getfield 27, 3) := by decide +kernel
theorem dX4_lies_57 : decode cX4_lies 57 = .ok (.aload_n 0, 1) := by decide +kernel
theorem dX4_lies_58 : decode cX4_lies 58 = .ok (.getfield 36, 3) := by decide +kernel
theorem dX4_lies_61 : decode cX4_lies 61 = .ok (.invokevirtual 125, 3) := by decide +kernel
theorem dX4_lies_64 : decode cX4_lies 64 = .ok (.ifCond .le 5, 3) := by decide +kernel
theorem dX4_lies_67 : decode cX4_lies 67 = .ok (.iconst 2, 1) := by decide +kernel
theorem dX4_lies_68 : decode cX4_lies 68 = .ok (.ireturn, 1) := by decide +kernel
theorem dX4_lies_69 : decode cX4_lies 69 = .ok (.aload_n 0, 1) := by decide +kernel
theorem dX4_lies_70 : decode cX4_lies 70 = .ok (.getfield 27, 3) := by decide +kernel
theorem dX4_lies_73 : decode cX4_lies 73 = .ok (.aload_n 0, 1) := by decide +kernel
theorem dX4_lies_74 : decode cX4_lies 74 = .ok (.getfield 33, 3) := by decide +kernel
theorem dX4_lies_77 : decode cX4_lies 77 = .ok (.invokevirtual 125, 3) := by decide +kernel
theorem dX4_lies_80 : decode cX4_lies 80 = .ok (.istore_n 3, 1) := by decide +kernel
theorem dX4_lies_81 : decode cX4_lies 81 = .ok (.aload_n 0, 1) := by decide +kernel
theorem dX4_lies_82 : decode cX4_lies 82 = .ok (.getfield 30, 3) := by decide +kernel
theorem dX4_lies_85 : decode cX4_lies 85 = .ok (.aload_n 0, 1) := by decide +kernel
theorem dX4_lies_86 : decode cX4_lies 86 = .ok (.getfield 36, 3) := by decide +kernel
theorem dX4_lies_89 : decode cX4_lies 89 = .ok (.invokevirtual 125, 3) := by decide +kernel
theorem dX4_lies_92 : decode cX4_lies 92 = .ok (.istore 4, 2) := by decide +kernel
theorem dX4_lies_94 : decode cX4_lies 94 = .ok (.iload_n 3, 1) := by decide +kernel
theorem dX4_lies_95 : decode cX4_lies 95 = .ok (.ifCond .ne 10, 3) := by decide +kernel
theorem dX4_lies_98 : decode cX4_lies 98 = .ok (.iload 4, 2) := by decide +kernel
theorem dX4_lies_100 : decode cX4_lies 100 = .ok (.ifCond .ne 5, 3) := by decide +kernel
theorem dX4_lies_103 : decode cX4_lies 103 = .ok (.iconst 3, 1) := by decide +kernel
theorem dX4_lies_104 : decode cX4_lies 104 = .ok (.ireturn, 1) := by decide +kernel
theorem dX4_lies_105 : decode cX4_lies 105 = .ok (.iload_n 3, 1) := by decide +kernel
theorem dX4_lies_106 : decode cX4_lies 106 = .ok (.ifCond .lt 10, 3) := by decide +kernel
theorem dX4_lies_109 : decode cX4_lies 109 = .ok (.iload 4, 2) := by decide +kernel
theorem dX4_lies_111 : decode cX4_lies 111 = .ok (.ifCond .gt 5, 3) := by decide +kernel
theorem dX4_lies_114 : decode cX4_lies 114 = .ok (.iconst 4, 1) := by decide +kernel
theorem dX4_lies_115 : decode cX4_lies 115 = .ok (.ireturn, 1) := by decide +kernel
theorem dX4_lies_116 : decode cX4_lies 116 = .ok (.iload_n 3, 1) := by decide +kernel
theorem dX4_lies_117 : decode cX4_lies 117 = .ok (.ifCond .gt 12, 3) := by decide +kernel
theorem dX4_lies_120 : decode cX4_lies 120 = .ok (.iload 4, 2) := by decide +kernel
theorem dX4_lies_122 : decode cX4_lies 122 = .ok (.ifCond .lt 7, 3) := by decide +kernel
theorem dX4_lies_125 : decode cX4_lies 125 = .ok (.iconst 5, 1) := by decide +kernel
theorem dX4_lies_126 : decode cX4_lies 126 = .ok (.goto 5, 3) := by decide +kernel
theorem dX4_lies_129 : decode cX4_lies 129 = .ok (.bipush 6, 2) := by decide +kernel
theorem dX4_lies_131 : decode cX4_lies 131 = .ok (.ireturn, 1) := by decide +kernel
set_option maxRecDepth 20000 in
theorem ggX4_holds_X4_isPlace : GoodIn wsX4_holds wsX4_isPlace := goodIn_r _ [11] rfl (by decide +kernel)
set_option maxRecDepth 20000 in
theorem gX4_holds_X4_isPlace : GoodIn wsX4_holds (va_wsS RX4 74 yX4_isPlace wsX4_isPlace) := goodIn_app (goodIn_of _ (by decide +kernel)) ggX4_holds_X4_isPlace
set_option maxRecDepth 20000 in
theorem ggX4_holds_X4_findEnds : GoodIn wsX4_holds wsX4_findEnds := goodIn_r _ [15, 4, 16, 17, 6, 18, 19, 20, 21, 22, 23, 24, 25, 26, 27, 28, 29, 30, 31, 32, 33, 34, 35, 36, 37, 38, 39, 40, 41, 42, 43, 44, 45, 46, 47, 48, 49, 50, 51, 52, 53, 54, 55, 56, 57, 58, 59, 60, 61, 62, 94, 95, 96, 97, 98, 99, 100, 101, 102, 103, 104, 105, 106, 107, 108, 109] rfl (by decide +kernel)
set_option maxRecDepth 20000 in
theorem gX4_holds_X4_findEnds : GoodIn wsX4_holds (wsV RX4 137 RX4 yX4_findEnds wsX4_findEnds) := goodIn_app (goodIn_of _ (by decide +kernel)) ggX4_holds_X4_findEnds
set_option maxRecDepth 20000 in
theorem ggX4_holds_X3_become : GoodIn wsX4_holds wsX3_become := goodIn_r _ [66, 37, 38, 23, 67, 68, 49, 69, 55, 56, 57, 21, 58, 32, 107, 108, 109] rfl (by decide +kernel)
set_option maxRecDepth 20000 in
theorem gX4_holds_X3_become : GoodIn wsX4_holds (wsV RX4 78 RX3 yX3_become wsX3_become) := goodIn_app (goodIn_of _ (by decide +kernel)) ggX4_holds_X3_become
set_option maxRecDepth 20000 in
theorem ggX4_holds_X3_product : GoodIn wsX4_holds wsX3_product := goodIn_r _ [73, 32, 37, 38, 23, 74, 75, 76, 21, 77, 55, 56, 57, 58, 107, 108, 109] rfl (by decide +kernel)
set_option maxRecDepth 20000 in
theorem gX4_holds_X3_product : GoodIn wsX4_holds (wsV RX4 106 RX3 yX3_product wsX3_product) := goodIn_app (goodIn_of _ (by decide +kernel)) ggX4_holds_X3_product
set_option maxRecDepth 20000 in
theorem ggX4_holds_X3_raise : GoodIn wsX4_holds wsX3_raise := goodIn_r _ [81, 32, 37, 82, 83, 84, 21, 85, 38, 86, 87, 88, 89, 55, 56, 57, 58, 23, 107, 108, 109] rfl (by decide +kernel)
set_option maxRecDepth 20000 in
theorem gX4_holds_X3_raise : GoodIn wsX4_holds (wsV RX4 82 RX3 yX3_raise wsX3_raise) := goodIn_app (goodIn_of _ (by decide +kernel)) ggX4_holds_X3_raise
set_option maxRecDepth 20000 in
theorem ggX4_holds_X3_order : GoodIn wsX4_holds wsX3_order := goodIn_r _ [93, 23, 43, 44, 45, 46, 39, 40, 41, 21, 42, 32, 37, 47, 48, 49, 50, 107, 108, 109] rfl (by decide +kernel)
set_option maxRecDepth 20000 in
theorem gX4_holds_X3_order : GoodIn wsX4_holds (wsV RX4 125 RX3 yX3_order wsX3_order) := goodIn_app (goodIn_of _ (by decide +kernel)) ggX4_holds_X3_order
theorem dX4_holds_0 : decode cX4_holds 0 = .ok (.iload_n 1, 1) := by decide +kernel
theorem dX4_holds_1 : decode cX4_holds 1 = .ok (.invokestatic 74, 3) := by decide +kernel
theorem dX4_holds_4 : decode cX4_holds 4 = .ok (.ifCond .eq 10, 3) := by decide +kernel
theorem dX4_holds_7 : decode cX4_holds 7 = .ok (.lload 4, 2) := by decide +kernel
theorem dX4_holds_9 : decode cX4_holds 9 = .ok (.lconst 0, 1) := by decide +kernel
theorem dX4_holds_10 : decode cX4_holds 10 = .ok (.lcmp, 1) := by decide +kernel
theorem dX4_holds_11 : decode cX4_holds 11 = .ok (.ifCond .gt 5, 3) := by decide +kernel
theorem dX4_holds_14 : decode cX4_holds 14 = .ok (.iconst (-1), 1) := by decide +kernel
theorem dX4_holds_15 : decode cX4_holds 15 = .ok (.ireturn, 1) := by decide +kernel
theorem dX4_holds_16 : decode cX4_holds 16 = .ok (.aload_n 0, 1) := by decide +kernel
theorem dX4_holds_17 : decode cX4_holds 17 = .ok (.aload_n 0, 1) := by decide +kernel
theorem dX4_holds_18 : decode cX4_holds 18 = .ok (.getfield 18, 3) := by decide +kernel
theorem dX4_holds_21 : decode cX4_holds 21 = .ok (.iload_n 1, 1) := by decide +kernel
theorem dX4_holds_22 : decode cX4_holds 22 = .ok (.aaload, 1) := by decide +kernel
theorem dX4_holds_23 : decode cX4_holds 23 = .ok (.invokevirtual 137, 3) := by decide +kernel
theorem dX4_holds_26 : decode cX4_holds 26 = .ok (.aload_n 0, 1) := by decide +kernel
theorem dX4_holds_27 : decode cX4_holds 27 = .ok (.getfield 39, 3) := by decide +kernel
theorem dX4_holds_30 : decode cX4_holds 30 = .ok (.lload 4, 2) := by decide +kernel
theorem dX4_holds_32 : decode cX4_holds 32 = .ok (.invokevirtual 78, 3) := by decide +kernel
theorem dX4_holds_35 : decode cX4_holds 35 = .ok (.aload_n 0, 1) := by decide +kernel
theorem dX4_holds_36 : decode cX4_holds 36 = .ok (.getfield 33, 3) := by decide +kernel
theorem dX4_holds_39 : decode cX4_holds 39 = .ok (.aload_n 0, 1) := by decide +kernel
theorem dX4_holds_40 : decode cX4_holds 40 = .ok (.getfield 27, 3) := by decide +kernel
theorem dX4_holds_43 : decode cX4_holds 43 = .ok (.aload_n 0, 1) := by decide +kernel
theorem dX4_holds_44 : decode cX4_holds 44 = .ok (.getfield 39, 3) := by decide +kernel
theorem dX4_holds_47 : decode cX4_holds 47 = .ok (.invokevirtual 106, 3) := by decide +kernel
theorem dX4_holds_50 : decode cX4_holds 50 = .ok (.aload_n 0, 1) := by decide +kernel
theorem dX4_holds_51 : decode cX4_holds 51 = .ok (.getfield 36, 3) := by decide +kernel
theorem dX4_holds_54 : decode cX4_holds 54 = .ok (.aload_n 0, 1) := by decide +kernel
theorem dX4_holds_55 : decode cX4_holds 55 = .ok (.getfield 30, 3) := by decide +kernel
theorem dX4_holds_58 : decode cX4_holds 58 = .ok (.aload_n 0, 1) := by decide +kernel
theorem dX4_holds_59 : decode cX4_holds 59 = .ok (.getfield 39, 3) := by decide +kernel
theorem dX4_holds_62 : decode cX4_holds 62 = .ok (.invokevirtual 106, 3) := by decide +kernel
theorem dX4_holds_65 : decode cX4_holds 65 = .ok (.aload_n 0, 1) := by decide +kernel
theorem dX4_holds_66 : decode cX4_holds 66 = .ok (.getfield 39, 3) := by decide +kernel
theorem dX4_holds_69 : decode cX4_holds 69 = .ok (.lload_n 2, 1) := by decide +kernel
theorem dX4_holds_70 : decode cX4_holds 70 = .ok (.invokevirtual 78, 3) := by decide +kernel
theorem dX4_holds_73 : decode cX4_holds 73 = .ok (.aload_n 0, 1) := by decide +kernel
theorem dX4_holds_74 : decode cX4_holds 74 = .ok (.getfield 39, 3) := by decide +kernel
theorem dX4_holds_77 : decode cX4_holds 77 = .ok (.aload_n 0, 1) := by decide +kernel
theorem dX4_holds_78 : decode cX4_holds 78 = .ok (.getfield 58, 3) := by decide +kernel
theorem dX4_holds_81 : decode cX4_holds 81 = .ok (.invokevirtual 82, 3) := by decide +kernel
theorem dX4_holds_84 : decode cX4_holds 84 = .ok (.aload_n 0, 1) := by decide +kernel
theorem dX4_holds_85 : decode cX4_holds 85 = .ok (.getfield 33, 3) := by decide +kernel
theorem dX4_holds_88 : decode cX4_holds 88 = .ok (.aload_n 0, 1) := by decide +kernel
theorem dX4_holds_89 : decode cX4_holds 89 = .ok (.getfield 39, 3) := by decide +kernel
theorem dX4_holds_92 : decode cX4_holds 92 = .ok (.invokevirtual 125, 3) := by decide +kernel
theorem dX4_holds_95 : decode cX4_holds 95 = .ok (.ifCond .gt 21, 3) := by decide +kernel
theorem dX4_holds_98 : decode cX4_holds 98 = .ok (.aload_n 0, 1) := by decide +kernel
theorem dX4_holds_99 : decode cX4_holds 99 = .ok (.getfield 39, 3) := by decide +kernel
theorem dX4_holds_102 : decode cX4_holds 102 = .ok (.aload_n 0, 1) := by decide +kernel
theorem dX4_holds_103 : decode cX4_holds 103 = .ok (.getfield 36, 3) := by decide +kernel
theorem dX4_holds_106 : decode cX4_holds 106 = .ok (.invokevirtual 125, 3) := by decide +kernel
theorem dX4_holds_109 : decode cX4_holds 109 = .ok (.ifCond .gt 7, 3) := by decide +kernel
theorem dX4_holds_112 : decode cX4_holds 112 = .ok (.iconst 1, 1) := by decide +kernel
theorem dX4_holds_113 : decode cX4_holds 113 = .ok (.goto 4, 3) := by decide +kernel
theorem dX4_holds_116 : decode cX4_holds 116 = .ok (.iconst 0, 1) := by decide +kernel
theorem dX4_holds_117 : decode cX4_holds 117 = .ok (.ireturn, 1) := by decide +kernel
set_option maxRecDepth 20000 in
theorem ggX4_limb_X4_isPlace : GoodIn wsX4_limb wsX4_isPlace := goodIn_r _ [12] rfl (by decide +kernel)
set_option maxRecDepth 20000 in
theorem gX4_limb_X4_isPlace : GoodIn wsX4_limb (va_wsS RX4 74 yX4_isPlace wsX4_isPlace) := goodIn_app (goodIn_of _ (by decide +kernel)) ggX4_limb_X4_isPlace
set_option maxRecDepth 20000 in
theorem ggX4_limb_X4_partOf : GoodIn wsX4_limb wsX4_partOf := goodIn_r _ [16, 17, 18, 19, 20, 21, 22, 23, 11, 24, 25, 26, 27, 28, 29, 30, 31, 32, 33, 34, 35, 36, 37, 38, 39, 40, 6, 7, 8, 41, 42, 43, 44, 45, 46, 47, 48, 49, 50, 51, 52, 53, 54, 55, 56, 57, 58, 59, 60, 61, 62, 63, 64, 65, 66, 90, 91, 79, 80, 81, 82, 83, 84, 85, 86, 87, 88, 89, 92, 93, 94] rfl (by decide +kernel)
set_option maxRecDepth 20000 in
theorem gX4_limb_X4_partOf : GoodIn wsX4_limb (wsV RX4 186 RX4 yX4_partOf wsX4_partOf) := goodIn_app (goodIn_of _ (by decide +kernel)) ggX4_limb_X4_partOf
set_option maxRecDepth 20000 in
theorem ggX4_limb_X3_sign : GoodIn wsX4_limb wsX3_sign := goodIn_r _ [70, 30, 92, 93, 94] rfl (by decide +kernel)
set_option maxRecDepth 20000 in
theorem gX4_limb_X3_sign : GoodIn wsX4_limb (wsV RX4 129 RX3 yX3_sign wsX3_sign) := goodIn_app (goodIn_of _ (by decide +kernel)) ggX4_limb_X3_sign
set_option maxRecDepth 20000 in
theorem ggX4_limb_X3_size : GoodIn wsX4_limb wsX3_size := goodIn_r _ [74, 39, 92, 93, 94] rfl (by decide +kernel)
set_option maxRecDepth 20000 in
theorem gX4_limb_X3_size : GoodIn wsX4_limb (wsV RX4 190 RX3 yX3_size wsX3_size) := goodIn_app (goodIn_of _ (by decide +kernel)) ggX4_limb_X3_size
set_option maxRecDepth 20000 in
theorem ggX4_limb_X3_at : GoodIn wsX4_limb wsX3_at := goodIn_r _ [78, 39, 41, 92, 93, 94] rfl (by decide +kernel)
set_option maxRecDepth 20000 in
theorem gX4_limb_X3_at : GoodIn wsX4_limb (wsV RX4 200 RX3 yX3_at wsX3_at) := goodIn_app (goodIn_of _ (by decide +kernel)) ggX4_limb_X3_at
theorem dX4_limb_0 : decode cX4_limb 0 = .ok (.iload_n 1, 1) := by decide +kernel
theorem dX4_limb_1 : decode cX4_limb 1 = .ok (.invokestatic 74, 3) := by decide +kernel
theorem dX4_limb_4 : decode cX4_limb 4 = .ok (.ifCond .eq 12, 3) := by decide +kernel
theorem dX4_limb_7 : decode cX4_limb 7 = .ok (.iload_n 2, 1) := by decide +kernel
theorem dX4_limb_8 : decode cX4_limb 8 = .ok (.ifCond .lt 8, 3) := by decide +kernel
theorem dX4_limb_11 : decode cX4_limb 11 = .ok (.iload_n 2, 1) := by decide +kernel
theorem dX4_limb_12 : decode cX4_limb 12 = .ok (.iconst 3, 1) := by decide +kernel
theorem dX4_limb_13 : decode cX4_limb 13 = .ok (.if_icmp .le 7, 3) := by decide +kernel
theorem dX4_limb_16 : decode cX4_limb 16 = .ok (.ldc2_w 184, 3) := by decide +kernel
theorem dX4_limb_19 : decode cX4_limb 19 = .ok (.lreturn, 1) := by decide +kernel
theorem dX4_limb_20 : decode cX4_limb 20 = .ok (.aload_n 0, 1) := by decide +kernel
theorem dX4_limb_21 : decode cX4_limb 21 = .ok (.aload_n 0, 1) := by decide +kernel
theorem dX4_limb_22 : decode cX4_limb 22 = .ok (.getfield 18, 3) := by decide +kernel
theorem dX4_limb_25 : decode cX4_limb 25 = .ok (.iload_n 1, 1) := by decide +kernel
theorem dX4_limb_26 : decode cX4_limb 26 = .ok (.aaload, 1) := by decide +kernel
theorem dX4_limb_27 : decode cX4_limb 27 = .ok (.iload_n 2, 1) := by decide +kernel
theorem dX4_limb_28 : decode cX4_limb 28 = .ok (.invokevirtual 186, 3) := by decide +kernel
theorem dX4_limb_31 : decode cX4_limb 31 = .ok (.astore 4, 2) := by decide +kernel
theorem dX4_limb_33 : decode cX4_limb 33 = .ok (.iload_n 3, 1) := by decide +kernel
theorem dX4_limb_34 : decode cX4_limb 34 = .ok (.iconst (-1), 1) := by decide +kernel
theorem dX4_limb_35 : decode cX4_limb 35 = .ok (.if_icmp .ne 10, 3) := by decide +kernel
theorem dX4_limb_38 : decode cX4_limb 38 = .ok (.aload 4, 2) := by decide +kernel
theorem dX4_limb_40 : decode cX4_limb 40 = .ok (.invokevirtual 129, 3) := by decide +kernel
theorem dX4_limb_43 : decode cX4_limb 43 = .ok (.i2l, 1) := by decide +kernel
theorem dX4_limb_44 : decode cX4_limb 44 = .ok (.lreturn, 1) := by decide +kernel
theorem dX4_limb_45 : decode cX4_limb 45 = .ok (.iload_n 3, 1) := by decide +kernel
theorem dX4_limb_46 : decode cX4_limb 46 = .ok (.ifCond .lt 16, 3) := by decide +kernel
theorem dX4_limb_49 : decode cX4_limb 49 = .ok (.iload_n 3, 1) := by decide +kernel
theorem dX4_limb_50 : decode cX4_limb 50 = .ok (.iconst 1, 1) := by decide +kernel
theorem dX4_limb_51 : decode cX4_limb 51 = .ok (.aload 4, 2) := by decide +kernel
theorem dX4_limb_53 : decode cX4_limb 53 = .ok (.invokevirtual 190, 3) := by decide +kernel
theorem dX4_limb_56 : decode cX4_limb 56 = .ok (.invokestatic 55, 3) := by decide +kernel
theorem dX4_limb_59 : decode cX4_limb 59 = .ok (.if_icmp .lt 13, 3) := by decide +kernel
theorem dX4_limb_62 : decode cX4_limb 62 = .ok (.new 193, 3) := by decide +kernel
theorem dX4_limb_65 : decode cX4_limb 65 = .ok (.dup, 1) := by decide +kernel
theorem dX4_limb_66 : decode cX4_limb 66 = .ok (.ldc 195, 2) := by decide +kernel
theorem dX4_limb_68 : decode cX4_limb 68 = .ok (.invokespecial 197, 3) := by decide +kernel
theorem dX4_limb_71 : decode cX4_limb 71 = .ok (.athrow, 1) := by decide +kernel
theorem dX4_limb_72 : decode cX4_limb 72 = .ok (.aload 4, 2) := by decide +kernel
theorem dX4_limb_74 : decode cX4_limb 74 = .ok (.iload_n 3, 1) := by decide +kernel
theorem dX4_limb_75 : decode cX4_limb 75 = .ok (.invokevirtual 200, 3) := by decide +kernel
theorem dX4_limb_78 : decode cX4_limb 78 = .ok (.lreturn, 1) := by decide +kernel
set_option maxRecDepth 20000 in
theorem ggX4_digit_X4_isPlace : GoodIn wsX4_digit wsX4_isPlace := goodIn_r _ [8] rfl (by decide +kernel)
set_option maxRecDepth 20000 in
theorem gX4_digit_X4_isPlace : GoodIn wsX4_digit (va_wsS RX4 74 yX4_isPlace wsX4_isPlace) := goodIn_app (goodIn_of _ (by decide +kernel)) ggX4_digit_X4_isPlace
set_option maxRecDepth 20000 in
theorem ggX4_digit_X3_become_ : GoodIn wsX4_digit wsX3_become_ := goodIn_r _ [13, 14, 15, 16, 17, 18, 19, 20, 77, 78, 79] rfl (by decide +kernel)
set_option maxRecDepth 20000 in
theorem gX4_digit_X3_become_ : GoodIn wsX4_digit (wsV RX4 118 RX3 yX3_become_ wsX3_become_) := goodIn_app (goodIn_of _ (by decide +kernel)) ggX4_digit_X3_become_
set_option maxRecDepth 20000 in
theorem ggX4_digit_X3_dropSign : GoodIn wsX4_digit wsX3_dropSign := goodIn_r _ [24, 20, 25, 26, 27, 28, 77, 78, 79] rfl (by decide +kernel)
set_option maxRecDepth 20000 in
theorem gX4_digit_X3_dropSign : GoodIn wsX4_digit (wsV RX4 112 RX3 yX3_dropSign wsX3_dropSign) := goodIn_app (goodIn_of _ (by decide +kernel)) ggX4_digit_X3_dropSign
set_option maxRecDepth 20000 in
theorem ggX4_digit_X3_multiply : GoodIn wsX4_digit wsX3_multiply := goodIn_r _ [32, 33, 34, 27, 35, 15, 14, 36, 20, 37, 38, 39, 40, 41, 42, 43, 12, 44, 77, 78, 79] rfl (by decide +kernel)
set_option maxRecDepth 20000 in
theorem gX4_digit_X3_multiply : GoodIn wsX4_digit (wsV RX4 204 RX3 yX3_multiply wsX3_multiply) := goodIn_app (goodIn_of _ (by decide +kernel)) ggX4_digit_X3_multiply
set_option maxRecDepth 20000 in
theorem ggX4_digit_X3_lower : GoodIn wsX4_digit wsX3_lower := goodIn_r _ [48, 20, 15, 49, 50, 27, 51, 14, 36, 52, 53, 54, 12, 55, 41, 42, 43, 44, 56, 57, 58, 59, 77, 78, 79] rfl (by decide +kernel)
set_option maxRecDepth 20000 in
theorem gX4_digit_X3_lower : GoodIn wsX4_digit (wsV RX4 109 RX3 yX3_lower wsX3_lower) := goodIn_app (goodIn_of _ (by decide +kernel)) ggX4_digit_X3_lower
set_option maxRecDepth 20000 in
theorem ggX4_digit_X3_divide : GoodIn wsX4_digit wsX3_divide := goodIn_r _ [63, 20, 15, 14, 41, 42, 43, 12, 44, 56, 57, 58, 59, 36, 77, 78, 79] rfl (by decide +kernel)
set_option maxRecDepth 20000 in
theorem gX4_digit_X3_divide : GoodIn wsX4_digit (wsV RX4 207 RX3 yX3_divide wsX3_divide) := goodIn_app (goodIn_of _ (by decide +kernel)) ggX4_digit_X3_divide
theorem dX4_digit_0 : decode cX4_digit 0 = .ok (.iload_n 1, 1) := by decide +kernel
theorem dX4_digit_1 : decode cX4_digit 1 = .ok (.invokestatic 74, 3) := by decide +kernel
theorem dX4_digit_4 : decode cX4_digit 4 = .ok (.ifCond .eq 15, 3) := by decide +kernel
theorem dX4_digit_7 : decode cX4_digit 7 = .ok (.iload_n 2, 1) := by decide +kernel
theorem dX4_digit_8 : decode cX4_digit 8 = .ok (.bipush 60, 2) := by decide +kernel
theorem dX4_digit_10 : decode cX4_digit 10 = .ok (.if_icmp .gt 9, 3) := by decide +kernel
theorem dX4_digit_13 : decode cX4_digit 13 = .ok (.iload_n 2, 1) := by decide +kernel
theorem dX4_digit_14 : decode cX4_digit 14 = .ok (.bipush (-14), 2) := by decide +kernel
theorem dX4_digit_16 : decode cX4_digit 16 = .ok (.if_icmp .ge 5, 3) := by decide +kernel
theorem dX4_digit_19 : decode cX4_digit 19 = .ok (.iconst (-1), 1) := by decide +kernel
theorem dX4_digit_20 : decode cX4_digit 20 = .ok (.ireturn, 1) := by decide +kernel
theorem dX4_digit_21 : decode cX4_digit 21 = .ok (.aload_n 0, 1) := by decide +kernel
theorem dX4_digit_22 : decode cX4_digit 22 = .ok (.getfield 33, 3) := by decide +kernel
theorem dX4_digit_25 : decode cX4_digit 25 = .ok (.aload_n 0, 1) := by decide +kernel
theorem dX4_digit_26 : decode cX4_digit 26 = .ok (.getfield 18, 3) := by decide +kernel
theorem dX4_digit_29 : decode cX4_digit 29 = .ok (.iload_n 1, 1) := by decide +kernel
theorem dX4_digit_30 : decode cX4_digit 30 = .ok (.aaload, 1) := by decide +kernel
theorem dX4_digit_31 : decode cX4_digit 31 = .ok (.getfield 85, 3) := by decide +kernel
theorem dX4_digit_34 : decode cX4_digit 34 = .ok (.invokevirtual 118, 3) := by decide +kernel
theorem dX4_digit_37 : decode cX4_digit 37 = .ok (.aload_n 0, 1) := by decide +kernel
theorem dX4_digit_38 : decode cX4_digit 38 = .ok (.getfield 33, 3) := by decide +kernel
theorem dX4_digit_41 : decode cX4_digit 41 = .ok (.invokevirtual 112, 3) := by decide +kernel
theorem dX4_digit_44 : decode cX4_digit 44 = .ok (.iconst 0, 1) := by decide +kernel
theorem dX4_digit_45 : decode cX4_digit 45 = .ok (.istore_n 3, 1) := by decide +kernel
theorem dX4_digit_46 : decode cX4_digit 46 = .ok (.iload_n 3, 1) := by decide +kernel
theorem dX4_digit_47 : decode cX4_digit 47 = .ok (.iload_n 2, 1) := by decide +kernel
theorem dX4_digit_48 : decode cX4_digit 48 = .ok (.if_icmp .ge 18, 3) := by decide +kernel
theorem dX4_digit_51 : decode cX4_digit 51 = .ok (.aload_n 0, 1) := by decide +kernel
theorem dX4_digit_52 : decode cX4_digit 52 = .ok (.getfield 33, 3) := by decide +kernel
theorem dX4_digit_55 : decode cX4_digit 55 = .ok (.bipush 10, 2) := by decide +kernel
theorem dX4_digit_57 : decode cX4_digit 57 = .ok (.invokevirtual 204, 3) := by decide +kernel
theorem dX4_digit_60 : decode cX4_digit 60 = .ok (.iinc 3 1, 3) := by decide +kernel
theorem dX4_digit_63 : decode cX4_digit 63 = .ok (.goto (-17), 3) := by decide +kernel
theorem dX4_digit_66 : decode cX4_digit 66 = .ok (.aload_n 0, 1) := by decide +kernel
theorem dX4_digit_67 : decode cX4_digit 67 = .ok (.getfield 33, 3) := by decide +kernel
theorem dX4_digit_70 : decode cX4_digit 70 = .ok (.aload_n 0, 1) := by decide +kernel
theorem dX4_digit_71 : decode cX4_digit 71 = .ok (.getfield 58, 3) := by decide +kernel
theorem dX4_digit_74 : decode cX4_digit 74 = .ok (.invokevirtual 109, 3) := by decide +kernel
theorem dX4_digit_77 : decode cX4_digit 77 = .ok (.iconst 0, 1) := by decide +kernel
theorem dX4_digit_78 : decode cX4_digit 78 = .ok (.istore_n 3, 1) := by decide +kernel
theorem dX4_digit_79 : decode cX4_digit 79 = .ok (.iload_n 3, 1) := by decide +kernel
theorem dX4_digit_80 : decode cX4_digit 80 = .ok (.iload_n 2, 1) := by decide +kernel
theorem dX4_digit_81 : decode cX4_digit 81 = .ok (.if_icmp .le 19, 3) := by decide +kernel
theorem dX4_digit_84 : decode cX4_digit 84 = .ok (.aload_n 0, 1) := by decide +kernel
theorem dX4_digit_85 : decode cX4_digit 85 = .ok (.getfield 33, 3) := by decide +kernel
theorem dX4_digit_88 : decode cX4_digit 88 = .ok (.bipush 10, 2) := by decide +kernel
theorem dX4_digit_90 : decode cX4_digit 90 = .ok (.invokevirtual 207, 3) := by decide +kernel
theorem dX4_digit_93 : decode cX4_digit 93 = .ok (.pop, 1) := by decide +kernel
theorem dX4_digit_94 : decode cX4_digit 94 = .ok (.iinc 3 (-1), 3) := by decide +kernel
theorem dX4_digit_97 : decode cX4_digit 97 = .ok (.goto (-18), 3) := by decide +kernel
theorem dX4_digit_100 : decode cX4_digit 100 = .ok (.aload_n 0, 1) := by decide +kernel
theorem dX4_digit_101 : decode cX4_digit 101 = .ok (.getfield 33, 3) := by decide +kernel
theorem dX4_digit_104 : decode cX4_digit 104 = .ok (.bipush 10, 2) := by decide +kernel
theorem dX4_digit_106 : decode cX4_digit 106 = .ok (.invokevirtual 207, 3) := by decide +kernel
theorem dX4_digit_109 : decode cX4_digit 109 = .ok (.ireturn, 1) := by decide +kernel
set_option maxRecDepth 20000 in
theorem ggX4_sure_X4_isPlace : GoodIn wsX4_sure wsX4_isPlace := goodIn_r _ [10] rfl (by decide +kernel)
set_option maxRecDepth 20000 in
theorem gX4_sure_X4_isPlace : GoodIn wsX4_sure (va_wsS RX4 74 yX4_isPlace wsX4_isPlace) := goodIn_app (goodIn_of _ (by decide +kernel)) ggX4_sure_X4_isPlace
set_option maxRecDepth 20000 in
theorem ggX4_sure_X4_findEnds : GoodIn wsX4_sure wsX4_findEnds := goodIn_r _ [14, 3, 15, 16, 6, 17, 18, 19, 20, 21, 22, 23, 24, 25, 26, 27, 28, 29, 30, 31, 32, 33, 34, 35, 36, 37, 38, 39, 40, 41, 42, 43, 44, 45, 46, 47, 48, 49, 50, 51, 52, 53, 54, 55, 56, 57, 58, 59, 60, 61, 96, 97, 98, 99, 100, 101, 102, 103, 104, 105, 106, 107, 108, 109, 110, 111] rfl (by decide +kernel)
set_option maxRecDepth 20000 in
theorem gX4_sure_X4_findEnds : GoodIn wsX4_sure (wsV RX4 137 RX4 yX4_findEnds wsX4_findEnds) := goodIn_app (goodIn_of _ (by decide +kernel)) ggX4_sure_X4_findEnds
set_option maxRecDepth 20000 in
theorem ggX4_sure_X3_become_ : GoodIn wsX4_sure wsX3_become_ := goodIn_r _ [65, 36, 31, 66, 67, 68, 69, 22, 109, 110, 111] rfl (by decide +kernel)
set_option maxRecDepth 20000 in
theorem gX4_sure_X3_become_ : GoodIn wsX4_sure (wsV RX4 118 RX3 yX3_become_ wsX3_become_) := goodIn_app (goodIn_of _ (by decide +kernel)) ggX4_sure_X3_become_
set_option maxRecDepth 20000 in
theorem ggX4_sure_X3_lower : GoodIn wsX4_sure wsX3_lower := goodIn_r _ [73, 22, 31, 32, 33, 34, 35, 36, 37, 74, 75, 76, 20, 77, 54, 55, 56, 57, 78, 79, 80, 81, 109, 110, 111] rfl (by decide +kernel)
set_option maxRecDepth 20000 in
theorem gX4_sure_X3_lower : GoodIn wsX4_sure (wsV RX4 109 RX3 yX3_lower wsX3_lower) := goodIn_app (goodIn_of _ (by decide +kernel)) ggX4_sure_X3_lower
set_option maxRecDepth 20000 in
theorem ggX4_sure_X3_order : GoodIn wsX4_sure wsX3_order := goodIn_r _ [85, 22, 42, 43, 44, 45, 38, 39, 40, 20, 41, 31, 36, 46, 47, 48, 49, 109, 110, 111] rfl (by decide +kernel)
set_option maxRecDepth 20000 in
theorem gX4_sure_X3_order : GoodIn wsX4_sure (wsV RX4 125 RX3 yX3_order wsX3_order) := goodIn_app (goodIn_of _ (by decide +kernel)) ggX4_sure_X3_order
set_option maxRecDepth 20000 in
theorem ggX4_sure_X3_multiply : GoodIn wsX4_sure wsX3_multiply := goodIn_r _ [89, 90, 91, 34, 92, 31, 36, 37, 22, 93, 94, 44, 95, 54, 55, 56, 20, 57, 109, 110, 111] rfl (by decide +kernel)
set_option maxRecDepth 20000 in
theorem gX4_sure_X3_multiply : GoodIn wsX4_sure (wsV RX4 204 RX3 yX3_multiply wsX3_multiply) := goodIn_app (goodIn_of _ (by decide +kernel)) ggX4_sure_X3_multiply
theorem dX4_sure_0 : decode cX4_sure 0 = .ok (.iload_n 1, 1) := by decide +kernel
theorem dX4_sure_1 : decode cX4_sure 1 = .ok (.invokestatic 74, 3) := by decide +kernel
theorem dX4_sure_4 : decode cX4_sure 4 = .ok (.ifCond .ne 6, 3) := by decide +kernel
theorem dX4_sure_7 : decode cX4_sure 7 = .ok (.bipush (-2), 2) := by decide +kernel
theorem dX4_sure_9 : decode cX4_sure 9 = .ok (.ireturn, 1) := by decide +kernel
theorem dX4_sure_10 : decode cX4_sure 10 = .ok (.aload_n 0, 1) := by decide +kernel
theorem dX4_sure_11 : decode cX4_sure 11 = .ok (.aload_n 0, 1) := by decide +kernel
theorem dX4_sure_12 : decode cX4_sure 12 = .ok (.getfield 18, 3) := by decide +kernel
theorem dX4_sure_15 : decode cX4_sure 15 = .ok (.iload_n 1, 1) := by decide +kernel
theorem dX4_sure_16 : decode cX4_sure 16 = .ok (.aaload, 1) := by decide +kernel
theorem dX4_sure_17 : decode cX4_sure 17 = .ok (.invokevirtual 137, 3) := by decide +kernel
theorem dX4_sure_20 : decode cX4_sure 20 = .ok (.iconst 0, 1) := by decide +kernel
theorem dX4_sure_21 : decode cX4_sure 21 = .ok (.istore_n 2, 1) := by decide +kernel
theorem dX4_sure_22 : decode cX4_sure 22 = .ok (.iload_n 2, 1) := by decide +kernel
theorem dX4_sure_23 : decode cX4_sure 23 = .ok (.bipush 60, 2) := by decide +kernel
theorem dX4_sure_25 : decode cX4_sure 25 = .ok (.if_icmp .gt 89, 3) := by decide +kernel
theorem dX4_sure_28 : decode cX4_sure 28 = .ok (.aload_n 0, 1) := by decide +kernel
theorem dX4_sure_29 : decode cX4_sure 29 = .ok (.getfield 33, 3) := by decide +kernel
theorem dX4_sure_32 : decode cX4_sure 32 = .ok (.aload_n 0, 1) := by decide +kernel
theorem dX4_sure_33 : decode cX4_sure 33 = .ok (.getfield 27, 3) := by decide +kernel
theorem dX4_sure_36 : decode cX4_sure 36 = .ok (.invokevirtual 118, 3) := by decide +kernel
theorem dX4_sure_39 : decode cX4_sure 39 = .ok (.aload_n 0, 1) := by decide +kernel
theorem dX4_sure_40 : decode cX4_sure 40 = .ok (.getfield 33, 3) := by decide +kernel
theorem dX4_sure_43 : decode cX4_sure 43 = .ok (.aload_n 0, 1) := by decide +kernel
theorem dX4_sure_44 : decode cX4_sure 44 = .ok (.getfield 58, 3) := by decide +kernel
theorem dX4_sure_47 : decode cX4_sure 47 = .ok (.invokevirtual 109, 3) := by decide +kernel
theorem dX4_sure_50 : decode cX4_sure 50 = .ok (.aload_n 0, 1) := by decide +kernel
theorem dX4_sure_51 : decode cX4_sure 51 = .ok (.getfield 36, 3) := by decide +kernel
theorem dX4_sure_54 : decode cX4_sure 54 = .ok (.aload_n 0, 1) := by decide +kernel
theorem dX4_sure_55 : decode cX4_sure 55 = .ok (.getfield 30, 3) := by decide +kernel
theorem dX4_sure_58 : decode cX4_sure 58 = .ok (.invokevirtual 118, 3) := by decide +kernel
theorem dX4_sure_61 : decode cX4_sure 61 = .ok (.aload_n 0, 1) := by decide +kernel
theorem dX4_sure_62 : decode cX4_sure 62 = .ok (.getfield 36, 3) := by decide +kernel
theorem dX4_sure_65 : decode cX4_sure 65 = .ok (.aload_n 0, 1) := by decide +kernel
theorem dX4_sure_66 : decode cX4_sure 66 = .ok (.getfield 58, 3) := by decide +kernel
theorem dX4_sure_69 : decode cX4_sure 69 = .ok (.invokevirtual 109, 3) := by decide +kernel
theorem dX4_sure_72 : decode cX4_sure 72 = .ok (.aload_n 0, 1) := by decide +kernel
theorem dX4_sure_73 : decode cX4_sure 73 = .ok (.getfield 33, 3) := by decide +kernel
theorem dX4_sure_76 : decode cX4_sure 76 = .ok (.aload_n 0, 1) := by decide +kernel
theorem dX4_sure_77 : decode cX4_sure 77 = .ok (.getfield 36, 3) := by decide +kernel
theorem dX4_sure_80 : decode cX4_sure 80 = .ok (.invokevirtual 125, 3) := by decide +kernel
theorem dX4_sure_83 : decode cX4_sure 83 = .ok (.ifCond .eq 7, 3) := by decide +kernel
theorem dX4_sure_86 : decode cX4_sure 86 = .ok (.iload_n 2, 1) := by decide +kernel
theorem dX4_sure_87 : decode cX4_sure 87 = .ok (.iconst 1, 1) := by decide +kernel
theorem dX4_sure_88 : decode cX4_sure 88 = .ok (.isub, 1) := by decide +kernel
theorem dX4_sure_89 : decode cX4_sure 89 = .ok (.ireturn, 1) := by decide +kernel
theorem dX4_sure_90 : decode cX4_sure 90 = .ok (.aload_n 0, 1) := by decide +kernel
theorem dX4_sure_91 : decode cX4_sure 91 = .ok (.getfield 27, 3) := by decide +kernel
theorem dX4_sure_94 : decode cX4_sure 94 = .ok (.bipush 10, 2) := by decide +kernel
theorem dX4_sure_96 : decode cX4_sure 96 = .ok (.invokevirtual 204, 3) := by decide +kernel
theorem dX4_sure_99 : decode cX4_sure 99 = .ok (.aload_n 0, 1) := by decide +kernel
theorem dX4_sure_100 : decode cX4_sure 100 = .ok (.getfield 30, 3) := by decide +kernel
theorem dX4_sure_103 : decode cX4_sure 103 = .ok (.bipush 10, 2) := by decide +kernel
theorem dX4_sure_105 : decode cX4_sure 105 = .ok (.invokevirtual 204, 3) := by decide +kernel
theorem dX4_sure_108 : decode cX4_sure 108 = .ok (.iinc 2 1, 3) := by decide +kernel
theorem dX4_sure_111 : decode cX4_sure 111 = .ok (.goto (-89), 3) := by decide +kernel
theorem dX4_sure_114 : decode cX4_sure 114 = .ok (.bipush 60, 2) := by decide +kernel
theorem dX4_sure_116 : decode cX4_sure 116 = .ok (.ireturn, 1) := by decide +kernel
set_option maxRecDepth 20000 in
theorem ggX4_count_X3_bits : GoodIn wsX4_count wsX3_bits := goodIn_r _ [13, 14, 15, 16, 17, 18, 19, 20, 21, 22, 23, 24, 38, 39, 40] rfl (by decide +kernel)
set_option maxRecDepth 20000 in
theorem gX4_count_X3_bits : GoodIn wsX4_count (wsV RX4 210 RX3 yX3_bits wsX3_bits) := goodIn_app (goodIn_of _ (by decide +kernel)) ggX4_count_X3_bits
theorem dX4_count_0 : decode cX4_count 0 = .ok (.iload_n 1, 1) := by decide +kernel
theorem dX4_count_1 : decode cX4_count 1 = .ok (.ifCond .ne 8, 3) := by decide +kernel
theorem dX4_count_4 : decode cX4_count 4 = .ok (.aload_n 0, 1) := by decide +kernel
theorem dX4_count_5 : decode cX4_count 5 = .ok (.getfield 58, 3) := by decide +kernel
theorem dX4_count_8 : decode cX4_count 8 = .ok (.ireturn, 1) := by decide +kernel
theorem dX4_count_9 : decode cX4_count 9 = .ok (.iload_n 1, 1) := by decide +kernel
theorem dX4_count_10 : decode cX4_count 10 = .ok (.iconst 1, 1) := by decide +kernel
theorem dX4_count_11 : decode cX4_count 11 = .ok (.if_icmp .eq 10, 3) := by decide +kernel
theorem dX4_count_14 : decode cX4_count 14 = .ok (.iload_n 1, 1) := by decide +kernel
theorem dX4_count_15 : decode cX4_count 15 = .ok (.iconst 2, 1) := by decide +kernel
theorem dX4_count_16 : decode cX4_count 16 = .ok (.if_icmp .eq 5, 3) := by decide +kernel
theorem dX4_count_19 : decode cX4_count 19 = .ok (.iconst (-1), 1) := by decide +kernel
theorem dX4_count_20 : decode cX4_count 20 = .ok (.ireturn, 1) := by decide +kernel
theorem dX4_count_21 : decode cX4_count 21 = .ok (.iconst 0, 1) := by decide +kernel
theorem dX4_count_22 : decode cX4_count 22 = .ok (.istore_n 2, 1) := by decide +kernel
theorem dX4_count_23 : decode cX4_count 23 = .ok (.iconst 0, 1) := by decide +kernel
theorem dX4_count_24 : decode cX4_count 24 = .ok (.istore_n 3, 1) := by decide +kernel
theorem dX4_count_25 : decode cX4_count 25 = .ok (.iload_n 3, 1) := by decide +kernel
theorem dX4_count_26 : decode cX4_count 26 = .ok (.bipush 12, 2) := by decide +kernel
theorem dX4_count_28 : decode cX4_count 28 = .ok (.if_icmp .ge 47, 3) := by decide +kernel
theorem dX4_count_31 : decode cX4_count 31 = .ok (.iload_n 1, 1) := by decide +kernel
theorem dX4_count_32 : decode cX4_count 32 = .ok (.iconst 1, 1) := by decide +kernel
theorem dX4_count_33 : decode cX4_count 33 = .ok (.if_icmp .ne 15, 3) := by decide +kernel
theorem dX4_count_36 : decode cX4_count 36 = .ok (.aload_n 0, 1) := by decide +kernel
theorem dX4_count_37 : decode cX4_count 37 = .ok (.getfield 18, 3) := by decide +kernel
theorem dX4_count_40 : decode cX4_count 40 = .ok (.iload_n 3, 1) := by decide +kernel
theorem dX4_count_41 : decode cX4_count 41 = .ok (.aaload, 1) := by decide +kernel
theorem dX4_count_42 : decode cX4_count 42 = .ok (.getfield 85, 3) := by decide +kernel
theorem dX4_count_45 : decode cX4_count 45 = .ok (.goto 12, 3) := by decide +kernel
theorem dX4_count_48 : decode cX4_count 48 = .ok (.aload_n 0, 1) := by decide +kernel
theorem dX4_count_49 : decode cX4_count 49 = .ok (.getfield 18, 3) := by decide +kernel
theorem dX4_count_52 : decode cX4_count 52 = .ok (.iload_n 3, 1) := by decide +kernel
theorem dX4_count_53 : decode cX4_count 53 = .ok (.aaload, 1) := by decide +kernel
theorem dX4_count_54 : decode cX4_count 54 = .ok (.getfield 92, 3) := by decide +kernel
theorem dX4_count_57 : decode cX4_count 57 = .ok (.astore 4, 2) := by decide +kernel
theorem dX4_count_59 : decode cX4_count 59 = .ok (.iload_n 2, 1) := by decide +kernel
theorem dX4_count_60 : decode cX4_count 60 = .ok (.aload 4, 2) := by decide +kernel
theorem dX4_count_62 : decode cX4_count 62 = .ok (.invokevirtual 210, 3) := by decide +kernel
theorem dX4_count_65 : decode cX4_count 65 = .ok (.invokestatic 55, 3) := by decide +kernel
theorem dX4_count_68 : decode cX4_count 68 = .ok (.istore_n 2, 1) := by decide +kernel
theorem dX4_count_69 : decode cX4_count 69 = .ok (.iinc 3 1, 3) := by decide +kernel
theorem dX4_count_72 : decode cX4_count 72 = .ok (.goto (-47), 3) := by decide +kernel
theorem dX4_count_75 : decode cX4_count 75 = .ok (.iload_n 2, 1) := by decide +kernel
theorem dX4_count_76 : decode cX4_count 76 = .ok (.ireturn, 1) := by decide +kernel
theorem dX4_isPlace_0 : decode cX4_isPlace 0 = .ok (.iload_n 0, 1) := by decide +kernel
theorem dX4_isPlace_1 : decode cX4_isPlace 1 = .ok (.ifCond .lt 13, 3) := by decide +kernel
theorem dX4_isPlace_4 : decode cX4_isPlace 4 = .ok (.iload_n 0, 1) := by decide +kernel
theorem dX4_isPlace_5 : decode cX4_isPlace 5 = .ok (.bipush 12, 2) := by decide +kernel
theorem dX4_isPlace_7 : decode cX4_isPlace 7 = .ok (.if_icmp .ge 7, 3) := by decide +kernel
theorem dX4_isPlace_10 : decode cX4_isPlace 10 = .ok (.iconst 1, 1) := by decide +kernel
theorem dX4_isPlace_11 : decode cX4_isPlace 11 = .ok (.goto 4, 3) := by decide +kernel
theorem dX4_isPlace_14 : decode cX4_isPlace 14 = .ok (.iconst 0, 1) := by decide +kernel
theorem dX4_isPlace_15 : decode cX4_isPlace 15 = .ok (.ireturn, 1) := by decide +kernel
set_option maxRecDepth 20000 in
theorem ggX4_keep_X0_isWithin : GoodIn wsX4_keep wsX0_isWithin := goodIn_r _ [8, 9, 10, 11, 12, 13, 14, 15, 16, 17, 18, 19, 20, 21, 22, 23, 24, 25, 26, 27, 28, 29, 30, 54, 55, 56, 57, 58] rfl (by decide +kernel)
set_option maxRecDepth 20000 in
theorem gX4_keep_X0_isWithin : GoodIn wsX4_keep (wsV RX4 212 RX0 yX0_isWithin wsX0_isWithin) := goodIn_app (goodIn_of _ (by decide +kernel)) ggX4_keep_X0_isWithin
set_option maxRecDepth 20000 in
theorem ggX4_keep_X0_become : GoodIn wsX4_keep wsX0_become := goodIn_r _ [34, 9, 10, 35, 36, 37, 14, 38, 17, 16, 39, 40, 41, 42, 30, 54, 55, 56, 57, 58] rfl (by decide +kernel)
set_option maxRecDepth 20000 in
theorem gX4_keep_X0_become : GoodIn wsX4_keep (wsV RX4 179 RX0 yX0_become wsX0_become) := goodIn_app (goodIn_of _ (by decide +kernel)) ggX4_keep_X0_become
theorem dX4_keep_0 : decode cX4_keep 0 = .ok (.aload_n 0, 1) := by decide +kernel
theorem dX4_keep_1 : decode cX4_keep 1 = .ok (.getfield 23, 3) := by decide +kernel
theorem dX4_keep_4 : decode cX4_keep 4 = .ok (.aload_n 0, 1) := by decide +kernel
theorem dX4_keep_5 : decode cX4_keep 5 = .ok (.getfield 10, 3) := by decide +kernel
theorem dX4_keep_8 : decode cX4_keep 8 = .ok (.invokevirtual 212, 3) := by decide +kernel
theorem dX4_keep_11 : decode cX4_keep 11 = .ok (.ifCond .ne 5, 3) := by decide +kernel
theorem dX4_keep_14 : decode cX4_keep 14 = .ok (.iconst (-1), 1) := by decide +kernel
theorem dX4_keep_15 : decode cX4_keep 15 = .ok (.ireturn, 1) := by decide +kernel
theorem dX4_keep_16 : decode cX4_keep 16 = .ok (.aload_n 0, 1) := by decide +kernel
theorem dX4_keep_17 : decode cX4_keep 17 = .ok (.getfield 18, 3) := by decide +kernel
theorem dX4_keep_20 : decode cX4_keep 20 = .ok (.iload_n 1, 1) := by decide +kernel
theorem dX4_keep_21 : decode cX4_keep 21 = .ok (.aaload, 1) := by decide +kernel
theorem dX4_keep_22 : decode cX4_keep 22 = .ok (.aload_n 0, 1) := by decide +kernel
theorem dX4_keep_23 : decode cX4_keep 23 = .ok (.getfield 23, 3) := by decide +kernel
theorem dX4_keep_26 : decode cX4_keep 26 = .ok (.invokevirtual 179, 3) := by decide +kernel
theorem dX4_keep_29 : decode cX4_keep 29 = .ok (.iconst 1, 1) := by decide +kernel
theorem dX4_keep_30 : decode cX4_keep 30 = .ok (.ireturn, 1) := by decide +kernel
set_option maxRecDepth 20000 in
theorem ggX4_keepEnds_X3_sum : GoodIn wsX4_keepEnds wsX3_sum := goodIn_r _ [10, 11, 12, 13, 14, 9, 15, 16, 17, 18, 19, 20, 21, 22, 23, 24, 25, 26, 27, 28, 29, 30, 31, 32, 33, 34, 35, 36, 37, 38, 39, 40, 41, 42, 43, 44, 45, 46, 107, 108, 109] rfl (by decide +kernel)
set_option maxRecDepth 20000 in
theorem gX4_keepEnds_X3_sum : GoodIn wsX4_keepEnds (wsV RX4 99 RX3 yX3_sum wsX3_sum) := goodIn_app (goodIn_of _ (by decide +kernel)) ggX4_keepEnds_X3_sum
set_option maxRecDepth 20000 in
theorem ggX4_keepEnds_X3_lower : GoodIn wsX4_keepEnds wsX3_lower := goodIn_r _ [50, 11, 20, 21, 22, 23, 24, 25, 26, 51, 52, 53, 9, 54, 43, 44, 45, 46, 55, 56, 57, 58, 107, 108, 109] rfl (by decide +kernel)
set_option maxRecDepth 20000 in
theorem gX4_keepEnds_X3_lower : GoodIn wsX4_keepEnds (wsV RX4 109 RX3 yX3_lower wsX3_lower) := goodIn_app (goodIn_of _ (by decide +kernel)) ggX4_keepEnds_X3_lower
set_option maxRecDepth 20000 in
theorem ggX4_keepEnds_X3_difference : GoodIn wsX4_keepEnds wsX3_difference := goodIn_r _ [62, 11, 12, 13, 14, 9, 15, 16, 17, 18, 19, 20, 21, 22, 23, 24, 25, 26, 27, 28, 29, 30, 31, 32, 33, 34, 35, 36, 37, 38, 39, 40, 41, 42, 43, 44, 45, 46, 107, 108, 109] rfl (by decide +kernel)
set_option maxRecDepth 20000 in
theorem gX4_keepEnds_X3_difference : GoodIn wsX4_keepEnds (wsV RX4 103 RX3 yX3_difference wsX3_difference) := goodIn_app (goodIn_of _ (by decide +kernel)) ggX4_keepEnds_X3_difference
set_option maxRecDepth 20000 in
theorem ggX4_keepEnds_X4_keep : GoodIn wsX4_keepEnds wsX4_keep := goodIn_r _ [67, 1, 68, 69, 70, 71, 72, 73, 74, 75, 76, 77, 28, 29, 9, 30, 20, 25, 31, 32, 33, 34, 35, 36, 37, 38, 78, 79, 80, 81, 11, 82, 83, 84, 85, 86, 87, 88, 89, 90, 91, 92, 93, 94, 95, 96, 97, 98, 99, 100, 101, 102, 103, 104, 105, 106, 107, 108, 109] rfl (by decide +kernel)
set_option maxRecDepth 20000 in
theorem gX4_keepEnds_X4_keep : GoodIn wsX4_keepEnds (wsV RX4 95 RX4 yX4_keep wsX4_keep) := goodIn_app (goodIn_of _ (by decide +kernel)) ggX4_keepEnds_X4_keep
theorem dX4_keepEnds_0 : decode cX4_keepEnds 0 = .ok (.aload_n 0, 1) := by decide +kernel
theorem dX4_keepEnds_1 : decode cX4_keepEnds 1 = .ok (.getfield 23, 3) := by decide +kernel
theorem dX4_keepEnds_4 : decode cX4_keepEnds 4 = .ok (.getfield 85, 3) := by decide +kernel
theorem dX4_keepEnds_7 : decode cX4_keepEnds 7 = .ok (.aload_n 0, 1) := by decide +kernel
theorem dX4_keepEnds_8 : decode cX4_keepEnds 8 = .ok (.getfield 27, 3) := by decide +kernel
theorem dX4_keepEnds_11 : decode cX4_keepEnds 11 = .ok (.aload_n 0, 1) := by decide +kernel
theorem dX4_keepEnds_12 : decode cX4_keepEnds 12 = .ok (.getfield 30, 3) := by decide +kernel
theorem dX4_keepEnds_15 : decode cX4_keepEnds 15 = .ok (.invokevirtual 99, 3) := by decide +kernel
theorem dX4_keepEnds_18 : decode cX4_keepEnds 18 = .ok (.aload_n 0, 1) := by decide +kernel
theorem dX4_keepEnds_19 : decode cX4_keepEnds 19 = .ok (.getfield 23, 3) := by decide +kernel
theorem dX4_keepEnds_22 : decode cX4_keepEnds 22 = .ok (.getfield 85, 3) := by decide +kernel
theorem dX4_keepEnds_25 : decode cX4_keepEnds 25 = .ok (.iconst 1, 1) := by decide +kernel
theorem dX4_keepEnds_26 : decode cX4_keepEnds 26 = .ok (.invokevirtual 109, 3) := by decide +kernel
theorem dX4_keepEnds_29 : decode cX4_keepEnds 29 = .ok (.aload_n 0, 1) := by decide +kernel
theorem dX4_keepEnds_30 : decode cX4_keepEnds 30 = .ok (.getfield 23, 3) := by decide +kernel
theorem dX4_keepEnds_33 : decode cX4_keepEnds 33 = .ok (.getfield 92, 3) := by decide +kernel
theorem dX4_keepEnds_36 : decode cX4_keepEnds 36 = .ok (.aload_n 0, 1) := by decide +kernel
theorem dX4_keepEnds_37 : decode cX4_keepEnds 37 = .ok (.getfield 30, 3) := by decide +kernel
theorem dX4_keepEnds_40 : decode cX4_keepEnds 40 = .ok (.aload_n 0, 1) := by decide +kernel
theorem dX4_keepEnds_41 : decode cX4_keepEnds 41 = .ok (.getfield 23, 3) := by decide +kernel
theorem dX4_keepEnds_44 : decode cX4_keepEnds 44 = .ok (.getfield 85, 3) := by decide +kernel
theorem dX4_keepEnds_47 : decode cX4_keepEnds 47 = .ok (.invokevirtual 103, 3) := by decide +kernel
theorem dX4_keepEnds_50 : decode cX4_keepEnds 50 = .ok (.aload_n 0, 1) := by decide +kernel
theorem dX4_keepEnds_51 : decode cX4_keepEnds 51 = .ok (.iload_n 1, 1) := by decide +kernel
theorem dX4_keepEnds_52 : decode cX4_keepEnds 52 = .ok (.invokevirtual 95, 3) := by decide +kernel
theorem dX4_keepEnds_55 : decode cX4_keepEnds 55 = .ok (.ireturn, 1) := by decide +kernel
set_option maxRecDepth 20000 in
theorem ggX4_findEnds_X3_difference : GoodIn wsX4_findEnds wsX3_difference := goodIn_r _ [9, 10, 11, 12, 13, 8, 14, 15, 16, 17, 18, 19, 20, 21, 22, 23, 24, 25, 26, 27, 28, 29, 30, 31, 32, 33, 34, 35, 36, 37, 38, 39, 40, 41, 42, 43, 44, 45, 63, 64, 65] rfl (by decide +kernel)
set_option maxRecDepth 20000 in
theorem gX4_findEnds_X3_difference : GoodIn wsX4_findEnds (wsV RX4 103 RX3 yX3_difference wsX3_difference) := goodIn_app (goodIn_of _ (by decide +kernel)) ggX4_findEnds_X3_difference
set_option maxRecDepth 20000 in
theorem ggX4_findEnds_X3_sum : GoodIn wsX4_findEnds wsX3_sum := goodIn_r _ [49, 10, 11, 12, 13, 8, 14, 15, 16, 17, 18, 19, 20, 21, 22, 23, 24, 25, 26, 27, 28, 29, 30, 31, 32, 33, 34, 35, 36, 37, 38, 39, 40, 41, 42, 43, 44, 45, 63, 64, 65] rfl (by decide +kernel)
set_option maxRecDepth 20000 in
theorem gX4_findEnds_X3_sum : GoodIn wsX4_findEnds (wsV RX4 99 RX3 yX3_sum wsX3_sum) := goodIn_app (goodIn_of _ (by decide +kernel)) ggX4_findEnds_X3_sum
theorem dX4_findEnds_0 : decode cX4_findEnds 0 = .ok (.aload_n 0, 1) := by decide +kernel
theorem dX4_findEnds_1 : decode cX4_findEnds 1 = .ok (.getfield 27, 3) := by decide +kernel
theorem dX4_findEnds_4 : decode cX4_findEnds 4 = .ok (.aload_n 1, 1) := by decide +kernel
theorem dX4_findEnds_5 : decode cX4_findEnds 5 = .ok (.getfield 85, 3) := by decide +kernel
theorem dX4_findEnds_8 : decode cX4_findEnds 8 = .ok (.aload_n 1, 1) := by decide +kernel
theorem dX4_findEnds_9 : decode cX4_findEnds 9 = .ok (.getfield 92, 3) := by decide +kernel
theorem dX4_findEnds_12 : decode cX4_findEnds 12 = .ok (.invokevirtual 103, 3) := by decide +kernel
theorem dX4_findEnds_15 : decode cX4_findEnds 15 = .ok (.aload_n 0, 1) := by decide +kernel
theorem dX4_findEnds_16 : decode cX4_findEnds 16 = .ok (.getfield 30, 3) := by decide +kernel
theorem dX4_findEnds_19 : decode cX4_findEnds 19 = .ok (.aload_n 1, 1) := by decide +kernel
theorem dX4_findEnds_20 : decode cX4_findEnds 20 = .ok (.getfield 85, 3) := by decide +kernel
theorem dX4_findEnds_23 : decode cX4_findEnds 23 = .ok (.aload_n 1, 1) := by decide +kernel
theorem dX4_findEnds_24 : decode cX4_findEnds 24 = .ok (.getfield 92, 3) := by decide +kernel
theorem dX4_findEnds_27 : decode cX4_findEnds 27 = .ok (.invokevirtual 99, 3) := by decide +kernel
theorem dX4_findEnds_30 : decode cX4_findEnds 30 = .ok (.return_, 1) := by decide +kernel
set_option maxRecDepth 20000 in
theorem ggX4_findOtherEnds_X3_difference : GoodIn wsX4_findOtherEnds wsX3_difference := goodIn_r _ [9, 10, 11, 12, 13, 8, 14, 15, 16, 17, 18, 19, 20, 21, 22, 23, 24, 25, 26, 27, 28, 29, 30, 31, 32, 33, 34, 35, 36, 37, 38, 39, 40, 41, 42, 43, 44, 45, 63, 64, 65] rfl (by decide +kernel)
set_option maxRecDepth 20000 in
theorem gX4_findOtherEnds_X3_difference : GoodIn wsX4_findOtherEnds (wsV RX4 103 RX3 yX3_difference wsX3_difference) := goodIn_app (goodIn_of _ (by decide +kernel)) ggX4_findOtherEnds_X3_difference
set_option maxRecDepth 20000 in
theorem ggX4_findOtherEnds_X3_sum : GoodIn wsX4_findOtherEnds wsX3_sum := goodIn_r _ [49, 10, 11, 12, 13, 8, 14, 15, 16, 17, 18, 19, 20, 21, 22, 23, 24, 25, 26, 27, 28, 29, 30, 31, 32, 33, 34, 35, 36, 37, 38, 39, 40, 41, 42, 43, 44, 45, 63, 64, 65] rfl (by decide +kernel)
set_option maxRecDepth 20000 in
theorem gX4_findOtherEnds_X3_sum : GoodIn wsX4_findOtherEnds (wsV RX4 99 RX3 yX3_sum wsX3_sum) := goodIn_app (goodIn_of _ (by decide +kernel)) ggX4_findOtherEnds_X3_sum
theorem dX4_findOtherEnds_0 : decode cX4_findOtherEnds 0 = .ok (.aload_n 0, 1) := by decide +kernel
theorem dX4_findOtherEnds_1 : decode cX4_findOtherEnds 1 = .ok (.getfield 33, 3) := by decide +kernel
theorem dX4_findOtherEnds_4 : decode cX4_findOtherEnds 4 = .ok (.aload_n 1, 1) := by decide +kernel
theorem dX4_findOtherEnds_5 : decode cX4_findOtherEnds 5 = .ok (.getfield 85, 3) := by decide +kernel
theorem dX4_findOtherEnds_8 : decode cX4_findOtherEnds 8 = .ok (.aload_n 1, 1) := by decide +kernel
theorem dX4_findOtherEnds_9 : decode cX4_findOtherEnds 9 = .ok (.getfield 92, 3) := by decide +kernel
theorem dX4_findOtherEnds_12 : decode cX4_findOtherEnds 12 = .ok (.invokevirtual 103, 3) := by decide +kernel
theorem dX4_findOtherEnds_15 : decode cX4_findOtherEnds 15 = .ok (.aload_n 0, 1) := by decide +kernel
theorem dX4_findOtherEnds_16 : decode cX4_findOtherEnds 16 = .ok (.getfield 36, 3) := by decide +kernel
theorem dX4_findOtherEnds_19 : decode cX4_findOtherEnds 19 = .ok (.aload_n 1, 1) := by decide +kernel
theorem dX4_findOtherEnds_20 : decode cX4_findOtherEnds 20 = .ok (.getfield 85, 3) := by decide +kernel
theorem dX4_findOtherEnds_23 : decode cX4_findOtherEnds 23 = .ok (.aload_n 1, 1) := by decide +kernel
theorem dX4_findOtherEnds_24 : decode cX4_findOtherEnds 24 = .ok (.getfield 92, 3) := by decide +kernel
theorem dX4_findOtherEnds_27 : decode cX4_findOtherEnds 27 = .ok (.invokevirtual 99, 3) := by decide +kernel
theorem dX4_findOtherEnds_30 : decode cX4_findOtherEnds 30 = .ok (.return_, 1) := by decide +kernel
set_option maxRecDepth 20000 in
theorem ggX4_refineEnds_X3_raise : GoodIn wsX4_refineEnds wsX3_raise := goodIn_r _ [7, 8, 9, 10, 11, 12, 6, 13, 14, 15, 16, 17, 18, 19, 20, 21, 22, 23, 35, 36, 37] rfl (by decide +kernel)
set_option maxRecDepth 20000 in
theorem gX4_refineEnds_X3_raise : GoodIn wsX4_refineEnds (wsV RX4 82 RX3 yX3_raise wsX3_raise) := goodIn_app (goodIn_of _ (by decide +kernel)) ggX4_refineEnds_X3_raise
theorem dX4_refineEnds_0 : decode cX4_refineEnds 0 = .ok (.aload_n 0, 1) := by decide +kernel
theorem dX4_refineEnds_1 : decode cX4_refineEnds 1 = .ok (.getfield 27, 3) := by decide +kernel
theorem dX4_refineEnds_4 : decode cX4_refineEnds 4 = .ok (.bipush 64, 2) := by decide +kernel
theorem dX4_refineEnds_6 : decode cX4_refineEnds 6 = .ok (.invokevirtual 82, 3) := by decide +kernel
theorem dX4_refineEnds_9 : decode cX4_refineEnds 9 = .ok (.aload_n 0, 1) := by decide +kernel
theorem dX4_refineEnds_10 : decode cX4_refineEnds 10 = .ok (.getfield 30, 3) := by decide +kernel
theorem dX4_refineEnds_13 : decode cX4_refineEnds 13 = .ok (.bipush 64, 2) := by decide +kernel
theorem dX4_refineEnds_15 : decode cX4_refineEnds 15 = .ok (.invokevirtual 82, 3) := by decide +kernel
theorem dX4_refineEnds_18 : decode cX4_refineEnds 18 = .ok (.return_, 1) := by decide +kernel
set_option maxRecDepth 20000 in
theorem ggX4_coarsenEnds_X3_lower : GoodIn wsX4_coarsenEnds wsX3_lower := goodIn_r _ [9, 10, 11, 12, 13, 14, 15, 16, 17, 18, 19, 20, 8, 21, 22, 23, 24, 25, 26, 27, 28, 29, 82, 83, 84] rfl (by decide +kernel)
set_option maxRecDepth 20000 in
theorem gX4_coarsenEnds_X3_lower : GoodIn wsX4_coarsenEnds (wsV RX4 109 RX3 yX3_lower wsX3_lower) := goodIn_app (goodIn_of _ (by decide +kernel)) ggX4_coarsenEnds_X3_lower
set_option maxRecDepth 20000 in
theorem ggX4_coarsenEnds_X4_change : GoodIn wsX4_coarsenEnds wsX4_change := goodIn_r _ [34, 35, 36, 37, 38, 8, 39, 16, 17, 10, 40, 41, 42, 43, 22, 23, 24, 25, 11, 44, 45, 46, 47, 48, 49, 50, 51, 52, 53, 54, 55, 12, 13, 14, 15, 56, 57, 58, 59, 60, 61, 62, 63, 64, 65, 66, 67, 68, 69, 70, 71, 72, 73, 74, 75, 76, 77, 78, 79, 80, 81, 82, 83, 84] rfl (by decide +kernel)
set_option maxRecDepth 20000 in
theorem gX4_coarsenEnds_X4_change : GoodIn wsX4_coarsenEnds (wsV RX4 121 RX4 yX4_change wsX4_change) := goodIn_app (goodIn_of _ (by decide +kernel)) ggX4_coarsenEnds_X4_change
theorem dX4_coarsenEnds_0 : decode cX4_coarsenEnds 0 = .ok (.aload_n 0, 1) := by decide +kernel
theorem dX4_coarsenEnds_1 : decode cX4_coarsenEnds 1 = .ok (.getfield 27, 3) := by decide +kernel
theorem dX4_coarsenEnds_4 : decode cX4_coarsenEnds 4 = .ok (.bipush 64, 2) := by decide +kernel
theorem dX4_coarsenEnds_6 : decode cX4_coarsenEnds 6 = .ok (.invokevirtual 109, 3) := by decide +kernel
theorem dX4_coarsenEnds_9 : decode cX4_coarsenEnds 9 = .ok (.aload_n 0, 1) := by decide +kernel
theorem dX4_coarsenEnds_10 : decode cX4_coarsenEnds 10 = .ok (.aload_n 0, 1) := by decide +kernel
theorem dX4_coarsenEnds_11 : decode cX4_coarsenEnds 11 = .ok (.getfield 27, 3) := by decide +kernel
theorem dX4_coarsenEnds_14 : decode cX4_coarsenEnds 14 = .ok (.ldc2_w 216, 3) := by decide +kernel
theorem dX4_coarsenEnds_17 : decode cX4_coarsenEnds 17 = .ok (.invokevirtual 121, 3) := by decide +kernel
theorem dX4_coarsenEnds_20 : decode cX4_coarsenEnds 20 = .ok (.aload_n 0, 1) := by decide +kernel
theorem dX4_coarsenEnds_21 : decode cX4_coarsenEnds 21 = .ok (.getfield 30, 3) := by decide +kernel
theorem dX4_coarsenEnds_24 : decode cX4_coarsenEnds 24 = .ok (.bipush 64, 2) := by decide +kernel
theorem dX4_coarsenEnds_26 : decode cX4_coarsenEnds 26 = .ok (.invokevirtual 109, 3) := by decide +kernel
theorem dX4_coarsenEnds_29 : decode cX4_coarsenEnds 29 = .ok (.aload_n 0, 1) := by decide +kernel
theorem dX4_coarsenEnds_30 : decode cX4_coarsenEnds 30 = .ok (.aload_n 0, 1) := by decide +kernel
theorem dX4_coarsenEnds_31 : decode cX4_coarsenEnds 31 = .ok (.getfield 30, 3) := by decide +kernel
theorem dX4_coarsenEnds_34 : decode cX4_coarsenEnds 34 = .ok (.ldc2_w 177, 3) := by decide +kernel
theorem dX4_coarsenEnds_37 : decode cX4_coarsenEnds 37 = .ok (.invokevirtual 121, 3) := by decide +kernel
theorem dX4_coarsenEnds_40 : decode cX4_coarsenEnds 40 = .ok (.return_, 1) := by decide +kernel
set_option maxRecDepth 20000 in
theorem ggX4_change_X3_become : GoodIn wsX4_change wsX3_become := goodIn_r _ [6, 7, 8, 9, 10, 11, 12, 13, 14, 15, 16, 5, 17, 18, 61, 62, 63] rfl (by decide +kernel)
set_option maxRecDepth 20000 in
theorem gX4_change_X3_become : GoodIn wsX4_change (wsV RX4 78 RX3 yX3_become wsX3_become) := goodIn_app (goodIn_of _ (by decide +kernel)) ggX4_change_X3_become
set_option maxRecDepth 20000 in
theorem ggX4_change_X3_sum : GoodIn wsX4_change wsX3_sum := goodIn_r _ [22, 9, 23, 24, 25, 5, 26, 27, 28, 29, 30, 18, 31, 32, 33, 34, 7, 8, 35, 36, 37, 38, 39, 40, 41, 42, 43, 44, 12, 45, 46, 47, 48, 49, 14, 15, 16, 17, 61, 62, 63] rfl (by decide +kernel)
set_option maxRecDepth 20000 in
theorem gX4_change_X3_sum : GoodIn wsX4_change (wsV RX4 99 RX3 yX3_sum wsX3_sum) := goodIn_app (goodIn_of _ (by decide +kernel)) ggX4_change_X3_sum
theorem dX4_change_0 : decode cX4_change 0 = .ok (.aload_n 0, 1) := by decide +kernel
theorem dX4_change_1 : decode cX4_change 1 = .ok (.getfield 39, 3) := by decide +kernel
theorem dX4_change_4 : decode cX4_change 4 = .ok (.lload_n 2, 1) := by decide +kernel
theorem dX4_change_5 : decode cX4_change 5 = .ok (.invokevirtual 78, 3) := by decide +kernel
theorem dX4_change_8 : decode cX4_change 8 = .ok (.aload_n 1, 1) := by decide +kernel
theorem dX4_change_9 : decode cX4_change 9 = .ok (.aload_n 1, 1) := by decide +kernel
theorem dX4_change_10 : decode cX4_change 10 = .ok (.aload_n 0, 1) := by decide +kernel
theorem dX4_change_11 : decode cX4_change 11 = .ok (.getfield 39, 3) := by decide +kernel
theorem dX4_change_14 : decode cX4_change 14 = .ok (.invokevirtual 99, 3) := by decide +kernel
theorem dX4_change_17 : decode cX4_change 17 = .ok (.return_, 1) := by decide +kernel
set_option maxRecDepth 20000 in
theorem ggX4_radiusOfQuotient_X3_product : GoodIn wsX4_radiusOfQuotient wsX3_product := goodIn_r _ [13, 14, 15, 16, 17, 18, 19, 20, 12, 21, 22, 23, 24, 25, 169, 170, 171] rfl (by decide +kernel)
set_option maxRecDepth 20000 in
theorem gX4_radiusOfQuotient_X3_product : GoodIn wsX4_radiusOfQuotient (wsV RX4 106 RX3 yX3_product wsX3_product) := goodIn_app (goodIn_of _ (by decide +kernel)) ggX4_radiusOfQuotient_X3_product
set_option maxRecDepth 20000 in
theorem ggX4_radiusOfQuotient_X3_dropSign : GoodIn wsX4_radiusOfQuotient wsX3_dropSign := goodIn_r _ [29, 17, 30, 31, 32, 33, 169, 170, 171] rfl (by decide +kernel)
set_option maxRecDepth 20000 in
theorem gX4_radiusOfQuotient_X3_dropSign : GoodIn wsX4_radiusOfQuotient (wsV RX4 112 RX3 yX3_dropSign wsX3_dropSign) := goodIn_app (goodIn_of _ (by decide +kernel)) ggX4_radiusOfQuotient_X3_dropSign
set_option maxRecDepth 20000 in
theorem ggX4_radiusOfQuotient_X3_sum : GoodIn wsX4_radiusOfQuotient wsX3_sum := goodIn_r _ [37, 17, 38, 39, 40, 12, 41, 42, 43, 44, 45, 14, 46, 47, 32, 48, 15, 16, 49, 50, 51, 52, 53, 54, 55, 56, 57, 58, 59, 60, 61, 62, 63, 64, 22, 23, 24, 25, 169, 170, 171] rfl (by decide +kernel)
set_option maxRecDepth 20000 in
theorem gX4_radiusOfQuotient_X3_sum : GoodIn wsX4_radiusOfQuotient (wsV RX4 99 RX3 yX3_sum wsX3_sum) := goodIn_app (goodIn_of _ (by decide +kernel)) ggX4_radiusOfQuotient_X3_sum
set_option maxRecDepth 20000 in
theorem ggX4_radiusOfQuotient_X3_raise : GoodIn wsX4_radiusOfQuotient wsX3_raise := goodIn_r _ [68, 14, 15, 69, 70, 71, 12, 72, 16, 73, 74, 75, 76, 22, 23, 24, 25, 17, 169, 170, 171] rfl (by decide +kernel)
set_option maxRecDepth 20000 in
theorem gX4_radiusOfQuotient_X3_raise : GoodIn wsX4_radiusOfQuotient (wsV RX4 82 RX3 yX3_raise wsX3_raise) := goodIn_app (goodIn_of _ (by decide +kernel)) ggX4_radiusOfQuotient_X3_raise
set_option maxRecDepth 20000 in
theorem ggX4_radiusOfQuotient_X3_difference : GoodIn wsX4_radiusOfQuotient wsX3_difference := goodIn_r _ [80, 17, 38, 39, 40, 12, 41, 42, 43, 44, 45, 14, 46, 47, 32, 48, 15, 16, 49, 50, 51, 52, 53, 54, 55, 56, 57, 58, 59, 60, 61, 62, 63, 64, 22, 23, 24, 25, 169, 170, 171] rfl (by decide +kernel)
set_option maxRecDepth 20000 in
theorem gX4_radiusOfQuotient_X3_difference : GoodIn wsX4_radiusOfQuotient (wsV RX4 103 RX3 yX3_difference wsX3_difference) := goodIn_app (goodIn_of _ (by decide +kernel)) ggX4_radiusOfQuotient_X3_difference
set_option maxRecDepth 20000 in
theorem ggX4_radiusOfQuotient_X3_turn : GoodIn wsX4_radiusOfQuotient wsX3_turn := goodIn_r _ [84, 17, 169, 170, 171] rfl (by decide +kernel)
set_option maxRecDepth 20000 in
theorem gX4_radiusOfQuotient_X3_turn : GoodIn wsX4_radiusOfQuotient (wsV RX4 115 RX3 yX3_turn wsX3_turn) := goodIn_app (goodIn_of _ (by decide +kernel)) ggX4_radiusOfQuotient_X3_turn
set_option maxRecDepth 20000 in
theorem ggX4_radiusOfQuotient_X1_quotient : GoodIn wsX4_radiusOfQuotient wsX1_quotient := goodIn_r _ [89, 90, 91, 92, 47, 32, 48, 93, 94, 95, 96, 97, 12, 98, 17, 99, 19, 20, 21, 14, 100, 101, 102, 103, 104, 105, 106, 107, 15, 108, 109, 59, 110, 111, 112, 55, 113, 114, 115, 70, 71, 72, 16, 73, 74, 75, 76, 116, 117, 118, 88, 119, 120, 121, 122, 123, 124, 125, 126, 127, 128, 129, 130, 131, 132, 133, 134, 135, 136, 137, 138, 23, 24, 25, 139, 140, 141, 142, 172, 173, 174, 175, 169, 170, 171] rfl (by decide +kernel)
set_option maxRecDepth 20000 in
theorem gX4_radiusOfQuotient_X1_quotient : GoodIn wsX4_radiusOfQuotient (wsV RX4 88 RX1 yX1_quotient wsX1_quotient) := goodIn_app (goodIn_of _ (by decide +kernel)) ggX4_radiusOfQuotient_X1_quotient
set_option maxRecDepth 20000 in
theorem ggX4_radiusOfQuotient_X4_change : GoodIn wsX4_radiusOfQuotient wsX4_change := goodIn_r _ [147, 148, 149, 150, 151, 12, 152, 15, 16, 17, 153, 154, 59, 155, 22, 23, 24, 25, 14, 34, 35, 36, 37, 38, 39, 40, 41, 42, 43, 44, 45, 46, 47, 32, 48, 49, 50, 51, 52, 53, 54, 55, 56, 57, 58, 60, 61, 62, 63, 64, 156, 157, 158, 159, 160, 161, 162, 163, 164, 165, 166, 169, 170, 171] rfl (by decide +kernel)
set_option maxRecDepth 20000 in
theorem gX4_radiusOfQuotient_X4_change : GoodIn wsX4_radiusOfQuotient (wsV RX4 121 RX4 yX4_change wsX4_change) := goodIn_app (goodIn_of _ (by decide +kernel)) ggX4_radiusOfQuotient_X4_change
theorem dX4_radiusOfQuotient_0 : decode cX4_radiusOfQuotient 0 = .ok (.aload_n 0, 1) := by decide +kernel
theorem dX4_radiusOfQuotient_1 : decode cX4_radiusOfQuotient 1 = .ok (.getfield 36, 3) := by decide +kernel
theorem dX4_radiusOfQuotient_4 : decode cX4_radiusOfQuotient 4 = .ok (.aload_n 1, 1) := by decide +kernel
theorem dX4_radiusOfQuotient_5 : decode cX4_radiusOfQuotient 5 = .ok (.getfield 85, 3) := by decide +kernel
theorem dX4_radiusOfQuotient_8 : decode cX4_radiusOfQuotient 8 = .ok (.aload_n 3, 1) := by decide +kernel
theorem dX4_radiusOfQuotient_9 : decode cX4_radiusOfQuotient 9 = .ok (.invokevirtual 106, 3) := by decide +kernel
theorem dX4_radiusOfQuotient_12 : decode cX4_radiusOfQuotient 12 = .ok (.aload_n 0, 1) := by decide +kernel
theorem dX4_radiusOfQuotient_13 : decode cX4_radiusOfQuotient 13 = .ok (.getfield 36, 3) := by decide +kernel
theorem dX4_radiusOfQuotient_16 : decode cX4_radiusOfQuotient 16 = .ok (.invokevirtual 112, 3) := by decide +kernel
theorem dX4_radiusOfQuotient_19 : decode cX4_radiusOfQuotient 19 = .ok (.aload_n 0, 1) := by decide +kernel
theorem dX4_radiusOfQuotient_20 : decode cX4_radiusOfQuotient 20 = .ok (.getfield 30, 3) := by decide +kernel
theorem dX4_radiusOfQuotient_23 : decode cX4_radiusOfQuotient 23 = .ok (.aload_n 2, 1) := by decide +kernel
theorem dX4_radiusOfQuotient_24 : decode cX4_radiusOfQuotient 24 = .ok (.aload_n 1, 1) := by decide +kernel
theorem dX4_radiusOfQuotient_25 : decode cX4_radiusOfQuotient 25 = .ok (.getfield 92, 3) := by decide +kernel
theorem dX4_radiusOfQuotient_28 : decode cX4_radiusOfQuotient 28 = .ok (.invokevirtual 106, 3) := by decide +kernel
theorem dX4_radiusOfQuotient_31 : decode cX4_radiusOfQuotient 31 = .ok (.aload_n 0, 1) := by decide +kernel
theorem dX4_radiusOfQuotient_32 : decode cX4_radiusOfQuotient 32 = .ok (.getfield 36, 3) := by decide +kernel
theorem dX4_radiusOfQuotient_35 : decode cX4_radiusOfQuotient 35 = .ok (.aload_n 0, 1) := by decide +kernel
theorem dX4_radiusOfQuotient_36 : decode cX4_radiusOfQuotient 36 = .ok (.getfield 36, 3) := by decide +kernel
theorem dX4_radiusOfQuotient_39 : decode cX4_radiusOfQuotient 39 = .ok (.aload_n 0, 1) := by decide +kernel
theorem dX4_radiusOfQuotient_40 : decode cX4_radiusOfQuotient 40 = .ok (.getfield 30, 3) := by decide +kernel
theorem dX4_radiusOfQuotient_43 : decode cX4_radiusOfQuotient 43 = .ok (.invokevirtual 99, 3) := by decide +kernel
theorem dX4_radiusOfQuotient_46 : decode cX4_radiusOfQuotient 46 = .ok (.aload_n 0, 1) := by decide +kernel
theorem dX4_radiusOfQuotient_47 : decode cX4_radiusOfQuotient 47 = .ok (.getfield 36, 3) := by decide +kernel
theorem dX4_radiusOfQuotient_50 : decode cX4_radiusOfQuotient 50 = .ok (.aload_n 0, 1) := by decide +kernel
theorem dX4_radiusOfQuotient_51 : decode cX4_radiusOfQuotient 51 = .ok (.getfield 58, 3) := by decide +kernel
theorem dX4_radiusOfQuotient_54 : decode cX4_radiusOfQuotient 54 = .ok (.invokevirtual 82, 3) := by decide +kernel
theorem dX4_radiusOfQuotient_57 : decode cX4_radiusOfQuotient 57 = .ok (.aload_n 0, 1) := by decide +kernel
theorem dX4_radiusOfQuotient_58 : decode cX4_radiusOfQuotient 58 = .ok (.getfield 27, 3) := by decide +kernel
theorem dX4_radiusOfQuotient_61 : decode cX4_radiusOfQuotient 61 = .ok (.aload_n 2, 1) := by decide +kernel
theorem dX4_radiusOfQuotient_62 : decode cX4_radiusOfQuotient 62 = .ok (.aload_n 3, 1) := by decide +kernel
theorem dX4_radiusOfQuotient_63 : decode cX4_radiusOfQuotient 63 = .ok (.invokevirtual 103, 3) := by decide +kernel
theorem dX4_radiusOfQuotient_66 : decode cX4_radiusOfQuotient 66 = .ok (.aload_n 0, 1) := by decide +kernel
theorem dX4_radiusOfQuotient_67 : decode cX4_radiusOfQuotient 67 = .ok (.getfield 30, 3) := by decide +kernel
theorem dX4_radiusOfQuotient_70 : decode cX4_radiusOfQuotient 70 = .ok (.aload_n 2, 1) := by decide +kernel
theorem dX4_radiusOfQuotient_71 : decode cX4_radiusOfQuotient 71 = .ok (.aload_n 0, 1) := by decide +kernel
theorem dX4_radiusOfQuotient_72 : decode cX4_radiusOfQuotient 72 = .ok (.getfield 27, 3) := by decide +kernel
theorem dX4_radiusOfQuotient_75 : decode cX4_radiusOfQuotient 75 = .ok (.invokevirtual 106, 3) := by decide +kernel
theorem dX4_radiusOfQuotient_78 : decode cX4_radiusOfQuotient 78 = .ok (.aload_n 0, 1) := by decide +kernel
theorem dX4_radiusOfQuotient_79 : decode cX4_radiusOfQuotient 79 = .ok (.getfield 36, 3) := by decide +kernel
theorem dX4_radiusOfQuotient_82 : decode cX4_radiusOfQuotient 82 = .ok (.invokevirtual 115, 3) := by decide +kernel
theorem dX4_radiusOfQuotient_85 : decode cX4_radiusOfQuotient 85 = .ok (.aload_n 0, 1) := by decide +kernel
theorem dX4_radiusOfQuotient_86 : decode cX4_radiusOfQuotient 86 = .ok (.getfield 45, 3) := by decide +kernel
theorem dX4_radiusOfQuotient_89 : decode cX4_radiusOfQuotient 89 = .ok (.aload_n 0, 1) := by decide +kernel
theorem dX4_radiusOfQuotient_90 : decode cX4_radiusOfQuotient 90 = .ok (.getfield 23, 3) := by decide +kernel
theorem dX4_radiusOfQuotient_93 : decode cX4_radiusOfQuotient 93 = .ok (.getfield 92, 3) := by decide +kernel
theorem dX4_radiusOfQuotient_96 : decode cX4_radiusOfQuotient 96 = .ok (.aload_n 0, 1) := by decide +kernel
theorem dX4_radiusOfQuotient_97 : decode cX4_radiusOfQuotient 97 = .ok (.getfield 36, 3) := by decide +kernel
theorem dX4_radiusOfQuotient_100 : decode cX4_radiusOfQuotient 100 = .ok (.aload_n 0, 1) := by decide +kernel
theorem dX4_radiusOfQuotient_101 : decode cX4_radiusOfQuotient 101 = .ok (.getfield 30, 3) := by decide +kernel
theorem dX4_radiusOfQuotient_104 : decode cX4_radiusOfQuotient 104 = .ok (.invokevirtual 88, 3) := by decide +kernel
theorem dX4_radiusOfQuotient_107 : decode cX4_radiusOfQuotient 107 = .ok (.pop, 1) := by decide +kernel
theorem dX4_radiusOfQuotient_108 : decode cX4_radiusOfQuotient 108 = .ok (.aload_n 0, 1) := by decide +kernel
theorem dX4_radiusOfQuotient_109 : decode cX4_radiusOfQuotient 109 = .ok (.getfield 23, 3) := by decide +kernel
theorem dX4_radiusOfQuotient_112 : decode cX4_radiusOfQuotient 112 = .ok (.getfield 92, 3) := by decide +kernel
theorem dX4_radiusOfQuotient_115 : decode cX4_radiusOfQuotient 115 = .ok (.invokevirtual 115, 3) := by decide +kernel
theorem dX4_radiusOfQuotient_118 : decode cX4_radiusOfQuotient 118 = .ok (.aload_n 0, 1) := by decide +kernel
theorem dX4_radiusOfQuotient_119 : decode cX4_radiusOfQuotient 119 = .ok (.aload_n 0, 1) := by decide +kernel
theorem dX4_radiusOfQuotient_120 : decode cX4_radiusOfQuotient 120 = .ok (.getfield 23, 3) := by decide +kernel
theorem dX4_radiusOfQuotient_123 : decode cX4_radiusOfQuotient 123 = .ok (.getfield 92, 3) := by decide +kernel
theorem dX4_radiusOfQuotient_126 : decode cX4_radiusOfQuotient 126 = .ok (.lconst 1, 1) := by decide +kernel
theorem dX4_radiusOfQuotient_127 : decode cX4_radiusOfQuotient 127 = .ok (.invokevirtual 121, 3) := by decide +kernel
theorem dX4_radiusOfQuotient_130 : decode cX4_radiusOfQuotient 130 = .ok (.return_, 1) := by decide +kernel
set_option maxRecDepth 20000 in
theorem ggX4_partOf_X4_findEnds : GoodIn wsX4_partOf wsX4_findEnds := goodIn_r _ [9, 3, 1, 2, 4, 10, 11, 12, 13, 14, 15, 16, 17, 18, 19, 20, 21, 22, 23, 24, 25, 26, 27, 28, 29, 30, 31, 32, 33, 34, 35, 36, 37, 38, 39, 40, 41, 42, 43, 44, 45, 46, 47, 48, 49, 50, 51, 52, 53, 54, 57, 58, 59, 60, 61, 62, 63, 64, 65, 66, 67, 55, 56, 68, 69, 70] rfl (by decide +kernel)
set_option maxRecDepth 20000 in
theorem gX4_partOf_X4_findEnds : GoodIn wsX4_partOf (wsV RX4 137 RX4 yX4_findEnds wsX4_findEnds) := goodIn_app (goodIn_of _ (by decide +kernel)) ggX4_partOf_X4_findEnds
theorem dX4_partOf_0 : decode cX4_partOf 0 = .ok (.iload_n 2, 1) := by decide +kernel
theorem dX4_partOf_1 : decode cX4_partOf 1 = .ok (.ifCond .ne 8, 3) := by decide +kernel
theorem dX4_partOf_4 : decode cX4_partOf 4 = .ok (.aload_n 1, 1) := by decide +kernel
theorem dX4_partOf_5 : decode cX4_partOf 5 = .ok (.getfield 85, 3) := by decide +kernel
theorem dX4_partOf_8 : decode cX4_partOf 8 = .ok (.areturn, 1) := by decide +kernel
theorem dX4_partOf_9 : decode cX4_partOf 9 = .ok (.iload_n 2, 1) := by decide +kernel
theorem dX4_partOf_10 : decode cX4_partOf 10 = .ok (.iconst 1, 1) := by decide +kernel
theorem dX4_partOf_11 : decode cX4_partOf 11 = .ok (.if_icmp .ne 8, 3) := by decide +kernel
theorem dX4_partOf_14 : decode cX4_partOf 14 = .ok (.aload_n 1, 1) := by decide +kernel
theorem dX4_partOf_15 : decode cX4_partOf 15 = .ok (.getfield 92, 3) := by decide +kernel
theorem dX4_partOf_18 : decode cX4_partOf 18 = .ok (.areturn, 1) := by decide +kernel
theorem dX4_partOf_19 : decode cX4_partOf 19 = .ok (.aload_n 0, 1) := by decide +kernel
theorem dX4_partOf_20 : decode cX4_partOf 20 = .ok (.aload_n 1, 1) := by decide +kernel
theorem dX4_partOf_21 : decode cX4_partOf 21 = .ok (.invokevirtual 137, 3) := by decide +kernel
theorem dX4_partOf_24 : decode cX4_partOf 24 = .ok (.iload_n 2, 1) := by decide +kernel
theorem dX4_partOf_25 : decode cX4_partOf 25 = .ok (.iconst 2, 1) := by decide +kernel
theorem dX4_partOf_26 : decode cX4_partOf 26 = .ok (.if_icmp .ne 10, 3) := by decide +kernel
theorem dX4_partOf_29 : decode cX4_partOf 29 = .ok (.aload_n 0, 1) := by decide +kernel
theorem dX4_partOf_30 : decode cX4_partOf 30 = .ok (.getfield 27, 3) := by decide +kernel
theorem dX4_partOf_33 : decode cX4_partOf 33 = .ok (.goto 7, 3) := by decide +kernel
theorem dX4_partOf_36 : decode cX4_partOf 36 = .ok (.aload_n 0, 1) := by decide +kernel
theorem dX4_partOf_37 : decode cX4_partOf 37 = .ok (.getfield 30, 3) := by decide +kernel
theorem dX4_partOf_40 : decode cX4_partOf 40 = .ok (.areturn, 1) := by decide +kernel
