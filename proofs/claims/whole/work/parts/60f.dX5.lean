theorem dX5_exp_115 : decode cX5_exp 115 = .ok (.invokevirtual 137, 3) := by decide +kernel
theorem dX5_exp_118 : decode cX5_exp 118 = .ok (.aload_n 0, 1) := by decide +kernel
theorem dX5_exp_119 : decode cX5_exp 119 = .ok (.bipush 24, 2) := by decide +kernel
theorem dX5_exp_121 : decode cX5_exp 121 = .ok (.iconst (-1), 1) := by decide +kernel
theorem dX5_exp_122 : decode cX5_exp 122 = .ok (.invokevirtual 140, 3) := by decide +kernel
theorem dX5_exp_125 : decode cX5_exp 125 = .ok (.aload_n 0, 1) := by decide +kernel
theorem dX5_exp_126 : decode cX5_exp 126 = .ok (.bipush 25, 2) := by decide +kernel
theorem dX5_exp_128 : decode cX5_exp 128 = .ok (.iconst 2, 1) := by decide +kernel
theorem dX5_exp_129 : decode cX5_exp 129 = .ok (.invokevirtual 140, 3) := by decide +kernel
theorem dX5_exp_132 : decode cX5_exp 132 = .ok (.aload_n 0, 1) := by decide +kernel
theorem dX5_exp_133 : decode cX5_exp 133 = .ok (.getfield 13, 3) := by decide +kernel
theorem dX5_exp_136 : decode cX5_exp 136 = .ok (.bipush 24, 2) := by decide +kernel
theorem dX5_exp_138 : decode cX5_exp 138 = .ok (.iaload, 1) := by decide +kernel
theorem dX5_exp_139 : decode cX5_exp 139 = .ok (.ifCond .ge 9, 3) := by decide +kernel
theorem dX5_exp_142 : decode cX5_exp 142 = .ok (.aload_n 0, 1) := by decide +kernel
theorem dX5_exp_143 : decode cX5_exp 143 = .ok (.bipush 24, 2) := by decide +kernel
theorem dX5_exp_145 : decode cX5_exp 145 = .ok (.invokevirtual 51, 3) := by decide +kernel
theorem dX5_exp_148 : decode cX5_exp 148 = .ok (.aload_n 0, 1) := by decide +kernel
theorem dX5_exp_149 : decode cX5_exp 149 = .ok (.iload_n 1, 1) := by decide +kernel
theorem dX5_exp_150 : decode cX5_exp 150 = .ok (.bipush 24, 2) := by decide +kernel
theorem dX5_exp_152 : decode cX5_exp 152 = .ok (.bipush 25, 2) := by decide +kernel
theorem dX5_exp_154 : decode cX5_exp 154 = .ok (.invokevirtual 133, 3) := by decide +kernel
theorem dX5_exp_157 : decode cX5_exp 157 = .ok (.ireturn, 1) := by decide +kernel
set_option maxRecDepth 20000 in
theorem ggX5_log_X5_isPlace : GoodIn wsX5_log wsX5_isPlace := goodIn_r _ [6] rfl (by decide +kernel)
set_option maxRecDepth 20000 in
theorem gX5_log_X5_isPlace : GoodIn wsX5_log (va_wsS RX5 111 yX5_isPlace wsX5_isPlace) := goodIn_app (goodIn_of _ (by decide +kernel)) ggX5_log_X5_isPlace
set_option maxRecDepth 20000 in
theorem ggX5_log_X5_ends : GoodIn wsX5_log wsX5_ends := goodIn_r _ [10, 11, 12, 13, 5, 14, 15, 16, 17, 18, 2, 19, 20, 21, 22, 23, 24, 25, 26, 27, 28, 29, 30, 31, 32, 33, 34, 35, 36, 37, 38, 39, 40, 113, 114, 115, 116, 117, 118, 119] rfl (by decide +kernel)
set_option maxRecDepth 20000 in
theorem gX5_log_X5_ends : GoodIn wsX5_log (wsV RX5 130 RX5 yX5_ends wsX5_ends) := goodIn_app (goodIn_of _ (by decide +kernel)) ggX5_log_X5_ends
set_option maxRecDepth 20000 in
theorem ggX5_log_X5_up : GoodIn wsX5_log wsX5_up := goodIn_r _ [44, 2, 20, 19, 29, 30, 31, 5, 32, 113, 114, 115, 116, 117, 118, 119] rfl (by decide +kernel)
set_option maxRecDepth 20000 in
theorem gX5_log_X5_up : GoodIn wsX5_log (wsV RX5 95 RX5 yX5_up wsX5_up) := goodIn_app (goodIn_of _ (by decide +kernel)) ggX5_log_X5_up
set_option maxRecDepth 20000 in
theorem ggX5_log_X5_fineLog : GoodIn wsX5_log wsX5_fineLog := goodIn_r _ [48, 49, 50, 51, 52, 5, 53, 54, 55, 56, 57, 19, 58, 59, 60, 61, 62, 2, 33, 34, 35, 36, 63, 64, 65, 66, 67, 29, 30, 31, 32, 68, 69, 70, 71, 21, 22, 23, 24, 72, 73, 74, 75, 41, 42, 43, 44, 20, 11, 12, 13, 14, 15, 16, 17, 18, 25, 26, 27, 28, 37, 38, 39, 40, 76, 77, 78, 79, 80, 81, 82, 83, 84, 85, 86, 87, 88, 89, 90, 91, 92, 93, 94, 95, 96, 97, 98, 99, 100, 113, 114, 115, 116, 117, 118, 119] rfl (by decide +kernel)
set_option maxRecDepth 20000 in
theorem gX5_log_X5_fineLog : GoodIn wsX5_log (wsV RX5 143 RX5 yX5_fineLog wsX5_fineLog) := goodIn_app (goodIn_of _ (by decide +kernel)) ggX5_log_X5_fineLog
set_option maxRecDepth 20000 in
theorem ggX5_log_X5_coarse : GoodIn wsX5_log wsX5_coarse := goodIn_r _ [104, 89, 90, 91, 5, 92, 2, 20, 19, 29, 30, 31, 32, 33, 34, 35, 36, 81, 82, 83, 84, 54, 55, 56, 57, 58, 59, 60, 61, 62, 37, 38, 39, 40, 15, 16, 17, 18, 21, 22, 23, 24, 25, 26, 27, 28, 113, 114, 115, 116, 117, 118, 119] rfl (by decide +kernel)
set_option maxRecDepth 20000 in
theorem gX5_log_X5_coarse : GoodIn wsX5_log (wsV RX5 140 RX5 yX5_coarse wsX5_coarse) := goodIn_app (goodIn_of _ (by decide +kernel)) ggX5_log_X5_coarse
set_option maxRecDepth 20000 in
theorem ggX5_log_X5_keepEnds : GoodIn wsX5_log wsX5_keepEnds := goodIn_r _ [108, 37, 38, 39, 5, 40, 15, 16, 17, 18, 2, 19, 20, 21, 22, 23, 24, 25, 26, 27, 28, 29, 30, 31, 32, 33, 34, 35, 36, 89, 90, 91, 92, 81, 82, 83, 84, 54, 55, 56, 57, 58, 59, 60, 61, 62, 11, 12, 13, 14, 109, 110, 111, 112, 113, 114, 115, 116, 117, 118, 119] rfl (by decide +kernel)
set_option maxRecDepth 20000 in
theorem gX5_log_X5_keepEnds : GoodIn wsX5_log (wsV RX5 133 RX5 yX5_keepEnds wsX5_keepEnds) := goodIn_app (goodIn_of _ (by decide +kernel)) ggX5_log_X5_keepEnds
theorem dX5_log_0 : decode cX5_log 0 = .ok (.aload_n 0, 1) := by decide +kernel
theorem dX5_log_1 : decode cX5_log 1 = .ok (.iconst 0, 1) := by decide +kernel
theorem dX5_log_2 : decode cX5_log 2 = .ok (.putfield 48, 3) := by decide +kernel
theorem dX5_log_5 : decode cX5_log 5 = .ok (.iload_n 1, 1) := by decide +kernel
theorem dX5_log_6 : decode cX5_log 6 = .ok (.invokestatic 111, 3) := by decide +kernel
theorem dX5_log_9 : decode cX5_log 9 = .ok (.ifCond .eq 10, 3) := by decide +kernel
theorem dX5_log_12 : decode cX5_log 12 = .ok (.iload_n 2, 1) := by decide +kernel
theorem dX5_log_13 : decode cX5_log 13 = .ok (.invokestatic 111, 3) := by decide +kernel
theorem dX5_log_16 : decode cX5_log 16 = .ok (.ifCond .ne 5, 3) := by decide +kernel
theorem dX5_log_19 : decode cX5_log 19 = .ok (.iconst (-1), 1) := by decide +kernel
theorem dX5_log_20 : decode cX5_log 20 = .ok (.ireturn, 1) := by decide +kernel
theorem dX5_log_21 : decode cX5_log 21 = .ok (.aload_n 0, 1) := by decide +kernel
theorem dX5_log_22 : decode cX5_log 22 = .ok (.iload_n 2, 1) := by decide +kernel
theorem dX5_log_23 : decode cX5_log 23 = .ok (.invokevirtual 130, 3) := by decide +kernel
theorem dX5_log_26 : decode cX5_log 26 = .ok (.aload_n 0, 1) := by decide +kernel
theorem dX5_log_27 : decode cX5_log 27 = .ok (.getfield 13, 3) := by decide +kernel
theorem dX5_log_30 : decode cX5_log 30 = .ok (.bipush 24, 2) := by decide +kernel
theorem dX5_log_32 : decode cX5_log 32 = .ok (.iaload, 1) := by decide +kernel
theorem dX5_log_33 : decode cX5_log 33 = .ok (.ifCond .gt 5, 3) := by decide +kernel
theorem dX5_log_36 : decode cX5_log 36 = .ok (.iconst (-1), 1) := by decide +kernel
theorem dX5_log_37 : decode cX5_log 37 = .ok (.ireturn, 1) := by decide +kernel
theorem dX5_log_38 : decode cX5_log 38 = .ok (.aload_n 0, 1) := by decide +kernel
theorem dX5_log_39 : decode cX5_log 39 = .ok (.bipush 24, 2) := by decide +kernel
theorem dX5_log_41 : decode cX5_log 41 = .ok (.bipush 24, 2) := by decide +kernel
theorem dX5_log_43 : decode cX5_log 43 = .ok (.bipush 64, 2) := by decide +kernel
theorem dX5_log_45 : decode cX5_log 45 = .ok (.invokevirtual 95, 3) := by decide +kernel
theorem dX5_log_48 : decode cX5_log 48 = .ok (.aload_n 0, 1) := by decide +kernel
theorem dX5_log_49 : decode cX5_log 49 = .ok (.bipush 25, 2) := by decide +kernel
theorem dX5_log_51 : decode cX5_log 51 = .ok (.bipush 25, 2) := by decide +kernel
theorem dX5_log_53 : decode cX5_log 53 = .ok (.bipush 64, 2) := by decide +kernel
theorem dX5_log_55 : decode cX5_log 55 = .ok (.invokevirtual 95, 3) := by decide +kernel
theorem dX5_log_58 : decode cX5_log 58 = .ok (.aload_n 0, 1) := by decide +kernel
theorem dX5_log_59 : decode cX5_log 59 = .ok (.bipush 24, 2) := by decide +kernel
theorem dX5_log_61 : decode cX5_log 61 = .ok (.bipush 24, 2) := by decide +kernel
theorem dX5_log_63 : decode cX5_log 63 = .ok (.invokevirtual 143, 3) := by decide +kernel
theorem dX5_log_66 : decode cX5_log 66 = .ok (.aload_n 0, 1) := by decide +kernel
theorem dX5_log_67 : decode cX5_log 67 = .ok (.bipush 25, 2) := by decide +kernel
theorem dX5_log_69 : decode cX5_log 69 = .ok (.bipush 25, 2) := by decide +kernel
theorem dX5_log_71 : decode cX5_log 71 = .ok (.invokevirtual 143, 3) := by decide +kernel
theorem dX5_log_74 : decode cX5_log 74 = .ok (.aload_n 0, 1) := by decide +kernel
theorem dX5_log_75 : decode cX5_log 75 = .ok (.bipush 24, 2) := by decide +kernel
theorem dX5_log_77 : decode cX5_log 77 = .ok (.iconst (-1), 1) := by decide +kernel
theorem dX5_log_78 : decode cX5_log 78 = .ok (.invokevirtual 140, 3) := by decide +kernel
theorem dX5_log_81 : decode cX5_log 81 = .ok (.aload_n 0, 1) := by decide +kernel
theorem dX5_log_82 : decode cX5_log 82 = .ok (.bipush 25, 2) := by decide +kernel
theorem dX5_log_84 : decode cX5_log 84 = .ok (.iconst 2, 1) := by decide +kernel
theorem dX5_log_85 : decode cX5_log 85 = .ok (.invokevirtual 140, 3) := by decide +kernel
theorem dX5_log_88 : decode cX5_log 88 = .ok (.aload_n 0, 1) := by decide +kernel
theorem dX5_log_89 : decode cX5_log 89 = .ok (.iload_n 1, 1) := by decide +kernel
theorem dX5_log_90 : decode cX5_log 90 = .ok (.bipush 24, 2) := by decide +kernel
theorem dX5_log_92 : decode cX5_log 92 = .ok (.bipush 25, 2) := by decide +kernel
theorem dX5_log_94 : decode cX5_log 94 = .ok (.invokevirtual 133, 3) := by decide +kernel
theorem dX5_log_97 : decode cX5_log 97 = .ok (.ireturn, 1) := by decide +kernel
set_option maxRecDepth 20000 in
theorem ggX5_arc_X5_isPlace : GoodIn wsX5_arc wsX5_isPlace := goodIn_r _ [5] rfl (by decide +kernel)
set_option maxRecDepth 20000 in
theorem gX5_arc_X5_isPlace : GoodIn wsX5_arc (va_wsS RX5 111 yX5_isPlace wsX5_isPlace) := goodIn_app (goodIn_of _ (by decide +kernel)) ggX5_arc_X5_isPlace
set_option maxRecDepth 20000 in
theorem ggX5_arc_X5_ends : GoodIn wsX5_arc wsX5_ends := goodIn_r _ [9, 10, 11, 12, 4, 13, 14, 15, 16, 17, 18, 19, 20, 21, 22, 23, 24, 25, 26, 27, 28, 29, 30, 31, 32, 33, 34, 35, 36, 37, 38, 39, 40, 117, 118, 119, 120, 121, 122, 123] rfl (by decide +kernel)
set_option maxRecDepth 20000 in
theorem gX5_arc_X5_ends : GoodIn wsX5_arc (wsV RX5 130 RX5 yX5_ends wsX5_ends) := goodIn_app (goodIn_of _ (by decide +kernel)) ggX5_arc_X5_ends
set_option maxRecDepth 20000 in
theorem ggX5_arc_X5_up : GoodIn wsX5_arc wsX5_up := goodIn_r _ [44, 18, 20, 19, 29, 30, 31, 4, 32, 117, 118, 119, 120, 121, 122, 123] rfl (by decide +kernel)
set_option maxRecDepth 20000 in
theorem gX5_arc_X5_up : GoodIn wsX5_arc (wsV RX5 95 RX5 yX5_up wsX5_up) := goodIn_app (goodIn_of _ (by decide +kernel)) ggX5_arc_X5_up
set_option maxRecDepth 20000 in
theorem ggX5_arc_X5_fineArc : GoodIn wsX5_arc wsX5_fineArc := goodIn_r _ [48, 18, 49, 21, 22, 23, 4, 24, 19, 50, 51, 52, 53, 25, 26, 27, 28, 29, 30, 31, 32, 54, 55, 56, 57, 58, 59, 60, 61, 62, 63, 64, 65, 66, 20, 67, 68, 69, 70, 33, 34, 35, 36, 71, 72, 73, 74, 75, 76, 77, 78, 79, 37, 38, 39, 40, 14, 15, 16, 17, 80, 81, 82, 83, 84, 85, 86, 87, 88, 41, 42, 43, 44, 10, 11, 12, 13, 89, 90, 91, 92, 93, 94, 95, 96, 97, 98, 99, 100, 101, 102, 103, 104, 117, 118, 119, 120, 121, 122, 123] rfl (by decide +kernel)
set_option maxRecDepth 20000 in
theorem gX5_arc_X5_fineArc : GoodIn wsX5_arc (wsV RX5 146 RX5 yX5_fineArc wsX5_fineArc) := goodIn_app (goodIn_of _ (by decide +kernel)) ggX5_arc_X5_fineArc
set_option maxRecDepth 20000 in
theorem ggX5_arc_X5_coarse : GoodIn wsX5_arc wsX5_coarse := goodIn_r _ [108, 93, 94, 95, 4, 96, 18, 20, 19, 29, 30, 31, 32, 33, 34, 35, 36, 71, 72, 73, 74, 75, 76, 77, 78, 79, 58, 59, 60, 61, 37, 38, 39, 40, 14, 15, 16, 17, 21, 22, 23, 24, 25, 26, 27, 28, 117, 118, 119, 120, 121, 122, 123] rfl (by decide +kernel)
set_option maxRecDepth 20000 in
theorem gX5_arc_X5_coarse : GoodIn wsX5_arc (wsV RX5 140 RX5 yX5_coarse wsX5_coarse) := goodIn_app (goodIn_of _ (by decide +kernel)) ggX5_arc_X5_coarse
set_option maxRecDepth 20000 in
theorem ggX5_arc_X5_keepEnds : GoodIn wsX5_arc wsX5_keepEnds := goodIn_r _ [112, 37, 38, 39, 4, 40, 14, 15, 16, 17, 18, 19, 20, 21, 22, 23, 24, 25, 26, 27, 28, 29, 30, 31, 32, 33, 34, 35, 36, 93, 94, 95, 96, 71, 72, 73, 74, 75, 76, 77, 78, 79, 58, 59, 60, 61, 10, 11, 12, 13, 113, 114, 115, 116, 117, 118, 119, 120, 121, 122, 123] rfl (by decide +kernel)
set_option maxRecDepth 20000 in
theorem gX5_arc_X5_keepEnds : GoodIn wsX5_arc (wsV RX5 133 RX5 yX5_keepEnds wsX5_keepEnds) := goodIn_app (goodIn_of _ (by decide +kernel)) ggX5_arc_X5_keepEnds
theorem dX5_arc_0 : decode cX5_arc 0 = .ok (.aload_n 0, 1) := by decide +kernel
theorem dX5_arc_1 : decode cX5_arc 1 = .ok (.iconst 0, 1) := by decide +kernel
theorem dX5_arc_2 : decode cX5_arc 2 = .ok (.putfield 48, 3) := by decide +kernel
theorem dX5_arc_5 : decode cX5_arc 5 = .ok (.iload_n 1, 1) := by decide +kernel
theorem dX5_arc_6 : decode cX5_arc 6 = .ok (.invokestatic 111, 3) := by decide +kernel
theorem dX5_arc_9 : decode cX5_arc 9 = .ok (.ifCond .eq 10, 3) := by decide +kernel
theorem dX5_arc_12 : decode cX5_arc 12 = .ok (.iload_n 2, 1) := by decide +kernel
theorem dX5_arc_13 : decode cX5_arc 13 = .ok (.invokestatic 111, 3) := by decide +kernel
theorem dX5_arc_16 : decode cX5_arc 16 = .ok (.ifCond .ne 5, 3) := by decide +kernel
theorem dX5_arc_19 : decode cX5_arc 19 = .ok (.iconst (-1), 1) := by decide +kernel
theorem dX5_arc_20 : decode cX5_arc 20 = .ok (.ireturn, 1) := by decide +kernel
theorem dX5_arc_21 : decode cX5_arc 21 = .ok (.aload_n 0, 1) := by decide +kernel
theorem dX5_arc_22 : decode cX5_arc 22 = .ok (.iload_n 2, 1) := by decide +kernel
theorem dX5_arc_23 : decode cX5_arc 23 = .ok (.invokevirtual 130, 3) := by decide +kernel
theorem dX5_arc_26 : decode cX5_arc 26 = .ok (.aload_n 0, 1) := by decide +kernel
theorem dX5_arc_27 : decode cX5_arc 27 = .ok (.bipush 24, 2) := by decide +kernel
theorem dX5_arc_29 : decode cX5_arc 29 = .ok (.bipush 24, 2) := by decide +kernel
theorem dX5_arc_31 : decode cX5_arc 31 = .ok (.bipush 64, 2) := by decide +kernel
theorem dX5_arc_33 : decode cX5_arc 33 = .ok (.invokevirtual 95, 3) := by decide +kernel
theorem dX5_arc_36 : decode cX5_arc 36 = .ok (.aload_n 0, 1) := by decide +kernel
theorem dX5_arc_37 : decode cX5_arc 37 = .ok (.bipush 25, 2) := by decide +kernel
theorem dX5_arc_39 : decode cX5_arc 39 = .ok (.bipush 25, 2) := by decide +kernel
theorem dX5_arc_41 : decode cX5_arc 41 = .ok (.bipush 64, 2) := by decide +kernel
theorem dX5_arc_43 : decode cX5_arc 43 = .ok (.invokevirtual 95, 3) := by decide +kernel
theorem dX5_arc_46 : decode cX5_arc 46 = .ok (.aload_n 0, 1) := by decide +kernel
theorem dX5_arc_47 : decode cX5_arc 47 = .ok (.bipush 24, 2) := by decide +kernel
theorem dX5_arc_49 : decode cX5_arc 49 = .ok (.bipush 24, 2) := by decide +kernel
theorem dX5_arc_51 : decode cX5_arc 51 = .ok (.invokevirtual 146, 3) := by decide +kernel
theorem dX5_arc_54 : decode cX5_arc 54 = .ok (.aload_n 0, 1) := by decide +kernel
theorem dX5_arc_55 : decode cX5_arc 55 = .ok (.bipush 25, 2) := by decide +kernel
theorem dX5_arc_57 : decode cX5_arc 57 = .ok (.bipush 25, 2) := by decide +kernel
theorem dX5_arc_59 : decode cX5_arc 59 = .ok (.invokevirtual 146, 3) := by decide +kernel
theorem dX5_arc_62 : decode cX5_arc 62 = .ok (.aload_n 0, 1) := by decide +kernel
theorem dX5_arc_63 : decode cX5_arc 63 = .ok (.bipush 24, 2) := by decide +kernel
theorem dX5_arc_65 : decode cX5_arc 65 = .ok (.iconst (-1), 1) := by decide +kernel
theorem dX5_arc_66 : decode cX5_arc 66 = .ok (.invokevirtual 140, 3) := by decide +kernel
theorem dX5_arc_69 : decode cX5_arc 69 = .ok (.aload_n 0, 1) := by decide +kernel
theorem dX5_arc_70 : decode cX5_arc 70 = .ok (.bipush 25, 2) := by decide +kernel
theorem dX5_arc_72 : decode cX5_arc 72 = .ok (.iconst 2, 1) := by decide +kernel
theorem dX5_arc_73 : decode cX5_arc 73 = .ok (.invokevirtual 140, 3) := by decide +kernel
theorem dX5_arc_76 : decode cX5_arc 76 = .ok (.aload_n 0, 1) := by decide +kernel
theorem dX5_arc_77 : decode cX5_arc 77 = .ok (.iload_n 1, 1) := by decide +kernel
theorem dX5_arc_78 : decode cX5_arc 78 = .ok (.bipush 24, 2) := by decide +kernel
theorem dX5_arc_80 : decode cX5_arc 80 = .ok (.bipush 25, 2) := by decide +kernel
theorem dX5_arc_82 : decode cX5_arc 82 = .ok (.invokevirtual 133, 3) := by decide +kernel
theorem dX5_arc_85 : decode cX5_arc 85 = .ok (.ireturn, 1) := by decide +kernel
set_option maxRecDepth 20000 in
theorem ggX5_sine_X5_isPlace : GoodIn wsX5_sine wsX5_isPlace := goodIn_r _ [6] rfl (by decide +kernel)
set_option maxRecDepth 20000 in
theorem gX5_sine_X5_isPlace : GoodIn wsX5_sine (va_wsS RX5 111 yX5_isPlace wsX5_isPlace) := goodIn_app (goodIn_of _ (by decide +kernel)) ggX5_sine_X5_isPlace
set_option maxRecDepth 20000 in
theorem ggX5_sine_X5_power : GoodIn wsX5_sine wsX5_power := goodIn_r _ [10, 11, 12, 13, 14, 15, 5, 16, 90, 91, 92, 93, 94, 95, 96] rfl (by decide +kernel)
set_option maxRecDepth 20000 in
theorem gX5_sine_X5_power : GoodIn wsX5_sine (wsV RX5 30 RX5 yX5_power wsX5_power) := goodIn_app (goodIn_of _ (by decide +kernel)) ggX5_sine_X5_power
set_option maxRecDepth 20000 in
theorem ggX5_sine_X5_sizes : GoodIn wsX5_sine wsX5_sizes := goodIn_r _ [20, 21, 22, 23, 5, 24, 11, 90, 91, 92, 93, 94, 95, 96] rfl (by decide +kernel)
set_option maxRecDepth 20000 in
theorem gX5_sine_X5_sizes : GoodIn wsX5_sine (wsV RX5 64 RX5 yX5_sizes wsX5_sizes) := goodIn_app (goodIn_of _ (by decide +kernel)) ggX5_sine_X5_sizes
set_option maxRecDepth 20000 in
theorem ggX5_sine_X5_up : GoodIn wsX5_sine wsX5_up := goodIn_r _ [28, 12, 29, 11, 21, 22, 23, 5, 24, 90, 91, 92, 93, 94, 95, 96] rfl (by decide +kernel)
set_option maxRecDepth 20000 in
theorem gX5_sine_X5_up : GoodIn wsX5_sine (wsV RX5 95 RX5 yX5_up wsX5_up) := goodIn_app (goodIn_of _ (by decide +kernel)) ggX5_sine_X5_up
set_option maxRecDepth 20000 in
theorem ggX5_sine_X5_down : GoodIn wsX5_sine wsX5_down := goodIn_r _ [33, 12, 29, 11, 21, 22, 23, 5, 24, 34, 35, 36, 37, 38, 39, 40, 41, 42, 43, 44, 45, 46, 13, 14, 15, 16, 47, 48, 49, 50, 51, 52, 53, 54, 55, 56, 57, 58, 17, 18, 19, 20, 90, 91, 92, 93, 94, 95, 96] rfl (by decide +kernel)
set_option maxRecDepth 20000 in
theorem gX5_sine_X5_down : GoodIn wsX5_sine (wsV RX5 101 RX5 yX5_down wsX5_down) := goodIn_app (goodIn_of _ (by decide +kernel)) ggX5_sine_X5_down
set_option maxRecDepth 20000 in
theorem ggX5_sine_X5_plus : GoodIn wsX5_sine wsX5_plus := goodIn_r _ [50, 51, 52, 53, 5, 54, 12, 11, 29, 55, 56, 57, 58, 17, 18, 19, 20, 21, 22, 23, 24, 34, 35, 36, 37, 90, 91, 92, 93, 94, 95, 96] rfl (by decide +kernel)
set_option maxRecDepth 20000 in
theorem gX5_sine_X5_plus : GoodIn wsX5_sine (wsV RX5 79 RX5 yX5_plus wsX5_plus) := goodIn_app (goodIn_of _ (by decide +kernel)) ggX5_sine_X5_plus
set_option maxRecDepth 20000 in
theorem ggX5_sine_X5_fineSine : GoodIn wsX5_sine wsX5_fineSine := goodIn_r _ [62, 63, 12, 25, 26, 27, 5, 28, 29, 11, 21, 22, 23, 24, 47, 48, 49, 50, 51, 52, 53, 54, 55, 56, 57, 58, 17, 18, 19, 20, 34, 35, 36, 37, 64, 65, 66, 67, 68, 69, 70, 71, 72, 13, 14, 15, 16, 38, 39, 40, 41, 42, 43, 44, 45, 46, 73, 74, 75, 76, 77, 78, 79, 80, 81, 30, 31, 32, 33, 82, 83, 84, 85, 90, 91, 92, 93, 94, 95, 96] rfl (by decide +kernel)
set_option maxRecDepth 20000 in
theorem gX5_sine_X5_fineSine : GoodIn wsX5_sine (wsV RX5 149 RX5 yX5_fineSine wsX5_fineSine) := goodIn_app (goodIn_of _ (by decide +kernel)) ggX5_sine_X5_fineSine
set_option maxRecDepth 20000 in
theorem ggX5_sine_X5_copy : GoodIn wsX5_sine wsX5_copy := goodIn_r _ [58, 11, 12, 90, 91, 92, 93, 94, 95, 96] rfl (by decide +kernel)
set_option maxRecDepth 20000 in
theorem gX5_sine_X5_copy : GoodIn wsX5_sine (wsV RX5 67 RX5 yX5_copy wsX5_copy) := goodIn_app (goodIn_of _ (by decide +kernel)) ggX5_sine_X5_copy
set_option maxRecDepth 20000 in
theorem ggX5_sine_X5_addSmall : GoodIn wsX5_sine wsX5_addSmall := goodIn_r _ [41, 42, 43, 44, 5, 45, 11, 46, 13, 14, 15, 16, 12, 34, 35, 36, 37, 47, 48, 49, 50, 51, 52, 53, 54, 29, 55, 56, 57, 58, 17, 18, 19, 20, 21, 22, 23, 24, 90, 91, 92, 93, 94, 95, 96] rfl (by decide +kernel)
set_option maxRecDepth 20000 in
theorem gX5_sine_X5_addSmall : GoodIn wsX5_sine (wsV RX5 85 RX5 yX5_addSmall wsX5_addSmall) := goodIn_app (goodIn_of _ (by decide +kernel)) ggX5_sine_X5_addSmall
set_option maxRecDepth 20000 in
theorem ggX5_sine_X5_keep : GoodIn wsX5_sine wsX5_keep := goodIn_r _ [89, 12, 17, 18, 19, 5, 20, 21, 22, 23, 24, 11, 55, 56, 57, 58, 90, 91, 92, 93, 94, 95, 96] rfl (by decide +kernel)
set_option maxRecDepth 20000 in
theorem gX5_sine_X5_keep : GoodIn wsX5_sine (wsV RX5 114 RX5 yX5_keep wsX5_keep) := goodIn_app (goodIn_of _ (by decide +kernel)) ggX5_sine_X5_keep
theorem dX5_sine_0 : decode cX5_sine 0 = .ok (.aload_n 0, 1) := by decide +kernel
theorem dX5_sine_1 : decode cX5_sine 1 = .ok (.iconst 0, 1) := by decide +kernel
theorem dX5_sine_2 : decode cX5_sine 2 = .ok (.putfield 48, 3) := by decide +kernel
theorem dX5_sine_5 : decode cX5_sine 5 = .ok (.iload_n 1, 1) := by decide +kernel
theorem dX5_sine_6 : decode cX5_sine 6 = .ok (.invokestatic 111, 3) := by decide +kernel
theorem dX5_sine_9 : decode cX5_sine 9 = .ok (.ifCond .eq 10, 3) := by decide +kernel
theorem dX5_sine_12 : decode cX5_sine 12 = .ok (.iload_n 2, 1) := by decide +kernel
theorem dX5_sine_13 : decode cX5_sine 13 = .ok (.invokestatic 111, 3) := by decide +kernel
theorem dX5_sine_16 : decode cX5_sine 16 = .ok (.ifCond .ne 5, 3) := by decide +kernel
theorem dX5_sine_19 : decode cX5_sine 19 = .ok (.iconst (-1), 1) := by decide +kernel
theorem dX5_sine_20 : decode cX5_sine 20 = .ok (.ireturn, 1) := by decide +kernel
theorem dX5_sine_21 : decode cX5_sine 21 = .ok (.aload_n 0, 1) := by decide +kernel
theorem dX5_sine_22 : decode cX5_sine 22 = .ok (.bipush 29, 2) := by decide +kernel
theorem dX5_sine_24 : decode cX5_sine 24 = .ok (.aload_n 0, 1) := by decide +kernel
theorem dX5_sine_25 : decode cX5_sine 25 = .ok (.getfield 23, 3) := by decide +kernel
theorem dX5_sine_28 : decode cX5_sine 28 = .ok (.bipush 20, 2) := by decide +kernel
theorem dX5_sine_30 : decode cX5_sine 30 = .ok (.iadd, 1) := by decide +kernel
theorem dX5_sine_31 : decode cX5_sine 31 = .ok (.invokevirtual 30, 3) := by decide +kernel
theorem dX5_sine_34 : decode cX5_sine 34 = .ok (.aload_n 0, 1) := by decide +kernel
theorem dX5_sine_35 : decode cX5_sine 35 = .ok (.iload_n 2, 1) := by decide +kernel
theorem dX5_sine_36 : decode cX5_sine 36 = .ok (.bipush 29, 2) := by decide +kernel
theorem dX5_sine_38 : decode cX5_sine 38 = .ok (.invokevirtual 64, 3) := by decide +kernel
theorem dX5_sine_41 : decode cX5_sine 41 = .ok (.ifCond .le 5, 3) := by decide +kernel
theorem dX5_sine_44 : decode cX5_sine 44 = .ok (.iconst (-1), 1) := by decide +kernel
theorem dX5_sine_45 : decode cX5_sine 45 = .ok (.ireturn, 1) := by decide +kernel
theorem dX5_sine_46 : decode cX5_sine 46 = .ok (.aload_n 0, 1) := by decide +kernel
theorem dX5_sine_47 : decode cX5_sine 47 = .ok (.bipush 24, 2) := by decide +kernel
theorem dX5_sine_49 : decode cX5_sine 49 = .ok (.iload_n 2, 1) := by decide +kernel
theorem dX5_sine_50 : decode cX5_sine 50 = .ok (.bipush 64, 2) := by decide +kernel
theorem dX5_sine_52 : decode cX5_sine 52 = .ok (.invokevirtual 95, 3) := by decide +kernel
theorem dX5_sine_55 : decode cX5_sine 55 = .ok (.iload_n 3, 1) := by decide +kernel
theorem dX5_sine_56 : decode cX5_sine 56 = .ok (.ifCond .eq 22, 3) := by decide +kernel
theorem dX5_sine_59 : decode cX5_sine 59 = .ok (.aload_n 0, 1) := by decide +kernel
theorem dX5_sine_60 : decode cX5_sine 60 = .ok (.bipush 25, 2) := by decide +kernel
theorem dX5_sine_62 : decode cX5_sine 62 = .ok (.bipush 26, 2) := by decide +kernel
theorem dX5_sine_64 : decode cX5_sine 64 = .ok (.iconst 1, 1) := by decide +kernel
theorem dX5_sine_65 : decode cX5_sine 65 = .ok (.invokevirtual 101, 3) := by decide +kernel
theorem dX5_sine_68 : decode cX5_sine 68 = .ok (.aload_n 0, 1) := by decide +kernel
theorem dX5_sine_69 : decode cX5_sine 69 = .ok (.bipush 24, 2) := by decide +kernel
theorem dX5_sine_71 : decode cX5_sine 71 = .ok (.bipush 24, 2) := by decide +kernel
theorem dX5_sine_73 : decode cX5_sine 73 = .ok (.bipush 25, 2) := by decide +kernel
theorem dX5_sine_75 : decode cX5_sine 75 = .ok (.invokevirtual 79, 3) := by decide +kernel
theorem dX5_sine_78 : decode cX5_sine 78 = .ok (.aload_n 0, 1) := by decide +kernel
theorem dX5_sine_79 : decode cX5_sine 79 = .ok (.bipush 33, 2) := by decide +kernel
theorem dX5_sine_81 : decode cX5_sine 81 = .ok (.bipush 24, 2) := by decide +kernel
theorem dX5_sine_83 : decode cX5_sine 83 = .ok (.invokevirtual 149, 3) := by decide +kernel
theorem dX5_sine_86 : decode cX5_sine 86 = .ok (.aload_n 0, 1) := by decide +kernel
theorem dX5_sine_87 : decode cX5_sine 87 = .ok (.bipush 33, 2) := by decide +kernel
theorem dX5_sine_89 : decode cX5_sine 89 = .ok (.bipush 33, 2) := by decide +kernel
theorem dX5_sine_91 : decode cX5_sine 91 = .ok (.bipush 64, 2) := by decide +kernel
theorem dX5_sine_93 : decode cX5_sine 93 = .ok (.invokevirtual 101, 3) := by decide +kernel
theorem dX5_sine_96 : decode cX5_sine 96 = .ok (.aload_n 0, 1) := by decide +kernel
theorem dX5_sine_97 : decode cX5_sine 97 = .ok (.bipush 34, 2) := by decide +kernel
theorem dX5_sine_99 : decode cX5_sine 99 = .ok (.bipush 12, 2) := by decide +kernel
theorem dX5_sine_101 : decode cX5_sine 101 = .ok (.iload_n 2, 1) := by decide +kernel
theorem dX5_sine_102 : decode cX5_sine 102 = .ok (.iadd, 1) := by decide +kernel
theorem dX5_sine_103 : decode cX5_sine 103 = .ok (.invokevirtual 67, 3) := by decide +kernel
theorem dX5_sine_106 : decode cX5_sine 106 = .ok (.aload_n 0, 1) := by decide +kernel
theorem dX5_sine_107 : decode cX5_sine 107 = .ok (.bipush 34, 2) := by decide +kernel
theorem dX5_sine_109 : decode cX5_sine 109 = .ok (.iconst 2, 1) := by decide +kernel
theorem dX5_sine_110 : decode cX5_sine 110 = .ok (.invokevirtual 85, 3) := by decide +kernel
theorem dX5_sine_113 : decode cX5_sine 113 = .ok (.aload_n 0, 1) := by decide +kernel
theorem dX5_sine_114 : decode cX5_sine 114 = .ok (.iload_n 1, 1) := by decide +kernel
theorem dX5_sine_115 : decode cX5_sine 115 = .ok (.invokevirtual 114, 3) := by decide +kernel
theorem dX5_sine_118 : decode cX5_sine 118 = .ok (.ireturn, 1) := by decide +kernel
set_option maxRecDepth 20000 in
theorem ggX5_pi_X5_isPlace : GoodIn wsX5_pi wsX5_isPlace := goodIn_r _ [6] rfl (by decide +kernel)
set_option maxRecDepth 20000 in
theorem gX5_pi_X5_isPlace : GoodIn wsX5_pi (va_wsS RX5 111 yX5_isPlace wsX5_isPlace) := goodIn_app (goodIn_of _ (by decide +kernel)) ggX5_pi_X5_isPlace
set_option maxRecDepth 20000 in
theorem ggX5_pi_X5_down : GoodIn wsX5_pi wsX5_down := goodIn_r _ [10, 11, 12, 13, 14, 15, 16, 5, 17, 18, 19, 20, 21, 22, 23, 24, 25, 26, 27, 28, 29, 30, 31, 32, 33, 34, 35, 36, 37, 38, 39, 40, 41, 42, 43, 44, 45, 46, 47, 48, 49, 50, 55, 56, 57, 58, 59, 60, 61] rfl (by decide +kernel)
set_option maxRecDepth 20000 in
theorem gX5_pi_X5_down : GoodIn wsX5_pi (wsV RX5 101 RX5 yX5_down wsX5_down) := goodIn_app (goodIn_of _ (by decide +kernel)) ggX5_pi_X5_down
set_option maxRecDepth 20000 in
theorem ggX5_pi_X5_put : GoodIn wsX5_pi wsX5_put := goodIn_r _ [29, 13, 30, 31, 32, 33, 5, 34, 11, 18, 19, 20, 21, 55, 56, 57, 58, 59, 60, 61] rfl (by decide +kernel)
set_option maxRecDepth 20000 in
theorem gX5_pi_X5_put : GoodIn wsX5_pi (wsV RX5 75 RX5 yX5_put wsX5_put) := goodIn_app (goodIn_of _ (by decide +kernel)) ggX5_pi_X5_put
set_option maxRecDepth 20000 in
theorem ggX5_pi_X5_keep : GoodIn wsX5_pi wsX5_keep := goodIn_r _ [54, 11, 47, 48, 49, 5, 50, 14, 15, 16, 17, 13, 43, 44, 45, 46, 55, 56, 57, 58, 59, 60, 61] rfl (by decide +kernel)
set_option maxRecDepth 20000 in
theorem gX5_pi_X5_keep : GoodIn wsX5_pi (wsV RX5 114 RX5 yX5_keep wsX5_keep) := goodIn_app (goodIn_of _ (by decide +kernel)) ggX5_pi_X5_keep
theorem dX5_pi_0 : decode cX5_pi 0 = .ok (.aload_n 0, 1) := by decide +kernel
theorem dX5_pi_1 : decode cX5_pi 1 = .ok (.iconst 0, 1) := by decide +kernel
theorem dX5_pi_2 : decode cX5_pi 2 = .ok (.putfield 48, 3) := by decide +kernel
theorem dX5_pi_5 : decode cX5_pi 5 = .ok (.iload_n 1, 1) := by decide +kernel
theorem dX5_pi_6 : decode cX5_pi 6 = .ok (.invokestatic 111, 3) := by decide +kernel
theorem dX5_pi_9 : decode cX5_pi 9 = .ok (.ifCond .ne 5, 3) := by decide +kernel
theorem dX5_pi_12 : decode cX5_pi 12 = .ok (.iconst (-1), 1) := by decide +kernel
theorem dX5_pi_13 : decode cX5_pi 13 = .ok (.ireturn, 1) := by decide +kernel
theorem dX5_pi_14 : decode cX5_pi 14 = .ok (.aload_n 0, 1) := by decide +kernel
theorem dX5_pi_15 : decode cX5_pi 15 = .ok (.bipush 33, 2) := by decide +kernel
theorem dX5_pi_17 : decode cX5_pi 17 = .ok (.bipush 26, 2) := by decide +kernel
theorem dX5_pi_19 : decode cX5_pi 19 = .ok (.bipush 64, 2) := by decide +kernel
theorem dX5_pi_21 : decode cX5_pi 21 = .ok (.invokevirtual 101, 3) := by decide +kernel
theorem dX5_pi_24 : decode cX5_pi 24 = .ok (.aload_n 0, 1) := by decide +kernel
theorem dX5_pi_25 : decode cX5_pi 25 = .ok (.bipush 34, 2) := by decide +kernel
theorem dX5_pi_27 : decode cX5_pi 27 = .ok (.ldc2_w 152, 3) := by decide +kernel
theorem dX5_pi_30 : decode cX5_pi 30 = .ok (.invokevirtual 75, 3) := by decide +kernel
theorem dX5_pi_33 : decode cX5_pi 33 = .ok (.aload_n 0, 1) := by decide +kernel
theorem dX5_pi_34 : decode cX5_pi 34 = .ok (.iload_n 1, 1) := by decide +kernel
theorem dX5_pi_35 : decode cX5_pi 35 = .ok (.invokevirtual 114, 3) := by decide +kernel
theorem dX5_pi_38 : decode cX5_pi 38 = .ok (.ireturn, 1) := by decide +kernel
set_option maxRecDepth 20000 in
theorem ggX5_widen_X5_isPlace : GoodIn wsX5_widen wsX5_isPlace := goodIn_r _ [5] rfl (by decide +kernel)
set_option maxRecDepth 20000 in
theorem gX5_widen_X5_isPlace : GoodIn wsX5_widen (va_wsS RX5 111 yX5_isPlace wsX5_isPlace) := goodIn_app (goodIn_of _ (by decide +kernel)) ggX5_widen_X5_isPlace
set_option maxRecDepth 20000 in
theorem ggX5_widen_X5_copy : GoodIn wsX5_widen wsX5_copy := goodIn_r _ [9, 10, 11, 46, 47, 48, 49, 50, 51, 52] rfl (by decide +kernel)
set_option maxRecDepth 20000 in
theorem gX5_widen_X5_copy : GoodIn wsX5_widen (wsV RX5 67 RX5 yX5_copy wsX5_copy) := goodIn_app (goodIn_of _ (by decide +kernel)) ggX5_widen_X5_copy
set_option maxRecDepth 20000 in
theorem ggX5_widen_X5_put : GoodIn wsX5_widen wsX5_put := goodIn_r _ [15, 10, 16, 17, 18, 19, 4, 20, 11, 21, 22, 23, 24, 46, 47, 48, 49, 50, 51, 52] rfl (by decide +kernel)
set_option maxRecDepth 20000 in
theorem gX5_widen_X5_put : GoodIn wsX5_widen (wsV RX5 75 RX5 yX5_put wsX5_put) := goodIn_app (goodIn_of _ (by decide +kernel)) ggX5_widen_X5_put
set_option maxRecDepth 20000 in
theorem ggX5_widen_X5_plus : GoodIn wsX5_widen wsX5_plus := goodIn_r _ [28, 29, 30, 31, 4, 32, 11, 10, 33, 6, 7, 8, 9, 34, 35, 36, 37, 38, 39, 40, 41, 21, 22, 23, 24, 46, 47, 48, 49, 50, 51, 52] rfl (by decide +kernel)
set_option maxRecDepth 20000 in
theorem gX5_widen_X5_plus : GoodIn wsX5_widen (wsV RX5 79 RX5 yX5_plus wsX5_plus) := goodIn_app (goodIn_of _ (by decide +kernel)) ggX5_widen_X5_plus
set_option maxRecDepth 20000 in
theorem ggX5_widen_X5_keep : GoodIn wsX5_widen wsX5_keep := goodIn_r _ [45, 11, 34, 35, 36, 4, 37, 38, 39, 40, 41, 10, 6, 7, 8, 9, 46, 47, 48, 49, 50, 51, 52] rfl (by decide +kernel)
set_option maxRecDepth 20000 in
theorem gX5_widen_X5_keep : GoodIn wsX5_widen (wsV RX5 114 RX5 yX5_keep wsX5_keep) := goodIn_app (goodIn_of _ (by decide +kernel)) ggX5_widen_X5_keep
theorem dX5_widen_0 : decode cX5_widen 0 = .ok (.aload_n 0, 1) := by decide +kernel
theorem dX5_widen_1 : decode cX5_widen 1 = .ok (.iconst 0, 1) := by decide +kernel
theorem dX5_widen_2 : decode cX5_widen 2 = .ok (.putfield 48, 3) := by decide +kernel
theorem dX5_widen_5 : decode cX5_widen 5 = .ok (.iload_n 1, 1) := by decide +kernel
theorem dX5_widen_6 : decode cX5_widen 6 = .ok (.invokestatic 111, 3) := by decide +kernel
theorem dX5_widen_9 : decode cX5_widen 9 = .ok (.ifCond .eq 9, 3) := by decide +kernel
theorem dX5_widen_12 : decode cX5_widen 12 = .ok (.lload_n 2, 1) := by decide +kernel
theorem dX5_widen_13 : decode cX5_widen 13 = .ok (.lconst 0, 1) := by decide +kernel
theorem dX5_widen_14 : decode cX5_widen 14 = .ok (.lcmp, 1) := by decide +kernel
theorem dX5_widen_15 : decode cX5_widen 15 = .ok (.ifCond .ge 5, 3) := by decide +kernel
theorem dX5_widen_18 : decode cX5_widen 18 = .ok (.iconst (-1), 1) := by decide +kernel
theorem dX5_widen_19 : decode cX5_widen 19 = .ok (.ireturn, 1) := by decide +kernel
theorem dX5_widen_20 : decode cX5_widen 20 = .ok (.aload_n 0, 1) := by decide +kernel
theorem dX5_widen_21 : decode cX5_widen 21 = .ok (.bipush 33, 2) := by decide +kernel
theorem dX5_widen_23 : decode cX5_widen 23 = .ok (.iload_n 1, 1) := by decide +kernel
theorem dX5_widen_24 : decode cX5_widen 24 = .ok (.invokevirtual 67, 3) := by decide +kernel
theorem dX5_widen_27 : decode cX5_widen 27 = .ok (.aload_n 0, 1) := by decide +kernel
theorem dX5_widen_28 : decode cX5_widen 28 = .ok (.bipush 29, 2) := by decide +kernel
theorem dX5_widen_30 : decode cX5_widen 30 = .ok (.lload_n 2, 1) := by decide +kernel
theorem dX5_widen_31 : decode cX5_widen 31 = .ok (.invokevirtual 75, 3) := by decide +kernel
theorem dX5_widen_34 : decode cX5_widen 34 = .ok (.aload_n 0, 1) := by decide +kernel
theorem dX5_widen_35 : decode cX5_widen 35 = .ok (.bipush 34, 2) := by decide +kernel
theorem dX5_widen_37 : decode cX5_widen 37 = .ok (.bipush 12, 2) := by decide +kernel
theorem dX5_widen_39 : decode cX5_widen 39 = .ok (.iload_n 1, 1) := by decide +kernel
theorem dX5_widen_40 : decode cX5_widen 40 = .ok (.iadd, 1) := by decide +kernel
theorem dX5_widen_41 : decode cX5_widen 41 = .ok (.bipush 29, 2) := by decide +kernel
theorem dX5_widen_43 : decode cX5_widen 43 = .ok (.invokevirtual 79, 3) := by decide +kernel
theorem dX5_widen_46 : decode cX5_widen 46 = .ok (.aload_n 0, 1) := by decide +kernel
theorem dX5_widen_47 : decode cX5_widen 47 = .ok (.iload_n 1, 1) := by decide +kernel
theorem dX5_widen_48 : decode cX5_widen 48 = .ok (.invokevirtual 114, 3) := by decide +kernel
theorem dX5_widen_51 : decode cX5_widen 51 = .ok (.ireturn, 1) := by decide +kernel
set_option maxRecDepth 20000 in
theorem ggX5_join_X5_are : GoodIn wsX5_join wsX5_are := goodIn_r _ [5, 6, 7, 4, 8] rfl (by decide +kernel)
set_option maxRecDepth 20000 in
theorem gX5_join_X5_are : GoodIn wsX5_join (va_wsS RX5 117 yX5_are wsX5_are) := goodIn_app (goodIn_of _ (by decide +kernel)) ggX5_join_X5_are
set_option maxRecDepth 20000 in
theorem ggX5_join_X5_ends : GoodIn wsX5_join wsX5_ends := goodIn_r _ [12, 13, 14, 15, 4, 16, 17, 18, 19, 20, 21, 22, 23, 24, 25, 26, 27, 28, 29, 30, 31, 32, 33, 34, 35, 36, 37, 38, 39, 40, 41, 42, 43, 73, 74, 75, 76, 77, 78, 79] rfl (by decide +kernel)
set_option maxRecDepth 20000 in
theorem gX5_join_X5_ends : GoodIn wsX5_join (wsV RX5 130 RX5 yX5_ends wsX5_ends) := goodIn_app (goodIn_of _ (by decide +kernel)) ggX5_join_X5_ends
set_option maxRecDepth 20000 in
theorem ggX5_join_X5_copy : GoodIn wsX5_join wsX5_copy := goodIn_r _ [27, 22, 21, 73, 74, 75, 76, 77, 78, 79] rfl (by decide +kernel)
set_option maxRecDepth 20000 in
theorem gX5_join_X5_copy : GoodIn wsX5_join (wsV RX5 67 RX5 yX5_copy wsX5_copy) := goodIn_app (goodIn_of _ (by decide +kernel)) ggX5_join_X5_copy
set_option maxRecDepth 20000 in
theorem ggX5_join_X5_compare : GoodIn wsX5_join wsX5_compare := goodIn_r _ [47, 21, 28, 29, 30, 4, 31, 32, 33, 34, 35, 22, 73, 74, 75, 76, 77, 78, 79] rfl (by decide +kernel)
set_option maxRecDepth 20000 in
theorem gX5_join_X5_compare : GoodIn wsX5_join (wsV RX5 98 RX5 yX5_compare wsX5_compare) := goodIn_app (goodIn_of _ (by decide +kernel)) ggX5_join_X5_compare
set_option maxRecDepth 20000 in
theorem ggX5_join_X5_keepEnds : GoodIn wsX5_join wsX5_keepEnds := goodIn_r _ [51, 40, 41, 42, 4, 43, 17, 18, 19, 20, 21, 22, 23, 24, 25, 26, 27, 28, 29, 30, 31, 32, 33, 34, 35, 36, 37, 38, 39, 52, 53, 54, 55, 56, 57, 58, 59, 60, 61, 62, 63, 64, 65, 66, 67, 68, 13, 14, 15, 16, 69, 70, 71, 72, 73, 74, 75, 76, 77, 78, 79] rfl (by decide +kernel)
set_option maxRecDepth 20000 in
theorem gX5_join_X5_keepEnds : GoodIn wsX5_join (wsV RX5 133 RX5 yX5_keepEnds wsX5_keepEnds) := goodIn_app (goodIn_of _ (by decide +kernel)) ggX5_join_X5_keepEnds
theorem dX5_join_0 : decode cX5_join 0 = .ok (.aload_n 0, 1) := by decide +kernel
theorem dX5_join_1 : decode cX5_join 1 = .ok (.iconst 0, 1) := by decide +kernel
theorem dX5_join_2 : decode cX5_join 2 = .ok (.putfield 48, 3) := by decide +kernel
theorem dX5_join_5 : decode cX5_join 5 = .ok (.iload_n 1, 1) := by decide +kernel
theorem dX5_join_6 : decode cX5_join 6 = .ok (.iload_n 2, 1) := by decide +kernel
theorem dX5_join_7 : decode cX5_join 7 = .ok (.iload_n 3, 1) := by decide +kernel
theorem dX5_join_8 : decode cX5_join 8 = .ok (.invokestatic 117, 3) := by decide +kernel
theorem dX5_join_11 : decode cX5_join 11 = .ok (.ifCond .ne 5, 3) := by decide +kernel
theorem dX5_join_14 : decode cX5_join 14 = .ok (.iconst (-1), 1) := by decide +kernel
theorem dX5_join_15 : decode cX5_join 15 = .ok (.ireturn, 1) := by decide +kernel
theorem dX5_join_16 : decode cX5_join 16 = .ok (.aload_n 0, 1) := by decide +kernel
theorem dX5_join_17 : decode cX5_join 17 = .ok (.iload_n 2, 1) := by decide +kernel
theorem dX5_join_18 : decode cX5_join 18 = .ok (.invokevirtual 130, 3) := by decide +kernel
theorem dX5_join_21 : decode cX5_join 21 = .ok (.aload_n 0, 1) := by decide +kernel
theorem dX5_join_22 : decode cX5_join 22 = .ok (.bipush 35, 2) := by decide +kernel
theorem dX5_join_24 : decode cX5_join 24 = .ok (.bipush 24, 2) := by decide +kernel
theorem dX5_join_26 : decode cX5_join 26 = .ok (.invokevirtual 67, 3) := by decide +kernel
theorem dX5_join_29 : decode cX5_join 29 = .ok (.aload_n 0, 1) := by decide +kernel
theorem dX5_join_30 : decode cX5_join 30 = .ok (.bipush 36, 2) := by decide +kernel
theorem dX5_join_32 : decode cX5_join 32 = .ok (.bipush 25, 2) := by decide +kernel
theorem dX5_join_34 : decode cX5_join 34 = .ok (.invokevirtual 67, 3) := by decide +kernel
theorem dX5_join_37 : decode cX5_join 37 = .ok (.aload_n 0, 1) := by decide +kernel
theorem dX5_join_38 : decode cX5_join 38 = .ok (.iload_n 3, 1) := by decide +kernel
theorem dX5_join_39 : decode cX5_join 39 = .ok (.invokevirtual 130, 3) := by decide +kernel
theorem dX5_join_42 : decode cX5_join 42 = .ok (.aload_n 0, 1) := by decide +kernel
theorem dX5_join_43 : decode cX5_join 43 = .ok (.iload_n 1, 1) := by decide +kernel
theorem dX5_join_44 : decode cX5_join 44 = .ok (.aload_n 0, 1) := by decide +kernel
theorem dX5_join_45 : decode cX5_join 45 = .ok (.bipush 35, 2) := by decide +kernel
theorem dX5_join_47 : decode cX5_join 47 = .ok (.bipush 24, 2) := by decide +kernel
theorem dX5_join_49 : decode cX5_join 49 = .ok (.invokevirtual 98, 3) := by decide +kernel
theorem dX5_join_52 : decode cX5_join 52 = .ok (.ifCond .ge 8, 3) := by decide +kernel
theorem dX5_join_55 : decode cX5_join 55 = .ok (.bipush 35, 2) := by decide +kernel
theorem dX5_join_57 : decode cX5_join 57 = .ok (.goto 5, 3) := by decide +kernel
theorem dX5_join_60 : decode cX5_join 60 = .ok (.bipush 24, 2) := by decide +kernel
theorem dX5_join_62 : decode cX5_join 62 = .ok (.aload_n 0, 1) := by decide +kernel
theorem dX5_join_63 : decode cX5_join 63 = .ok (.bipush 36, 2) := by decide +kernel
theorem dX5_join_65 : decode cX5_join 65 = .ok (.bipush 25, 2) := by decide +kernel
theorem dX5_join_67 : decode cX5_join 67 = .ok (.invokevirtual 98, 3) := by decide +kernel
theorem dX5_join_70 : decode cX5_join 70 = .ok (.ifCond .le 8, 3) := by decide +kernel
theorem dX5_join_73 : decode cX5_join 73 = .ok (.bipush 36, 2) := by decide +kernel
theorem dX5_join_75 : decode cX5_join 75 = .ok (.goto 5, 3) := by decide +kernel
theorem dX5_join_78 : decode cX5_join 78 = .ok (.bipush 25, 2) := by decide +kernel
theorem dX5_join_80 : decode cX5_join 80 = .ok (.invokevirtual 133, 3) := by decide +kernel
theorem dX5_join_83 : decode cX5_join 83 = .ok (.ireturn, 1) := by decide +kernel
set_option maxRecDepth 20000 in
theorem ggX5_lies_X5_isPlace : GoodIn wsX5_lies wsX5_isPlace := goodIn_r _ [5] rfl (by decide +kernel)
set_option maxRecDepth 20000 in
theorem gX5_lies_X5_isPlace : GoodIn wsX5_lies (va_wsS RX5 111 yX5_isPlace wsX5_isPlace) := goodIn_app (goodIn_of _ (by decide +kernel)) ggX5_lies_X5_isPlace
set_option maxRecDepth 20000 in
theorem ggX5_lies_X5_ends : GoodIn wsX5_lies wsX5_ends := goodIn_r _ [9, 10, 11, 12, 4, 13, 14, 15, 16, 17, 18, 19, 20, 21, 22, 23, 24, 25, 26, 27, 28, 29, 30, 31, 32, 33, 34, 35, 36, 37, 38, 39, 40, 45, 46, 47, 48, 49, 50, 51] rfl (by decide +kernel)
set_option maxRecDepth 20000 in
theorem gX5_lies_X5_ends : GoodIn wsX5_lies (wsV RX5 130 RX5 yX5_ends wsX5_ends) := goodIn_app (goodIn_of _ (by decide +kernel)) ggX5_lies_X5_ends
set_option maxRecDepth 20000 in
theorem ggX5_lies_X5_copy : GoodIn wsX5_lies wsX5_copy := goodIn_r _ [24, 19, 18, 45, 46, 47, 48, 49, 50, 51] rfl (by decide +kernel)
set_option maxRecDepth 20000 in
theorem gX5_lies_X5_copy : GoodIn wsX5_lies (wsV RX5 67 RX5 yX5_copy wsX5_copy) := goodIn_app (goodIn_of _ (by decide +kernel)) ggX5_lies_X5_copy
set_option maxRecDepth 20000 in
theorem ggX5_lies_X5_compare : GoodIn wsX5_lies wsX5_compare := goodIn_r _ [44, 18, 25, 26, 27, 4, 28, 29, 30, 31, 32, 19, 45, 46, 47, 48, 49, 50, 51] rfl (by decide +kernel)
set_option maxRecDepth 20000 in
theorem gX5_lies_X5_compare : GoodIn wsX5_lies (wsV RX5 98 RX5 yX5_compare wsX5_compare) := goodIn_app (goodIn_of _ (by decide +kernel)) ggX5_lies_X5_compare
theorem dX5_lies_0 : decode cX5_lies 0 = .ok (.aload_n 0, 1) := by decide +kernel
theorem dX5_lies_1 : decode cX5_lies 1 = .ok (.iconst 0, 1) := by decide +kernel
theorem dX5_lies_2 : decode cX5_lies 2 = .ok (.putfield 48, 3) := by decide +kernel
theorem dX5_lies_5 : decode cX5_lies 5 = .ok (.iload_n 1, 1) := by decide +kernel
theorem dX5_lies_6 : decode cX5_lies 6 = .ok (.invokestatic 111, 3) := by decide +kernel
theorem dX5_lies_9 : decode cX5_lies 9 = .ok (.ifCond .eq 10, 3) := by decide +kernel
theorem dX5_lies_12 : decode cX5_lies 12 = .ok (.iload_n 2, 1) := by decide +kernel
theorem dX5_lies_13 : decode cX5_lies 13 = .ok (.invokestatic 111, 3) := by decide +kernel
theorem dX5_lies_16 : decode cX5_lies 16 = .ok (.ifCond .ne 5, 3) := by decide +kernel
theorem dX5_lies_19 : decode cX5_lies 19 = .ok (.iconst (-1), 1) := by decide +kernel
theorem dX5_lies_20 : decode cX5_lies 20 = .ok (.ireturn, 1) := by decide +kernel
theorem dX5_lies_21 : decode cX5_lies 21 = .ok (.aload_n 0, 1) := by decide +kernel
theorem dX5_lies_22 : decode cX5_lies 22 = .ok (.iload_n 1, 1) := by decide +kernel
theorem dX5_lies_23 : decode cX5_lies 23 = .ok (.invokevirtual 130, 3) := by decide +kernel
theorem dX5_lies_26 : decode cX5_lies 26 = .ok (.aload_n 0, 1) := by decide +kernel
theorem dX5_lies_27 : decode cX5_lies 27 = .ok (.bipush 35, 2) := by decide +kernel
theorem dX5_lies_29 : decode cX5_lies 29 = .ok (.bipush 24, 2) := by decide +kernel
theorem dX5_lies_31 : decode cX5_lies 31 = .ok (.invokevirtual 67, 3) := by decide +kernel
theorem dX5_lies_34 : decode cX5_lies 34 = .ok (.aload_n 0, 1) := by decide +kernel
theorem dX5_lies_35 : decode cX5_lies 35 = .ok (.bipush 36, 2) := by decide +kernel
theorem dX5_lies_37 : decode cX5_lies 37 = .ok (.bipush 25, 2) := by decide +kernel
theorem dX5_lies_39 : decode cX5_lies 39 = .ok (.invokevirtual 67, 3) := by decide +kernel
theorem dX5_lies_42 : decode cX5_lies 42 = .ok (.aload_n 0, 1) := by decide +kernel
theorem dX5_lies_43 : decode cX5_lies 43 = .ok (.iload_n 2, 1) := by decide +kernel
theorem dX5_lies_44 : decode cX5_lies 44 = .ok (.invokevirtual 130, 3) := by decide +kernel
theorem dX5_lies_47 : decode cX5_lies 47 = .ok (.aload_n 0, 1) := by decide +kernel
theorem dX5_lies_48 : decode cX5_lies 48 = .ok (.bipush 35, 2) := by decide +kernel
theorem dX5_lies_50 : decode cX5_lies 50 = .ok (.bipush 24, 2) := by decide +kernel
theorem dX5_lies_52 : decode cX5_lies 52 = .ok (.invokevirtual 98, 3) := by decide +kernel
theorem dX5_lies_55 : decode cX5_lies 55 = .ok (.istore_n 3, 1) := by decide +kernel
theorem dX5_lies_56 : decode cX5_lies 56 = .ok (.aload_n 0, 1) := by decide +kernel
theorem dX5_lies_57 : decode cX5_lies 57 = .ok (.bipush 36, 2) := by decide +kernel
theorem dX5_lies_59 : decode cX5_lies 59 = .ok (.bipush 25, 2) := by decide +kernel
theorem dX5_lies_61 : decode cX5_lies 61 = .ok (.invokevirtual 98, 3) := by decide +kernel
theorem dX5_lies_64 : decode cX5_lies 64 = .ok (.istore 4, 2) := by decide +kernel
theorem dX5_lies_66 : decode cX5_lies 66 = .ok (.aload_n 0, 1) := by decide +kernel
theorem dX5_lies_67 : decode cX5_lies 67 = .ok (.bipush 36, 2) := by decide +kernel
theorem dX5_lies_69 : decode cX5_lies 69 = .ok (.bipush 24, 2) := by decide +kernel
theorem dX5_lies_71 : decode cX5_lies 71 = .ok (.invokevirtual 98, 3) := by decide +kernel
theorem dX5_lies_74 : decode cX5_lies 74 = .ok (.ifCond .ge 6, 3) := by decide +kernel
theorem dX5_lies_77 : decode cX5_lies 77 = .ok (.bipush (-2), 2) := by decide +kernel
theorem dX5_lies_79 : decode cX5_lies 79 = .ok (.ireturn, 1) := by decide +kernel
theorem dX5_lies_80 : decode cX5_lies 80 = .ok (.aload_n 0, 1) := by decide +kernel
theorem dX5_lies_81 : decode cX5_lies 81 = .ok (.bipush 35, 2) := by decide +kernel
theorem dX5_lies_83 : decode cX5_lies 83 = .ok (.bipush 25, 2) := by decide +kernel
theorem dX5_lies_85 : decode cX5_lies 85 = .ok (.invokevirtual 98, 3) := by decide +kernel
theorem dX5_lies_88 : decode cX5_lies 88 = .ok (.ifCond .le 5, 3) := by decide +kernel
theorem dX5_lies_91 : decode cX5_lies 91 = .ok (.iconst 2, 1) := by decide +kernel
theorem dX5_lies_92 : decode cX5_lies 92 = .ok (.ireturn, 1) := by decide +kernel
theorem dX5_lies_93 : decode cX5_lies 93 = .ok (.iload_n 3, 1) := by decide +kernel
theorem dX5_lies_94 : decode cX5_lies 94 = .ok (.ifCond .ne 10, 3) := by decide +kernel
theorem dX5_lies_97 : decode cX5_lies 97 = .ok (.iload 4, 2) := by decide +kernel
theorem dX5_lies_99 : decode cX5_lies 99 = .ok (.ifCond .ne 5, 3) := by decide +kernel
theorem dX5_lies_102 : decode cX5_lies 102 = .ok (.iconst 3, 1) := by decide +kernel
theorem dX5_lies_103 : decode cX5_lies 103 = .ok (.ireturn, 1) := by decide +kernel
theorem dX5_lies_104 : decode cX5_lies 104 = .ok (.iload_n 3, 1) := by decide +kernel
theorem dX5_lies_105 : decode cX5_lies 105 = .ok (.ifCond .lt 12, 3) := by decide +kernel
theorem dX5_lies_108 : decode cX5_lies 108 = .ok (.iload 4, 2) := by decide +kernel
theorem dX5_lies_110 : decode cX5_lies 110 = .ok (.ifCond .gt 7, 3) := by decide +kernel
theorem dX5_lies_113 : decode cX5_lies 113 = .ok (.iconst 4, 1) := by decide +kernel
theorem dX5_lies_114 : decode cX5_lies 114 = .ok (.goto 18, 3) := by decide +kernel
theorem dX5_lies_117 : decode cX5_lies 117 = .ok (.iload_n 3, 1) := by decide +kernel
theorem dX5_lies_118 : decode cX5_lies 118 = .ok (.ifCond .gt 12, 3) := by decide +kernel
theorem dX5_lies_121 : decode cX5_lies 121 = .ok (.iload 4, 2) := by decide +kernel
theorem dX5_lies_123 : decode cX5_lies 123 = .ok (.ifCond .lt 7, 3) := by decide +kernel
theorem dX5_lies_126 : decode cX5_lies 126 = .ok (.iconst 5, 1) := by decide +kernel
theorem dX5_lies_127 : decode cX5_lies 127 = .ok (.goto 5, 3) := by decide +kernel
theorem dX5_lies_130 : decode cX5_lies 130 = .ok (.bipush 6, 2) := by decide +kernel
theorem dX5_lies_132 : decode cX5_lies 132 = .ok (.ireturn, 1) := by decide +kernel
set_option maxRecDepth 20000 in
theorem ggX5_holds_X5_isPlace : GoodIn wsX5_holds wsX5_isPlace := goodIn_r _ [6] rfl (by decide +kernel)
set_option maxRecDepth 20000 in
theorem gX5_holds_X5_isPlace : GoodIn wsX5_holds (va_wsS RX5 111 yX5_isPlace wsX5_isPlace) := goodIn_app (goodIn_of _ (by decide +kernel)) ggX5_holds_X5_isPlace
set_option maxRecDepth 20000 in
theorem ggX5_holds_X5_ends : GoodIn wsX5_holds wsX5_ends := goodIn_r _ [10, 11, 12, 13, 5, 14, 15, 16, 17, 18, 19, 20, 21, 22, 23, 24, 25, 26, 27, 28, 29, 30, 31, 32, 33, 34, 35, 36, 37, 38, 39, 40, 41, 64, 65, 66, 67, 68, 69, 70] rfl (by decide +kernel)
set_option maxRecDepth 20000 in
theorem gX5_holds_X5_ends : GoodIn wsX5_holds (wsV RX5 130 RX5 yX5_ends wsX5_ends) := goodIn_app (goodIn_of _ (by decide +kernel)) ggX5_holds_X5_ends
set_option maxRecDepth 20000 in
theorem ggX5_holds_X5_put : GoodIn wsX5_holds wsX5_put := goodIn_r _ [45, 20, 46, 47, 48, 49, 5, 50, 19, 34, 35, 36, 37, 64, 65, 66, 67, 68, 69, 70] rfl (by decide +kernel)
set_option maxRecDepth 20000 in
theorem gX5_holds_X5_put : GoodIn wsX5_holds (wsV RX5 75 RX5 yX5_put wsX5_put) := goodIn_app (goodIn_of _ (by decide +kernel)) ggX5_holds_X5_put
set_option maxRecDepth 20000 in
theorem ggX5_holds_X5_up : GoodIn wsX5_holds wsX5_up := goodIn_r _ [54, 19, 21, 20, 30, 31, 32, 5, 33, 64, 65, 66, 67, 68, 69, 70] rfl (by decide +kernel)
set_option maxRecDepth 20000 in
theorem gX5_holds_X5_up : GoodIn wsX5_holds (wsV RX5 95 RX5 yX5_up wsX5_up) := goodIn_app (goodIn_of _ (by decide +kernel)) ggX5_holds_X5_up
set_option maxRecDepth 20000 in
theorem ggX5_holds_X5_product : GoodIn wsX5_holds wsX5_product := goodIn_r _ [58, 59, 19, 20, 46, 30, 31, 32, 5, 33, 34, 35, 36, 37, 64, 65, 66, 67, 68, 69, 70] rfl (by decide +kernel)
set_option maxRecDepth 20000 in
theorem gX5_holds_X5_product : GoodIn wsX5_holds (wsV RX5 82 RX5 yX5_product wsX5_product) := goodIn_app (goodIn_of _ (by decide +kernel)) ggX5_holds_X5_product
set_option maxRecDepth 20000 in
theorem ggX5_holds_X5_compare : GoodIn wsX5_holds wsX5_compare := goodIn_r _ [63, 19, 26, 27, 28, 5, 29, 30, 31, 32, 33, 20, 64, 65, 66, 67, 68, 69, 70] rfl (by decide +kernel)
set_option maxRecDepth 20000 in
theorem gX5_holds_X5_compare : GoodIn wsX5_holds (wsV RX5 98 RX5 yX5_compare wsX5_compare) := goodIn_app (goodIn_of _ (by decide +kernel)) ggX5_holds_X5_compare
theorem dX5_holds_0 : decode cX5_holds 0 = .ok (.aload_n 0, 1) := by decide +kernel
theorem dX5_holds_1 : decode cX5_holds 1 = .ok (.iconst 0, 1) := by decide +kernel
theorem dX5_holds_2 : decode cX5_holds 2 = .ok (.putfield 48, 3) := by decide +kernel
theorem dX5_holds_5 : decode cX5_holds 5 = .ok (.iload_n 1, 1) := by decide +kernel
theorem dX5_holds_6 : decode cX5_holds 6 = .ok (.invokestatic 111, 3) := by decide +kernel
theorem dX5_holds_9 : decode cX5_holds 9 = .ok (.ifCond .eq 10, 3) := by decide +kernel
theorem dX5_holds_12 : decode cX5_holds 12 = .ok (.lload 4, 2) := by decide +kernel
theorem dX5_holds_14 : decode cX5_holds 14 = .ok (.lconst 0, 1) := by decide +kernel
theorem dX5_holds_15 : decode cX5_holds 15 = .ok (.lcmp, 1) := by decide +kernel
theorem dX5_holds_16 : decode cX5_holds 16 = .ok (.ifCond .gt 5, 3) := by decide +kernel
theorem dX5_holds_19 : decode cX5_holds 19 = .ok (.iconst (-1), 1) := by decide +kernel
theorem dX5_holds_20 : decode cX5_holds 20 = .ok (.ireturn, 1) := by decide +kernel
theorem dX5_holds_21 : decode cX5_holds 21 = .ok (.aload_n 0, 1) := by decide +kernel
theorem dX5_holds_22 : decode cX5_holds 22 = .ok (.iload_n 1, 1) := by decide +kernel
theorem dX5_holds_23 : decode cX5_holds 23 = .ok (.invokevirtual 130, 3) := by decide +kernel
theorem dX5_holds_26 : decode cX5_holds 26 = .ok (.aload_n 0, 1) := by decide +kernel
theorem dX5_holds_27 : decode cX5_holds 27 = .ok (.bipush 29, 2) := by decide +kernel
theorem dX5_holds_29 : decode cX5_holds 29 = .ok (.lload_n 2, 1) := by decide +kernel
theorem dX5_holds_30 : decode cX5_holds 30 = .ok (.invokevirtual 75, 3) := by decide +kernel
theorem dX5_holds_33 : decode cX5_holds 33 = .ok (.aload_n 0, 1) := by decide +kernel
theorem dX5_holds_34 : decode cX5_holds 34 = .ok (.bipush 29, 2) := by decide +kernel
theorem dX5_holds_36 : decode cX5_holds 36 = .ok (.bipush 29, 2) := by decide +kernel
theorem dX5_holds_38 : decode cX5_holds 38 = .ok (.aload_n 0, 1) := by decide +kernel
theorem dX5_holds_39 : decode cX5_holds 39 = .ok (.getfield 23, 3) := by decide +kernel
theorem dX5_holds_42 : decode cX5_holds 42 = .ok (.invokevirtual 95, 3) := by decide +kernel
theorem dX5_holds_45 : decode cX5_holds 45 = .ok (.aload_n 0, 1) := by decide +kernel
theorem dX5_holds_46 : decode cX5_holds 46 = .ok (.bipush 30, 2) := by decide +kernel
theorem dX5_holds_48 : decode cX5_holds 48 = .ok (.lload 4, 2) := by decide +kernel
theorem dX5_holds_50 : decode cX5_holds 50 = .ok (.invokevirtual 75, 3) := by decide +kernel
theorem dX5_holds_53 : decode cX5_holds 53 = .ok (.aload_n 0, 1) := by decide +kernel
theorem dX5_holds_54 : decode cX5_holds 54 = .ok (.bipush 24, 2) := by decide +kernel
theorem dX5_holds_56 : decode cX5_holds 56 = .ok (.bipush 24, 2) := by decide +kernel
theorem dX5_holds_58 : decode cX5_holds 58 = .ok (.bipush 30, 2) := by decide +kernel
theorem dX5_holds_60 : decode cX5_holds 60 = .ok (.invokevirtual 82, 3) := by decide +kernel
theorem dX5_holds_63 : decode cX5_holds 63 = .ok (.aload_n 0, 1) := by decide +kernel
theorem dX5_holds_64 : decode cX5_holds 64 = .ok (.bipush 25, 2) := by decide +kernel
theorem dX5_holds_66 : decode cX5_holds 66 = .ok (.bipush 25, 2) := by decide +kernel
theorem dX5_holds_68 : decode cX5_holds 68 = .ok (.bipush 30, 2) := by decide +kernel
theorem dX5_holds_70 : decode cX5_holds 70 = .ok (.invokevirtual 82, 3) := by decide +kernel
theorem dX5_holds_73 : decode cX5_holds 73 = .ok (.aload_n 0, 1) := by decide +kernel
theorem dX5_holds_74 : decode cX5_holds 74 = .ok (.bipush 24, 2) := by decide +kernel
theorem dX5_holds_76 : decode cX5_holds 76 = .ok (.bipush 29, 2) := by decide +kernel
theorem dX5_holds_78 : decode cX5_holds 78 = .ok (.invokevirtual 98, 3) := by decide +kernel
theorem dX5_holds_81 : decode cX5_holds 81 = .ok (.ifCond .gt 18, 3) := by decide +kernel
theorem dX5_holds_84 : decode cX5_holds 84 = .ok (.aload_n 0, 1) := by decide +kernel
theorem dX5_holds_85 : decode cX5_holds 85 = .ok (.bipush 29, 2) := by decide +kernel
theorem dX5_holds_87 : decode cX5_holds 87 = .ok (.bipush 25, 2) := by decide +kernel
theorem dX5_holds_89 : decode cX5_holds 89 = .ok (.invokevirtual 98, 3) := by decide +kernel
theorem dX5_holds_92 : decode cX5_holds 92 = .ok (.ifCond .gt 7, 3) := by decide +kernel
theorem dX5_holds_95 : decode cX5_holds 95 = .ok (.iconst 1, 1) := by decide +kernel
theorem dX5_holds_96 : decode cX5_holds 96 = .ok (.goto 4, 3) := by decide +kernel
theorem dX5_holds_99 : decode cX5_holds 99 = .ok (.iconst 0, 1) := by decide +kernel
theorem dX5_holds_100 : decode cX5_holds 100 = .ok (.ireturn, 1) := by decide +kernel
set_option maxRecDepth 20000 in
theorem ggX5_limb_X5_isPlace : GoodIn wsX5_limb wsX5_isPlace := goodIn_r _ [8] rfl (by decide +kernel)
set_option maxRecDepth 20000 in
theorem gX5_limb_X5_isPlace : GoodIn wsX5_limb (va_wsS RX5 111 yX5_isPlace wsX5_isPlace) := goodIn_app (goodIn_of _ (by decide +kernel)) ggX5_limb_X5_isPlace
set_option maxRecDepth 20000 in
theorem ggX5_limb_X5_ends : GoodIn wsX5_limb wsX5_ends := goodIn_r _ [12, 13, 14, 15, 7, 16, 17, 18, 19, 20, 3, 21, 22, 23, 24, 25, 26, 27, 28, 29, 30, 31, 32, 33, 34, 35, 36, 37, 38, 39, 40, 41, 42, 47, 48, 49, 50, 51, 52, 53] rfl (by decide +kernel)
set_option maxRecDepth 20000 in
theorem gX5_limb_X5_ends : GoodIn wsX5_limb (wsV RX5 130 RX5 yX5_ends wsX5_ends) := goodIn_app (goodIn_of _ (by decide +kernel)) ggX5_limb_X5_ends
set_option maxRecDepth 20000 in
theorem ggX5_limb_X5_bits : GoodIn wsX5_limb wsX5_bits := goodIn_r _ [46, 31, 32, 33, 7, 34, 21, 47, 48, 49, 50, 51, 52, 53] rfl (by decide +kernel)
set_option maxRecDepth 20000 in
theorem gX5_limb_X5_bits : GoodIn wsX5_limb (wsV RX5 88 RX5 yX5_bits wsX5_bits) := goodIn_app (goodIn_of _ (by decide +kernel)) ggX5_limb_X5_bits
set_option maxRecDepth 20000 in
theorem ggX5_limb_X5_at : GoodIn wsX5_limb wsX5_at := goodIn_r _ [34, 21, 47, 48, 49, 50, 51, 52, 53] rfl (by decide +kernel)
set_option maxRecDepth 20000 in
theorem gX5_limb_X5_at : GoodIn wsX5_limb (wsV RX5 60 RX5 yX5_at wsX5_at) := goodIn_app (goodIn_of _ (by decide +kernel)) ggX5_limb_X5_at
theorem dX5_limb_0 : decode cX5_limb 0 = .ok (.aload_n 0, 1) := by decide +kernel
theorem dX5_limb_1 : decode cX5_limb 1 = .ok (.iconst 0, 1) := by decide +kernel
theorem dX5_limb_2 : decode cX5_limb 2 = .ok (.putfield 48, 3) := by decide +kernel
theorem dX5_limb_5 : decode cX5_limb 5 = .ok (.iload_n 1, 1) := by decide +kernel
theorem dX5_limb_6 : decode cX5_limb 6 = .ok (.invokestatic 111, 3) := by decide +kernel
theorem dX5_limb_9 : decode cX5_limb 9 = .ok (.ifCond .eq 12, 3) := by decide +kernel
theorem dX5_limb_12 : decode cX5_limb 12 = .ok (.iload_n 2, 1) := by decide +kernel
theorem dX5_limb_13 : decode cX5_limb 13 = .ok (.ifCond .lt 8, 3) := by decide +kernel
theorem dX5_limb_16 : decode cX5_limb 16 = .ok (.iload_n 2, 1) := by decide +kernel
theorem dX5_limb_17 : decode cX5_limb 17 = .ok (.iconst 3, 1) := by decide +kernel
theorem dX5_limb_18 : decode cX5_limb 18 = .ok (.if_icmp .le 7, 3) := by decide +kernel
theorem dX5_limb_21 : decode cX5_limb 21 = .ok (.ldc2_w 154, 3) := by decide +kernel
theorem dX5_limb_24 : decode cX5_limb 24 = .ok (.lreturn, 1) := by decide +kernel
theorem dX5_limb_25 : decode cX5_limb 25 = .ok (.aload_n 0, 1) := by decide +kernel
theorem dX5_limb_26 : decode cX5_limb 26 = .ok (.iload_n 1, 1) := by decide +kernel
theorem dX5_limb_27 : decode cX5_limb 27 = .ok (.invokevirtual 130, 3) := by decide +kernel
theorem dX5_limb_30 : decode cX5_limb 30 = .ok (.iload_n 2, 1) := by decide +kernel
theorem dX5_limb_31 : decode cX5_limb 31 = .ok (.ifCond .ne 7, 3) := by decide +kernel
theorem dX5_limb_34 : decode cX5_limb 34 = .ok (.iload_n 1, 1) := by decide +kernel
theorem dX5_limb_35 : decode cX5_limb 35 = .ok (.goto 27, 3) := by decide +kernel
theorem dX5_limb_38 : decode cX5_limb 38 = .ok (.iload_n 2, 1) := by decide +kernel
theorem dX5_limb_39 : decode cX5_limb 39 = .ok (.iconst 1, 1) := by decide +kernel
theorem dX5_limb_40 : decode cX5_limb 40 = .ok (.if_icmp .ne 10, 3) := by decide +kernel
theorem dX5_limb_43 : decode cX5_limb 43 = .ok (.bipush 12, 2) := by decide +kernel
theorem dX5_limb_45 : decode cX5_limb 45 = .ok (.iload_n 1, 1) := by decide +kernel
theorem dX5_limb_46 : decode cX5_limb 46 = .ok (.iadd, 1) := by decide +kernel
theorem dX5_limb_47 : decode cX5_limb 47 = .ok (.goto 15, 3) := by decide +kernel
theorem dX5_limb_50 : decode cX5_limb 50 = .ok (.iload_n 2, 1) := by decide +kernel
theorem dX5_limb_51 : decode cX5_limb 51 = .ok (.iconst 2, 1) := by decide +kernel
theorem dX5_limb_52 : decode cX5_limb 52 = .ok (.if_icmp .ne 8, 3) := by decide +kernel
theorem dX5_limb_55 : decode cX5_limb 55 = .ok (.bipush 24, 2) := by decide +kernel
theorem dX5_limb_57 : decode cX5_limb 57 = .ok (.goto 5, 3) := by decide +kernel
theorem dX5_limb_60 : decode cX5_limb 60 = .ok (.bipush 25, 2) := by decide +kernel
theorem dX5_limb_62 : decode cX5_limb 62 = .ok (.istore 4, 2) := by decide +kernel
theorem dX5_limb_64 : decode cX5_limb 64 = .ok (.iload_n 3, 1) := by decide +kernel
theorem dX5_limb_65 : decode cX5_limb 65 = .ok (.iconst (-1), 1) := by decide +kernel
theorem dX5_limb_66 : decode cX5_limb 66 = .ok (.if_icmp .ne 12, 3) := by decide +kernel
theorem dX5_limb_69 : decode cX5_limb 69 = .ok (.aload_n 0, 1) := by decide +kernel
theorem dX5_limb_70 : decode cX5_limb 70 = .ok (.getfield 13, 3) := by decide +kernel
theorem dX5_limb_73 : decode cX5_limb 73 = .ok (.iload 4, 2) := by decide +kernel
theorem dX5_limb_75 : decode cX5_limb 75 = .ok (.iaload, 1) := by decide +kernel
theorem dX5_limb_76 : decode cX5_limb 76 = .ok (.i2l, 1) := by decide +kernel
theorem dX5_limb_77 : decode cX5_limb 77 = .ok (.lreturn, 1) := by decide +kernel
theorem dX5_limb_78 : decode cX5_limb 78 = .ok (.aload_n 0, 1) := by decide +kernel
theorem dX5_limb_79 : decode cX5_limb 79 = .ok (.iload 4, 2) := by decide +kernel
theorem dX5_limb_81 : decode cX5_limb 81 = .ok (.invokevirtual 88, 3) := by decide +kernel
theorem dX5_limb_84 : decode cX5_limb 84 = .ok (.bipush 31, 2) := by decide +kernel
theorem dX5_limb_86 : decode cX5_limb 86 = .ok (.iadd, 1) := by decide +kernel
theorem dX5_limb_87 : decode cX5_limb 87 = .ok (.bipush 32, 2) := by decide +kernel
theorem dX5_limb_89 : decode cX5_limb 89 = .ok (.idiv, 1) := by decide +kernel
theorem dX5_limb_90 : decode cX5_limb 90 = .ok (.istore 5, 2) := by decide +kernel
theorem dX5_limb_92 : decode cX5_limb 92 = .ok (.iload_n 3, 1) := by decide +kernel
theorem dX5_limb_93 : decode cX5_limb 93 = .ok (.iconst (-1), 1) := by decide +kernel
theorem dX5_limb_94 : decode cX5_limb 94 = .ok (.if_icmp .lt 18, 3) := by decide +kernel
theorem dX5_limb_97 : decode cX5_limb 97 = .ok (.iload_n 3, 1) := by decide +kernel
theorem dX5_limb_98 : decode cX5_limb 98 = .ok (.iload 5, 2) := by decide +kernel
theorem dX5_limb_100 : decode cX5_limb 100 = .ok (.ifCond .ne 7, 3) := by decide +kernel
theorem dX5_limb_103 : decode cX5_limb 103 = .ok (.iconst 1, 1) := by decide +kernel
theorem dX5_limb_104 : decode cX5_limb 104 = .ok (.goto 5, 3) := by decide +kernel
theorem dX5_limb_107 : decode cX5_limb 107 = .ok (.iload 5, 2) := by decide +kernel
theorem dX5_limb_109 : decode cX5_limb 109 = .ok (.if_icmp .lt 10, 3) := by decide +kernel
theorem dX5_limb_112 : decode cX5_limb 112 = .ok (.aload_n 0, 1) := by decide +kernel
theorem dX5_limb_113 : decode cX5_limb 113 = .ok (.iconst 1, 1) := by decide +kernel
theorem dX5_limb_114 : decode cX5_limb 114 = .ok (.putfield 48, 3) := by decide +kernel
theorem dX5_limb_117 : decode cX5_limb 117 = .ok (.lconst 0, 1) := by decide +kernel
theorem dX5_limb_118 : decode cX5_limb 118 = .ok (.lreturn, 1) := by decide +kernel
theorem dX5_limb_119 : decode cX5_limb 119 = .ok (.lconst 0, 1) := by decide +kernel
theorem dX5_limb_120 : decode cX5_limb 120 = .ok (.lstore 6, 2) := by decide +kernel
theorem dX5_limb_122 : decode cX5_limb 122 = .ok (.bipush 31, 2) := by decide +kernel
theorem dX5_limb_124 : decode cX5_limb 124 = .ok (.istore 8, 2) := by decide +kernel
theorem dX5_limb_126 : decode cX5_limb 126 = .ok (.iload 8, 2) := by decide +kernel
theorem dX5_limb_128 : decode cX5_limb 128 = .ok (.ifCond .lt 61, 3) := by decide +kernel
theorem dX5_limb_131 : decode cX5_limb 131 = .ok (.bipush 32, 2) := by decide +kernel
theorem dX5_limb_133 : decode cX5_limb 133 = .ok (.iload_n 3, 1) := by decide +kernel
theorem dX5_limb_134 : decode cX5_limb 134 = .ok (.imul, 1) := by decide +kernel
theorem dX5_limb_135 : decode cX5_limb 135 = .ok (.iload 8, 2) := by decide +kernel
theorem dX5_limb_137 : decode cX5_limb 137 = .ok (.iadd, 1) := by decide +kernel
theorem dX5_limb_138 : decode cX5_limb 138 = .ok (.istore 9, 2) := by decide +kernel
theorem dX5_limb_140 : decode cX5_limb 140 = .ok (.ldc2_w 152, 3) := by decide +kernel
theorem dX5_limb_143 : decode cX5_limb 143 = .ok (.lload 6, 2) := by decide +kernel
theorem dX5_limb_145 : decode cX5_limb 145 = .ok (.lmul, 1) := by decide +kernel
theorem dX5_limb_146 : decode cX5_limb 146 = .ok (.iload 9, 2) := by decide +kernel
theorem dX5_limb_148 : decode cX5_limb 148 = .ok (.bipush 24, 2) := by decide +kernel
theorem dX5_limb_150 : decode cX5_limb 150 = .ok (.idiv, 1) := by decide +kernel
theorem dX5_limb_151 : decode cX5_limb 151 = .ok (.bipush 34, 2) := by decide +kernel
theorem dX5_limb_153 : decode cX5_limb 153 = .ok (.if_icmp .ge 25, 3) := by decide +kernel
theorem dX5_limb_156 : decode cX5_limb 156 = .ok (.aload_n 0, 1) := by decide +kernel
theorem dX5_limb_157 : decode cX5_limb 157 = .ok (.iload 4, 2) := by decide +kernel
theorem dX5_limb_159 : decode cX5_limb 159 = .ok (.iload 9, 2) := by decide +kernel
theorem dX5_limb_161 : decode cX5_limb 161 = .ok (.bipush 24, 2) := by decide +kernel
theorem dX5_limb_163 : decode cX5_limb 163 = .ok (.idiv, 1) := by decide +kernel
theorem dX5_limb_164 : decode cX5_limb 164 = .ok (.invokevirtual 60, 3) := by decide +kernel
theorem dX5_limb_167 : decode cX5_limb 167 = .ok (.iload 9, 2) := by decide +kernel
theorem dX5_limb_169 : decode cX5_limb 169 = .ok (.bipush 24, 2) := by decide +kernel
theorem dX5_limb_171 : decode cX5_limb 171 = .ok (.irem, 1) := by decide +kernel
theorem dX5_limb_172 : decode cX5_limb 172 = .ok (.ishr, 1) := by decide +kernel
theorem dX5_limb_173 : decode cX5_limb 173 = .ok (.iconst 1, 1) := by decide +kernel
theorem dX5_limb_174 : decode cX5_limb 174 = .ok (.iand, 1) := by decide +kernel
theorem dX5_limb_175 : decode cX5_limb 175 = .ok (.goto 4, 3) := by decide +kernel
theorem dX5_limb_178 : decode cX5_limb 178 = .ok (.iconst 0, 1) := by decide +kernel
theorem dX5_limb_179 : decode cX5_limb 179 = .ok (.i2l, 1) := by decide +kernel
theorem dX5_limb_180 : decode cX5_limb 180 = .ok (.ladd, 1) := by decide +kernel
theorem dX5_limb_181 : decode cX5_limb 181 = .ok (.lstore 6, 2) := by decide +kernel
theorem dX5_limb_183 : decode cX5_limb 183 = .ok (.iinc 8 (-1), 3) := by decide +kernel
theorem dX5_limb_186 : decode cX5_limb 186 = .ok (.goto (-60), 3) := by decide +kernel
theorem dX5_limb_189 : decode cX5_limb 189 = .ok (.lload 6, 2) := by decide +kernel
theorem dX5_limb_191 : decode cX5_limb 191 = .ok (.lreturn, 1) := by decide +kernel
set_option maxRecDepth 20000 in
theorem ggX5_tens_X5_timesSmall : GoodIn wsX5_tens wsX5_timesSmall := goodIn_r _ [5, 6, 7, 8, 4, 9, 10, 11, 12, 13, 14, 15, 16, 17, 18, 19, 20, 21, 22, 23, 24, 25, 26, 27, 28, 29, 30, 31, 32, 33, 34, 35, 36] rfl (by decide +kernel)
set_option maxRecDepth 20000 in
theorem gX5_tens_X5_timesSmall : GoodIn wsX5_tens (wsV RX5 42 RX5 yX5_timesSmall wsX5_timesSmall) := goodIn_app (goodIn_of _ (by decide +kernel)) ggX5_tens_X5_timesSmall
theorem dX5_tens_0 : decode cX5_tens 0 = .ok (.iconst 0, 1) := by decide +kernel
theorem dX5_tens_1 : decode cX5_tens 1 = .ok (.istore_n 3, 1) := by decide +kernel
theorem dX5_tens_2 : decode cX5_tens 2 = .ok (.iload_n 3, 1) := by decide +kernel
theorem dX5_tens_3 : decode cX5_tens 3 = .ok (.iload_n 2, 1) := by decide +kernel
theorem dX5_tens_4 : decode cX5_tens 4 = .ok (.if_icmp .ge 17, 3) := by decide +kernel
theorem dX5_tens_7 : decode cX5_tens 7 = .ok (.aload_n 0, 1) := by decide +kernel
theorem dX5_tens_8 : decode cX5_tens 8 = .ok (.iload_n 1, 1) := by decide +kernel
theorem dX5_tens_9 : decode cX5_tens 9 = .ok (.iload_n 1, 1) := by decide +kernel
theorem dX5_tens_10 : decode cX5_tens 10 = .ok (.bipush 10, 2) := by decide +kernel
theorem dX5_tens_12 : decode cX5_tens 12 = .ok (.invokevirtual 42, 3) := by decide +kernel
theorem dX5_tens_15 : decode cX5_tens 15 = .ok (.iinc 3 1, 3) := by decide +kernel
theorem dX5_tens_18 : decode cX5_tens 18 = .ok (.goto (-16), 3) := by decide +kernel
theorem dX5_tens_21 : decode cX5_tens 21 = .ok (.return_, 1) := by decide +kernel
set_option maxRecDepth 20000 in
theorem ggX5_digit_X5_isPlace : GoodIn wsX5_digit wsX5_isPlace := goodIn_r _ [6] rfl (by decide +kernel)
set_option maxRecDepth 20000 in
theorem gX5_digit_X5_isPlace : GoodIn wsX5_digit (va_wsS RX5 111 yX5_isPlace wsX5_isPlace) := goodIn_app (goodIn_of _ (by decide +kernel)) ggX5_digit_X5_isPlace
set_option maxRecDepth 20000 in
theorem ggX5_digit_X5_size : GoodIn wsX5_digit wsX5_size := goodIn_r _ [10, 11, 12, 13, 14, 5, 15, 16, 76, 77, 78, 79, 80, 81, 82] rfl (by decide +kernel)
set_option maxRecDepth 20000 in
theorem gX5_digit_X5_size : GoodIn wsX5_digit (wsV RX5 124 RX5 yX5_size wsX5_size) := goodIn_app (goodIn_of _ (by decide +kernel)) ggX5_digit_X5_size
set_option maxRecDepth 20000 in
theorem ggX5_digit_X5_tens : GoodIn wsX5_digit wsX5_tens := goodIn_r _ [20, 21, 22, 23, 5, 24, 25, 26, 27, 28, 16, 29, 30, 31, 32, 33, 11, 34, 35, 36, 37, 38, 39, 40, 41, 42, 43, 44, 45, 46, 76, 77, 78, 79, 80, 81, 82] rfl (by decide +kernel)
set_option maxRecDepth 20000 in
theorem gX5_digit_X5_tens : GoodIn wsX5_digit (wsV RX5 156 RX5 yX5_tens wsX5_tens) := goodIn_app (goodIn_of _ (by decide +kernel)) ggX5_digit_X5_tens
set_option maxRecDepth 20000 in
theorem ggX5_digit_X5_down : GoodIn wsX5_digit wsX5_down := goodIn_r _ [50, 11, 51, 16, 43, 44, 45, 5, 46, 34, 35, 36, 37, 52, 53, 54, 55, 25, 26, 27, 28, 29, 30, 31, 32, 33, 56, 57, 58, 59, 60, 61, 62, 63, 12, 13, 14, 15, 64, 65, 66, 67, 76, 77, 78, 79, 80, 81, 82] rfl (by decide +kernel)
set_option maxRecDepth 20000 in
theorem gX5_digit_X5_down : GoodIn wsX5_digit (wsV RX5 101 RX5 yX5_down wsX5_down) := goodIn_app (goodIn_of _ (by decide +kernel)) ggX5_digit_X5_down
set_option maxRecDepth 20000 in
theorem ggX5_digit_X5_divideSmall : GoodIn wsX5_digit wsX5_divideSmall := goodIn_r _ [71, 11, 16, 43, 44, 45, 5, 46, 34, 35, 36, 37, 52, 53, 54, 55, 25, 26, 27, 28, 29, 30, 31, 32, 33, 56, 57, 58, 59, 60, 61, 62, 63, 51, 12, 13, 14, 15, 64, 65, 66, 67, 76, 77, 78, 79, 80, 81, 82] rfl (by decide +kernel)
set_option maxRecDepth 20000 in
theorem gX5_digit_X5_divideSmall : GoodIn wsX5_digit (wsV RX5 34 RX5 yX5_divideSmall wsX5_divideSmall) := goodIn_app (goodIn_of _ (by decide +kernel)) ggX5_digit_X5_divideSmall
set_option maxRecDepth 20000 in
theorem ggX5_digit_X5_timesSmall : GoodIn wsX5_digit wsX5_timesSmall := goodIn_r _ [24, 25, 26, 27, 5, 28, 16, 29, 30, 31, 32, 33, 11, 34, 35, 36, 37, 38, 39, 40, 41, 42, 43, 44, 45, 46, 76, 77, 78, 79, 80, 81, 82] rfl (by decide +kernel)
set_option maxRecDepth 20000 in
theorem gX5_digit_X5_timesSmall : GoodIn wsX5_digit (wsV RX5 42 RX5 yX5_timesSmall wsX5_timesSmall) := goodIn_app (goodIn_of _ (by decide +kernel)) ggX5_digit_X5_timesSmall
set_option maxRecDepth 20000 in
theorem ggX5_digit_X5_minus : GoodIn wsX5_digit wsX5_minus := goodIn_r _ [75, 60, 61, 62, 5, 63, 11, 16, 51, 12, 13, 14, 15, 64, 65, 66, 67, 43, 44, 45, 46, 34, 35, 36, 37, 76, 77, 78, 79, 80, 81, 82] rfl (by decide +kernel)
set_option maxRecDepth 20000 in
theorem gX5_digit_X5_minus : GoodIn wsX5_digit (wsV RX5 45 RX5 yX5_minus wsX5_minus) := goodIn_app (goodIn_of _ (by decide +kernel)) ggX5_digit_X5_minus
set_option maxRecDepth 20000 in
theorem ggX5_digit_X5_at : GoodIn wsX5_digit wsX5_at := goodIn_r _ [46, 16, 76, 77, 78, 79, 80, 81, 82] rfl (by decide +kernel)
set_option maxRecDepth 20000 in
theorem gX5_digit_X5_at : GoodIn wsX5_digit (wsV RX5 60 RX5 yX5_at wsX5_at) := goodIn_app (goodIn_of _ (by decide +kernel)) ggX5_digit_X5_at
theorem dX5_digit_0 : decode cX5_digit 0 = .ok (.aload_n 0, 1) := by decide +kernel
theorem dX5_digit_1 : decode cX5_digit 1 = .ok (.iconst 0, 1) := by decide +kernel
theorem dX5_digit_2 : decode cX5_digit 2 = .ok (.putfield 48, 3) := by decide +kernel
theorem dX5_digit_5 : decode cX5_digit 5 = .ok (.iload_n 1, 1) := by decide +kernel
theorem dX5_digit_6 : decode cX5_digit 6 = .ok (.invokestatic 111, 3) := by decide +kernel
theorem dX5_digit_9 : decode cX5_digit 9 = .ok (.ifCond .eq 15, 3) := by decide +kernel
theorem dX5_digit_12 : decode cX5_digit 12 = .ok (.iload_n 2, 1) := by decide +kernel
theorem dX5_digit_13 : decode cX5_digit 13 = .ok (.bipush (-14), 2) := by decide +kernel
theorem dX5_digit_15 : decode cX5_digit 15 = .ok (.if_icmp .lt 9, 3) := by decide +kernel
theorem dX5_digit_18 : decode cX5_digit 18 = .ok (.iload_n 2, 1) := by decide +kernel
theorem dX5_digit_19 : decode cX5_digit 19 = .ok (.bipush 60, 2) := by decide +kernel
theorem dX5_digit_21 : decode cX5_digit 21 = .ok (.if_icmp .le 5, 3) := by decide +kernel
theorem dX5_digit_24 : decode cX5_digit 24 = .ok (.iconst (-1), 1) := by decide +kernel
theorem dX5_digit_25 : decode cX5_digit 25 = .ok (.ireturn, 1) := by decide +kernel
theorem dX5_digit_26 : decode cX5_digit 26 = .ok (.aload_n 0, 1) := by decide +kernel
theorem dX5_digit_27 : decode cX5_digit 27 = .ok (.bipush 29, 2) := by decide +kernel
theorem dX5_digit_29 : decode cX5_digit 29 = .ok (.iload_n 1, 1) := by decide +kernel
theorem dX5_digit_30 : decode cX5_digit 30 = .ok (.invokevirtual 124, 3) := by decide +kernel
theorem dX5_digit_33 : decode cX5_digit 33 = .ok (.aload_n 0, 1) := by decide +kernel
theorem dX5_digit_34 : decode cX5_digit 34 = .ok (.bipush 29, 2) := by decide +kernel
theorem dX5_digit_36 : decode cX5_digit 36 = .ok (.iload_n 2, 1) := by decide +kernel
theorem dX5_digit_37 : decode cX5_digit 37 = .ok (.invokevirtual 156, 3) := by decide +kernel
theorem dX5_digit_40 : decode cX5_digit 40 = .ok (.aload_n 0, 1) := by decide +kernel
theorem dX5_digit_41 : decode cX5_digit 41 = .ok (.bipush 29, 2) := by decide +kernel
theorem dX5_digit_43 : decode cX5_digit 43 = .ok (.bipush 29, 2) := by decide +kernel
theorem dX5_digit_45 : decode cX5_digit 45 = .ok (.aload_n 0, 1) := by decide +kernel
theorem dX5_digit_46 : decode cX5_digit 46 = .ok (.getfield 23, 3) := by decide +kernel
theorem dX5_digit_49 : decode cX5_digit 49 = .ok (.invokevirtual 101, 3) := by decide +kernel
theorem dX5_digit_52 : decode cX5_digit 52 = .ok (.iconst 0, 1) := by decide +kernel
theorem dX5_digit_53 : decode cX5_digit 53 = .ok (.istore_n 3, 1) := by decide +kernel
theorem dX5_digit_54 : decode cX5_digit 54 = .ok (.iload_n 3, 1) := by decide +kernel
theorem dX5_digit_55 : decode cX5_digit 55 = .ok (.iload_n 2, 1) := by decide +kernel
theorem dX5_digit_56 : decode cX5_digit 56 = .ok (.if_icmp .le 19, 3) := by decide +kernel
theorem dX5_digit_59 : decode cX5_digit 59 = .ok (.aload_n 0, 1) := by decide +kernel
theorem dX5_digit_60 : decode cX5_digit 60 = .ok (.bipush 29, 2) := by decide +kernel
theorem dX5_digit_62 : decode cX5_digit 62 = .ok (.bipush 29, 2) := by decide +kernel
theorem dX5_digit_64 : decode cX5_digit 64 = .ok (.bipush 10, 2) := by decide +kernel
theorem dX5_digit_66 : decode cX5_digit 66 = .ok (.invokevirtual 34, 3) := by decide +kernel
theorem dX5_digit_69 : decode cX5_digit 69 = .ok (.iinc 3 (-1), 3) := by decide +kernel
theorem dX5_digit_72 : decode cX5_digit 72 = .ok (.goto (-18), 3) := by decide +kernel
theorem dX5_digit_75 : decode cX5_digit 75 = .ok (.aload_n 0, 1) := by decide +kernel
theorem dX5_digit_76 : decode cX5_digit 76 = .ok (.bipush 30, 2) := by decide +kernel
theorem dX5_digit_78 : decode cX5_digit 78 = .ok (.bipush 29, 2) := by decide +kernel
theorem dX5_digit_80 : decode cX5_digit 80 = .ok (.bipush 10, 2) := by decide +kernel
theorem dX5_digit_82 : decode cX5_digit 82 = .ok (.invokevirtual 34, 3) := by decide +kernel
theorem dX5_digit_85 : decode cX5_digit 85 = .ok (.aload_n 0, 1) := by decide +kernel
theorem dX5_digit_86 : decode cX5_digit 86 = .ok (.bipush 30, 2) := by decide +kernel
theorem dX5_digit_88 : decode cX5_digit 88 = .ok (.bipush 30, 2) := by decide +kernel
theorem dX5_digit_90 : decode cX5_digit 90 = .ok (.bipush 10, 2) := by decide +kernel
theorem dX5_digit_92 : decode cX5_digit 92 = .ok (.invokevirtual 42, 3) := by decide +kernel
theorem dX5_digit_95 : decode cX5_digit 95 = .ok (.aload_n 0, 1) := by decide +kernel
theorem dX5_digit_96 : decode cX5_digit 96 = .ok (.bipush 29, 2) := by decide +kernel
theorem dX5_digit_98 : decode cX5_digit 98 = .ok (.bipush 29, 2) := by decide +kernel
theorem dX5_digit_100 : decode cX5_digit 100 = .ok (.bipush 30, 2) := by decide +kernel
theorem dX5_digit_102 : decode cX5_digit 102 = .ok (.invokevirtual 45, 3) := by decide +kernel
theorem dX5_digit_105 : decode cX5_digit 105 = .ok (.aload_n 0, 1) := by decide +kernel
theorem dX5_digit_106 : decode cX5_digit 106 = .ok (.bipush 29, 2) := by decide +kernel
theorem dX5_digit_108 : decode cX5_digit 108 = .ok (.iconst 0, 1) := by decide +kernel
theorem dX5_digit_109 : decode cX5_digit 109 = .ok (.invokevirtual 60, 3) := by decide +kernel
theorem dX5_digit_112 : decode cX5_digit 112 = .ok (.ireturn, 1) := by decide +kernel
set_option maxRecDepth 20000 in
theorem ggX5_sure_X5_isPlace : GoodIn wsX5_sure wsX5_isPlace := goodIn_r _ [6] rfl (by decide +kernel)
set_option maxRecDepth 20000 in
theorem gX5_sure_X5_isPlace : GoodIn wsX5_sure (va_wsS RX5 111 yX5_isPlace wsX5_isPlace) := goodIn_app (goodIn_of _ (by decide +kernel)) ggX5_sure_X5_isPlace
set_option maxRecDepth 20000 in
theorem ggX5_sure_X5_ends : GoodIn wsX5_sure wsX5_ends := goodIn_r _ [10, 11, 12, 13, 5, 14, 15, 16, 17, 18, 19, 20, 21, 22, 23, 24, 25, 26, 27, 28, 29, 30, 31, 32, 33, 34, 35, 36, 37, 38, 39, 40, 41, 72, 73, 74, 75, 76, 77, 78] rfl (by decide +kernel)
set_option maxRecDepth 20000 in
theorem gX5_sure_X5_ends : GoodIn wsX5_sure (wsV RX5 130 RX5 yX5_ends wsX5_ends) := goodIn_app (goodIn_of _ (by decide +kernel)) ggX5_sure_X5_ends
set_option maxRecDepth 20000 in
theorem ggX5_sure_X5_down : GoodIn wsX5_sure wsX5_down := goodIn_r _ [45, 19, 21, 20, 30, 31, 32, 5, 33, 34, 35, 36, 37, 46, 47, 48, 49, 50, 51, 52, 53, 54, 55, 56, 57, 58, 38, 39, 40, 41, 15, 16, 17, 18, 22, 23, 24, 25, 26, 27, 28, 29, 72, 73, 74, 75, 76, 77, 78] rfl (by decide +kernel)
set_option maxRecDepth 20000 in
theorem gX5_sure_X5_down : GoodIn wsX5_sure (wsV RX5 101 RX5 yX5_down wsX5_down) := goodIn_app (goodIn_of _ (by decide +kernel)) ggX5_sure_X5_down
set_option maxRecDepth 20000 in
theorem ggX5_sure_X5_compare : GoodIn wsX5_sure wsX5_compare := goodIn_r _ [62, 19, 26, 27, 28, 5, 29, 30, 31, 32, 33, 20, 72, 73, 74, 75, 76, 77, 78] rfl (by decide +kernel)
set_option maxRecDepth 20000 in
theorem gX5_sure_X5_compare : GoodIn wsX5_sure (wsV RX5 98 RX5 yX5_compare wsX5_compare) := goodIn_app (goodIn_of _ (by decide +kernel)) ggX5_sure_X5_compare
set_option maxRecDepth 20000 in
theorem ggX5_sure_X5_timesSmall : GoodIn wsX5_sure wsX5_timesSmall := goodIn_r _ [66, 50, 51, 52, 5, 53, 20, 54, 55, 56, 57, 58, 19, 34, 35, 36, 37, 67, 68, 69, 70, 71, 30, 31, 32, 33, 72, 73, 74, 75, 76, 77, 78] rfl (by decide +kernel)
set_option maxRecDepth 20000 in
theorem gX5_sure_X5_timesSmall : GoodIn wsX5_sure (wsV RX5 42 RX5 yX5_timesSmall wsX5_timesSmall) := goodIn_app (goodIn_of _ (by decide +kernel)) ggX5_sure_X5_timesSmall
theorem dX5_sure_0 : decode cX5_sure 0 = .ok (.aload_n 0, 1) := by decide +kernel
theorem dX5_sure_1 : decode cX5_sure 1 = .ok (.iconst 0, 1) := by decide +kernel
theorem dX5_sure_2 : decode cX5_sure 2 = .ok (.putfield 48, 3) := by decide +kernel
theorem dX5_sure_5 : decode cX5_sure 5 = .ok (.iload_n 1, 1) := by decide +kernel
theorem dX5_sure_6 : decode cX5_sure 6 = .ok (.invokestatic 111, 3) := by decide +kernel
theorem dX5_sure_9 : decode cX5_sure 9 = .ok (.ifCond .ne 6, 3) := by decide +kernel
theorem dX5_sure_12 : decode cX5_sure 12 = .ok (.bipush (-2), 2) := by decide +kernel
theorem dX5_sure_14 : decode cX5_sure 14 = .ok (.ireturn, 1) := by decide +kernel
theorem dX5_sure_15 : decode cX5_sure 15 = .ok (.aload_n 0, 1) := by decide +kernel
theorem dX5_sure_16 : decode cX5_sure 16 = .ok (.iload_n 1, 1) := by decide +kernel
theorem dX5_sure_17 : decode cX5_sure 17 = .ok (.invokevirtual 130, 3) := by decide +kernel
theorem dX5_sure_20 : decode cX5_sure 20 = .ok (.iconst (-1), 1) := by decide +kernel
theorem dX5_sure_21 : decode cX5_sure 21 = .ok (.istore_n 2, 1) := by decide +kernel
theorem dX5_sure_22 : decode cX5_sure 22 = .ok (.iconst 1, 1) := by decide +kernel
theorem dX5_sure_23 : decode cX5_sure 23 = .ok (.istore_n 3, 1) := by decide +kernel
theorem dX5_sure_24 : decode cX5_sure 24 = .ok (.iconst 0, 1) := by decide +kernel
theorem dX5_sure_25 : decode cX5_sure 25 = .ok (.istore 4, 2) := by decide +kernel
theorem dX5_sure_27 : decode cX5_sure 27 = .ok (.iload 4, 2) := by decide +kernel
theorem dX5_sure_29 : decode cX5_sure 29 = .ok (.bipush 61, 2) := by decide +kernel
theorem dX5_sure_31 : decode cX5_sure 31 = .ok (.if_icmp .ge 85, 3) := by decide +kernel
theorem dX5_sure_34 : decode cX5_sure 34 = .ok (.iload_n 3, 1) := by decide +kernel
theorem dX5_sure_35 : decode cX5_sure 35 = .ok (.ifCond .eq 81, 3) := by decide +kernel
theorem dX5_sure_38 : decode cX5_sure 38 = .ok (.aload_n 0, 1) := by decide +kernel
theorem dX5_sure_39 : decode cX5_sure 39 = .ok (.bipush 29, 2) := by decide +kernel
theorem dX5_sure_41 : decode cX5_sure 41 = .ok (.bipush 24, 2) := by decide +kernel
theorem dX5_sure_43 : decode cX5_sure 43 = .ok (.aload_n 0, 1) := by decide +kernel
theorem dX5_sure_44 : decode cX5_sure 44 = .ok (.getfield 23, 3) := by decide +kernel
theorem dX5_sure_47 : decode cX5_sure 47 = .ok (.invokevirtual 101, 3) := by decide +kernel
theorem dX5_sure_50 : decode cX5_sure 50 = .ok (.aload_n 0, 1) := by decide +kernel
theorem dX5_sure_51 : decode cX5_sure 51 = .ok (.bipush 30, 2) := by decide +kernel
theorem dX5_sure_53 : decode cX5_sure 53 = .ok (.bipush 25, 2) := by decide +kernel
theorem dX5_sure_55 : decode cX5_sure 55 = .ok (.aload_n 0, 1) := by decide +kernel
theorem dX5_sure_56 : decode cX5_sure 56 = .ok (.getfield 23, 3) := by decide +kernel
theorem dX5_sure_59 : decode cX5_sure 59 = .ok (.invokevirtual 101, 3) := by decide +kernel
theorem dX5_sure_62 : decode cX5_sure 62 = .ok (.aload_n 0, 1) := by decide +kernel
theorem dX5_sure_63 : decode cX5_sure 63 = .ok (.bipush 29, 2) := by decide +kernel
theorem dX5_sure_65 : decode cX5_sure 65 = .ok (.bipush 30, 2) := by decide +kernel
theorem dX5_sure_67 : decode cX5_sure 67 = .ok (.invokevirtual 98, 3) := by decide +kernel
theorem dX5_sure_70 : decode cX5_sure 70 = .ok (.ifCond .ne 7, 3) := by decide +kernel
theorem dX5_sure_73 : decode cX5_sure 73 = .ok (.iconst 1, 1) := by decide +kernel
theorem dX5_sure_74 : decode cX5_sure 74 = .ok (.goto 4, 3) := by decide +kernel
theorem dX5_sure_77 : decode cX5_sure 77 = .ok (.iconst 0, 1) := by decide +kernel
theorem dX5_sure_78 : decode cX5_sure 78 = .ok (.istore_n 3, 1) := by decide +kernel
theorem dX5_sure_79 : decode cX5_sure 79 = .ok (.iload_n 3, 1) := by decide +kernel
theorem dX5_sure_80 : decode cX5_sure 80 = .ok (.ifCond .eq 8, 3) := by decide +kernel
theorem dX5_sure_83 : decode cX5_sure 83 = .ok (.iload 4, 2) := by decide +kernel
theorem dX5_sure_85 : decode cX5_sure 85 = .ok (.goto 4, 3) := by decide +kernel
theorem dX5_sure_88 : decode cX5_sure 88 = .ok (.iload_n 2, 1) := by decide +kernel
theorem dX5_sure_89 : decode cX5_sure 89 = .ok (.istore_n 2, 1) := by decide +kernel
theorem dX5_sure_90 : decode cX5_sure 90 = .ok (.aload_n 0, 1) := by decide +kernel
theorem dX5_sure_91 : decode cX5_sure 91 = .ok (.bipush 24, 2) := by decide +kernel
theorem dX5_sure_93 : decode cX5_sure 93 = .ok (.bipush 24, 2) := by decide +kernel
theorem dX5_sure_95 : decode cX5_sure 95 = .ok (.bipush 10, 2) := by decide +kernel
theorem dX5_sure_97 : decode cX5_sure 97 = .ok (.invokevirtual 42, 3) := by decide +kernel
theorem dX5_sure_100 : decode cX5_sure 100 = .ok (.aload_n 0, 1) := by decide +kernel
theorem dX5_sure_101 : decode cX5_sure 101 = .ok (.bipush 25, 2) := by decide +kernel
theorem dX5_sure_103 : decode cX5_sure 103 = .ok (.bipush 25, 2) := by decide +kernel
theorem dX5_sure_105 : decode cX5_sure 105 = .ok (.bipush 10, 2) := by decide +kernel
theorem dX5_sure_107 : decode cX5_sure 107 = .ok (.invokevirtual 42, 3) := by decide +kernel
theorem dX5_sure_110 : decode cX5_sure 110 = .ok (.iinc 4 1, 3) := by decide +kernel
theorem dX5_sure_113 : decode cX5_sure 113 = .ok (.goto (-86), 3) := by decide +kernel
theorem dX5_sure_116 : decode cX5_sure 116 = .ok (.iload_n 2, 1) := by decide +kernel
theorem dX5_sure_117 : decode cX5_sure 117 = .ok (.ireturn, 1) := by decide +kernel
set_option maxRecDepth 20000 in
theorem ggX5_count_X5_bits : GoodIn wsX5_count wsX5_bits := goodIn_r _ [7, 8, 9, 10, 6, 11, 12, 13, 14, 15, 16, 17, 18, 19] rfl (by decide +kernel)
set_option maxRecDepth 20000 in
theorem gX5_count_X5_bits : GoodIn wsX5_count (wsV RX5 88 RX5 yX5_bits wsX5_bits) := goodIn_app (goodIn_of _ (by decide +kernel)) ggX5_count_X5_bits
theorem dX5_count_0 : decode cX5_count 0 = .ok (.aload_n 0, 1) := by decide +kernel
theorem dX5_count_1 : decode cX5_count 1 = .ok (.iconst 0, 1) := by decide +kernel
theorem dX5_count_2 : decode cX5_count 2 = .ok (.putfield 48, 3) := by decide +kernel
theorem dX5_count_5 : decode cX5_count 5 = .ok (.iload_n 1, 1) := by decide +kernel
theorem dX5_count_6 : decode cX5_count 6 = .ok (.ifCond .ne 8, 3) := by decide +kernel
theorem dX5_count_9 : decode cX5_count 9 = .ok (.aload_n 0, 1) := by decide +kernel
theorem dX5_count_10 : decode cX5_count 10 = .ok (.getfield 23, 3) := by decide +kernel
theorem dX5_count_13 : decode cX5_count 13 = .ok (.ireturn, 1) := by decide +kernel
theorem dX5_count_14 : decode cX5_count 14 = .ok (.iload_n 1, 1) := by decide +kernel
theorem dX5_count_15 : decode cX5_count 15 = .ok (.iconst 1, 1) := by decide +kernel
theorem dX5_count_16 : decode cX5_count 16 = .ok (.if_icmp .eq 10, 3) := by decide +kernel
theorem dX5_count_19 : decode cX5_count 19 = .ok (.iload_n 1, 1) := by decide +kernel
theorem dX5_count_20 : decode cX5_count 20 = .ok (.iconst 2, 1) := by decide +kernel
theorem dX5_count_21 : decode cX5_count 21 = .ok (.if_icmp .eq 5, 3) := by decide +kernel
theorem dX5_count_24 : decode cX5_count 24 = .ok (.iconst (-1), 1) := by decide +kernel
theorem dX5_count_25 : decode cX5_count 25 = .ok (.ireturn, 1) := by decide +kernel
theorem dX5_count_26 : decode cX5_count 26 = .ok (.iconst 0, 1) := by decide +kernel
theorem dX5_count_27 : decode cX5_count 27 = .ok (.istore_n 2, 1) := by decide +kernel
theorem dX5_count_28 : decode cX5_count 28 = .ok (.iconst 0, 1) := by decide +kernel
theorem dX5_count_29 : decode cX5_count 29 = .ok (.istore_n 3, 1) := by decide +kernel
theorem dX5_count_30 : decode cX5_count 30 = .ok (.iload_n 3, 1) := by decide +kernel
theorem dX5_count_31 : decode cX5_count 31 = .ok (.bipush 12, 2) := by decide +kernel
theorem dX5_count_33 : decode cX5_count 33 = .ok (.if_icmp .ge 41, 3) := by decide +kernel
theorem dX5_count_36 : decode cX5_count 36 = .ok (.aload_n 0, 1) := by decide +kernel
theorem dX5_count_37 : decode cX5_count 37 = .ok (.iload_n 1, 1) := by decide +kernel
theorem dX5_count_38 : decode cX5_count 38 = .ok (.iconst 1, 1) := by decide +kernel
theorem dX5_count_39 : decode cX5_count 39 = .ok (.if_icmp .ne 7, 3) := by decide +kernel
theorem dX5_count_42 : decode cX5_count 42 = .ok (.iload_n 3, 1) := by decide +kernel
theorem dX5_count_43 : decode cX5_count 43 = .ok (.goto 7, 3) := by decide +kernel
theorem dX5_count_46 : decode cX5_count 46 = .ok (.bipush 12, 2) := by decide +kernel
theorem dX5_count_48 : decode cX5_count 48 = .ok (.iload_n 3, 1) := by decide +kernel
theorem dX5_count_49 : decode cX5_count 49 = .ok (.iadd, 1) := by decide +kernel
theorem dX5_count_50 : decode cX5_count 50 = .ok (.invokevirtual 88, 3) := by decide +kernel
theorem dX5_count_53 : decode cX5_count 53 = .ok (.istore 4, 2) := by decide +kernel
theorem dX5_count_55 : decode cX5_count 55 = .ok (.iload 4, 2) := by decide +kernel
theorem dX5_count_57 : decode cX5_count 57 = .ok (.iload_n 2, 1) := by decide +kernel
theorem dX5_count_58 : decode cX5_count 58 = .ok (.if_icmp .le 8, 3) := by decide +kernel
theorem dX5_count_61 : decode cX5_count 61 = .ok (.iload 4, 2) := by decide +kernel
theorem dX5_count_63 : decode cX5_count 63 = .ok (.goto 4, 3) := by decide +kernel
theorem dX5_count_66 : decode cX5_count 66 = .ok (.iload_n 2, 1) := by decide +kernel
theorem dX5_count_67 : decode cX5_count 67 = .ok (.istore_n 2, 1) := by decide +kernel
theorem dX5_count_68 : decode cX5_count 68 = .ok (.iinc 3 1, 3) := by decide +kernel
theorem dX5_count_71 : decode cX5_count 71 = .ok (.goto (-41), 3) := by decide +kernel
theorem dX5_count_74 : decode cX5_count 74 = .ok (.iload_n 2, 1) := by decide +kernel
theorem dX5_count_75 : decode cX5_count 75 = .ok (.ireturn, 1) := by decide +kernel
