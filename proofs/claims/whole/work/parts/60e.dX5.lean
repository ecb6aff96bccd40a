theorem dX5_fineArc_159 : decode cX5_fineArc 159 = .ok (.bipush 54, 2) := by decide +kernel
theorem dX5_fineArc_161 : decode cX5_fineArc 161 = .ok (.invokevirtual 92, 3) := by decide +kernel
theorem dX5_fineArc_164 : decode cX5_fineArc 164 = .ok (.iinc 5 1, 3) := by decide +kernel
theorem dX5_fineArc_167 : decode cX5_fineArc 167 = .ok (.goto (-81), 3) := by decide +kernel
theorem dX5_fineArc_170 : decode cX5_fineArc 170 = .ok (.aload_n 0, 1) := by decide +kernel
theorem dX5_fineArc_171 : decode cX5_fineArc 171 = .ok (.bipush 52, 2) := by decide +kernel
theorem dX5_fineArc_173 : decode cX5_fineArc 173 = .ok (.bipush 52, 2) := by decide +kernel
theorem dX5_fineArc_175 : decode cX5_fineArc 175 = .ok (.iconst 1, 1) := by decide +kernel
theorem dX5_fineArc_176 : decode cX5_fineArc 176 = .ok (.invokevirtual 38, 3) := by decide +kernel
theorem dX5_fineArc_179 : decode cX5_fineArc 179 = .ok (.aload_n 0, 1) := by decide +kernel
theorem dX5_fineArc_180 : decode cX5_fineArc 180 = .ok (.bipush 52, 2) := by decide +kernel
theorem dX5_fineArc_182 : decode cX5_fineArc 182 = .ok (.bipush 52, 2) := by decide +kernel
theorem dX5_fineArc_184 : decode cX5_fineArc 184 = .ok (.iconst 3, 1) := by decide +kernel
theorem dX5_fineArc_185 : decode cX5_fineArc 185 = .ok (.invokevirtual 95, 3) := by decide +kernel
theorem dX5_fineArc_188 : decode cX5_fineArc 188 = .ok (.iload 4, 2) := by decide +kernel
theorem dX5_fineArc_190 : decode cX5_fineArc 190 = .ok (.ifCond .eq 22, 3) := by decide +kernel
theorem dX5_fineArc_193 : decode cX5_fineArc 193 = .ok (.aload_n 0, 1) := by decide +kernel
theorem dX5_fineArc_194 : decode cX5_fineArc 194 = .ok (.bipush 53, 2) := by decide +kernel
theorem dX5_fineArc_196 : decode cX5_fineArc 196 = .ok (.bipush 26, 2) := by decide +kernel
theorem dX5_fineArc_198 : decode cX5_fineArc 198 = .ok (.iconst 1, 1) := by decide +kernel
theorem dX5_fineArc_199 : decode cX5_fineArc 199 = .ok (.invokevirtual 101, 3) := by decide +kernel
theorem dX5_fineArc_202 : decode cX5_fineArc 202 = .ok (.aload_n 0, 1) := by decide +kernel
theorem dX5_fineArc_203 : decode cX5_fineArc 203 = .ok (.bipush 52, 2) := by decide +kernel
theorem dX5_fineArc_205 : decode cX5_fineArc 205 = .ok (.bipush 53, 2) := by decide +kernel
theorem dX5_fineArc_207 : decode cX5_fineArc 207 = .ok (.bipush 52, 2) := by decide +kernel
theorem dX5_fineArc_209 : decode cX5_fineArc 209 = .ok (.invokevirtual 45, 3) := by decide +kernel
theorem dX5_fineArc_212 : decode cX5_fineArc 212 = .ok (.aload_n 0, 1) := by decide +kernel
theorem dX5_fineArc_213 : decode cX5_fineArc 213 = .ok (.getfield 13, 3) := by decide +kernel
theorem dX5_fineArc_216 : decode cX5_fineArc 216 = .ok (.bipush 52, 2) := by decide +kernel
theorem dX5_fineArc_218 : decode cX5_fineArc 218 = .ok (.iload_n 3, 1) := by decide +kernel
theorem dX5_fineArc_219 : decode cX5_fineArc 219 = .ok (.ifCond .ge 14, 3) := by decide +kernel
theorem dX5_fineArc_222 : decode cX5_fineArc 222 = .ok (.aload_n 0, 1) := by decide +kernel
theorem dX5_fineArc_223 : decode cX5_fineArc 223 = .ok (.getfield 13, 3) := by decide +kernel
theorem dX5_fineArc_226 : decode cX5_fineArc 226 = .ok (.bipush 52, 2) := by decide +kernel
theorem dX5_fineArc_228 : decode cX5_fineArc 228 = .ok (.iaload, 1) := by decide +kernel
theorem dX5_fineArc_229 : decode cX5_fineArc 229 = .ok (.ineg, 1) := by decide +kernel
theorem dX5_fineArc_230 : decode cX5_fineArc 230 = .ok (.goto 10, 3) := by decide +kernel
theorem dX5_fineArc_233 : decode cX5_fineArc 233 = .ok (.aload_n 0, 1) := by decide +kernel
theorem dX5_fineArc_234 : decode cX5_fineArc 234 = .ok (.getfield 13, 3) := by decide +kernel
theorem dX5_fineArc_237 : decode cX5_fineArc 237 = .ok (.bipush 52, 2) := by decide +kernel
theorem dX5_fineArc_239 : decode cX5_fineArc 239 = .ok (.iaload, 1) := by decide +kernel
theorem dX5_fineArc_240 : decode cX5_fineArc 240 = .ok (.iastore, 1) := by decide +kernel
theorem dX5_fineArc_241 : decode cX5_fineArc 241 = .ok (.aload_n 0, 1) := by decide +kernel
theorem dX5_fineArc_242 : decode cX5_fineArc 242 = .ok (.iload_n 1, 1) := by decide +kernel
theorem dX5_fineArc_243 : decode cX5_fineArc 243 = .ok (.bipush 52, 2) := by decide +kernel
theorem dX5_fineArc_245 : decode cX5_fineArc 245 = .ok (.invokevirtual 67, 3) := by decide +kernel
theorem dX5_fineArc_248 : decode cX5_fineArc 248 = .ok (.return_, 1) := by decide +kernel
set_option maxRecDepth 20000 in
theorem ggX5_fineSine_X5_up : GoodIn wsX5_fineSine wsX5_up := goodIn_r _ [7, 2, 8, 9, 10, 11, 12, 6, 13, 73, 74, 75, 76, 77, 78, 79] rfl (by decide +kernel)
set_option maxRecDepth 20000 in
theorem gX5_fineSine_X5_up : GoodIn wsX5_fineSine (wsV RX5 95 RX5 yX5_up wsX5_up) := goodIn_app (goodIn_of _ (by decide +kernel)) ggX5_fineSine_X5_up
set_option maxRecDepth 20000 in
theorem ggX5_fineSine_X5_plus : GoodIn wsX5_fineSine wsX5_plus := goodIn_r _ [17, 18, 19, 20, 6, 21, 2, 9, 8, 22, 23, 24, 25, 26, 27, 28, 29, 10, 11, 12, 13, 30, 31, 32, 33, 73, 74, 75, 76, 77, 78, 79] rfl (by decide +kernel)
set_option maxRecDepth 20000 in
theorem gX5_fineSine_X5_plus : GoodIn wsX5_fineSine (wsV RX5 79 RX5 yX5_plus wsX5_plus) := goodIn_app (goodIn_of _ (by decide +kernel)) ggX5_fineSine_X5_plus
set_option maxRecDepth 20000 in
theorem ggX5_fineSine_X5_divide : GoodIn wsX5_fineSine wsX5_divide := goodIn_r _ [37, 38, 8, 9, 2, 39, 40, 41, 6, 42, 10, 11, 12, 13, 43, 44, 45, 46, 30, 31, 32, 33, 47, 48, 49, 50, 51, 52, 53, 54, 55, 14, 15, 16, 17, 18, 19, 20, 21, 22, 23, 24, 25, 26, 27, 28, 29, 73, 74, 75, 76, 77, 78, 79] rfl (by decide +kernel)
set_option maxRecDepth 20000 in
theorem gX5_fineSine_X5_divide : GoodIn wsX5_fineSine (wsV RX5 92 RX5 yX5_divide wsX5_divide) := goodIn_app (goodIn_of _ (by decide +kernel)) ggX5_fineSine_X5_divide
set_option maxRecDepth 20000 in
theorem ggX5_fineSine_X5_at : GoodIn wsX5_fineSine wsX5_at := goodIn_r _ [13, 9, 73, 74, 75, 76, 77, 78, 79] rfl (by decide +kernel)
set_option maxRecDepth 20000 in
theorem gX5_fineSine_X5_at : GoodIn wsX5_fineSine (wsV RX5 60 RX5 yX5_at wsX5_at) := goodIn_app (goodIn_of _ (by decide +kernel)) ggX5_fineSine_X5_at
set_option maxRecDepth 20000 in
theorem ggX5_fineSine_X5_product : GoodIn wsX5_fineSine wsX5_product := goodIn_r _ [59, 60, 2, 9, 55, 10, 11, 12, 6, 13, 30, 31, 32, 33, 73, 74, 75, 76, 77, 78, 79] rfl (by decide +kernel)
set_option maxRecDepth 20000 in
theorem gX5_fineSine_X5_product : GoodIn wsX5_fineSine (wsV RX5 82 RX5 yX5_product wsX5_product) := goodIn_app (goodIn_of _ (by decide +kernel)) ggX5_fineSine_X5_product
set_option maxRecDepth 20000 in
theorem ggX5_fineSine_X5_minus : GoodIn wsX5_fineSine wsX5_minus := goodIn_r _ [64, 18, 19, 20, 6, 21, 2, 9, 8, 22, 23, 24, 25, 26, 27, 28, 29, 10, 11, 12, 13, 30, 31, 32, 33, 73, 74, 75, 76, 77, 78, 79] rfl (by decide +kernel)
set_option maxRecDepth 20000 in
theorem gX5_fineSine_X5_minus : GoodIn wsX5_fineSine (wsV RX5 45 RX5 yX5_minus wsX5_minus) := goodIn_app (goodIn_of _ (by decide +kernel)) ggX5_fineSine_X5_minus
set_option maxRecDepth 20000 in
theorem ggX5_fineSine_X5_down : GoodIn wsX5_fineSine wsX5_down := goodIn_r _ [68, 2, 8, 9, 10, 11, 12, 6, 13, 30, 31, 32, 33, 47, 48, 49, 50, 51, 52, 53, 54, 55, 43, 44, 45, 46, 14, 15, 16, 17, 18, 19, 20, 21, 22, 23, 24, 25, 26, 27, 28, 29, 73, 74, 75, 76, 77, 78, 79] rfl (by decide +kernel)
set_option maxRecDepth 20000 in
theorem gX5_fineSine_X5_down : GoodIn wsX5_fineSine (wsV RX5 101 RX5 yX5_down wsX5_down) := goodIn_app (goodIn_of _ (by decide +kernel)) ggX5_fineSine_X5_down
set_option maxRecDepth 20000 in
theorem ggX5_fineSine_X5_none : GoodIn wsX5_fineSine wsX5_none := goodIn_r _ [46, 9, 2, 73, 74, 75, 76, 77, 78, 79] rfl (by decide +kernel)
set_option maxRecDepth 20000 in
theorem gX5_fineSine_X5_none : GoodIn wsX5_fineSine (wsV RX5 51 RX5 yX5_none wsX5_none) := goodIn_app (goodIn_of _ (by decide +kernel)) ggX5_fineSine_X5_none
set_option maxRecDepth 20000 in
theorem ggX5_fineSine_X5_divideSmall : GoodIn wsX5_fineSine wsX5_divideSmall := goodIn_r _ [72, 2, 9, 10, 11, 12, 6, 13, 30, 31, 32, 33, 47, 48, 49, 50, 51, 52, 53, 54, 55, 43, 44, 45, 46, 14, 15, 16, 17, 18, 19, 20, 21, 8, 22, 23, 24, 25, 26, 27, 28, 29, 73, 74, 75, 76, 77, 78, 79] rfl (by decide +kernel)
set_option maxRecDepth 20000 in
theorem gX5_fineSine_X5_divideSmall : GoodIn wsX5_fineSine (wsV RX5 34 RX5 yX5_divideSmall wsX5_divideSmall) := goodIn_app (goodIn_of _ (by decide +kernel)) ggX5_fineSine_X5_divideSmall
set_option maxRecDepth 20000 in
theorem ggX5_fineSine_X5_copy : GoodIn wsX5_fineSine wsX5_copy := goodIn_r _ [25, 9, 2, 73, 74, 75, 76, 77, 78, 79] rfl (by decide +kernel)
set_option maxRecDepth 20000 in
theorem gX5_fineSine_X5_copy : GoodIn wsX5_fineSine (wsV RX5 67 RX5 yX5_copy wsX5_copy) := goodIn_app (goodIn_of _ (by decide +kernel)) ggX5_fineSine_X5_copy
theorem dX5_fineSine_0 : decode cX5_fineSine 0 = .ok (.aload_n 0, 1) := by decide +kernel
theorem dX5_fineSine_1 : decode cX5_fineSine 1 = .ok (.bipush 52, 2) := by decide +kernel
theorem dX5_fineSine_3 : decode cX5_fineSine 3 = .ok (.iload_n 2, 1) := by decide +kernel
theorem dX5_fineSine_4 : decode cX5_fineSine 4 = .ok (.iconst 1, 1) := by decide +kernel
theorem dX5_fineSine_5 : decode cX5_fineSine 5 = .ok (.invokevirtual 95, 3) := by decide +kernel
theorem dX5_fineSine_8 : decode cX5_fineSine 8 = .ok (.aload_n 0, 1) := by decide +kernel
theorem dX5_fineSine_9 : decode cX5_fineSine 9 = .ok (.bipush 52, 2) := by decide +kernel
theorem dX5_fineSine_11 : decode cX5_fineSine 11 = .ok (.bipush 52, 2) := by decide +kernel
theorem dX5_fineSine_13 : decode cX5_fineSine 13 = .ok (.bipush 26, 2) := by decide +kernel
theorem dX5_fineSine_15 : decode cX5_fineSine 15 = .ok (.invokevirtual 79, 3) := by decide +kernel
theorem dX5_fineSine_18 : decode cX5_fineSine 18 = .ok (.aload_n 0, 1) := by decide +kernel
theorem dX5_fineSine_19 : decode cX5_fineSine 19 = .ok (.bipush 53, 2) := by decide +kernel
theorem dX5_fineSine_21 : decode cX5_fineSine 21 = .ok (.bipush 26, 2) := by decide +kernel
theorem dX5_fineSine_23 : decode cX5_fineSine 23 = .ok (.iconst 1, 1) := by decide +kernel
theorem dX5_fineSine_24 : decode cX5_fineSine 24 = .ok (.invokevirtual 95, 3) := by decide +kernel
theorem dX5_fineSine_27 : decode cX5_fineSine 27 = .ok (.aload_n 0, 1) := by decide +kernel
theorem dX5_fineSine_28 : decode cX5_fineSine 28 = .ok (.bipush 54, 2) := by decide +kernel
theorem dX5_fineSine_30 : decode cX5_fineSine 30 = .ok (.bipush 52, 2) := by decide +kernel
theorem dX5_fineSine_32 : decode cX5_fineSine 32 = .ok (.bipush 53, 2) := by decide +kernel
theorem dX5_fineSine_34 : decode cX5_fineSine 34 = .ok (.invokevirtual 92, 3) := by decide +kernel
theorem dX5_fineSine_37 : decode cX5_fineSine 37 = .ok (.aload_n 0, 1) := by decide +kernel
theorem dX5_fineSine_38 : decode cX5_fineSine 38 = .ok (.bipush 54, 2) := by decide +kernel
theorem dX5_fineSine_40 : decode cX5_fineSine 40 = .ok (.iconst 0, 1) := by decide +kernel
theorem dX5_fineSine_41 : decode cX5_fineSine 41 = .ok (.invokevirtual 60, 3) := by decide +kernel
theorem dX5_fineSine_44 : decode cX5_fineSine 44 = .ok (.iconst 1, 1) := by decide +kernel
theorem dX5_fineSine_45 : decode cX5_fineSine 45 = .ok (.iand, 1) := by decide +kernel
theorem dX5_fineSine_46 : decode cX5_fineSine 46 = .ok (.iconst 1, 1) := by decide +kernel
theorem dX5_fineSine_47 : decode cX5_fineSine 47 = .ok (.if_icmp .ne 7, 3) := by decide +kernel
theorem dX5_fineSine_50 : decode cX5_fineSine 50 = .ok (.iconst 1, 1) := by decide +kernel
theorem dX5_fineSine_51 : decode cX5_fineSine 51 = .ok (.goto 4, 3) := by decide +kernel
theorem dX5_fineSine_54 : decode cX5_fineSine 54 = .ok (.iconst 0, 1) := by decide +kernel
theorem dX5_fineSine_55 : decode cX5_fineSine 55 = .ok (.istore_n 3, 1) := by decide +kernel
theorem dX5_fineSine_56 : decode cX5_fineSine 56 = .ok (.aload_n 0, 1) := by decide +kernel
theorem dX5_fineSine_57 : decode cX5_fineSine 57 = .ok (.bipush 55, 2) := by decide +kernel
theorem dX5_fineSine_59 : decode cX5_fineSine 59 = .ok (.bipush 54, 2) := by decide +kernel
theorem dX5_fineSine_61 : decode cX5_fineSine 61 = .ok (.bipush 26, 2) := by decide +kernel
theorem dX5_fineSine_63 : decode cX5_fineSine 63 = .ok (.invokevirtual 82, 3) := by decide +kernel
theorem dX5_fineSine_66 : decode cX5_fineSine 66 = .ok (.aload_n 0, 1) := by decide +kernel
theorem dX5_fineSine_67 : decode cX5_fineSine 67 = .ok (.bipush 55, 2) := by decide +kernel
theorem dX5_fineSine_69 : decode cX5_fineSine 69 = .ok (.iload_n 2, 1) := by decide +kernel
theorem dX5_fineSine_70 : decode cX5_fineSine 70 = .ok (.bipush 55, 2) := by decide +kernel
theorem dX5_fineSine_72 : decode cX5_fineSine 72 = .ok (.invokevirtual 45, 3) := by decide +kernel
theorem dX5_fineSine_75 : decode cX5_fineSine 75 = .ok (.aload_n 0, 1) := by decide +kernel
theorem dX5_fineSine_76 : decode cX5_fineSine 76 = .ok (.bipush 56, 2) := by decide +kernel
theorem dX5_fineSine_78 : decode cX5_fineSine 78 = .ok (.bipush 55, 2) := by decide +kernel
theorem dX5_fineSine_80 : decode cX5_fineSine 80 = .ok (.bipush 55, 2) := by decide +kernel
theorem dX5_fineSine_82 : decode cX5_fineSine 82 = .ok (.invokevirtual 82, 3) := by decide +kernel
theorem dX5_fineSine_85 : decode cX5_fineSine 85 = .ok (.aload_n 0, 1) := by decide +kernel
theorem dX5_fineSine_86 : decode cX5_fineSine 86 = .ok (.bipush 56, 2) := by decide +kernel
theorem dX5_fineSine_88 : decode cX5_fineSine 88 = .ok (.bipush 56, 2) := by decide +kernel
theorem dX5_fineSine_90 : decode cX5_fineSine 90 = .ok (.aload_n 0, 1) := by decide +kernel
theorem dX5_fineSine_91 : decode cX5_fineSine 91 = .ok (.getfield 27, 3) := by decide +kernel
theorem dX5_fineSine_94 : decode cX5_fineSine 94 = .ok (.invokevirtual 101, 3) := by decide +kernel
theorem dX5_fineSine_97 : decode cX5_fineSine 97 = .ok (.aload_n 0, 1) := by decide +kernel
theorem dX5_fineSine_98 : decode cX5_fineSine 98 = .ok (.bipush 57, 2) := by decide +kernel
theorem dX5_fineSine_100 : decode cX5_fineSine 100 = .ok (.invokevirtual 51, 3) := by decide +kernel
theorem dX5_fineSine_103 : decode cX5_fineSine 103 = .ok (.iconst 1, 1) := by decide +kernel
theorem dX5_fineSine_104 : decode cX5_fineSine 104 = .ok (.istore 4, 2) := by decide +kernel
theorem dX5_fineSine_106 : decode cX5_fineSine 106 = .ok (.aload_n 0, 1) := by decide +kernel
theorem dX5_fineSine_107 : decode cX5_fineSine 107 = .ok (.getfield 13, 3) := by decide +kernel
theorem dX5_fineSine_110 : decode cX5_fineSine 110 = .ok (.bipush 55, 2) := by decide +kernel
theorem dX5_fineSine_112 : decode cX5_fineSine 112 = .ok (.iaload, 1) := by decide +kernel
theorem dX5_fineSine_113 : decode cX5_fineSine 113 = .ok (.ifCond .eq 75, 3) := by decide +kernel
theorem dX5_fineSine_116 : decode cX5_fineSine 116 = .ok (.aload_n 0, 1) := by decide +kernel
theorem dX5_fineSine_117 : decode cX5_fineSine 117 = .ok (.bipush 57, 2) := by decide +kernel
theorem dX5_fineSine_119 : decode cX5_fineSine 119 = .ok (.bipush 57, 2) := by decide +kernel
theorem dX5_fineSine_121 : decode cX5_fineSine 121 = .ok (.bipush 55, 2) := by decide +kernel
theorem dX5_fineSine_123 : decode cX5_fineSine 123 = .ok (.invokevirtual 79, 3) := by decide +kernel
theorem dX5_fineSine_126 : decode cX5_fineSine 126 = .ok (.aload_n 0, 1) := by decide +kernel
theorem dX5_fineSine_127 : decode cX5_fineSine 127 = .ok (.bipush 52, 2) := by decide +kernel
theorem dX5_fineSine_129 : decode cX5_fineSine 129 = .ok (.bipush 55, 2) := by decide +kernel
theorem dX5_fineSine_131 : decode cX5_fineSine 131 = .ok (.bipush 56, 2) := by decide +kernel
theorem dX5_fineSine_133 : decode cX5_fineSine 133 = .ok (.invokevirtual 82, 3) := by decide +kernel
theorem dX5_fineSine_136 : decode cX5_fineSine 136 = .ok (.aload_n 0, 1) := by decide +kernel
theorem dX5_fineSine_137 : decode cX5_fineSine 137 = .ok (.bipush 52, 2) := by decide +kernel
theorem dX5_fineSine_139 : decode cX5_fineSine 139 = .ok (.bipush 52, 2) := by decide +kernel
theorem dX5_fineSine_141 : decode cX5_fineSine 141 = .ok (.aload_n 0, 1) := by decide +kernel
theorem dX5_fineSine_142 : decode cX5_fineSine 142 = .ok (.getfield 27, 3) := by decide +kernel
theorem dX5_fineSine_145 : decode cX5_fineSine 145 = .ok (.invokevirtual 101, 3) := by decide +kernel
theorem dX5_fineSine_148 : decode cX5_fineSine 148 = .ok (.aload_n 0, 1) := by decide +kernel
theorem dX5_fineSine_149 : decode cX5_fineSine 149 = .ok (.bipush 55, 2) := by decide +kernel
theorem dX5_fineSine_151 : decode cX5_fineSine 151 = .ok (.bipush 52, 2) := by decide +kernel
theorem dX5_fineSine_153 : decode cX5_fineSine 153 = .ok (.iconst 2, 1) := by decide +kernel
theorem dX5_fineSine_154 : decode cX5_fineSine 154 = .ok (.iload 4, 2) := by decide +kernel
theorem dX5_fineSine_156 : decode cX5_fineSine 156 = .ok (.imul, 1) := by decide +kernel
theorem dX5_fineSine_157 : decode cX5_fineSine 157 = .ok (.iconst 2, 1) := by decide +kernel
theorem dX5_fineSine_158 : decode cX5_fineSine 158 = .ok (.iload 4, 2) := by decide +kernel
theorem dX5_fineSine_160 : decode cX5_fineSine 160 = .ok (.imul, 1) := by decide +kernel
theorem dX5_fineSine_161 : decode cX5_fineSine 161 = .ok (.iconst 1, 1) := by decide +kernel
theorem dX5_fineSine_162 : decode cX5_fineSine 162 = .ok (.iadd, 1) := by decide +kernel
theorem dX5_fineSine_163 : decode cX5_fineSine 163 = .ok (.imul, 1) := by decide +kernel
theorem dX5_fineSine_164 : decode cX5_fineSine 164 = .ok (.invokevirtual 34, 3) := by decide +kernel
theorem dX5_fineSine_167 : decode cX5_fineSine 167 = .ok (.aload_n 0, 1) := by decide +kernel
theorem dX5_fineSine_168 : decode cX5_fineSine 168 = .ok (.getfield 13, 3) := by decide +kernel
theorem dX5_fineSine_171 : decode cX5_fineSine 171 = .ok (.bipush 55, 2) := by decide +kernel
theorem dX5_fineSine_173 : decode cX5_fineSine 173 = .ok (.aload_n 0, 1) := by decide +kernel
theorem dX5_fineSine_174 : decode cX5_fineSine 174 = .ok (.getfield 13, 3) := by decide +kernel
theorem dX5_fineSine_177 : decode cX5_fineSine 177 = .ok (.bipush 55, 2) := by decide +kernel
theorem dX5_fineSine_179 : decode cX5_fineSine 179 = .ok (.iaload, 1) := by decide +kernel
theorem dX5_fineSine_180 : decode cX5_fineSine 180 = .ok (.ineg, 1) := by decide +kernel
theorem dX5_fineSine_181 : decode cX5_fineSine 181 = .ok (.iastore, 1) := by decide +kernel
theorem dX5_fineSine_182 : decode cX5_fineSine 182 = .ok (.iinc 4 1, 3) := by decide +kernel
theorem dX5_fineSine_185 : decode cX5_fineSine 185 = .ok (.goto (-79), 3) := by decide +kernel
theorem dX5_fineSine_188 : decode cX5_fineSine 188 = .ok (.aload_n 0, 1) := by decide +kernel
theorem dX5_fineSine_189 : decode cX5_fineSine 189 = .ok (.getfield 13, 3) := by decide +kernel
theorem dX5_fineSine_192 : decode cX5_fineSine 192 = .ok (.bipush 57, 2) := by decide +kernel
theorem dX5_fineSine_194 : decode cX5_fineSine 194 = .ok (.iload_n 3, 1) := by decide +kernel
theorem dX5_fineSine_195 : decode cX5_fineSine 195 = .ok (.ifCond .eq 14, 3) := by decide +kernel
theorem dX5_fineSine_198 : decode cX5_fineSine 198 = .ok (.aload_n 0, 1) := by decide +kernel
theorem dX5_fineSine_199 : decode cX5_fineSine 199 = .ok (.getfield 13, 3) := by decide +kernel
theorem dX5_fineSine_202 : decode cX5_fineSine 202 = .ok (.bipush 57, 2) := by decide +kernel
theorem dX5_fineSine_204 : decode cX5_fineSine 204 = .ok (.iaload, 1) := by decide +kernel
theorem dX5_fineSine_205 : decode cX5_fineSine 205 = .ok (.ineg, 1) := by decide +kernel
theorem dX5_fineSine_206 : decode cX5_fineSine 206 = .ok (.goto 10, 3) := by decide +kernel
theorem dX5_fineSine_209 : decode cX5_fineSine 209 = .ok (.aload_n 0, 1) := by decide +kernel
theorem dX5_fineSine_210 : decode cX5_fineSine 210 = .ok (.getfield 13, 3) := by decide +kernel
theorem dX5_fineSine_213 : decode cX5_fineSine 213 = .ok (.bipush 57, 2) := by decide +kernel
theorem dX5_fineSine_215 : decode cX5_fineSine 215 = .ok (.iaload, 1) := by decide +kernel
theorem dX5_fineSine_216 : decode cX5_fineSine 216 = .ok (.iastore, 1) := by decide +kernel
theorem dX5_fineSine_217 : decode cX5_fineSine 217 = .ok (.aload_n 0, 1) := by decide +kernel
theorem dX5_fineSine_218 : decode cX5_fineSine 218 = .ok (.iload_n 1, 1) := by decide +kernel
theorem dX5_fineSine_219 : decode cX5_fineSine 219 = .ok (.bipush 57, 2) := by decide +kernel
theorem dX5_fineSine_221 : decode cX5_fineSine 221 = .ok (.invokevirtual 67, 3) := by decide +kernel
theorem dX5_fineSine_224 : decode cX5_fineSine 224 = .ok (.return_, 1) := by decide +kernel
theorem dX5_isPlace_0 : decode cX5_isPlace 0 = .ok (.iload_n 0, 1) := by decide +kernel
theorem dX5_isPlace_1 : decode cX5_isPlace 1 = .ok (.ifCond .lt 13, 3) := by decide +kernel
theorem dX5_isPlace_4 : decode cX5_isPlace 4 = .ok (.iload_n 0, 1) := by decide +kernel
theorem dX5_isPlace_5 : decode cX5_isPlace 5 = .ok (.bipush 12, 2) := by decide +kernel
theorem dX5_isPlace_7 : decode cX5_isPlace 7 = .ok (.if_icmp .ge 7, 3) := by decide +kernel
theorem dX5_isPlace_10 : decode cX5_isPlace 10 = .ok (.iconst 1, 1) := by decide +kernel
theorem dX5_isPlace_11 : decode cX5_isPlace 11 = .ok (.goto 4, 3) := by decide +kernel
theorem dX5_isPlace_14 : decode cX5_isPlace 14 = .ok (.iconst 0, 1) := by decide +kernel
theorem dX5_isPlace_15 : decode cX5_isPlace 15 = .ok (.ireturn, 1) := by decide +kernel
set_option maxRecDepth 20000 in
theorem ggX5_are_X5_isPlace : GoodIn wsX5_are wsX5_isPlace := goodIn_r _ [4] rfl (by decide +kernel)
set_option maxRecDepth 20000 in
theorem gX5_are_X5_isPlace : GoodIn wsX5_are (va_wsS RX5 111 yX5_isPlace wsX5_isPlace) := goodIn_app (goodIn_of _ (by decide +kernel)) ggX5_are_X5_isPlace
theorem dX5_are_0 : decode cX5_are 0 = .ok (.iload_n 0, 1) := by decide +kernel
theorem dX5_are_1 : decode cX5_are 1 = .ok (.invokestatic 111, 3) := by decide +kernel
theorem dX5_are_4 : decode cX5_are 4 = .ok (.ifCond .eq 21, 3) := by decide +kernel
theorem dX5_are_7 : decode cX5_are 7 = .ok (.iload_n 1, 1) := by decide +kernel
theorem dX5_are_8 : decode cX5_are 8 = .ok (.invokestatic 111, 3) := by decide +kernel
theorem dX5_are_11 : decode cX5_are 11 = .ok (.ifCond .eq 14, 3) := by decide +kernel
theorem dX5_are_14 : decode cX5_are 14 = .ok (.iload_n 2, 1) := by decide +kernel
theorem dX5_are_15 : decode cX5_are 15 = .ok (.invokestatic 111, 3) := by decide +kernel
theorem dX5_are_18 : decode cX5_are 18 = .ok (.ifCond .eq 7, 3) := by decide +kernel
theorem dX5_are_21 : decode cX5_are 21 = .ok (.iconst 1, 1) := by decide +kernel
theorem dX5_are_22 : decode cX5_are 22 = .ok (.goto 4, 3) := by decide +kernel
theorem dX5_are_25 : decode cX5_are 25 = .ok (.iconst 0, 1) := by decide +kernel
theorem dX5_are_26 : decode cX5_are 26 = .ok (.ireturn, 1) := by decide +kernel
set_option maxRecDepth 20000 in
theorem ggX5_ends_X5_minus : GoodIn wsX5_ends wsX5_minus := goodIn_r _ [5, 6, 7, 8, 4, 9, 10, 11, 12, 13, 14, 15, 16, 17, 18, 19, 20, 21, 22, 23, 24, 25, 26, 27, 28, 33, 34, 35, 36, 37, 38, 39] rfl (by decide +kernel)
set_option maxRecDepth 20000 in
theorem gX5_ends_X5_minus : GoodIn wsX5_ends (wsV RX5 45 RX5 yX5_minus wsX5_minus) := goodIn_app (goodIn_of _ (by decide +kernel)) ggX5_ends_X5_minus
set_option maxRecDepth 20000 in
theorem ggX5_ends_X5_plus : GoodIn wsX5_ends wsX5_plus := goodIn_r _ [32, 6, 7, 8, 4, 9, 10, 11, 12, 13, 14, 15, 16, 17, 18, 19, 20, 21, 22, 23, 24, 25, 26, 27, 28, 33, 34, 35, 36, 37, 38, 39] rfl (by decide +kernel)
set_option maxRecDepth 20000 in
theorem gX5_ends_X5_plus : GoodIn wsX5_ends (wsV RX5 79 RX5 yX5_plus wsX5_plus) := goodIn_app (goodIn_of _ (by decide +kernel)) ggX5_ends_X5_plus
theorem dX5_ends_0 : decode cX5_ends 0 = .ok (.aload_n 0, 1) := by decide +kernel
theorem dX5_ends_1 : decode cX5_ends 1 = .ok (.bipush 24, 2) := by decide +kernel
theorem dX5_ends_3 : decode cX5_ends 3 = .ok (.iload_n 1, 1) := by decide +kernel
theorem dX5_ends_4 : decode cX5_ends 4 = .ok (.bipush 12, 2) := by decide +kernel
theorem dX5_ends_6 : decode cX5_ends 6 = .ok (.iload_n 1, 1) := by decide +kernel
theorem dX5_ends_7 : decode cX5_ends 7 = .ok (.iadd, 1) := by decide +kernel
theorem dX5_ends_8 : decode cX5_ends 8 = .ok (.invokevirtual 45, 3) := by decide +kernel
theorem dX5_ends_11 : decode cX5_ends 11 = .ok (.aload_n 0, 1) := by decide +kernel
theorem dX5_ends_12 : decode cX5_ends 12 = .ok (.bipush 25, 2) := by decide +kernel
theorem dX5_ends_14 : decode cX5_ends 14 = .ok (.iload_n 1, 1) := by decide +kernel
theorem dX5_ends_15 : decode cX5_ends 15 = .ok (.bipush 12, 2) := by decide +kernel
theorem dX5_ends_17 : decode cX5_ends 17 = .ok (.iload_n 1, 1) := by decide +kernel
theorem dX5_ends_18 : decode cX5_ends 18 = .ok (.iadd, 1) := by decide +kernel
theorem dX5_ends_19 : decode cX5_ends 19 = .ok (.invokevirtual 79, 3) := by decide +kernel
theorem dX5_ends_22 : decode cX5_ends 22 = .ok (.return_, 1) := by decide +kernel
set_option maxRecDepth 20000 in
theorem ggX5_keep_X5_sizes : GoodIn wsX5_keep wsX5_sizes := goodIn_r _ [6, 7, 8, 9, 5, 10, 11, 16, 17, 18, 19, 20, 21, 22] rfl (by decide +kernel)
set_option maxRecDepth 20000 in
theorem gX5_keep_X5_sizes : GoodIn wsX5_keep (wsV RX5 64 RX5 yX5_sizes wsX5_sizes) := goodIn_app (goodIn_of _ (by decide +kernel)) ggX5_keep_X5_sizes
set_option maxRecDepth 20000 in
theorem ggX5_keep_X5_copy : GoodIn wsX5_keep wsX5_copy := goodIn_r _ [15, 11, 1, 16, 17, 18, 19, 20, 21, 22] rfl (by decide +kernel)
set_option maxRecDepth 20000 in
theorem gX5_keep_X5_copy : GoodIn wsX5_keep (wsV RX5 67 RX5 yX5_copy wsX5_copy) := goodIn_app (goodIn_of _ (by decide +kernel)) ggX5_keep_X5_copy
theorem dX5_keep_0 : decode cX5_keep 0 = .ok (.aload_n 0, 1) := by decide +kernel
theorem dX5_keep_1 : decode cX5_keep 1 = .ok (.bipush 33, 2) := by decide +kernel
theorem dX5_keep_3 : decode cX5_keep 3 = .ok (.bipush 28, 2) := by decide +kernel
theorem dX5_keep_5 : decode cX5_keep 5 = .ok (.invokevirtual 64, 3) := by decide +kernel
theorem dX5_keep_8 : decode cX5_keep 8 = .ok (.ifCond .gt 24, 3) := by decide +kernel
theorem dX5_keep_11 : decode cX5_keep 11 = .ok (.aload_n 0, 1) := by decide +kernel
theorem dX5_keep_12 : decode cX5_keep 12 = .ok (.bipush 34, 2) := by decide +kernel
theorem dX5_keep_14 : decode cX5_keep 14 = .ok (.bipush 28, 2) := by decide +kernel
theorem dX5_keep_16 : decode cX5_keep 16 = .ok (.invokevirtual 64, 3) := by decide +kernel
theorem dX5_keep_19 : decode cX5_keep 19 = .ok (.ifCond .gt 13, 3) := by decide +kernel
theorem dX5_keep_22 : decode cX5_keep 22 = .ok (.aload_n 0, 1) := by decide +kernel
theorem dX5_keep_23 : decode cX5_keep 23 = .ok (.getfield 13, 3) := by decide +kernel
theorem dX5_keep_26 : decode cX5_keep 26 = .ok (.bipush 34, 2) := by decide +kernel
theorem dX5_keep_28 : decode cX5_keep 28 = .ok (.iaload, 1) := by decide +kernel
theorem dX5_keep_29 : decode cX5_keep 29 = .ok (.ifCond .ge 5, 3) := by decide +kernel
theorem dX5_keep_32 : decode cX5_keep 32 = .ok (.iconst (-1), 1) := by decide +kernel
theorem dX5_keep_33 : decode cX5_keep 33 = .ok (.ireturn, 1) := by decide +kernel
theorem dX5_keep_34 : decode cX5_keep 34 = .ok (.aload_n 0, 1) := by decide +kernel
theorem dX5_keep_35 : decode cX5_keep 35 = .ok (.iload_n 1, 1) := by decide +kernel
theorem dX5_keep_36 : decode cX5_keep 36 = .ok (.bipush 33, 2) := by decide +kernel
theorem dX5_keep_38 : decode cX5_keep 38 = .ok (.invokevirtual 67, 3) := by decide +kernel
theorem dX5_keep_41 : decode cX5_keep 41 = .ok (.aload_n 0, 1) := by decide +kernel
theorem dX5_keep_42 : decode cX5_keep 42 = .ok (.bipush 12, 2) := by decide +kernel
theorem dX5_keep_44 : decode cX5_keep 44 = .ok (.iload_n 1, 1) := by decide +kernel
theorem dX5_keep_45 : decode cX5_keep 45 = .ok (.iadd, 1) := by decide +kernel
theorem dX5_keep_46 : decode cX5_keep 46 = .ok (.bipush 34, 2) := by decide +kernel
theorem dX5_keep_48 : decode cX5_keep 48 = .ok (.invokevirtual 67, 3) := by decide +kernel
theorem dX5_keep_51 : decode cX5_keep 51 = .ok (.iconst 1, 1) := by decide +kernel
theorem dX5_keep_52 : decode cX5_keep 52 = .ok (.ireturn, 1) := by decide +kernel
set_option maxRecDepth 20000 in
theorem ggX5_keepEnds_X5_plus : GoodIn wsX5_keepEnds wsX5_plus := goodIn_r _ [5, 6, 7, 8, 4, 9, 10, 11, 12, 13, 14, 15, 16, 17, 18, 19, 20, 21, 22, 23, 24, 25, 26, 27, 28, 54, 55, 56, 57, 58, 59, 60] rfl (by decide +kernel)
set_option maxRecDepth 20000 in
theorem gX5_keepEnds_X5_plus : GoodIn wsX5_keepEnds (wsV RX5 79 RX5 yX5_plus wsX5_plus) := goodIn_app (goodIn_of _ (by decide +kernel)) ggX5_keepEnds_X5_plus
set_option maxRecDepth 20000 in
theorem ggX5_keepEnds_X5_down : GoodIn wsX5_keepEnds wsX5_down := goodIn_r _ [32, 10, 12, 11, 21, 22, 23, 4, 24, 25, 26, 27, 28, 33, 34, 35, 36, 37, 38, 39, 40, 41, 42, 43, 44, 45, 1, 2, 3, 5, 6, 7, 8, 9, 13, 14, 15, 16, 17, 18, 19, 20, 54, 55, 56, 57, 58, 59, 60] rfl (by decide +kernel)
set_option maxRecDepth 20000 in
theorem gX5_keepEnds_X5_down : GoodIn wsX5_keepEnds (wsV RX5 101 RX5 yX5_down wsX5_down) := goodIn_app (goodIn_of _ (by decide +kernel)) ggX5_keepEnds_X5_down
set_option maxRecDepth 20000 in
theorem ggX5_keepEnds_X5_minus : GoodIn wsX5_keepEnds wsX5_minus := goodIn_r _ [49, 6, 7, 8, 4, 9, 10, 11, 12, 13, 14, 15, 16, 17, 18, 19, 20, 21, 22, 23, 24, 25, 26, 27, 28, 54, 55, 56, 57, 58, 59, 60] rfl (by decide +kernel)
set_option maxRecDepth 20000 in
theorem gX5_keepEnds_X5_minus : GoodIn wsX5_keepEnds (wsV RX5 45 RX5 yX5_minus wsX5_minus) := goodIn_app (goodIn_of _ (by decide +kernel)) ggX5_keepEnds_X5_minus
set_option maxRecDepth 20000 in
theorem ggX5_keepEnds_X5_keep : GoodIn wsX5_keepEnds wsX5_keep := goodIn_r _ [53, 10, 17, 18, 19, 4, 20, 21, 22, 23, 24, 11, 13, 14, 15, 16, 54, 55, 56, 57, 58, 59, 60] rfl (by decide +kernel)
set_option maxRecDepth 20000 in
theorem gX5_keepEnds_X5_keep : GoodIn wsX5_keepEnds (wsV RX5 114 RX5 yX5_keep wsX5_keep) := goodIn_app (goodIn_of _ (by decide +kernel)) ggX5_keepEnds_X5_keep
theorem dX5_keepEnds_0 : decode cX5_keepEnds 0 = .ok (.aload_n 0, 1) := by decide +kernel
theorem dX5_keepEnds_1 : decode cX5_keepEnds 1 = .ok (.bipush 33, 2) := by decide +kernel
theorem dX5_keepEnds_3 : decode cX5_keepEnds 3 = .ok (.iload_n 2, 1) := by decide +kernel
theorem dX5_keepEnds_4 : decode cX5_keepEnds 4 = .ok (.iload_n 3, 1) := by decide +kernel
theorem dX5_keepEnds_5 : decode cX5_keepEnds 5 = .ok (.invokevirtual 79, 3) := by decide +kernel
theorem dX5_keepEnds_8 : decode cX5_keepEnds 8 = .ok (.aload_n 0, 1) := by decide +kernel
theorem dX5_keepEnds_9 : decode cX5_keepEnds 9 = .ok (.bipush 33, 2) := by decide +kernel
theorem dX5_keepEnds_11 : decode cX5_keepEnds 11 = .ok (.bipush 33, 2) := by decide +kernel
theorem dX5_keepEnds_13 : decode cX5_keepEnds 13 = .ok (.iconst 1, 1) := by decide +kernel
theorem dX5_keepEnds_14 : decode cX5_keepEnds 14 = .ok (.invokevirtual 101, 3) := by decide +kernel
theorem dX5_keepEnds_17 : decode cX5_keepEnds 17 = .ok (.aload_n 0, 1) := by decide +kernel
theorem dX5_keepEnds_18 : decode cX5_keepEnds 18 = .ok (.bipush 34, 2) := by decide +kernel
theorem dX5_keepEnds_20 : decode cX5_keepEnds 20 = .ok (.iload_n 3, 1) := by decide +kernel
theorem dX5_keepEnds_21 : decode cX5_keepEnds 21 = .ok (.bipush 33, 2) := by decide +kernel
theorem dX5_keepEnds_23 : decode cX5_keepEnds 23 = .ok (.invokevirtual 45, 3) := by decide +kernel
theorem dX5_keepEnds_26 : decode cX5_keepEnds 26 = .ok (.aload_n 0, 1) := by decide +kernel
theorem dX5_keepEnds_27 : decode cX5_keepEnds 27 = .ok (.iload_n 1, 1) := by decide +kernel
theorem dX5_keepEnds_28 : decode cX5_keepEnds 28 = .ok (.invokevirtual 114, 3) := by decide +kernel
theorem dX5_keepEnds_31 : decode cX5_keepEnds 31 = .ok (.ireturn, 1) := by decide +kernel
set_option maxRecDepth 20000 in
theorem ggX5_set_X5_isPlace : GoodIn wsX5_set wsX5_isPlace := goodIn_r _ [6] rfl (by decide +kernel)
set_option maxRecDepth 20000 in
theorem gX5_set_X5_isPlace : GoodIn wsX5_set (va_wsS RX5 111 yX5_isPlace wsX5_isPlace) := goodIn_app (goodIn_of _ (by decide +kernel)) ggX5_set_X5_isPlace
set_option maxRecDepth 20000 in
theorem ggX5_set_X5_put : GoodIn wsX5_set wsX5_put := goodIn_r _ [10, 11, 12, 13, 14, 15, 5, 16, 17, 18, 19, 20, 21, 73, 74, 75, 76, 77, 78, 79] rfl (by decide +kernel)
set_option maxRecDepth 20000 in
theorem gX5_set_X5_put : GoodIn wsX5_set (wsV RX5 75 RX5 yX5_put wsX5_put) := goodIn_app (goodIn_of _ (by decide +kernel)) ggX5_set_X5_put
set_option maxRecDepth 20000 in
theorem ggX5_set_X5_up : GoodIn wsX5_set wsX5_up := goodIn_r _ [25, 17, 26, 11, 27, 28, 29, 5, 30, 73, 74, 75, 76, 77, 78, 79] rfl (by decide +kernel)
set_option maxRecDepth 20000 in
theorem gX5_set_X5_up : GoodIn wsX5_set (wsV RX5 95 RX5 yX5_up wsX5_up) := goodIn_app (goodIn_of _ (by decide +kernel)) ggX5_set_X5_up
set_option maxRecDepth 20000 in
theorem ggX5_set_X5_divide : GoodIn wsX5_set wsX5_divide := goodIn_r _ [34, 35, 26, 11, 17, 36, 37, 38, 5, 39, 27, 28, 29, 30, 13, 14, 15, 16, 18, 19, 20, 21, 40, 41, 42, 43, 7, 8, 9, 10, 12, 44, 45, 46, 47, 48, 49, 50, 51, 52, 53, 54, 55, 56, 57, 58, 59, 73, 74, 75, 76, 77, 78, 79] rfl (by decide +kernel)
set_option maxRecDepth 20000 in
theorem gX5_set_X5_divide : GoodIn wsX5_set (wsV RX5 92 RX5 yX5_divide wsX5_divide) := goodIn_app (goodIn_of _ (by decide +kernel)) ggX5_set_X5_divide
set_option maxRecDepth 20000 in
theorem ggX5_set_X5_product : GoodIn wsX5_set wsX5_product := goodIn_r _ [63, 64, 17, 11, 12, 27, 28, 29, 5, 30, 18, 19, 20, 21, 73, 74, 75, 76, 77, 78, 79] rfl (by decide +kernel)
set_option maxRecDepth 20000 in
theorem gX5_set_X5_product : GoodIn wsX5_set (wsV RX5 82 RX5 yX5_product wsX5_product) := goodIn_app (goodIn_of _ (by decide +kernel)) ggX5_set_X5_product
set_option maxRecDepth 20000 in
theorem ggX5_set_X5_compare : GoodIn wsX5_set wsX5_compare := goodIn_r _ [68, 17, 56, 57, 58, 5, 59, 27, 28, 29, 30, 11, 73, 74, 75, 76, 77, 78, 79] rfl (by decide +kernel)
set_option maxRecDepth 20000 in
theorem gX5_set_X5_compare : GoodIn wsX5_set (wsV RX5 98 RX5 yX5_compare wsX5_compare) := goodIn_app (goodIn_of _ (by decide +kernel)) ggX5_set_X5_compare
set_option maxRecDepth 20000 in
theorem ggX5_set_X5_keep : GoodIn wsX5_set wsX5_keep := goodIn_r _ [72, 17, 56, 57, 58, 5, 59, 27, 28, 29, 30, 11, 52, 53, 54, 55, 73, 74, 75, 76, 77, 78, 79] rfl (by decide +kernel)
set_option maxRecDepth 20000 in
theorem gX5_set_X5_keep : GoodIn wsX5_set (wsV RX5 114 RX5 yX5_keep wsX5_keep) := goodIn_app (goodIn_of _ (by decide +kernel)) ggX5_set_X5_keep
theorem dX5_set_0 : decode cX5_set 0 = .ok (.aload_n 0, 1) := by decide +kernel
theorem dX5_set_1 : decode cX5_set 1 = .ok (.iconst 0, 1) := by decide +kernel
theorem dX5_set_2 : decode cX5_set 2 = .ok (.putfield 48, 3) := by decide +kernel
theorem dX5_set_5 : decode cX5_set 5 = .ok (.iload_n 1, 1) := by decide +kernel
theorem dX5_set_6 : decode cX5_set 6 = .ok (.invokestatic 111, 3) := by decide +kernel
theorem dX5_set_9 : decode cX5_set 9 = .ok (.ifCond .eq 10, 3) := by decide +kernel
theorem dX5_set_12 : decode cX5_set 12 = .ok (.lload 4, 2) := by decide +kernel
theorem dX5_set_14 : decode cX5_set 14 = .ok (.lconst 0, 1) := by decide +kernel
theorem dX5_set_15 : decode cX5_set 15 = .ok (.lcmp, 1) := by decide +kernel
theorem dX5_set_16 : decode cX5_set 16 = .ok (.ifCond .gt 5, 3) := by decide +kernel
theorem dX5_set_19 : decode cX5_set 19 = .ok (.iconst (-1), 1) := by decide +kernel
theorem dX5_set_20 : decode cX5_set 20 = .ok (.ireturn, 1) := by decide +kernel
theorem dX5_set_21 : decode cX5_set 21 = .ok (.aload_n 0, 1) := by decide +kernel
theorem dX5_set_22 : decode cX5_set 22 = .ok (.bipush 29, 2) := by decide +kernel
theorem dX5_set_24 : decode cX5_set 24 = .ok (.lload_n 2, 1) := by decide +kernel
theorem dX5_set_25 : decode cX5_set 25 = .ok (.invokevirtual 75, 3) := by decide +kernel
theorem dX5_set_28 : decode cX5_set 28 = .ok (.aload_n 0, 1) := by decide +kernel
theorem dX5_set_29 : decode cX5_set 29 = .ok (.bipush 29, 2) := by decide +kernel
theorem dX5_set_31 : decode cX5_set 31 = .ok (.bipush 29, 2) := by decide +kernel
theorem dX5_set_33 : decode cX5_set 33 = .ok (.aload_n 0, 1) := by decide +kernel
theorem dX5_set_34 : decode cX5_set 34 = .ok (.getfield 23, 3) := by decide +kernel
theorem dX5_set_37 : decode cX5_set 37 = .ok (.invokevirtual 95, 3) := by decide +kernel
theorem dX5_set_40 : decode cX5_set 40 = .ok (.aload_n 0, 1) := by decide +kernel
theorem dX5_set_41 : decode cX5_set 41 = .ok (.bipush 30, 2) := by decide +kernel
theorem dX5_set_43 : decode cX5_set 43 = .ok (.lload 4, 2) := by decide +kernel
theorem dX5_set_45 : decode cX5_set 45 = .ok (.invokevirtual 75, 3) := by decide +kernel
theorem dX5_set_48 : decode cX5_set 48 = .ok (.aload_n 0, 1) := by decide +kernel
theorem dX5_set_49 : decode cX5_set 49 = .ok (.bipush 33, 2) := by decide +kernel
theorem dX5_set_51 : decode cX5_set 51 = .ok (.bipush 29, 2) := by decide +kernel
theorem dX5_set_53 : decode cX5_set 53 = .ok (.bipush 30, 2) := by decide +kernel
theorem dX5_set_55 : decode cX5_set 55 = .ok (.invokevirtual 92, 3) := by decide +kernel
theorem dX5_set_58 : decode cX5_set 58 = .ok (.aload_n 0, 1) := by decide +kernel
theorem dX5_set_59 : decode cX5_set 59 = .ok (.bipush 31, 2) := by decide +kernel
theorem dX5_set_61 : decode cX5_set 61 = .ok (.bipush 33, 2) := by decide +kernel
theorem dX5_set_63 : decode cX5_set 63 = .ok (.bipush 30, 2) := by decide +kernel
theorem dX5_set_65 : decode cX5_set 65 = .ok (.invokevirtual 82, 3) := by decide +kernel
theorem dX5_set_68 : decode cX5_set 68 = .ok (.aload_n 0, 1) := by decide +kernel
theorem dX5_set_69 : decode cX5_set 69 = .ok (.bipush 34, 2) := by decide +kernel
theorem dX5_set_71 : decode cX5_set 71 = .ok (.aload_n 0, 1) := by decide +kernel
theorem dX5_set_72 : decode cX5_set 72 = .ok (.bipush 31, 2) := by decide +kernel
theorem dX5_set_74 : decode cX5_set 74 = .ok (.bipush 29, 2) := by decide +kernel
theorem dX5_set_76 : decode cX5_set 76 = .ok (.invokevirtual 98, 3) := by decide +kernel
theorem dX5_set_79 : decode cX5_set 79 = .ok (.ifCond .ne 7, 3) := by decide +kernel
theorem dX5_set_82 : decode cX5_set 82 = .ok (.lconst 0, 1) := by decide +kernel
theorem dX5_set_83 : decode cX5_set 83 = .ok (.goto 4, 3) := by decide +kernel
theorem dX5_set_86 : decode cX5_set 86 = .ok (.lconst 1, 1) := by decide +kernel
theorem dX5_set_87 : decode cX5_set 87 = .ok (.invokevirtual 75, 3) := by decide +kernel
theorem dX5_set_90 : decode cX5_set 90 = .ok (.aload_n 0, 1) := by decide +kernel
theorem dX5_set_91 : decode cX5_set 91 = .ok (.iload_n 1, 1) := by decide +kernel
theorem dX5_set_92 : decode cX5_set 92 = .ok (.invokevirtual 114, 3) := by decide +kernel
theorem dX5_set_95 : decode cX5_set 95 = .ok (.ireturn, 1) := by decide +kernel
set_option maxRecDepth 20000 in
theorem ggX5_sums_X5_are : GoodIn wsX5_sums wsX5_are := goodIn_r _ [5, 6, 7, 4, 8] rfl (by decide +kernel)
set_option maxRecDepth 20000 in
theorem gX5_sums_X5_are : GoodIn wsX5_sums (va_wsS RX5 117 yX5_are wsX5_are) := goodIn_app (goodIn_of _ (by decide +kernel)) ggX5_sums_X5_are
set_option maxRecDepth 20000 in
theorem ggX5_sums_X5_sum : GoodIn wsX5_sums wsX5_sum := goodIn_r _ [12, 13, 14, 15, 16, 17, 18, 4, 19, 20, 21, 22, 23, 24, 25, 26, 27, 28, 29, 30, 31, 40, 41, 42, 43, 44, 45, 46] rfl (by decide +kernel)
set_option maxRecDepth 20000 in
theorem gX5_sums_X5_sum : GoodIn wsX5_sums (wsV RX5 71 RX5 yX5_sum wsX5_sum) := goodIn_app (goodIn_of _ (by decide +kernel)) ggX5_sums_X5_sum
set_option maxRecDepth 20000 in
theorem ggX5_sums_X5_plus : GoodIn wsX5_sums wsX5_plus := goodIn_r _ [35, 9, 10, 11, 4, 12, 13, 14, 15, 16, 17, 18, 19, 20, 21, 22, 23, 24, 25, 26, 27, 28, 29, 30, 31, 40, 41, 42, 43, 44, 45, 46] rfl (by decide +kernel)
set_option maxRecDepth 20000 in
theorem gX5_sums_X5_plus : GoodIn wsX5_sums (wsV RX5 79 RX5 yX5_plus wsX5_plus) := goodIn_app (goodIn_of _ (by decide +kernel)) ggX5_sums_X5_plus
set_option maxRecDepth 20000 in
theorem ggX5_sums_X5_keep : GoodIn wsX5_sums wsX5_keep := goodIn_r _ [39, 13, 20, 21, 22, 4, 23, 24, 25, 26, 27, 14, 16, 17, 18, 19, 40, 41, 42, 43, 44, 45, 46] rfl (by decide +kernel)
set_option maxRecDepth 20000 in
theorem gX5_sums_X5_keep : GoodIn wsX5_sums (wsV RX5 114 RX5 yX5_keep wsX5_keep) := goodIn_app (goodIn_of _ (by decide +kernel)) ggX5_sums_X5_keep
theorem dX5_sums_0 : decode cX5_sums 0 = .ok (.aload_n 0, 1) := by decide +kernel
theorem dX5_sums_1 : decode cX5_sums 1 = .ok (.iconst 0, 1) := by decide +kernel
theorem dX5_sums_2 : decode cX5_sums 2 = .ok (.putfield 48, 3) := by decide +kernel
theorem dX5_sums_5 : decode cX5_sums 5 = .ok (.iload_n 1, 1) := by decide +kernel
theorem dX5_sums_6 : decode cX5_sums 6 = .ok (.iload_n 2, 1) := by decide +kernel
theorem dX5_sums_7 : decode cX5_sums 7 = .ok (.iload_n 3, 1) := by decide +kernel
theorem dX5_sums_8 : decode cX5_sums 8 = .ok (.invokestatic 117, 3) := by decide +kernel
theorem dX5_sums_11 : decode cX5_sums 11 = .ok (.ifCond .ne 5, 3) := by decide +kernel
theorem dX5_sums_14 : decode cX5_sums 14 = .ok (.iconst (-1), 1) := by decide +kernel
theorem dX5_sums_15 : decode cX5_sums 15 = .ok (.ireturn, 1) := by decide +kernel
theorem dX5_sums_16 : decode cX5_sums 16 = .ok (.aload_n 0, 1) := by decide +kernel
theorem dX5_sums_17 : decode cX5_sums 17 = .ok (.bipush 33, 2) := by decide +kernel
theorem dX5_sums_19 : decode cX5_sums 19 = .ok (.iload_n 2, 1) := by decide +kernel
theorem dX5_sums_20 : decode cX5_sums 20 = .ok (.iload_n 3, 1) := by decide +kernel
theorem dX5_sums_21 : decode cX5_sums 21 = .ok (.iload 4, 2) := by decide +kernel
theorem dX5_sums_23 : decode cX5_sums 23 = .ok (.invokevirtual 71, 3) := by decide +kernel
theorem dX5_sums_26 : decode cX5_sums 26 = .ok (.aload_n 0, 1) := by decide +kernel
theorem dX5_sums_27 : decode cX5_sums 27 = .ok (.bipush 34, 2) := by decide +kernel
theorem dX5_sums_29 : decode cX5_sums 29 = .ok (.bipush 12, 2) := by decide +kernel
theorem dX5_sums_31 : decode cX5_sums 31 = .ok (.iload_n 2, 1) := by decide +kernel
theorem dX5_sums_32 : decode cX5_sums 32 = .ok (.iadd, 1) := by decide +kernel
theorem dX5_sums_33 : decode cX5_sums 33 = .ok (.bipush 12, 2) := by decide +kernel
theorem dX5_sums_35 : decode cX5_sums 35 = .ok (.iload_n 3, 1) := by decide +kernel
theorem dX5_sums_36 : decode cX5_sums 36 = .ok (.iadd, 1) := by decide +kernel
theorem dX5_sums_37 : decode cX5_sums 37 = .ok (.invokevirtual 79, 3) := by decide +kernel
theorem dX5_sums_40 : decode cX5_sums 40 = .ok (.aload_n 0, 1) := by decide +kernel
theorem dX5_sums_41 : decode cX5_sums 41 = .ok (.iload_n 1, 1) := by decide +kernel
theorem dX5_sums_42 : decode cX5_sums 42 = .ok (.invokevirtual 114, 3) := by decide +kernel
theorem dX5_sums_45 : decode cX5_sums 45 = .ok (.ireturn, 1) := by decide +kernel
set_option maxRecDepth 20000 in
theorem ggX5_add_X5_sums : GoodIn wsX5_add wsX5_sums := goodIn_r _ [5, 6, 7, 8, 4, 9, 10, 11, 12, 13, 14, 15, 16, 17, 18, 19, 20, 21, 22, 23, 24, 25, 26, 27, 28, 29, 30, 31, 32, 33, 34, 35, 36, 37, 38, 39, 40, 41, 42, 43, 44, 45, 46, 47, 48, 49, 50] rfl (by decide +kernel)
set_option maxRecDepth 20000 in
theorem gX5_add_X5_sums : GoodIn wsX5_add (wsV RX5 121 RX5 yX5_sums wsX5_sums) := goodIn_app (goodIn_of _ (by decide +kernel)) ggX5_add_X5_sums
theorem dX5_add_0 : decode cX5_add 0 = .ok (.aload_n 0, 1) := by decide +kernel
theorem dX5_add_1 : decode cX5_add 1 = .ok (.iload_n 1, 1) := by decide +kernel
theorem dX5_add_2 : decode cX5_add 2 = .ok (.iload_n 2, 1) := by decide +kernel
theorem dX5_add_3 : decode cX5_add 3 = .ok (.iload_n 3, 1) := by decide +kernel
theorem dX5_add_4 : decode cX5_add 4 = .ok (.iconst 1, 1) := by decide +kernel
theorem dX5_add_5 : decode cX5_add 5 = .ok (.invokevirtual 121, 3) := by decide +kernel
theorem dX5_add_8 : decode cX5_add 8 = .ok (.ireturn, 1) := by decide +kernel
set_option maxRecDepth 20000 in
theorem ggX5_take_X5_sums : GoodIn wsX5_take wsX5_sums := goodIn_r _ [5, 6, 7, 8, 4, 9, 10, 11, 12, 13, 14, 15, 16, 17, 18, 19, 20, 21, 22, 23, 24, 25, 26, 27, 28, 29, 30, 31, 32, 33, 34, 35, 36, 37, 38, 39, 40, 41, 42, 43, 44, 45, 46, 47, 48, 49, 50] rfl (by decide +kernel)
set_option maxRecDepth 20000 in
theorem gX5_take_X5_sums : GoodIn wsX5_take (wsV RX5 121 RX5 yX5_sums wsX5_sums) := goodIn_app (goodIn_of _ (by decide +kernel)) ggX5_take_X5_sums
theorem dX5_take_0 : decode cX5_take 0 = .ok (.aload_n 0, 1) := by decide +kernel
theorem dX5_take_1 : decode cX5_take 1 = .ok (.iload_n 1, 1) := by decide +kernel
theorem dX5_take_2 : decode cX5_take 2 = .ok (.iload_n 2, 1) := by decide +kernel
theorem dX5_take_3 : decode cX5_take 3 = .ok (.iload_n 3, 1) := by decide +kernel
theorem dX5_take_4 : decode cX5_take 4 = .ok (.iconst (-1), 1) := by decide +kernel
theorem dX5_take_5 : decode cX5_take 5 = .ok (.invokevirtual 121, 3) := by decide +kernel
theorem dX5_take_8 : decode cX5_take 8 = .ok (.ireturn, 1) := by decide +kernel
set_option maxRecDepth 20000 in
theorem ggX5_size_X5_copy : GoodIn wsX5_size wsX5_copy := goodIn_r _ [6, 7, 1, 8, 9, 10, 11, 12, 13, 14] rfl (by decide +kernel)
set_option maxRecDepth 20000 in
theorem gX5_size_X5_copy : GoodIn wsX5_size (wsV RX5 67 RX5 yX5_copy wsX5_copy) := goodIn_app (goodIn_of _ (by decide +kernel)) ggX5_size_X5_copy
theorem dX5_size_0 : decode cX5_size 0 = .ok (.aload_n 0, 1) := by decide +kernel
theorem dX5_size_1 : decode cX5_size 1 = .ok (.iload_n 1, 1) := by decide +kernel
theorem dX5_size_2 : decode cX5_size 2 = .ok (.iload_n 2, 1) := by decide +kernel
theorem dX5_size_3 : decode cX5_size 3 = .ok (.invokevirtual 67, 3) := by decide +kernel
theorem dX5_size_6 : decode cX5_size 6 = .ok (.aload_n 0, 1) := by decide +kernel
theorem dX5_size_7 : decode cX5_size 7 = .ok (.getfield 13, 3) := by decide +kernel
theorem dX5_size_10 : decode cX5_size 10 = .ok (.iload_n 1, 1) := by decide +kernel
theorem dX5_size_11 : decode cX5_size 11 = .ok (.aload_n 0, 1) := by decide +kernel
theorem dX5_size_12 : decode cX5_size 12 = .ok (.getfield 13, 3) := by decide +kernel
theorem dX5_size_15 : decode cX5_size 15 = .ok (.iload_n 2, 1) := by decide +kernel
theorem dX5_size_16 : decode cX5_size 16 = .ok (.iaload, 1) := by decide +kernel
theorem dX5_size_17 : decode cX5_size 17 = .ok (.ifCond .ne 7, 3) := by decide +kernel
theorem dX5_size_20 : decode cX5_size 20 = .ok (.iconst 0, 1) := by decide +kernel
theorem dX5_size_21 : decode cX5_size 21 = .ok (.goto 4, 3) := by decide +kernel
theorem dX5_size_24 : decode cX5_size 24 = .ok (.iconst 1, 1) := by decide +kernel
theorem dX5_size_25 : decode cX5_size 25 = .ok (.iastore, 1) := by decide +kernel
theorem dX5_size_26 : decode cX5_size 26 = .ok (.return_, 1) := by decide +kernel
set_option maxRecDepth 20000 in
theorem ggX5_times_X5_are : GoodIn wsX5_times wsX5_are := goodIn_r _ [6, 7, 8, 5, 9] rfl (by decide +kernel)
set_option maxRecDepth 20000 in
theorem gX5_times_X5_are : GoodIn wsX5_times (va_wsS RX5 117 yX5_are wsX5_are) := goodIn_app (goodIn_of _ (by decide +kernel)) ggX5_times_X5_are
set_option maxRecDepth 20000 in
theorem ggX5_times_X5_product : GoodIn wsX5_times wsX5_product := goodIn_r _ [13, 14, 15, 16, 17, 18, 19, 20, 5, 21, 22, 23, 24, 25, 84, 85, 86, 87, 88, 89, 90] rfl (by decide +kernel)
set_option maxRecDepth 20000 in
theorem gX5_times_X5_product : GoodIn wsX5_times (wsV RX5 82 RX5 yX5_product wsX5_product) := goodIn_app (goodIn_of _ (by decide +kernel)) ggX5_times_X5_product
set_option maxRecDepth 20000 in
theorem ggX5_times_X5_down : GoodIn wsX5_times wsX5_down := goodIn_r _ [29, 15, 30, 16, 18, 19, 20, 5, 21, 22, 23, 24, 25, 31, 32, 33, 34, 35, 36, 37, 38, 17, 39, 40, 41, 42, 43, 44, 45, 46, 47, 48, 49, 50, 51, 52, 53, 54, 55, 56, 57, 58, 84, 85, 86, 87, 88, 89, 90] rfl (by decide +kernel)
set_option maxRecDepth 20000 in
theorem gX5_times_X5_down : GoodIn wsX5_times (wsV RX5 101 RX5 yX5_down wsX5_down) := goodIn_app (goodIn_of _ (by decide +kernel)) ggX5_times_X5_down
set_option maxRecDepth 20000 in
theorem ggX5_times_X5_size : GoodIn wsX5_times wsX5_size := goodIn_r _ [62, 15, 51, 52, 53, 5, 54, 16, 84, 85, 86, 87, 88, 89, 90] rfl (by decide +kernel)
set_option maxRecDepth 20000 in
theorem gX5_times_X5_size : GoodIn wsX5_times (wsV RX5 124 RX5 yX5_size wsX5_size) := goodIn_app (goodIn_of _ (by decide +kernel)) ggX5_times_X5_size
set_option maxRecDepth 20000 in
theorem ggX5_times_X5_plus : GoodIn wsX5_times wsX5_plus := goodIn_r _ [46, 47, 48, 49, 5, 50, 15, 16, 30, 51, 52, 53, 54, 55, 56, 57, 58, 18, 19, 20, 21, 22, 23, 24, 25, 84, 85, 86, 87, 88, 89, 90] rfl (by decide +kernel)
set_option maxRecDepth 20000 in
theorem gX5_times_X5_plus : GoodIn wsX5_times (wsV RX5 79 RX5 yX5_plus wsX5_plus) := goodIn_app (goodIn_of _ (by decide +kernel)) ggX5_times_X5_plus
set_option maxRecDepth 20000 in
theorem ggX5_times_X5_power : GoodIn wsX5_times wsX5_power := goodIn_r _ [66, 16, 15, 39, 40, 41, 5, 42, 84, 85, 86, 87, 88, 89, 90] rfl (by decide +kernel)
set_option maxRecDepth 20000 in
theorem gX5_times_X5_power : GoodIn wsX5_times (wsV RX5 30 RX5 yX5_power wsX5_power) := goodIn_app (goodIn_of _ (by decide +kernel)) ggX5_times_X5_power
set_option maxRecDepth 20000 in
theorem ggX5_times_X5_divideUp : GoodIn wsX5_times wsX5_divideUp := goodIn_r _ [70, 15, 71, 72, 73, 5, 74, 75, 30, 16, 76, 77, 78, 79, 18, 19, 20, 21, 39, 40, 41, 42, 22, 23, 24, 25, 31, 32, 33, 34, 35, 36, 37, 38, 17, 43, 44, 45, 46, 47, 48, 49, 50, 51, 52, 53, 54, 55, 56, 57, 58, 84, 85, 86, 87, 88, 89, 90] rfl (by decide +kernel)
set_option maxRecDepth 20000 in
theorem gX5_times_X5_divideUp : GoodIn wsX5_times (wsV RX5 127 RX5 yX5_divideUp wsX5_divideUp) := goodIn_app (goodIn_of _ (by decide +kernel)) ggX5_times_X5_divideUp
set_option maxRecDepth 20000 in
theorem ggX5_times_X5_addSmall : GoodIn wsX5_times wsX5_addSmall := goodIn_r _ [34, 35, 36, 37, 5, 38, 16, 17, 39, 40, 41, 42, 15, 22, 23, 24, 25, 43, 44, 45, 46, 47, 48, 49, 50, 30, 51, 52, 53, 54, 55, 56, 57, 58, 18, 19, 20, 21, 84, 85, 86, 87, 88, 89, 90] rfl (by decide +kernel)
set_option maxRecDepth 20000 in
theorem gX5_times_X5_addSmall : GoodIn wsX5_times (wsV RX5 85 RX5 yX5_addSmall wsX5_addSmall) := goodIn_app (goodIn_of _ (by decide +kernel)) ggX5_times_X5_addSmall
set_option maxRecDepth 20000 in
theorem ggX5_times_X5_keep : GoodIn wsX5_times wsX5_keep := goodIn_r _ [83, 15, 55, 56, 57, 5, 58, 18, 19, 20, 21, 16, 51, 52, 53, 54, 84, 85, 86, 87, 88, 89, 90] rfl (by decide +kernel)
set_option maxRecDepth 20000 in
theorem gX5_times_X5_keep : GoodIn wsX5_times (wsV RX5 114 RX5 yX5_keep wsX5_keep) := goodIn_app (goodIn_of _ (by decide +kernel)) ggX5_times_X5_keep
theorem dX5_times_0 : decode cX5_times 0 = .ok (.aload_n 0, 1) := by decide +kernel
theorem dX5_times_1 : decode cX5_times 1 = .ok (.iconst 0, 1) := by decide +kernel
theorem dX5_times_2 : decode cX5_times 2 = .ok (.putfield 48, 3) := by decide +kernel
theorem dX5_times_5 : decode cX5_times 5 = .ok (.iload_n 1, 1) := by decide +kernel
theorem dX5_times_6 : decode cX5_times 6 = .ok (.iload_n 2, 1) := by decide +kernel
theorem dX5_times_7 : decode cX5_times 7 = .ok (.iload_n 3, 1) := by decide +kernel
theorem dX5_times_8 : decode cX5_times 8 = .ok (.invokestatic 117, 3) := by decide +kernel
theorem dX5_times_11 : decode cX5_times 11 = .ok (.ifCond .ne 5, 3) := by decide +kernel
theorem dX5_times_14 : decode cX5_times 14 = .ok (.iconst (-1), 1) := by decide +kernel
theorem dX5_times_15 : decode cX5_times 15 = .ok (.ireturn, 1) := by decide +kernel
theorem dX5_times_16 : decode cX5_times 16 = .ok (.aload_n 0, 1) := by decide +kernel
theorem dX5_times_17 : decode cX5_times 17 = .ok (.bipush 29, 2) := by decide +kernel
theorem dX5_times_19 : decode cX5_times 19 = .ok (.iload_n 2, 1) := by decide +kernel
theorem dX5_times_20 : decode cX5_times 20 = .ok (.iload_n 3, 1) := by decide +kernel
theorem dX5_times_21 : decode cX5_times 21 = .ok (.invokevirtual 82, 3) := by decide +kernel
theorem dX5_times_24 : decode cX5_times 24 = .ok (.aload_n 0, 1) := by decide +kernel
theorem dX5_times_25 : decode cX5_times 25 = .ok (.bipush 33, 2) := by decide +kernel
theorem dX5_times_27 : decode cX5_times 27 = .ok (.bipush 29, 2) := by decide +kernel
theorem dX5_times_29 : decode cX5_times 29 = .ok (.aload_n 0, 1) := by decide +kernel
theorem dX5_times_30 : decode cX5_times 30 = .ok (.getfield 23, 3) := by decide +kernel
theorem dX5_times_33 : decode cX5_times 33 = .ok (.invokevirtual 101, 3) := by decide +kernel
theorem dX5_times_36 : decode cX5_times 36 = .ok (.aload_n 0, 1) := by decide +kernel
theorem dX5_times_37 : decode cX5_times 37 = .ok (.bipush 29, 2) := by decide +kernel
theorem dX5_times_39 : decode cX5_times 39 = .ok (.iload_n 2, 1) := by decide +kernel
theorem dX5_times_40 : decode cX5_times 40 = .ok (.invokevirtual 124, 3) := by decide +kernel
theorem dX5_times_43 : decode cX5_times 43 = .ok (.aload_n 0, 1) := by decide +kernel
theorem dX5_times_44 : decode cX5_times 44 = .ok (.bipush 29, 2) := by decide +kernel
theorem dX5_times_46 : decode cX5_times 46 = .ok (.bipush 29, 2) := by decide +kernel
theorem dX5_times_48 : decode cX5_times 48 = .ok (.bipush 12, 2) := by decide +kernel
theorem dX5_times_50 : decode cX5_times 50 = .ok (.iload_n 3, 1) := by decide +kernel
theorem dX5_times_51 : decode cX5_times 51 = .ok (.iadd, 1) := by decide +kernel
theorem dX5_times_52 : decode cX5_times 52 = .ok (.invokevirtual 82, 3) := by decide +kernel
theorem dX5_times_55 : decode cX5_times 55 = .ok (.aload_n 0, 1) := by decide +kernel
theorem dX5_times_56 : decode cX5_times 56 = .ok (.bipush 30, 2) := by decide +kernel
theorem dX5_times_58 : decode cX5_times 58 = .ok (.iload_n 3, 1) := by decide +kernel
theorem dX5_times_59 : decode cX5_times 59 = .ok (.invokevirtual 124, 3) := by decide +kernel
theorem dX5_times_62 : decode cX5_times 62 = .ok (.aload_n 0, 1) := by decide +kernel
theorem dX5_times_63 : decode cX5_times 63 = .ok (.bipush 30, 2) := by decide +kernel
theorem dX5_times_65 : decode cX5_times 65 = .ok (.bipush 30, 2) := by decide +kernel
theorem dX5_times_67 : decode cX5_times 67 = .ok (.bipush 12, 2) := by decide +kernel
theorem dX5_times_69 : decode cX5_times 69 = .ok (.iload_n 2, 1) := by decide +kernel
theorem dX5_times_70 : decode cX5_times 70 = .ok (.iadd, 1) := by decide +kernel
theorem dX5_times_71 : decode cX5_times 71 = .ok (.invokevirtual 82, 3) := by decide +kernel
theorem dX5_times_74 : decode cX5_times 74 = .ok (.aload_n 0, 1) := by decide +kernel
theorem dX5_times_75 : decode cX5_times 75 = .ok (.bipush 29, 2) := by decide +kernel
theorem dX5_times_77 : decode cX5_times 77 = .ok (.bipush 29, 2) := by decide +kernel
theorem dX5_times_79 : decode cX5_times 79 = .ok (.bipush 30, 2) := by decide +kernel
theorem dX5_times_81 : decode cX5_times 81 = .ok (.invokevirtual 79, 3) := by decide +kernel
theorem dX5_times_84 : decode cX5_times 84 = .ok (.aload_n 0, 1) := by decide +kernel
theorem dX5_times_85 : decode cX5_times 85 = .ok (.bipush 30, 2) := by decide +kernel
theorem dX5_times_87 : decode cX5_times 87 = .ok (.bipush 12, 2) := by decide +kernel
theorem dX5_times_89 : decode cX5_times 89 = .ok (.iload_n 2, 1) := by decide +kernel
theorem dX5_times_90 : decode cX5_times 90 = .ok (.iadd, 1) := by decide +kernel
theorem dX5_times_91 : decode cX5_times 91 = .ok (.bipush 12, 2) := by decide +kernel
theorem dX5_times_93 : decode cX5_times 93 = .ok (.iload_n 3, 1) := by decide +kernel
theorem dX5_times_94 : decode cX5_times 94 = .ok (.iadd, 1) := by decide +kernel
theorem dX5_times_95 : decode cX5_times 95 = .ok (.invokevirtual 82, 3) := by decide +kernel
theorem dX5_times_98 : decode cX5_times 98 = .ok (.aload_n 0, 1) := by decide +kernel
theorem dX5_times_99 : decode cX5_times 99 = .ok (.bipush 29, 2) := by decide +kernel
theorem dX5_times_101 : decode cX5_times 101 = .ok (.bipush 29, 2) := by decide +kernel
theorem dX5_times_103 : decode cX5_times 103 = .ok (.bipush 30, 2) := by decide +kernel
theorem dX5_times_105 : decode cX5_times 105 = .ok (.invokevirtual 79, 3) := by decide +kernel
theorem dX5_times_108 : decode cX5_times 108 = .ok (.aload_n 0, 1) := by decide +kernel
theorem dX5_times_109 : decode cX5_times 109 = .ok (.bipush 30, 2) := by decide +kernel
theorem dX5_times_111 : decode cX5_times 111 = .ok (.aload_n 0, 1) := by decide +kernel
theorem dX5_times_112 : decode cX5_times 112 = .ok (.getfield 23, 3) := by decide +kernel
theorem dX5_times_115 : decode cX5_times 115 = .ok (.invokevirtual 30, 3) := by decide +kernel
theorem dX5_times_118 : decode cX5_times 118 = .ok (.aload_n 0, 1) := by decide +kernel
theorem dX5_times_119 : decode cX5_times 119 = .ok (.bipush 34, 2) := by decide +kernel
theorem dX5_times_121 : decode cX5_times 121 = .ok (.bipush 29, 2) := by decide +kernel
theorem dX5_times_123 : decode cX5_times 123 = .ok (.bipush 30, 2) := by decide +kernel
theorem dX5_times_125 : decode cX5_times 125 = .ok (.invokevirtual 127, 3) := by decide +kernel
theorem dX5_times_128 : decode cX5_times 128 = .ok (.aload_n 0, 1) := by decide +kernel
theorem dX5_times_129 : decode cX5_times 129 = .ok (.bipush 34, 2) := by decide +kernel
theorem dX5_times_131 : decode cX5_times 131 = .ok (.iconst 1, 1) := by decide +kernel
theorem dX5_times_132 : decode cX5_times 132 = .ok (.invokevirtual 85, 3) := by decide +kernel
theorem dX5_times_135 : decode cX5_times 135 = .ok (.aload_n 0, 1) := by decide +kernel
theorem dX5_times_136 : decode cX5_times 136 = .ok (.iload_n 1, 1) := by decide +kernel
theorem dX5_times_137 : decode cX5_times 137 = .ok (.invokevirtual 114, 3) := by decide +kernel
theorem dX5_times_140 : decode cX5_times 140 = .ok (.ireturn, 1) := by decide +kernel
set_option maxRecDepth 20000 in
theorem ggX5_over_X5_are : GoodIn wsX5_over wsX5_are := goodIn_r _ [7, 8, 9, 6, 10] rfl (by decide +kernel)
set_option maxRecDepth 20000 in
theorem gX5_over_X5_are : GoodIn wsX5_over (va_wsS RX5 117 yX5_are wsX5_are) := goodIn_app (goodIn_of _ (by decide +kernel)) ggX5_over_X5_are
set_option maxRecDepth 20000 in
theorem ggX5_over_X5_sizes : GoodIn wsX5_over wsX5_sizes := goodIn_r _ [14, 15, 16, 17, 6, 18, 19, 84, 85, 86, 87, 88, 89, 90] rfl (by decide +kernel)
set_option maxRecDepth 20000 in
theorem gX5_over_X5_sizes : GoodIn wsX5_over (wsV RX5 64 RX5 yX5_sizes wsX5_sizes) := goodIn_app (goodIn_of _ (by decide +kernel)) ggX5_over_X5_sizes
set_option maxRecDepth 20000 in
theorem ggX5_over_X5_size : GoodIn wsX5_over wsX5_size := goodIn_r _ [23, 3, 24, 25, 26, 6, 27, 19, 84, 85, 86, 87, 88, 89, 90] rfl (by decide +kernel)
set_option maxRecDepth 20000 in
theorem gX5_over_X5_size : GoodIn wsX5_over (wsV RX5 124 RX5 yX5_size wsX5_size) := goodIn_app (goodIn_of _ (by decide +kernel)) ggX5_over_X5_size
set_option maxRecDepth 20000 in
theorem ggX5_over_X5_up : GoodIn wsX5_over wsX5_up := goodIn_r _ [31, 3, 32, 19, 15, 16, 17, 6, 18, 84, 85, 86, 87, 88, 89, 90] rfl (by decide +kernel)
set_option maxRecDepth 20000 in
theorem gX5_over_X5_up : GoodIn wsX5_over (wsV RX5 95 RX5 yX5_up wsX5_up) := goodIn_app (goodIn_of _ (by decide +kernel)) ggX5_over_X5_up
set_option maxRecDepth 20000 in
theorem ggX5_over_X5_divide : GoodIn wsX5_over wsX5_divide := goodIn_r _ [36, 37, 32, 19, 3, 38, 39, 40, 6, 41, 15, 16, 17, 18, 42, 43, 44, 45, 46, 47, 48, 49, 50, 51, 52, 53, 54, 55, 56, 57, 58, 59, 60, 61, 62, 63, 64, 65, 66, 24, 25, 26, 27, 11, 12, 13, 14, 84, 85, 86, 87, 88, 89, 90] rfl (by decide +kernel)
set_option maxRecDepth 20000 in
theorem gX5_over_X5_divide : GoodIn wsX5_over (wsV RX5 92 RX5 yX5_divide wsX5_divide) := goodIn_app (goodIn_of _ (by decide +kernel)) ggX5_over_X5_divide
set_option maxRecDepth 20000 in
theorem ggX5_over_X5_product : GoodIn wsX5_over wsX5_product := goodIn_r _ [70, 71, 3, 19, 58, 15, 16, 17, 6, 18, 46, 47, 48, 49, 84, 85, 86, 87, 88, 89, 90] rfl (by decide +kernel)
set_option maxRecDepth 20000 in
theorem gX5_over_X5_product : GoodIn wsX5_over (wsV RX5 82 RX5 yX5_product wsX5_product) := goodIn_app (goodIn_of _ (by decide +kernel)) ggX5_over_X5_product
set_option maxRecDepth 20000 in
theorem ggX5_over_X5_plus : GoodIn wsX5_over wsX5_plus := goodIn_r _ [62, 63, 64, 65, 6, 66, 3, 19, 32, 24, 25, 26, 27, 11, 12, 13, 14, 15, 16, 17, 18, 46, 47, 48, 49, 84, 85, 86, 87, 88, 89, 90] rfl (by decide +kernel)
set_option maxRecDepth 20000 in
theorem gX5_over_X5_plus : GoodIn wsX5_over (wsV RX5 79 RX5 yX5_plus wsX5_plus) := goodIn_app (goodIn_of _ (by decide +kernel)) ggX5_over_X5_plus
set_option maxRecDepth 20000 in
theorem ggX5_over_X5_minus : GoodIn wsX5_over wsX5_minus := goodIn_r _ [75, 63, 64, 65, 6, 66, 3, 19, 32, 24, 25, 26, 27, 11, 12, 13, 14, 15, 16, 17, 18, 46, 47, 48, 49, 84, 85, 86, 87, 88, 89, 90] rfl (by decide +kernel)
set_option maxRecDepth 20000 in
theorem gX5_over_X5_minus : GoodIn wsX5_over (wsV RX5 45 RX5 yX5_minus wsX5_minus) := goodIn_app (goodIn_of _ (by decide +kernel)) ggX5_over_X5_minus
set_option maxRecDepth 20000 in
theorem ggX5_over_X5_divideUp : GoodIn wsX5_over wsX5_divideUp := goodIn_r _ [79, 3, 33, 34, 35, 6, 36, 37, 32, 19, 38, 39, 40, 41, 15, 16, 17, 18, 42, 43, 44, 45, 46, 47, 48, 49, 50, 51, 52, 53, 54, 55, 56, 57, 58, 59, 60, 61, 62, 63, 64, 65, 66, 24, 25, 26, 27, 11, 12, 13, 14, 84, 85, 86, 87, 88, 89, 90] rfl (by decide +kernel)
set_option maxRecDepth 20000 in
theorem gX5_over_X5_divideUp : GoodIn wsX5_over (wsV RX5 127 RX5 yX5_divideUp wsX5_divideUp) := goodIn_app (goodIn_of _ (by decide +kernel)) ggX5_over_X5_divideUp
set_option maxRecDepth 20000 in
theorem ggX5_over_X5_addSmall : GoodIn wsX5_over wsX5_addSmall := goodIn_r _ [53, 54, 55, 56, 6, 57, 19, 58, 42, 43, 44, 45, 3, 46, 47, 48, 49, 59, 60, 61, 62, 63, 64, 65, 66, 32, 24, 25, 26, 27, 11, 12, 13, 14, 15, 16, 17, 18, 84, 85, 86, 87, 88, 89, 90] rfl (by decide +kernel)
set_option maxRecDepth 20000 in
theorem gX5_over_X5_addSmall : GoodIn wsX5_over (wsV RX5 85 RX5 yX5_addSmall wsX5_addSmall) := goodIn_app (goodIn_of _ (by decide +kernel)) ggX5_over_X5_addSmall
set_option maxRecDepth 20000 in
theorem ggX5_over_X5_keep : GoodIn wsX5_over wsX5_keep := goodIn_r _ [83, 3, 11, 12, 13, 6, 14, 15, 16, 17, 18, 19, 24, 25, 26, 27, 84, 85, 86, 87, 88, 89, 90] rfl (by decide +kernel)
set_option maxRecDepth 20000 in
theorem gX5_over_X5_keep : GoodIn wsX5_over (wsV RX5 114 RX5 yX5_keep wsX5_keep) := goodIn_app (goodIn_of _ (by decide +kernel)) ggX5_over_X5_keep
theorem dX5_over_0 : decode cX5_over 0 = .ok (.aload_n 0, 1) := by decide +kernel
theorem dX5_over_1 : decode cX5_over 1 = .ok (.iconst 0, 1) := by decide +kernel
theorem dX5_over_2 : decode cX5_over 2 = .ok (.putfield 48, 3) := by decide +kernel
theorem dX5_over_5 : decode cX5_over 5 = .ok (.iload_n 1, 1) := by decide +kernel
theorem dX5_over_6 : decode cX5_over 6 = .ok (.iload_n 2, 1) := by decide +kernel
theorem dX5_over_7 : decode cX5_over 7 = .ok (.iload_n 3, 1) := by decide +kernel
theorem dX5_over_8 : decode cX5_over 8 = .ok (.invokestatic 117, 3) := by decide +kernel
theorem dX5_over_11 : decode cX5_over 11 = .ok (.ifCond .eq 15, 3) := by decide +kernel
theorem dX5_over_14 : decode cX5_over 14 = .ok (.aload_n 0, 1) := by decide +kernel
theorem dX5_over_15 : decode cX5_over 15 = .ok (.iload_n 3, 1) := by decide +kernel
theorem dX5_over_16 : decode cX5_over 16 = .ok (.bipush 12, 2) := by decide +kernel
theorem dX5_over_18 : decode cX5_over 18 = .ok (.iload_n 3, 1) := by decide +kernel
theorem dX5_over_19 : decode cX5_over 19 = .ok (.iadd, 1) := by decide +kernel
theorem dX5_over_20 : decode cX5_over 20 = .ok (.invokevirtual 64, 3) := by decide +kernel
theorem dX5_over_23 : decode cX5_over 23 = .ok (.ifCond .gt 5, 3) := by decide +kernel
theorem dX5_over_26 : decode cX5_over 26 = .ok (.iconst (-1), 1) := by decide +kernel
theorem dX5_over_27 : decode cX5_over 27 = .ok (.ireturn, 1) := by decide +kernel
theorem dX5_over_28 : decode cX5_over 28 = .ok (.aload_n 0, 1) := by decide +kernel
theorem dX5_over_29 : decode cX5_over 29 = .ok (.bipush 35, 2) := by decide +kernel
theorem dX5_over_31 : decode cX5_over 31 = .ok (.iload_n 3, 1) := by decide +kernel
theorem dX5_over_32 : decode cX5_over 32 = .ok (.invokevirtual 124, 3) := by decide +kernel
theorem dX5_over_35 : decode cX5_over 35 = .ok (.aload_n 0, 1) := by decide +kernel
theorem dX5_over_36 : decode cX5_over 36 = .ok (.bipush 29, 2) := by decide +kernel
theorem dX5_over_38 : decode cX5_over 38 = .ok (.iload_n 2, 1) := by decide +kernel
theorem dX5_over_39 : decode cX5_over 39 = .ok (.aload_n 0, 1) := by decide +kernel
theorem dX5_over_40 : decode cX5_over 40 = .ok (.getfield 23, 3) := by decide +kernel
theorem dX5_over_43 : decode cX5_over 43 = .ok (.invokevirtual 95, 3) := by decide +kernel
theorem dX5_over_46 : decode cX5_over 46 = .ok (.aload_n 0, 1) := by decide +kernel
theorem dX5_over_47 : decode cX5_over 47 = .ok (.getfield 13, 3) := by decide +kernel
theorem dX5_over_50 : decode cX5_over 50 = .ok (.bipush 29, 2) := by decide +kernel
theorem dX5_over_52 : decode cX5_over 52 = .ok (.aload_n 0, 1) := by decide +kernel
theorem dX5_over_53 : decode cX5_over 53 = .ok (.getfield 13, 3) := by decide +kernel
theorem dX5_over_56 : decode cX5_over 56 = .ok (.iload_n 3, 1) := by decide +kernel
theorem dX5_over_57 : decode cX5_over 57 = .ok (.iaload, 1) := by decide +kernel
theorem dX5_over_58 : decode cX5_over 58 = .ok (.ifCond .ge 14, 3) := by decide +kernel
theorem dX5_over_61 : decode cX5_over 61 = .ok (.aload_n 0, 1) := by decide +kernel
theorem dX5_over_62 : decode cX5_over 62 = .ok (.getfield 13, 3) := by decide +kernel
theorem dX5_over_65 : decode cX5_over 65 = .ok (.bipush 29, 2) := by decide +kernel
theorem dX5_over_67 : decode cX5_over 67 = .ok (.iaload, 1) := by decide +kernel
theorem dX5_over_68 : decode cX5_over 68 = .ok (.ineg, 1) := by decide +kernel
theorem dX5_over_69 : decode cX5_over 69 = .ok (.goto 10, 3) := by decide +kernel
theorem dX5_over_72 : decode cX5_over 72 = .ok (.aload_n 0, 1) := by decide +kernel
theorem dX5_over_73 : decode cX5_over 73 = .ok (.getfield 13, 3) := by decide +kernel
theorem dX5_over_76 : decode cX5_over 76 = .ok (.bipush 29, 2) := by decide +kernel
theorem dX5_over_78 : decode cX5_over 78 = .ok (.iaload, 1) := by decide +kernel
theorem dX5_over_79 : decode cX5_over 79 = .ok (.iastore, 1) := by decide +kernel
theorem dX5_over_80 : decode cX5_over 80 = .ok (.aload_n 0, 1) := by decide +kernel
theorem dX5_over_81 : decode cX5_over 81 = .ok (.bipush 33, 2) := by decide +kernel
theorem dX5_over_83 : decode cX5_over 83 = .ok (.bipush 29, 2) := by decide +kernel
theorem dX5_over_85 : decode cX5_over 85 = .ok (.bipush 35, 2) := by decide +kernel
theorem dX5_over_87 : decode cX5_over 87 = .ok (.invokevirtual 92, 3) := by decide +kernel
theorem dX5_over_90 : decode cX5_over 90 = .ok (.aload_n 0, 1) := by decide +kernel
theorem dX5_over_91 : decode cX5_over 91 = .ok (.bipush 29, 2) := by decide +kernel
theorem dX5_over_93 : decode cX5_over 93 = .ok (.iload_n 2, 1) := by decide +kernel
theorem dX5_over_94 : decode cX5_over 94 = .ok (.invokevirtual 124, 3) := by decide +kernel
theorem dX5_over_97 : decode cX5_over 97 = .ok (.aload_n 0, 1) := by decide +kernel
theorem dX5_over_98 : decode cX5_over 98 = .ok (.bipush 29, 2) := by decide +kernel
theorem dX5_over_100 : decode cX5_over 100 = .ok (.bipush 29, 2) := by decide +kernel
theorem dX5_over_102 : decode cX5_over 102 = .ok (.bipush 12, 2) := by decide +kernel
theorem dX5_over_104 : decode cX5_over 104 = .ok (.iload_n 3, 1) := by decide +kernel
theorem dX5_over_105 : decode cX5_over 105 = .ok (.iadd, 1) := by decide +kernel
theorem dX5_over_106 : decode cX5_over 106 = .ok (.invokevirtual 82, 3) := by decide +kernel
theorem dX5_over_109 : decode cX5_over 109 = .ok (.aload_n 0, 1) := by decide +kernel
theorem dX5_over_110 : decode cX5_over 110 = .ok (.bipush 30, 2) := by decide +kernel
theorem dX5_over_112 : decode cX5_over 112 = .ok (.bipush 35, 2) := by decide +kernel
theorem dX5_over_114 : decode cX5_over 114 = .ok (.bipush 12, 2) := by decide +kernel
theorem dX5_over_116 : decode cX5_over 116 = .ok (.iload_n 2, 1) := by decide +kernel
theorem dX5_over_117 : decode cX5_over 117 = .ok (.iadd, 1) := by decide +kernel
theorem dX5_over_118 : decode cX5_over 118 = .ok (.invokevirtual 82, 3) := by decide +kernel
theorem dX5_over_121 : decode cX5_over 121 = .ok (.aload_n 0, 1) := by decide +kernel
theorem dX5_over_122 : decode cX5_over 122 = .ok (.bipush 29, 2) := by decide +kernel
theorem dX5_over_124 : decode cX5_over 124 = .ok (.bipush 29, 2) := by decide +kernel
theorem dX5_over_126 : decode cX5_over 126 = .ok (.bipush 30, 2) := by decide +kernel
theorem dX5_over_128 : decode cX5_over 128 = .ok (.invokevirtual 79, 3) := by decide +kernel
theorem dX5_over_131 : decode cX5_over 131 = .ok (.aload_n 0, 1) := by decide +kernel
theorem dX5_over_132 : decode cX5_over 132 = .ok (.bipush 29, 2) := by decide +kernel
theorem dX5_over_134 : decode cX5_over 134 = .ok (.bipush 29, 2) := by decide +kernel
theorem dX5_over_136 : decode cX5_over 136 = .ok (.aload_n 0, 1) := by decide +kernel
theorem dX5_over_137 : decode cX5_over 137 = .ok (.getfield 23, 3) := by decide +kernel
theorem dX5_over_140 : decode cX5_over 140 = .ok (.invokevirtual 95, 3) := by decide +kernel
theorem dX5_over_143 : decode cX5_over 143 = .ok (.aload_n 0, 1) := by decide +kernel
theorem dX5_over_144 : decode cX5_over 144 = .ok (.bipush 30, 2) := by decide +kernel
theorem dX5_over_146 : decode cX5_over 146 = .ok (.bipush 35, 2) := by decide +kernel
theorem dX5_over_148 : decode cX5_over 148 = .ok (.bipush 12, 2) := by decide +kernel
theorem dX5_over_150 : decode cX5_over 150 = .ok (.iload_n 3, 1) := by decide +kernel
theorem dX5_over_151 : decode cX5_over 151 = .ok (.iadd, 1) := by decide +kernel
theorem dX5_over_152 : decode cX5_over 152 = .ok (.invokevirtual 45, 3) := by decide +kernel
theorem dX5_over_155 : decode cX5_over 155 = .ok (.aload_n 0, 1) := by decide +kernel
theorem dX5_over_156 : decode cX5_over 156 = .ok (.bipush 30, 2) := by decide +kernel
theorem dX5_over_158 : decode cX5_over 158 = .ok (.bipush 30, 2) := by decide +kernel
theorem dX5_over_160 : decode cX5_over 160 = .ok (.bipush 35, 2) := by decide +kernel
theorem dX5_over_162 : decode cX5_over 162 = .ok (.invokevirtual 82, 3) := by decide +kernel
theorem dX5_over_165 : decode cX5_over 165 = .ok (.aload_n 0, 1) := by decide +kernel
theorem dX5_over_166 : decode cX5_over 166 = .ok (.bipush 34, 2) := by decide +kernel
theorem dX5_over_168 : decode cX5_over 168 = .ok (.bipush 29, 2) := by decide +kernel
theorem dX5_over_170 : decode cX5_over 170 = .ok (.bipush 30, 2) := by decide +kernel
theorem dX5_over_172 : decode cX5_over 172 = .ok (.invokevirtual 127, 3) := by decide +kernel
theorem dX5_over_175 : decode cX5_over 175 = .ok (.aload_n 0, 1) := by decide +kernel
theorem dX5_over_176 : decode cX5_over 176 = .ok (.bipush 34, 2) := by decide +kernel
theorem dX5_over_178 : decode cX5_over 178 = .ok (.iconst 1, 1) := by decide +kernel
theorem dX5_over_179 : decode cX5_over 179 = .ok (.invokevirtual 85, 3) := by decide +kernel
theorem dX5_over_182 : decode cX5_over 182 = .ok (.aload_n 0, 1) := by decide +kernel
theorem dX5_over_183 : decode cX5_over 183 = .ok (.iload_n 1, 1) := by decide +kernel
theorem dX5_over_184 : decode cX5_over 184 = .ok (.invokevirtual 114, 3) := by decide +kernel
theorem dX5_over_187 : decode cX5_over 187 = .ok (.ireturn, 1) := by decide +kernel
set_option maxRecDepth 20000 in
theorem ggX5_root_X5_isPlace : GoodIn wsX5_root wsX5_isPlace := goodIn_r _ [7] rfl (by decide +kernel)
set_option maxRecDepth 20000 in
theorem gX5_root_X5_isPlace : GoodIn wsX5_root (va_wsS RX5 111 yX5_isPlace wsX5_isPlace) := goodIn_app (goodIn_of _ (by decide +kernel)) ggX5_root_X5_isPlace
set_option maxRecDepth 20000 in
theorem ggX5_root_X5_ends : GoodIn wsX5_root wsX5_ends := goodIn_r _ [11, 12, 13, 14, 6, 15, 16, 17, 18, 19, 2, 20, 21, 22, 23, 24, 25, 26, 27, 28, 29, 30, 31, 32, 33, 34, 35, 36, 37, 38, 39, 40, 41, 83, 84, 85, 86, 87, 88, 89] rfl (by decide +kernel)
set_option maxRecDepth 20000 in
theorem gX5_root_X5_ends : GoodIn wsX5_root (wsV RX5 130 RX5 yX5_ends wsX5_ends) := goodIn_app (goodIn_of _ (by decide +kernel)) ggX5_root_X5_ends
set_option maxRecDepth 20000 in
theorem ggX5_root_X5_up : GoodIn wsX5_root wsX5_up := goodIn_r _ [45, 2, 21, 20, 30, 31, 32, 6, 33, 83, 84, 85, 86, 87, 88, 89] rfl (by decide +kernel)
set_option maxRecDepth 20000 in
theorem gX5_root_X5_up : GoodIn wsX5_root (wsV RX5 95 RX5 yX5_up wsX5_up) := goodIn_app (goodIn_of _ (by decide +kernel)) ggX5_root_X5_up
set_option maxRecDepth 20000 in
theorem ggX5_root_X5_squareRoot : GoodIn wsX5_root wsX5_squareRoot := goodIn_r _ [49, 20, 2, 50, 51, 52, 6, 53, 30, 31, 32, 33, 54, 55, 56, 57, 42, 43, 44, 45, 21, 34, 35, 36, 37, 58, 59, 60, 61, 26, 27, 28, 29, 12, 13, 14, 15, 16, 17, 18, 19, 22, 23, 24, 25, 83, 84, 85, 86, 87, 88, 89] rfl (by decide +kernel)
set_option maxRecDepth 20000 in
theorem gX5_root_X5_squareRoot : GoodIn wsX5_root (wsV RX5 108 RX5 yX5_squareRoot wsX5_squareRoot) := goodIn_app (goodIn_of _ (by decide +kernel)) ggX5_root_X5_squareRoot
set_option maxRecDepth 20000 in
theorem ggX5_root_X5_addSmall : GoodIn wsX5_root wsX5_addSmall := goodIn_r _ [65, 66, 67, 68, 6, 69, 20, 70, 54, 55, 56, 57, 2, 34, 35, 36, 37, 38, 39, 40, 41, 16, 17, 18, 19, 21, 22, 23, 24, 25, 26, 27, 28, 29, 30, 31, 32, 33, 83, 84, 85, 86, 87, 88, 89] rfl (by decide +kernel)
set_option maxRecDepth 20000 in
theorem gX5_root_X5_addSmall : GoodIn wsX5_root (wsV RX5 85 RX5 yX5_addSmall wsX5_addSmall) := goodIn_app (goodIn_of _ (by decide +kernel)) ggX5_root_X5_addSmall
set_option maxRecDepth 20000 in
theorem ggX5_root_X5_keepEnds : GoodIn wsX5_root wsX5_keepEnds := goodIn_r _ [74, 38, 39, 40, 6, 41, 16, 17, 18, 19, 2, 20, 21, 22, 23, 24, 25, 26, 27, 28, 29, 30, 31, 32, 33, 34, 35, 36, 37, 75, 76, 77, 78, 62, 63, 64, 65, 66, 67, 68, 69, 70, 54, 55, 56, 57, 12, 13, 14, 15, 79, 80, 81, 82, 83, 84, 85, 86, 87, 88, 89] rfl (by decide +kernel)
set_option maxRecDepth 20000 in
theorem gX5_root_X5_keepEnds : GoodIn wsX5_root (wsV RX5 133 RX5 yX5_keepEnds wsX5_keepEnds) := goodIn_app (goodIn_of _ (by decide +kernel)) ggX5_root_X5_keepEnds
theorem dX5_root_0 : decode cX5_root 0 = .ok (.aload_n 0, 1) := by decide +kernel
theorem dX5_root_1 : decode cX5_root 1 = .ok (.iconst 0, 1) := by decide +kernel
theorem dX5_root_2 : decode cX5_root 2 = .ok (.putfield 48, 3) := by decide +kernel
theorem dX5_root_5 : decode cX5_root 5 = .ok (.iload_n 1, 1) := by decide +kernel
theorem dX5_root_6 : decode cX5_root 6 = .ok (.invokestatic 111, 3) := by decide +kernel
theorem dX5_root_9 : decode cX5_root 9 = .ok (.ifCond .eq 10, 3) := by decide +kernel
theorem dX5_root_12 : decode cX5_root 12 = .ok (.iload_n 2, 1) := by decide +kernel
theorem dX5_root_13 : decode cX5_root 13 = .ok (.invokestatic 111, 3) := by decide +kernel
theorem dX5_root_16 : decode cX5_root 16 = .ok (.ifCond .ne 5, 3) := by decide +kernel
theorem dX5_root_19 : decode cX5_root 19 = .ok (.iconst (-1), 1) := by decide +kernel
theorem dX5_root_20 : decode cX5_root 20 = .ok (.ireturn, 1) := by decide +kernel
theorem dX5_root_21 : decode cX5_root 21 = .ok (.aload_n 0, 1) := by decide +kernel
theorem dX5_root_22 : decode cX5_root 22 = .ok (.iload_n 2, 1) := by decide +kernel
theorem dX5_root_23 : decode cX5_root 23 = .ok (.invokevirtual 130, 3) := by decide +kernel
theorem dX5_root_26 : decode cX5_root 26 = .ok (.aload_n 0, 1) := by decide +kernel
theorem dX5_root_27 : decode cX5_root 27 = .ok (.getfield 13, 3) := by decide +kernel
theorem dX5_root_30 : decode cX5_root 30 = .ok (.bipush 24, 2) := by decide +kernel
theorem dX5_root_32 : decode cX5_root 32 = .ok (.iaload, 1) := by decide +kernel
theorem dX5_root_33 : decode cX5_root 33 = .ok (.ifCond .ge 5, 3) := by decide +kernel
theorem dX5_root_36 : decode cX5_root 36 = .ok (.iconst (-1), 1) := by decide +kernel
theorem dX5_root_37 : decode cX5_root 37 = .ok (.ireturn, 1) := by decide +kernel
theorem dX5_root_38 : decode cX5_root 38 = .ok (.aload_n 0, 1) := by decide +kernel
theorem dX5_root_39 : decode cX5_root 39 = .ok (.bipush 24, 2) := by decide +kernel
theorem dX5_root_41 : decode cX5_root 41 = .ok (.bipush 24, 2) := by decide +kernel
theorem dX5_root_43 : decode cX5_root 43 = .ok (.aload_n 0, 1) := by decide +kernel
theorem dX5_root_44 : decode cX5_root 44 = .ok (.getfield 23, 3) := by decide +kernel
theorem dX5_root_47 : decode cX5_root 47 = .ok (.invokevirtual 95, 3) := by decide +kernel
theorem dX5_root_50 : decode cX5_root 50 = .ok (.aload_n 0, 1) := by decide +kernel
theorem dX5_root_51 : decode cX5_root 51 = .ok (.bipush 25, 2) := by decide +kernel
theorem dX5_root_53 : decode cX5_root 53 = .ok (.bipush 25, 2) := by decide +kernel
theorem dX5_root_55 : decode cX5_root 55 = .ok (.aload_n 0, 1) := by decide +kernel
theorem dX5_root_56 : decode cX5_root 56 = .ok (.getfield 23, 3) := by decide +kernel
theorem dX5_root_59 : decode cX5_root 59 = .ok (.invokevirtual 95, 3) := by decide +kernel
theorem dX5_root_62 : decode cX5_root 62 = .ok (.aload_n 0, 1) := by decide +kernel
theorem dX5_root_63 : decode cX5_root 63 = .ok (.bipush 35, 2) := by decide +kernel
theorem dX5_root_65 : decode cX5_root 65 = .ok (.bipush 24, 2) := by decide +kernel
theorem dX5_root_67 : decode cX5_root 67 = .ok (.invokevirtual 108, 3) := by decide +kernel
theorem dX5_root_70 : decode cX5_root 70 = .ok (.aload_n 0, 1) := by decide +kernel
theorem dX5_root_71 : decode cX5_root 71 = .ok (.bipush 36, 2) := by decide +kernel
theorem dX5_root_73 : decode cX5_root 73 = .ok (.bipush 25, 2) := by decide +kernel
theorem dX5_root_75 : decode cX5_root 75 = .ok (.invokevirtual 108, 3) := by decide +kernel
theorem dX5_root_78 : decode cX5_root 78 = .ok (.aload_n 0, 1) := by decide +kernel
theorem dX5_root_79 : decode cX5_root 79 = .ok (.bipush 36, 2) := by decide +kernel
theorem dX5_root_81 : decode cX5_root 81 = .ok (.iconst 1, 1) := by decide +kernel
theorem dX5_root_82 : decode cX5_root 82 = .ok (.invokevirtual 85, 3) := by decide +kernel
theorem dX5_root_85 : decode cX5_root 85 = .ok (.aload_n 0, 1) := by decide +kernel
theorem dX5_root_86 : decode cX5_root 86 = .ok (.iload_n 1, 1) := by decide +kernel
theorem dX5_root_87 : decode cX5_root 87 = .ok (.bipush 35, 2) := by decide +kernel
theorem dX5_root_89 : decode cX5_root 89 = .ok (.bipush 36, 2) := by decide +kernel
theorem dX5_root_91 : decode cX5_root 91 = .ok (.invokevirtual 133, 3) := by decide +kernel
theorem dX5_root_94 : decode cX5_root 94 = .ok (.ireturn, 1) := by decide +kernel
set_option maxRecDepth 20000 in
theorem ggX5_coarse_X5_down : GoodIn wsX5_coarse wsX5_down := goodIn_r _ [5, 6, 7, 8, 9, 10, 11, 4, 12, 13, 14, 15, 16, 17, 18, 19, 20, 21, 22, 23, 24, 25, 26, 27, 28, 29, 30, 31, 32, 33, 34, 35, 36, 37, 38, 39, 40, 41, 42, 43, 44, 45, 46, 47, 48, 49, 50, 51, 52] rfl (by decide +kernel)
set_option maxRecDepth 20000 in
theorem gX5_coarse_X5_down : GoodIn wsX5_coarse (wsV RX5 101 RX5 yX5_down wsX5_down) := goodIn_app (goodIn_of _ (by decide +kernel)) ggX5_coarse_X5_down
set_option maxRecDepth 20000 in
theorem ggX5_coarse_X5_addSmall : GoodIn wsX5_coarse wsX5_addSmall := goodIn_r _ [20, 21, 22, 23, 4, 24, 8, 25, 26, 27, 28, 29, 6, 13, 14, 15, 16, 30, 31, 32, 33, 34, 35, 36, 37, 7, 38, 39, 40, 41, 42, 43, 44, 45, 9, 10, 11, 12, 46, 47, 48, 49, 50, 51, 52] rfl (by decide +kernel)
set_option maxRecDepth 20000 in
theorem gX5_coarse_X5_addSmall : GoodIn wsX5_coarse (wsV RX5 85 RX5 yX5_addSmall wsX5_addSmall) := goodIn_app (goodIn_of _ (by decide +kernel)) ggX5_coarse_X5_addSmall
theorem dX5_coarse_0 : decode cX5_coarse 0 = .ok (.aload_n 0, 1) := by decide +kernel
theorem dX5_coarse_1 : decode cX5_coarse 1 = .ok (.iload_n 1, 1) := by decide +kernel
theorem dX5_coarse_2 : decode cX5_coarse 2 = .ok (.iload_n 1, 1) := by decide +kernel
theorem dX5_coarse_3 : decode cX5_coarse 3 = .ok (.bipush 64, 2) := by decide +kernel
theorem dX5_coarse_5 : decode cX5_coarse 5 = .ok (.invokevirtual 101, 3) := by decide +kernel
theorem dX5_coarse_8 : decode cX5_coarse 8 = .ok (.aload_n 0, 1) := by decide +kernel
theorem dX5_coarse_9 : decode cX5_coarse 9 = .ok (.iload_n 1, 1) := by decide +kernel
theorem dX5_coarse_10 : decode cX5_coarse 10 = .ok (.iload_n 2, 1) := by decide +kernel
theorem dX5_coarse_11 : decode cX5_coarse 11 = .ok (.invokevirtual 85, 3) := by decide +kernel
theorem dX5_coarse_14 : decode cX5_coarse 14 = .ok (.return_, 1) := by decide +kernel
set_option maxRecDepth 20000 in
theorem ggX5_exp_X5_isPlace : GoodIn wsX5_exp wsX5_isPlace := goodIn_r _ [7] rfl (by decide +kernel)
set_option maxRecDepth 20000 in
theorem gX5_exp_X5_isPlace : GoodIn wsX5_exp (va_wsS RX5 111 yX5_isPlace wsX5_isPlace) := goodIn_app (goodIn_of _ (by decide +kernel)) ggX5_exp_X5_isPlace
set_option maxRecDepth 20000 in
theorem ggX5_exp_X5_ends : GoodIn wsX5_exp wsX5_ends := goodIn_r _ [11, 12, 13, 14, 6, 15, 16, 17, 18, 19, 3, 20, 21, 22, 23, 24, 25, 26, 27, 28, 29, 30, 31, 32, 33, 34, 35, 36, 37, 38, 39, 40, 41, 101, 102, 103, 104, 105, 106, 107] rfl (by decide +kernel)
set_option maxRecDepth 20000 in
theorem gX5_exp_X5_ends : GoodIn wsX5_exp (wsV RX5 130 RX5 yX5_ends wsX5_ends) := goodIn_app (goodIn_of _ (by decide +kernel)) ggX5_exp_X5_ends
set_option maxRecDepth 20000 in
theorem ggX5_exp_X5_power : GoodIn wsX5_exp wsX5_power := goodIn_r _ [45, 20, 3, 46, 47, 48, 6, 49, 101, 102, 103, 104, 105, 106, 107] rfl (by decide +kernel)
set_option maxRecDepth 20000 in
theorem gX5_exp_X5_power : GoodIn wsX5_exp (wsV RX5 30 RX5 yX5_power wsX5_power) := goodIn_app (goodIn_of _ (by decide +kernel)) ggX5_exp_X5_power
set_option maxRecDepth 20000 in
theorem ggX5_exp_X5_sizes : GoodIn wsX5_exp wsX5_sizes := goodIn_r _ [29, 30, 31, 32, 6, 33, 20, 101, 102, 103, 104, 105, 106, 107] rfl (by decide +kernel)
set_option maxRecDepth 20000 in
theorem gX5_exp_X5_sizes : GoodIn wsX5_exp (wsV RX5 64 RX5 yX5_sizes wsX5_sizes) := goodIn_app (goodIn_of _ (by decide +kernel)) ggX5_exp_X5_sizes
set_option maxRecDepth 20000 in
theorem ggX5_exp_X5_up : GoodIn wsX5_exp wsX5_up := goodIn_r _ [53, 3, 21, 20, 30, 31, 32, 6, 33, 101, 102, 103, 104, 105, 106, 107] rfl (by decide +kernel)
set_option maxRecDepth 20000 in
theorem gX5_exp_X5_up : GoodIn wsX5_exp (wsV RX5 95 RX5 yX5_up wsX5_up) := goodIn_app (goodIn_of _ (by decide +kernel)) ggX5_exp_X5_up
set_option maxRecDepth 20000 in
theorem ggX5_exp_X5_fineExp : GoodIn wsX5_exp wsX5_fineExp := goodIn_r _ [57, 58, 59, 60, 61, 6, 62, 30, 31, 32, 33, 20, 63, 64, 65, 66, 3, 21, 34, 35, 36, 37, 67, 68, 69, 70, 71, 72, 73, 74, 75, 46, 47, 48, 49, 38, 39, 40, 41, 16, 17, 18, 19, 22, 23, 24, 25, 26, 27, 28, 29, 76, 77, 78, 79, 80, 81, 82, 83, 84, 85, 86, 87, 88, 101, 102, 103, 104, 105, 106, 107] rfl (by decide +kernel)
set_option maxRecDepth 20000 in
theorem gX5_exp_X5_fineExp : GoodIn wsX5_exp (wsV RX5 137 RX5 yX5_fineExp wsX5_fineExp) := goodIn_app (goodIn_of _ (by decide +kernel)) ggX5_exp_X5_fineExp
set_option maxRecDepth 20000 in
theorem ggX5_exp_X5_coarse : GoodIn wsX5_exp wsX5_coarse := goodIn_r _ [92, 63, 64, 65, 6, 66, 3, 21, 20, 30, 31, 32, 33, 34, 35, 36, 37, 67, 68, 69, 70, 71, 72, 73, 74, 75, 46, 47, 48, 49, 38, 39, 40, 41, 16, 17, 18, 19, 22, 23, 24, 25, 26, 27, 28, 29, 101, 102, 103, 104, 105, 106, 107] rfl (by decide +kernel)
set_option maxRecDepth 20000 in
theorem gX5_exp_X5_coarse : GoodIn wsX5_exp (wsV RX5 140 RX5 yX5_coarse wsX5_coarse) := goodIn_app (goodIn_of _ (by decide +kernel)) ggX5_exp_X5_coarse
set_option maxRecDepth 20000 in
theorem ggX5_exp_X5_none : GoodIn wsX5_exp wsX5_none := goodIn_r _ [49, 20, 3, 101, 102, 103, 104, 105, 106, 107] rfl (by decide +kernel)
set_option maxRecDepth 20000 in
theorem gX5_exp_X5_none : GoodIn wsX5_exp (wsV RX5 51 RX5 yX5_none wsX5_none) := goodIn_app (goodIn_of _ (by decide +kernel)) ggX5_exp_X5_none
set_option maxRecDepth 20000 in
theorem ggX5_exp_X5_keepEnds : GoodIn wsX5_exp wsX5_keepEnds := goodIn_r _ [96, 38, 39, 40, 6, 41, 16, 17, 18, 19, 3, 20, 21, 22, 23, 24, 25, 26, 27, 28, 29, 30, 31, 32, 33, 34, 35, 36, 37, 63, 64, 65, 66, 67, 68, 69, 70, 71, 72, 73, 74, 75, 46, 47, 48, 49, 12, 13, 14, 15, 97, 98, 99, 100, 101, 102, 103, 104, 105, 106, 107] rfl (by decide +kernel)
set_option maxRecDepth 20000 in
theorem gX5_exp_X5_keepEnds : GoodIn wsX5_exp (wsV RX5 133 RX5 yX5_keepEnds wsX5_keepEnds) := goodIn_app (goodIn_of _ (by decide +kernel)) ggX5_exp_X5_keepEnds
theorem dX5_exp_0 : decode cX5_exp 0 = .ok (.aload_n 0, 1) := by decide +kernel
theorem dX5_exp_1 : decode cX5_exp 1 = .ok (.iconst 0, 1) := by decide +kernel
theorem dX5_exp_2 : decode cX5_exp 2 = .ok (.putfield 48, 3) := by decide +kernel
theorem dX5_exp_5 : decode cX5_exp 5 = .ok (.iload_n 1, 1) := by decide +kernel
theorem dX5_exp_6 : decode cX5_exp 6 = .ok (.invokestatic 111, 3) := by decide +kernel
theorem dX5_exp_9 : decode cX5_exp 9 = .ok (.ifCond .eq 10, 3) := by decide +kernel
theorem dX5_exp_12 : decode cX5_exp 12 = .ok (.iload_n 2, 1) := by decide +kernel
theorem dX5_exp_13 : decode cX5_exp 13 = .ok (.invokestatic 111, 3) := by decide +kernel
theorem dX5_exp_16 : decode cX5_exp 16 = .ok (.ifCond .ne 5, 3) := by decide +kernel
theorem dX5_exp_19 : decode cX5_exp 19 = .ok (.iconst (-1), 1) := by decide +kernel
theorem dX5_exp_20 : decode cX5_exp 20 = .ok (.ireturn, 1) := by decide +kernel
theorem dX5_exp_21 : decode cX5_exp 21 = .ok (.aload_n 0, 1) := by decide +kernel
theorem dX5_exp_22 : decode cX5_exp 22 = .ok (.iload_n 2, 1) := by decide +kernel
theorem dX5_exp_23 : decode cX5_exp 23 = .ok (.invokevirtual 130, 3) := by decide +kernel
theorem dX5_exp_26 : decode cX5_exp 26 = .ok (.aload_n 0, 1) := by decide +kernel
theorem dX5_exp_27 : decode cX5_exp 27 = .ok (.bipush 29, 2) := by decide +kernel
theorem dX5_exp_29 : decode cX5_exp 29 = .ok (.aload_n 0, 1) := by decide +kernel
theorem dX5_exp_30 : decode cX5_exp 30 = .ok (.getfield 23, 3) := by decide +kernel
theorem dX5_exp_33 : decode cX5_exp 33 = .ok (.iconst 4, 1) := by decide +kernel
theorem dX5_exp_34 : decode cX5_exp 34 = .ok (.iadd, 1) := by decide +kernel
theorem dX5_exp_35 : decode cX5_exp 35 = .ok (.invokevirtual 30, 3) := by decide +kernel
theorem dX5_exp_38 : decode cX5_exp 38 = .ok (.aload_n 0, 1) := by decide +kernel
theorem dX5_exp_39 : decode cX5_exp 39 = .ok (.bipush 25, 2) := by decide +kernel
theorem dX5_exp_41 : decode cX5_exp 41 = .ok (.bipush 29, 2) := by decide +kernel
theorem dX5_exp_43 : decode cX5_exp 43 = .ok (.invokevirtual 64, 3) := by decide +kernel
theorem dX5_exp_46 : decode cX5_exp 46 = .ok (.ifCond .le 13, 3) := by decide +kernel
theorem dX5_exp_49 : decode cX5_exp 49 = .ok (.aload_n 0, 1) := by decide +kernel
theorem dX5_exp_50 : decode cX5_exp 50 = .ok (.getfield 13, 3) := by decide +kernel
theorem dX5_exp_53 : decode cX5_exp 53 = .ok (.bipush 25, 2) := by decide +kernel
theorem dX5_exp_55 : decode cX5_exp 55 = .ok (.iaload, 1) := by decide +kernel
theorem dX5_exp_56 : decode cX5_exp 56 = .ok (.ifCond .gt 24, 3) := by decide +kernel
theorem dX5_exp_59 : decode cX5_exp 59 = .ok (.aload_n 0, 1) := by decide +kernel
theorem dX5_exp_60 : decode cX5_exp 60 = .ok (.bipush 24, 2) := by decide +kernel
theorem dX5_exp_62 : decode cX5_exp 62 = .ok (.bipush 29, 2) := by decide +kernel
theorem dX5_exp_64 : decode cX5_exp 64 = .ok (.invokevirtual 64, 3) := by decide +kernel
theorem dX5_exp_67 : decode cX5_exp 67 = .ok (.ifCond .le 15, 3) := by decide +kernel
theorem dX5_exp_70 : decode cX5_exp 70 = .ok (.aload_n 0, 1) := by decide +kernel
theorem dX5_exp_71 : decode cX5_exp 71 = .ok (.getfield 13, 3) := by decide +kernel
theorem dX5_exp_74 : decode cX5_exp 74 = .ok (.bipush 24, 2) := by decide +kernel
theorem dX5_exp_76 : decode cX5_exp 76 = .ok (.iaload, 1) := by decide +kernel
theorem dX5_exp_77 : decode cX5_exp 77 = .ok (.ifCond .ge 5, 3) := by decide +kernel
theorem dX5_exp_80 : decode cX5_exp 80 = .ok (.iconst (-1), 1) := by decide +kernel
theorem dX5_exp_81 : decode cX5_exp 81 = .ok (.ireturn, 1) := by decide +kernel
theorem dX5_exp_82 : decode cX5_exp 82 = .ok (.aload_n 0, 1) := by decide +kernel
theorem dX5_exp_83 : decode cX5_exp 83 = .ok (.bipush 24, 2) := by decide +kernel
theorem dX5_exp_85 : decode cX5_exp 85 = .ok (.bipush 24, 2) := by decide +kernel
theorem dX5_exp_87 : decode cX5_exp 87 = .ok (.bipush 64, 2) := by decide +kernel
theorem dX5_exp_89 : decode cX5_exp 89 = .ok (.invokevirtual 95, 3) := by decide +kernel
theorem dX5_exp_92 : decode cX5_exp 92 = .ok (.aload_n 0, 1) := by decide +kernel
theorem dX5_exp_93 : decode cX5_exp 93 = .ok (.bipush 25, 2) := by decide +kernel
theorem dX5_exp_95 : decode cX5_exp 95 = .ok (.bipush 25, 2) := by decide +kernel
theorem dX5_exp_97 : decode cX5_exp 97 = .ok (.bipush 64, 2) := by decide +kernel
theorem dX5_exp_99 : decode cX5_exp 99 = .ok (.invokevirtual 95, 3) := by decide +kernel
theorem dX5_exp_102 : decode cX5_exp 102 = .ok (.aload_n 0, 1) := by decide +kernel
theorem dX5_exp_103 : decode cX5_exp 103 = .ok (.bipush 24, 2) := by decide +kernel
theorem dX5_exp_105 : decode cX5_exp 105 = .ok (.bipush 24, 2) := by decide +kernel
theorem dX5_exp_107 : decode cX5_exp 107 = .ok (.invokevirtual 137, 3) := by decide +kernel
theorem dX5_exp_110 : decode cX5_exp 110 = .ok (.aload_n 0, 1) := by decide +kernel
theorem dX5_exp_111 : decode cX5_exp 111 = .ok (.bipush 25, 2) := by decide +kernel
theorem dX5_exp_113 : decode cX5_exp 113 = .ok (.bipush 25, 2) := by decide +kernel
