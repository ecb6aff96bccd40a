set_option maxRecDepth 20000 in
theorem ggX5_divideSmall_X5_addSmall : GoodIn wsX5_divideSmall wsX5_addSmall := goodIn_r _ [15, 16, 17, 18, 6, 19, 2, 20, 21, 22, 23, 24, 1, 8, 9, 10, 11, 25, 26, 27, 28, 29, 30, 31, 32, 33, 34, 35, 36, 37, 38, 39, 40, 41, 3, 4, 5, 7, 42, 43, 44, 45, 46, 47, 48] rfl (by decide +kernel)
set_option maxRecDepth 20000 in
theorem gX5_divideSmall_X5_addSmall : GoodIn wsX5_divideSmall (wsV RX5 85 RX5 yX5_addSmall wsX5_addSmall) := goodIn_app (goodIn_of _ (by decide +kernel)) ggX5_divideSmall_X5_addSmall
theorem dX5_divideSmall_0 : decode cX5_divideSmall 0 = .ok (.aload_n 0, 1) := by decide +kernel
theorem dX5_divideSmall_1 : decode cX5_divideSmall 1 = .ok (.getfield 13, 3) := by decide +kernel
theorem dX5_divideSmall_4 : decode cX5_divideSmall 4 = .ok (.iload_n 2, 1) := by decide +kernel
theorem dX5_divideSmall_5 : decode cX5_divideSmall 5 = .ok (.iaload, 1) := by decide +kernel
theorem dX5_divideSmall_6 : decode cX5_divideSmall 6 = .ok (.istore 4, 2) := by decide +kernel
theorem dX5_divideSmall_8 : decode cX5_divideSmall 8 = .ok (.lconst 0, 1) := by decide +kernel
theorem dX5_divideSmall_9 : decode cX5_divideSmall 9 = .ok (.lstore 5, 2) := by decide +kernel
theorem dX5_divideSmall_11 : decode cX5_divideSmall 11 = .ok (.bipush 33, 2) := by decide +kernel
theorem dX5_divideSmall_13 : decode cX5_divideSmall 13 = .ok (.istore 7, 2) := by decide +kernel
theorem dX5_divideSmall_15 : decode cX5_divideSmall 15 = .ok (.iload 7, 2) := by decide +kernel
theorem dX5_divideSmall_17 : decode cX5_divideSmall 17 = .ok (.ifCond .lt 50, 3) := by decide +kernel
theorem dX5_divideSmall_20 : decode cX5_divideSmall 20 = .ok (.lload 5, 2) := by decide +kernel
theorem dX5_divideSmall_22 : decode cX5_divideSmall 22 = .ok (.bipush 24, 2) := by decide +kernel
theorem dX5_divideSmall_24 : decode cX5_divideSmall 24 = .ok (.lshl, 1) := by decide +kernel
theorem dX5_divideSmall_25 : decode cX5_divideSmall 25 = .ok (.aload_n 0, 1) := by decide +kernel
theorem dX5_divideSmall_26 : decode cX5_divideSmall 26 = .ok (.iload_n 2, 1) := by decide +kernel
theorem dX5_divideSmall_27 : decode cX5_divideSmall 27 = .ok (.iload 7, 2) := by decide +kernel
theorem dX5_divideSmall_29 : decode cX5_divideSmall 29 = .ok (.invokevirtual 60, 3) := by decide +kernel
theorem dX5_divideSmall_32 : decode cX5_divideSmall 32 = .ok (.i2l, 1) := by decide +kernel
theorem dX5_divideSmall_33 : decode cX5_divideSmall 33 = .ok (.lor, 1) := by decide +kernel
theorem dX5_divideSmall_34 : decode cX5_divideSmall 34 = .ok (.lstore 5, 2) := by decide +kernel
theorem dX5_divideSmall_36 : decode cX5_divideSmall 36 = .ok (.aload_n 0, 1) := by decide +kernel
theorem dX5_divideSmall_37 : decode cX5_divideSmall 37 = .ok (.getfield 7, 3) := by decide +kernel
theorem dX5_divideSmall_40 : decode cX5_divideSmall 40 = .ok (.bipush 34, 2) := by decide +kernel
theorem dX5_divideSmall_42 : decode cX5_divideSmall 42 = .ok (.iload_n 1, 1) := by decide +kernel
theorem dX5_divideSmall_43 : decode cX5_divideSmall 43 = .ok (.imul, 1) := by decide +kernel
theorem dX5_divideSmall_44 : decode cX5_divideSmall 44 = .ok (.iload 7, 2) := by decide +kernel
theorem dX5_divideSmall_46 : decode cX5_divideSmall 46 = .ok (.iadd, 1) := by decide +kernel
theorem dX5_divideSmall_47 : decode cX5_divideSmall 47 = .ok (.lload 5, 2) := by decide +kernel
theorem dX5_divideSmall_49 : decode cX5_divideSmall 49 = .ok (.iload_n 3, 1) := by decide +kernel
theorem dX5_divideSmall_50 : decode cX5_divideSmall 50 = .ok (.i2l, 1) := by decide +kernel
theorem dX5_divideSmall_51 : decode cX5_divideSmall 51 = .ok (.ldiv, 1) := by decide +kernel
theorem dX5_divideSmall_52 : decode cX5_divideSmall 52 = .ok (.l2i, 1) := by decide +kernel
theorem dX5_divideSmall_53 : decode cX5_divideSmall 53 = .ok (.iastore, 1) := by decide +kernel
theorem dX5_divideSmall_54 : decode cX5_divideSmall 54 = .ok (.lload 5, 2) := by decide +kernel
theorem dX5_divideSmall_56 : decode cX5_divideSmall 56 = .ok (.iload_n 3, 1) := by decide +kernel
theorem dX5_divideSmall_57 : decode cX5_divideSmall 57 = .ok (.i2l, 1) := by decide +kernel
theorem dX5_divideSmall_58 : decode cX5_divideSmall 58 = .ok (.lrem, 1) := by decide +kernel
theorem dX5_divideSmall_59 : decode cX5_divideSmall 59 = .ok (.lstore 5, 2) := by decide +kernel
theorem dX5_divideSmall_61 : decode cX5_divideSmall 61 = .ok (.iinc 7 (-1), 3) := by decide +kernel
theorem dX5_divideSmall_64 : decode cX5_divideSmall 64 = .ok (.goto (-49), 3) := by decide +kernel
theorem dX5_divideSmall_67 : decode cX5_divideSmall 67 = .ok (.aload_n 0, 1) := by decide +kernel
theorem dX5_divideSmall_68 : decode cX5_divideSmall 68 = .ok (.iload_n 1, 1) := by decide +kernel
theorem dX5_divideSmall_69 : decode cX5_divideSmall 69 = .ok (.iload 4, 2) := by decide +kernel
theorem dX5_divideSmall_71 : decode cX5_divideSmall 71 = .ok (.invokevirtual 57, 3) := by decide +kernel
theorem dX5_divideSmall_74 : decode cX5_divideSmall 74 = .ok (.iload 4, 2) := by decide +kernel
theorem dX5_divideSmall_76 : decode cX5_divideSmall 76 = .ok (.ifCond .ge 16, 3) := by decide +kernel
theorem dX5_divideSmall_79 : decode cX5_divideSmall 79 = .ok (.lload 5, 2) := by decide +kernel
theorem dX5_divideSmall_81 : decode cX5_divideSmall 81 = .ok (.lconst 0, 1) := by decide +kernel
theorem dX5_divideSmall_82 : decode cX5_divideSmall 82 = .ok (.lcmp, 1) := by decide +kernel
theorem dX5_divideSmall_83 : decode cX5_divideSmall 83 = .ok (.ifCond .le 9, 3) := by decide +kernel
theorem dX5_divideSmall_86 : decode cX5_divideSmall 86 = .ok (.aload_n 0, 1) := by decide +kernel
theorem dX5_divideSmall_87 : decode cX5_divideSmall 87 = .ok (.iload_n 1, 1) := by decide +kernel
theorem dX5_divideSmall_88 : decode cX5_divideSmall 88 = .ok (.iconst (-1), 1) := by decide +kernel
theorem dX5_divideSmall_89 : decode cX5_divideSmall 89 = .ok (.invokevirtual 85, 3) := by decide +kernel
theorem dX5_divideSmall_92 : decode cX5_divideSmall 92 = .ok (.return_, 1) := by decide +kernel
set_option maxRecDepth 20000 in
theorem ggX5_divide_X5_bits : GoodIn wsX5_divide wsX5_bits := goodIn_r _ [9, 10, 11, 12, 8, 13, 3, 47, 48, 49, 50, 51, 52, 53] rfl (by decide +kernel)
set_option maxRecDepth 20000 in
theorem gX5_divide_X5_bits : GoodIn wsX5_divide (wsV RX5 88 RX5 yX5_bits wsX5_bits) := goodIn_app (goodIn_of _ (by decide +kernel)) ggX5_divide_X5_bits
set_option maxRecDepth 20000 in
theorem ggX5_divide_X5_none : GoodIn wsX5_divide wsX5_none := goodIn_r _ [17, 3, 4, 47, 48, 49, 50, 51, 52, 53] rfl (by decide +kernel)
set_option maxRecDepth 20000 in
theorem gX5_divide_X5_none : GoodIn wsX5_divide (wsV RX5 51 RX5 yX5_none wsX5_none) := goodIn_app (goodIn_of _ (by decide +kernel)) ggX5_divide_X5_none
set_option maxRecDepth 20000 in
theorem ggX5_divide_X5_at : GoodIn wsX5_divide wsX5_at := goodIn_r _ [13, 3, 47, 48, 49, 50, 51, 52, 53] rfl (by decide +kernel)
set_option maxRecDepth 20000 in
theorem gX5_divide_X5_at : GoodIn wsX5_divide (wsV RX5 60 RX5 yX5_at wsX5_at) := goodIn_app (goodIn_of _ (by decide +kernel)) ggX5_divide_X5_at
set_option maxRecDepth 20000 in
theorem ggX5_divide_X5_settle : GoodIn wsX5_divide wsX5_settle := goodIn_r _ [21, 3, 4, 47, 48, 49, 50, 51, 52, 53] rfl (by decide +kernel)
set_option maxRecDepth 20000 in
theorem gX5_divide_X5_settle : GoodIn wsX5_divide (wsV RX5 57 RX5 yX5_settle wsX5_settle) := goodIn_app (goodIn_of _ (by decide +kernel)) ggX5_divide_X5_settle
set_option maxRecDepth 20000 in
theorem ggX5_divide_X5_addSmall : GoodIn wsX5_divide wsX5_addSmall := goodIn_r _ [25, 26, 27, 28, 8, 29, 3, 30, 14, 15, 16, 17, 4, 18, 19, 20, 21, 31, 32, 33, 34, 35, 36, 37, 38, 2, 39, 40, 41, 42, 43, 44, 45, 46, 10, 11, 12, 13, 47, 48, 49, 50, 51, 52, 53] rfl (by decide +kernel)
set_option maxRecDepth 20000 in
theorem gX5_divide_X5_addSmall : GoodIn wsX5_divide (wsV RX5 85 RX5 yX5_addSmall wsX5_addSmall) := goodIn_app (goodIn_of _ (by decide +kernel)) ggX5_divide_X5_addSmall
theorem dX5_divide_0 : decode cX5_divide 0 = .ok (.aload_n 0, 1) := by decide +kernel
theorem dX5_divide_1 : decode cX5_divide 1 = .ok (.iload_n 2, 1) := by decide +kernel
theorem dX5_divide_2 : decode cX5_divide 2 = .ok (.invokevirtual 88, 3) := by decide +kernel
theorem dX5_divide_5 : decode cX5_divide 5 = .ok (.istore 4, 2) := by decide +kernel
theorem dX5_divide_7 : decode cX5_divide 7 = .ok (.aload_n 0, 1) := by decide +kernel
theorem dX5_divide_8 : decode cX5_divide 8 = .ok (.iload_n 1, 1) := by decide +kernel
theorem dX5_divide_9 : decode cX5_divide 9 = .ok (.invokevirtual 51, 3) := by decide +kernel
theorem dX5_divide_12 : decode cX5_divide 12 = .ok (.iconst 0, 1) := by decide +kernel
theorem dX5_divide_13 : decode cX5_divide 13 = .ok (.istore 5, 2) := by decide +kernel
theorem dX5_divide_15 : decode cX5_divide 15 = .ok (.iload 5, 2) := by decide +kernel
theorem dX5_divide_17 : decode cX5_divide 17 = .ok (.bipush 36, 2) := by decide +kernel
theorem dX5_divide_19 : decode cX5_divide 19 = .ok (.if_icmp .ge 17, 3) := by decide +kernel
theorem dX5_divide_22 : decode cX5_divide 22 = .ok (.aload_n 0, 1) := by decide +kernel
theorem dX5_divide_23 : decode cX5_divide 23 = .ok (.getfield 20, 3) := by decide +kernel
theorem dX5_divide_26 : decode cX5_divide 26 = .ok (.iload 5, 2) := by decide +kernel
theorem dX5_divide_28 : decode cX5_divide 28 = .ok (.iconst 0, 1) := by decide +kernel
theorem dX5_divide_29 : decode cX5_divide 29 = .ok (.iastore, 1) := by decide +kernel
theorem dX5_divide_30 : decode cX5_divide 30 = .ok (.iinc 5 1, 3) := by decide +kernel
theorem dX5_divide_33 : decode cX5_divide 33 = .ok (.goto (-18), 3) := by decide +kernel
theorem dX5_divide_36 : decode cX5_divide 36 = .ok (.iload 4, 2) := by decide +kernel
theorem dX5_divide_38 : decode cX5_divide 38 = .ok (.iconst 1, 1) := by decide +kernel
theorem dX5_divide_39 : decode cX5_divide 39 = .ok (.isub, 1) := by decide +kernel
theorem dX5_divide_40 : decode cX5_divide 40 = .ok (.istore 5, 2) := by decide +kernel
theorem dX5_divide_42 : decode cX5_divide 42 = .ok (.iload 5, 2) := by decide +kernel
theorem dX5_divide_44 : decode cX5_divide 44 = .ok (.ifCond .lt 210, 3) := by decide +kernel
theorem dX5_divide_47 : decode cX5_divide 47 = .ok (.aload_n 0, 1) := by decide +kernel
theorem dX5_divide_48 : decode cX5_divide 48 = .ok (.iload_n 2, 1) := by decide +kernel
theorem dX5_divide_49 : decode cX5_divide 49 = .ok (.iload 5, 2) := by decide +kernel
theorem dX5_divide_51 : decode cX5_divide 51 = .ok (.bipush 24, 2) := by decide +kernel
theorem dX5_divide_53 : decode cX5_divide 53 = .ok (.idiv, 1) := by decide +kernel
theorem dX5_divide_54 : decode cX5_divide 54 = .ok (.invokevirtual 60, 3) := by decide +kernel
theorem dX5_divide_57 : decode cX5_divide 57 = .ok (.iload 5, 2) := by decide +kernel
theorem dX5_divide_59 : decode cX5_divide 59 = .ok (.bipush 24, 2) := by decide +kernel
theorem dX5_divide_61 : decode cX5_divide 61 = .ok (.irem, 1) := by decide +kernel
theorem dX5_divide_62 : decode cX5_divide 62 = .ok (.ishr, 1) := by decide +kernel
theorem dX5_divide_63 : decode cX5_divide 63 = .ok (.iconst 1, 1) := by decide +kernel
theorem dX5_divide_64 : decode cX5_divide 64 = .ok (.iand, 1) := by decide +kernel
theorem dX5_divide_65 : decode cX5_divide 65 = .ok (.istore 6, 2) := by decide +kernel
theorem dX5_divide_67 : decode cX5_divide 67 = .ok (.iconst 0, 1) := by decide +kernel
theorem dX5_divide_68 : decode cX5_divide 68 = .ok (.istore 7, 2) := by decide +kernel
theorem dX5_divide_70 : decode cX5_divide 70 = .ok (.iload 7, 2) := by decide +kernel
theorem dX5_divide_72 : decode cX5_divide 72 = .ok (.bipush 34, 2) := by decide +kernel
theorem dX5_divide_74 : decode cX5_divide 74 = .ok (.if_icmp .ge 42, 3) := by decide +kernel
theorem dX5_divide_77 : decode cX5_divide 77 = .ok (.aload_n 0, 1) := by decide +kernel
theorem dX5_divide_78 : decode cX5_divide 78 = .ok (.getfield 20, 3) := by decide +kernel
theorem dX5_divide_81 : decode cX5_divide 81 = .ok (.iload 7, 2) := by decide +kernel
theorem dX5_divide_83 : decode cX5_divide 83 = .ok (.iaload, 1) := by decide +kernel
theorem dX5_divide_84 : decode cX5_divide 84 = .ok (.iconst 1, 1) := by decide +kernel
theorem dX5_divide_85 : decode cX5_divide 85 = .ok (.ishl, 1) := by decide +kernel
theorem dX5_divide_86 : decode cX5_divide 86 = .ok (.iload 6, 2) := by decide +kernel
theorem dX5_divide_88 : decode cX5_divide 88 = .ok (.ior, 1) := by decide +kernel
theorem dX5_divide_89 : decode cX5_divide 89 = .ok (.istore 8, 2) := by decide +kernel
theorem dX5_divide_91 : decode cX5_divide 91 = .ok (.aload_n 0, 1) := by decide +kernel
theorem dX5_divide_92 : decode cX5_divide 92 = .ok (.getfield 20, 3) := by decide +kernel
theorem dX5_divide_95 : decode cX5_divide 95 = .ok (.iload 7, 2) := by decide +kernel
theorem dX5_divide_97 : decode cX5_divide 97 = .ok (.iload 8, 2) := by decide +kernel
theorem dX5_divide_99 : decode cX5_divide 99 = .ok (.ldc 70, 2) := by decide +kernel
theorem dX5_divide_101 : decode cX5_divide 101 = .ok (.iand, 1) := by decide +kernel
theorem dX5_divide_102 : decode cX5_divide 102 = .ok (.iastore, 1) := by decide +kernel
theorem dX5_divide_103 : decode cX5_divide 103 = .ok (.iload 8, 2) := by decide +kernel
theorem dX5_divide_105 : decode cX5_divide 105 = .ok (.bipush 24, 2) := by decide +kernel
theorem dX5_divide_107 : decode cX5_divide 107 = .ok (.ishr, 1) := by decide +kernel
theorem dX5_divide_108 : decode cX5_divide 108 = .ok (.istore 6, 2) := by decide +kernel
theorem dX5_divide_110 : decode cX5_divide 110 = .ok (.iinc 7 1, 3) := by decide +kernel
theorem dX5_divide_113 : decode cX5_divide 113 = .ok (.goto (-43), 3) := by decide +kernel
theorem dX5_divide_116 : decode cX5_divide 116 = .ok (.bipush 33, 2) := by decide +kernel
theorem dX5_divide_118 : decode cX5_divide 118 = .ok (.istore 7, 2) := by decide +kernel
theorem dX5_divide_120 : decode cX5_divide 120 = .ok (.iload 7, 2) := by decide +kernel
theorem dX5_divide_122 : decode cX5_divide 122 = .ok (.ifCond .le 26, 3) := by decide +kernel
theorem dX5_divide_125 : decode cX5_divide 125 = .ok (.aload_n 0, 1) := by decide +kernel
theorem dX5_divide_126 : decode cX5_divide 126 = .ok (.getfield 20, 3) := by decide +kernel
theorem dX5_divide_129 : decode cX5_divide 129 = .ok (.iload 7, 2) := by decide +kernel
theorem dX5_divide_131 : decode cX5_divide 131 = .ok (.iaload, 1) := by decide +kernel
theorem dX5_divide_132 : decode cX5_divide 132 = .ok (.aload_n 0, 1) := by decide +kernel
theorem dX5_divide_133 : decode cX5_divide 133 = .ok (.iload_n 3, 1) := by decide +kernel
theorem dX5_divide_134 : decode cX5_divide 134 = .ok (.iload 7, 2) := by decide +kernel
theorem dX5_divide_136 : decode cX5_divide 136 = .ok (.invokevirtual 60, 3) := by decide +kernel
theorem dX5_divide_139 : decode cX5_divide 139 = .ok (.if_icmp .ne 9, 3) := by decide +kernel
theorem dX5_divide_142 : decode cX5_divide 142 = .ok (.iinc 7 (-1), 3) := by decide +kernel
theorem dX5_divide_145 : decode cX5_divide 145 = .ok (.goto (-25), 3) := by decide +kernel
theorem dX5_divide_148 : decode cX5_divide 148 = .ok (.aload_n 0, 1) := by decide +kernel
theorem dX5_divide_149 : decode cX5_divide 149 = .ok (.getfield 20, 3) := by decide +kernel
theorem dX5_divide_152 : decode cX5_divide 152 = .ok (.iload 7, 2) := by decide +kernel
theorem dX5_divide_154 : decode cX5_divide 154 = .ok (.iaload, 1) := by decide +kernel
theorem dX5_divide_155 : decode cX5_divide 155 = .ok (.aload_n 0, 1) := by decide +kernel
theorem dX5_divide_156 : decode cX5_divide 156 = .ok (.iload_n 3, 1) := by decide +kernel
theorem dX5_divide_157 : decode cX5_divide 157 = .ok (.iload 7, 2) := by decide +kernel
theorem dX5_divide_159 : decode cX5_divide 159 = .ok (.invokevirtual 60, 3) := by decide +kernel
theorem dX5_divide_162 : decode cX5_divide 162 = .ok (.if_icmp .lt 86, 3) := by decide +kernel
theorem dX5_divide_165 : decode cX5_divide 165 = .ok (.iconst 0, 1) := by decide +kernel
theorem dX5_divide_166 : decode cX5_divide 166 = .ok (.istore 8, 2) := by decide +kernel
theorem dX5_divide_168 : decode cX5_divide 168 = .ok (.iconst 0, 1) := by decide +kernel
theorem dX5_divide_169 : decode cX5_divide 169 = .ok (.istore 9, 2) := by decide +kernel
theorem dX5_divide_171 : decode cX5_divide 171 = .ok (.iload 9, 2) := by decide +kernel
theorem dX5_divide_173 : decode cX5_divide 173 = .ok (.bipush 34, 2) := by decide +kernel
theorem dX5_divide_175 : decode cX5_divide 175 = .ok (.if_icmp .ge 48, 3) := by decide +kernel
theorem dX5_divide_178 : decode cX5_divide 178 = .ok (.aload_n 0, 1) := by decide +kernel
theorem dX5_divide_179 : decode cX5_divide 179 = .ok (.getfield 20, 3) := by decide +kernel
theorem dX5_divide_182 : decode cX5_divide 182 = .ok (.iload 9, 2) := by decide +kernel
theorem dX5_divide_184 : decode cX5_divide 184 = .ok (.iaload, 1) := by decide +kernel
theorem dX5_divide_185 : decode cX5_divide 185 = .ok (.aload_n 0, 1) := by decide +kernel
theorem dX5_divide_186 : decode cX5_divide 186 = .ok (.iload_n 3, 1) := by decide +kernel
theorem dX5_divide_187 : decode cX5_divide 187 = .ok (.iload 9, 2) := by decide +kernel
theorem dX5_divide_189 : decode cX5_divide 189 = .ok (.invokevirtual 60, 3) := by decide +kernel
theorem dX5_divide_192 : decode cX5_divide 192 = .ok (.isub, 1) := by decide +kernel
theorem dX5_divide_193 : decode cX5_divide 193 = .ok (.iload 8, 2) := by decide +kernel
theorem dX5_divide_195 : decode cX5_divide 195 = .ok (.iadd, 1) := by decide +kernel
theorem dX5_divide_196 : decode cX5_divide 196 = .ok (.istore 10, 2) := by decide +kernel
theorem dX5_divide_198 : decode cX5_divide 198 = .ok (.aload_n 0, 1) := by decide +kernel
theorem dX5_divide_199 : decode cX5_divide 199 = .ok (.getfield 20, 3) := by decide +kernel
theorem dX5_divide_202 : decode cX5_divide 202 = .ok (.iload 9, 2) := by decide +kernel
theorem dX5_divide_204 : decode cX5_divide 204 = .ok (.iload 10, 2) := by decide +kernel
theorem dX5_divide_206 : decode cX5_divide 206 = .ok (.ldc 70, 2) := by decide +kernel
theorem dX5_divide_208 : decode cX5_divide 208 = .ok (.iand, 1) := by decide +kernel
theorem dX5_divide_209 : decode cX5_divide 209 = .ok (.iastore, 1) := by decide +kernel
theorem dX5_divide_210 : decode cX5_divide 210 = .ok (.iload 10, 2) := by decide +kernel
theorem dX5_divide_212 : decode cX5_divide 212 = .ok (.bipush 24, 2) := by decide +kernel
theorem dX5_divide_214 : decode cX5_divide 214 = .ok (.ishr, 1) := by decide +kernel
theorem dX5_divide_215 : decode cX5_divide 215 = .ok (.istore 8, 2) := by decide +kernel
theorem dX5_divide_217 : decode cX5_divide 217 = .ok (.iinc 9 1, 3) := by decide +kernel
theorem dX5_divide_220 : decode cX5_divide 220 = .ok (.goto (-49), 3) := by decide +kernel
theorem dX5_divide_223 : decode cX5_divide 223 = .ok (.aload_n 0, 1) := by decide +kernel
theorem dX5_divide_224 : decode cX5_divide 224 = .ok (.getfield 7, 3) := by decide +kernel
theorem dX5_divide_227 : decode cX5_divide 227 = .ok (.bipush 34, 2) := by decide +kernel
theorem dX5_divide_229 : decode cX5_divide 229 = .ok (.iload_n 1, 1) := by decide +kernel
theorem dX5_divide_230 : decode cX5_divide 230 = .ok (.imul, 1) := by decide +kernel
theorem dX5_divide_231 : decode cX5_divide 231 = .ok (.iload 5, 2) := by decide +kernel
theorem dX5_divide_233 : decode cX5_divide 233 = .ok (.bipush 24, 2) := by decide +kernel
theorem dX5_divide_235 : decode cX5_divide 235 = .ok (.idiv, 1) := by decide +kernel
theorem dX5_divide_236 : decode cX5_divide 236 = .ok (.iadd, 1) := by decide +kernel
theorem dX5_divide_237 : decode cX5_divide 237 = .ok (.dup2, 1) := by decide +kernel
theorem dX5_divide_238 : decode cX5_divide 238 = .ok (.iaload, 1) := by decide +kernel
theorem dX5_divide_239 : decode cX5_divide 239 = .ok (.iconst 1, 1) := by decide +kernel
theorem dX5_divide_240 : decode cX5_divide 240 = .ok (.iload 5, 2) := by decide +kernel
theorem dX5_divide_242 : decode cX5_divide 242 = .ok (.bipush 24, 2) := by decide +kernel
theorem dX5_divide_244 : decode cX5_divide 244 = .ok (.irem, 1) := by decide +kernel
theorem dX5_divide_245 : decode cX5_divide 245 = .ok (.ishl, 1) := by decide +kernel
theorem dX5_divide_246 : decode cX5_divide 246 = .ok (.ior, 1) := by decide +kernel
theorem dX5_divide_247 : decode cX5_divide 247 = .ok (.iastore, 1) := by decide +kernel
theorem dX5_divide_248 : decode cX5_divide 248 = .ok (.iinc 5 (-1), 3) := by decide +kernel
theorem dX5_divide_251 : decode cX5_divide 251 = .ok (.goto (-209), 3) := by decide +kernel
theorem dX5_divide_254 : decode cX5_divide 254 = .ok (.iconst 0, 1) := by decide +kernel
theorem dX5_divide_255 : decode cX5_divide 255 = .ok (.istore 5, 2) := by decide +kernel
theorem dX5_divide_257 : decode cX5_divide 257 = .ok (.iconst 0, 1) := by decide +kernel
theorem dX5_divide_258 : decode cX5_divide 258 = .ok (.istore 6, 2) := by decide +kernel
theorem dX5_divide_260 : decode cX5_divide 260 = .ok (.iload 6, 2) := by decide +kernel
theorem dX5_divide_262 : decode cX5_divide 262 = .ok (.bipush 34, 2) := by decide +kernel
theorem dX5_divide_264 : decode cX5_divide 264 = .ok (.if_icmp .ge 31, 3) := by decide +kernel
theorem dX5_divide_267 : decode cX5_divide 267 = .ok (.iload 5, 2) := by decide +kernel
theorem dX5_divide_269 : decode cX5_divide 269 = .ok (.ifCond .ne 13, 3) := by decide +kernel
theorem dX5_divide_272 : decode cX5_divide 272 = .ok (.aload_n 0, 1) := by decide +kernel
theorem dX5_divide_273 : decode cX5_divide 273 = .ok (.getfield 20, 3) := by decide +kernel
theorem dX5_divide_276 : decode cX5_divide 276 = .ok (.iload 6, 2) := by decide +kernel
theorem dX5_divide_278 : decode cX5_divide 278 = .ok (.iaload, 1) := by decide +kernel
theorem dX5_divide_279 : decode cX5_divide 279 = .ok (.ifCond .eq 7, 3) := by decide +kernel
theorem dX5_divide_282 : decode cX5_divide 282 = .ok (.iconst 1, 1) := by decide +kernel
theorem dX5_divide_283 : decode cX5_divide 283 = .ok (.goto 4, 3) := by decide +kernel
theorem dX5_divide_286 : decode cX5_divide 286 = .ok (.iconst 0, 1) := by decide +kernel
theorem dX5_divide_287 : decode cX5_divide 287 = .ok (.istore 5, 2) := by decide +kernel
theorem dX5_divide_289 : decode cX5_divide 289 = .ok (.iinc 6 1, 3) := by decide +kernel
theorem dX5_divide_292 : decode cX5_divide 292 = .ok (.goto (-32), 3) := by decide +kernel
theorem dX5_divide_295 : decode cX5_divide 295 = .ok (.aload_n 0, 1) := by decide +kernel
theorem dX5_divide_296 : decode cX5_divide 296 = .ok (.iload_n 1, 1) := by decide +kernel
theorem dX5_divide_297 : decode cX5_divide 297 = .ok (.aload_n 0, 1) := by decide +kernel
theorem dX5_divide_298 : decode cX5_divide 298 = .ok (.getfield 13, 3) := by decide +kernel
theorem dX5_divide_301 : decode cX5_divide 301 = .ok (.iload_n 2, 1) := by decide +kernel
theorem dX5_divide_302 : decode cX5_divide 302 = .ok (.iaload, 1) := by decide +kernel
theorem dX5_divide_303 : decode cX5_divide 303 = .ok (.invokevirtual 57, 3) := by decide +kernel
theorem dX5_divide_306 : decode cX5_divide 306 = .ok (.aload_n 0, 1) := by decide +kernel
theorem dX5_divide_307 : decode cX5_divide 307 = .ok (.getfield 13, 3) := by decide +kernel
theorem dX5_divide_310 : decode cX5_divide 310 = .ok (.iload_n 2, 1) := by decide +kernel
theorem dX5_divide_311 : decode cX5_divide 311 = .ok (.iaload, 1) := by decide +kernel
theorem dX5_divide_312 : decode cX5_divide 312 = .ok (.ifCond .ge 14, 3) := by decide +kernel
theorem dX5_divide_315 : decode cX5_divide 315 = .ok (.iload 5, 2) := by decide +kernel
theorem dX5_divide_317 : decode cX5_divide 317 = .ok (.ifCond .eq 9, 3) := by decide +kernel
theorem dX5_divide_320 : decode cX5_divide 320 = .ok (.aload_n 0, 1) := by decide +kernel
theorem dX5_divide_321 : decode cX5_divide 321 = .ok (.iload_n 1, 1) := by decide +kernel
theorem dX5_divide_322 : decode cX5_divide 322 = .ok (.iconst (-1), 1) := by decide +kernel
theorem dX5_divide_323 : decode cX5_divide 323 = .ok (.invokevirtual 85, 3) := by decide +kernel
theorem dX5_divide_326 : decode cX5_divide 326 = .ok (.return_, 1) := by decide +kernel
set_option maxRecDepth 20000 in
theorem ggX5_divideUp_X5_divide : GoodIn wsX5_divideUp wsX5_divide := goodIn_r _ [6, 7, 8, 9, 1, 10, 11, 12, 5, 13, 14, 15, 16, 17, 18, 19, 20, 21, 22, 23, 24, 25, 26, 27, 28, 29, 30, 31, 32, 33, 34, 35, 36, 37, 38, 39, 40, 41, 42, 43, 44, 45, 46, 47, 48, 49, 50, 51, 52, 53, 54, 55, 56, 57] rfl (by decide +kernel)
set_option maxRecDepth 20000 in
theorem gX5_divideUp_X5_divide : GoodIn wsX5_divideUp (wsV RX5 92 RX5 yX5_divide wsX5_divide) := goodIn_app (goodIn_of _ (by decide +kernel)) ggX5_divideUp_X5_divide
theorem dX5_divideUp_0 : decode cX5_divideUp 0 = .ok (.aload_n 0, 1) := by decide +kernel
theorem dX5_divideUp_1 : decode cX5_divideUp 1 = .ok (.getfield 13, 3) := by decide +kernel
theorem dX5_divideUp_4 : decode cX5_divideUp 4 = .ok (.iload_n 2, 1) := by decide +kernel
theorem dX5_divideUp_5 : decode cX5_divideUp 5 = .ok (.aload_n 0, 1) := by decide +kernel
theorem dX5_divideUp_6 : decode cX5_divideUp 6 = .ok (.getfield 13, 3) := by decide +kernel
theorem dX5_divideUp_9 : decode cX5_divideUp 9 = .ok (.iload_n 2, 1) := by decide +kernel
theorem dX5_divideUp_10 : decode cX5_divideUp 10 = .ok (.iaload, 1) := by decide +kernel
theorem dX5_divideUp_11 : decode cX5_divideUp 11 = .ok (.ineg, 1) := by decide +kernel
theorem dX5_divideUp_12 : decode cX5_divideUp 12 = .ok (.iastore, 1) := by decide +kernel
theorem dX5_divideUp_13 : decode cX5_divideUp 13 = .ok (.aload_n 0, 1) := by decide +kernel
theorem dX5_divideUp_14 : decode cX5_divideUp 14 = .ok (.iload_n 1, 1) := by decide +kernel
theorem dX5_divideUp_15 : decode cX5_divideUp 15 = .ok (.iload_n 2, 1) := by decide +kernel
theorem dX5_divideUp_16 : decode cX5_divideUp 16 = .ok (.iload_n 3, 1) := by decide +kernel
theorem dX5_divideUp_17 : decode cX5_divideUp 17 = .ok (.invokevirtual 92, 3) := by decide +kernel
theorem dX5_divideUp_20 : decode cX5_divideUp 20 = .ok (.aload_n 0, 1) := by decide +kernel
theorem dX5_divideUp_21 : decode cX5_divideUp 21 = .ok (.getfield 13, 3) := by decide +kernel
theorem dX5_divideUp_24 : decode cX5_divideUp 24 = .ok (.iload_n 2, 1) := by decide +kernel
theorem dX5_divideUp_25 : decode cX5_divideUp 25 = .ok (.aload_n 0, 1) := by decide +kernel
theorem dX5_divideUp_26 : decode cX5_divideUp 26 = .ok (.getfield 13, 3) := by decide +kernel
theorem dX5_divideUp_29 : decode cX5_divideUp 29 = .ok (.iload_n 2, 1) := by decide +kernel
theorem dX5_divideUp_30 : decode cX5_divideUp 30 = .ok (.iaload, 1) := by decide +kernel
theorem dX5_divideUp_31 : decode cX5_divideUp 31 = .ok (.ineg, 1) := by decide +kernel
theorem dX5_divideUp_32 : decode cX5_divideUp 32 = .ok (.iastore, 1) := by decide +kernel
theorem dX5_divideUp_33 : decode cX5_divideUp 33 = .ok (.aload_n 0, 1) := by decide +kernel
theorem dX5_divideUp_34 : decode cX5_divideUp 34 = .ok (.getfield 13, 3) := by decide +kernel
theorem dX5_divideUp_37 : decode cX5_divideUp 37 = .ok (.iload_n 1, 1) := by decide +kernel
theorem dX5_divideUp_38 : decode cX5_divideUp 38 = .ok (.aload_n 0, 1) := by decide +kernel
theorem dX5_divideUp_39 : decode cX5_divideUp 39 = .ok (.getfield 13, 3) := by decide +kernel
theorem dX5_divideUp_42 : decode cX5_divideUp 42 = .ok (.iload_n 1, 1) := by decide +kernel
theorem dX5_divideUp_43 : decode cX5_divideUp 43 = .ok (.iaload, 1) := by decide +kernel
theorem dX5_divideUp_44 : decode cX5_divideUp 44 = .ok (.ineg, 1) := by decide +kernel
theorem dX5_divideUp_45 : decode cX5_divideUp 45 = .ok (.iastore, 1) := by decide +kernel
theorem dX5_divideUp_46 : decode cX5_divideUp 46 = .ok (.return_, 1) := by decide +kernel
set_option maxRecDepth 20000 in
theorem ggX5_squareRoot_X5_bits : GoodIn wsX5_squareRoot wsX5_bits := goodIn_r _ [7, 8, 9, 10, 6, 11, 1, 45, 46, 47, 48, 49, 50, 51] rfl (by decide +kernel)
set_option maxRecDepth 20000 in
theorem gX5_squareRoot_X5_bits : GoodIn wsX5_squareRoot (wsV RX5 88 RX5 yX5_bits wsX5_bits) := goodIn_app (goodIn_of _ (by decide +kernel)) ggX5_squareRoot_X5_bits
set_option maxRecDepth 20000 in
theorem ggX5_squareRoot_X5_none : GoodIn wsX5_squareRoot wsX5_none := goodIn_r _ [15, 1, 2, 45, 46, 47, 48, 49, 50, 51] rfl (by decide +kernel)
set_option maxRecDepth 20000 in
theorem gX5_squareRoot_X5_none : GoodIn wsX5_squareRoot (wsV RX5 51 RX5 yX5_none wsX5_none) := goodIn_app (goodIn_of _ (by decide +kernel)) ggX5_squareRoot_X5_none
set_option maxRecDepth 20000 in
theorem ggX5_squareRoot_X5_at : GoodIn wsX5_squareRoot wsX5_at := goodIn_r _ [11, 1, 45, 46, 47, 48, 49, 50, 51] rfl (by decide +kernel)
set_option maxRecDepth 20000 in
theorem gX5_squareRoot_X5_at : GoodIn wsX5_squareRoot (wsV RX5 60 RX5 yX5_at wsX5_at) := goodIn_app (goodIn_of _ (by decide +kernel)) ggX5_squareRoot_X5_at
set_option maxRecDepth 20000 in
theorem ggX5_squareRoot_X5_up : GoodIn wsX5_squareRoot wsX5_up := goodIn_r _ [19, 2, 20, 1, 8, 9, 10, 6, 11, 45, 46, 47, 48, 49, 50, 51] rfl (by decide +kernel)
set_option maxRecDepth 20000 in
theorem gX5_squareRoot_X5_up : GoodIn wsX5_squareRoot (wsV RX5 95 RX5 yX5_up wsX5_up) := goodIn_app (goodIn_of _ (by decide +kernel)) ggX5_squareRoot_X5_up
set_option maxRecDepth 20000 in
theorem ggX5_squareRoot_X5_settle : GoodIn wsX5_squareRoot wsX5_settle := goodIn_r _ [24, 1, 2, 45, 46, 47, 48, 49, 50, 51] rfl (by decide +kernel)
set_option maxRecDepth 20000 in
theorem gX5_squareRoot_X5_settle : GoodIn wsX5_squareRoot (wsV RX5 57 RX5 yX5_settle wsX5_settle) := goodIn_app (goodIn_of _ (by decide +kernel)) ggX5_squareRoot_X5_settle
set_option maxRecDepth 20000 in
theorem ggX5_squareRoot_X5_compare : GoodIn wsX5_squareRoot wsX5_compare := goodIn_r _ [28, 2, 29, 30, 31, 6, 32, 8, 9, 10, 11, 1, 45, 46, 47, 48, 49, 50, 51] rfl (by decide +kernel)
set_option maxRecDepth 20000 in
theorem gX5_squareRoot_X5_compare : GoodIn wsX5_squareRoot (wsV RX5 98 RX5 yX5_compare wsX5_compare) := goodIn_app (goodIn_of _ (by decide +kernel)) ggX5_squareRoot_X5_compare
set_option maxRecDepth 20000 in
theorem ggX5_squareRoot_X5_minus : GoodIn wsX5_squareRoot wsX5_minus := goodIn_r _ [36, 37, 38, 39, 6, 40, 2, 1, 20, 41, 42, 43, 44, 29, 30, 31, 32, 8, 9, 10, 11, 21, 22, 23, 24, 45, 46, 47, 48, 49, 50, 51] rfl (by decide +kernel)
set_option maxRecDepth 20000 in
theorem gX5_squareRoot_X5_minus : GoodIn wsX5_squareRoot (wsV RX5 45 RX5 yX5_minus wsX5_minus) := goodIn_app (goodIn_of _ (by decide +kernel)) ggX5_squareRoot_X5_minus
theorem dX5_squareRoot_0 : decode cX5_squareRoot 0 = .ok (.aload_n 0, 1) := by decide +kernel
theorem dX5_squareRoot_1 : decode cX5_squareRoot 1 = .ok (.iload_n 2, 1) := by decide +kernel
theorem dX5_squareRoot_2 : decode cX5_squareRoot 2 = .ok (.invokevirtual 88, 3) := by decide +kernel
theorem dX5_squareRoot_5 : decode cX5_squareRoot 5 = .ok (.iconst 1, 1) := by decide +kernel
theorem dX5_squareRoot_6 : decode cX5_squareRoot 6 = .ok (.iadd, 1) := by decide +kernel
theorem dX5_squareRoot_7 : decode cX5_squareRoot 7 = .ok (.iconst 2, 1) := by decide +kernel
theorem dX5_squareRoot_8 : decode cX5_squareRoot 8 = .ok (.idiv, 1) := by decide +kernel
theorem dX5_squareRoot_9 : decode cX5_squareRoot 9 = .ok (.istore_n 3, 1) := by decide +kernel
theorem dX5_squareRoot_10 : decode cX5_squareRoot 10 = .ok (.aload_n 0, 1) := by decide +kernel
theorem dX5_squareRoot_11 : decode cX5_squareRoot 11 = .ok (.bipush 29, 2) := by decide +kernel
theorem dX5_squareRoot_13 : decode cX5_squareRoot 13 = .ok (.invokevirtual 51, 3) := by decide +kernel
theorem dX5_squareRoot_16 : decode cX5_squareRoot 16 = .ok (.aload_n 0, 1) := by decide +kernel
theorem dX5_squareRoot_17 : decode cX5_squareRoot 17 = .ok (.iload_n 1, 1) := by decide +kernel
theorem dX5_squareRoot_18 : decode cX5_squareRoot 18 = .ok (.invokevirtual 51, 3) := by decide +kernel
theorem dX5_squareRoot_21 : decode cX5_squareRoot 21 = .ok (.iload_n 3, 1) := by decide +kernel
theorem dX5_squareRoot_22 : decode cX5_squareRoot 22 = .ok (.iconst 1, 1) := by decide +kernel
theorem dX5_squareRoot_23 : decode cX5_squareRoot 23 = .ok (.isub, 1) := by decide +kernel
theorem dX5_squareRoot_24 : decode cX5_squareRoot 24 = .ok (.istore 4, 2) := by decide +kernel
theorem dX5_squareRoot_26 : decode cX5_squareRoot 26 = .ok (.iload 4, 2) := by decide +kernel
theorem dX5_squareRoot_28 : decode cX5_squareRoot 28 = .ok (.ifCond .lt 187, 3) := by decide +kernel
theorem dX5_squareRoot_31 : decode cX5_squareRoot 31 = .ok (.aload_n 0, 1) := by decide +kernel
theorem dX5_squareRoot_32 : decode cX5_squareRoot 32 = .ok (.iload_n 2, 1) := by decide +kernel
theorem dX5_squareRoot_33 : decode cX5_squareRoot 33 = .ok (.iconst 2, 1) := by decide +kernel
theorem dX5_squareRoot_34 : decode cX5_squareRoot 34 = .ok (.iload 4, 2) := by decide +kernel
theorem dX5_squareRoot_36 : decode cX5_squareRoot 36 = .ok (.imul, 1) := by decide +kernel
theorem dX5_squareRoot_37 : decode cX5_squareRoot 37 = .ok (.iconst 1, 1) := by decide +kernel
theorem dX5_squareRoot_38 : decode cX5_squareRoot 38 = .ok (.iadd, 1) := by decide +kernel
theorem dX5_squareRoot_39 : decode cX5_squareRoot 39 = .ok (.bipush 24, 2) := by decide +kernel
theorem dX5_squareRoot_41 : decode cX5_squareRoot 41 = .ok (.idiv, 1) := by decide +kernel
theorem dX5_squareRoot_42 : decode cX5_squareRoot 42 = .ok (.invokevirtual 60, 3) := by decide +kernel
theorem dX5_squareRoot_45 : decode cX5_squareRoot 45 = .ok (.iconst 2, 1) := by decide +kernel
theorem dX5_squareRoot_46 : decode cX5_squareRoot 46 = .ok (.iload 4, 2) := by decide +kernel
theorem dX5_squareRoot_48 : decode cX5_squareRoot 48 = .ok (.imul, 1) := by decide +kernel
theorem dX5_squareRoot_49 : decode cX5_squareRoot 49 = .ok (.iconst 1, 1) := by decide +kernel
theorem dX5_squareRoot_50 : decode cX5_squareRoot 50 = .ok (.iadd, 1) := by decide +kernel
theorem dX5_squareRoot_51 : decode cX5_squareRoot 51 = .ok (.bipush 24, 2) := by decide +kernel
theorem dX5_squareRoot_53 : decode cX5_squareRoot 53 = .ok (.irem, 1) := by decide +kernel
theorem dX5_squareRoot_54 : decode cX5_squareRoot 54 = .ok (.ishr, 1) := by decide +kernel
theorem dX5_squareRoot_55 : decode cX5_squareRoot 55 = .ok (.iconst 1, 1) := by decide +kernel
theorem dX5_squareRoot_56 : decode cX5_squareRoot 56 = .ok (.iand, 1) := by decide +kernel
theorem dX5_squareRoot_57 : decode cX5_squareRoot 57 = .ok (.iconst 1, 1) := by decide +kernel
theorem dX5_squareRoot_58 : decode cX5_squareRoot 58 = .ok (.ishl, 1) := by decide +kernel
theorem dX5_squareRoot_59 : decode cX5_squareRoot 59 = .ok (.aload_n 0, 1) := by decide +kernel
theorem dX5_squareRoot_60 : decode cX5_squareRoot 60 = .ok (.iload_n 2, 1) := by decide +kernel
theorem dX5_squareRoot_61 : decode cX5_squareRoot 61 = .ok (.iconst 2, 1) := by decide +kernel
theorem dX5_squareRoot_62 : decode cX5_squareRoot 62 = .ok (.iload 4, 2) := by decide +kernel
theorem dX5_squareRoot_64 : decode cX5_squareRoot 64 = .ok (.imul, 1) := by decide +kernel
theorem dX5_squareRoot_65 : decode cX5_squareRoot 65 = .ok (.bipush 24, 2) := by decide +kernel
theorem dX5_squareRoot_67 : decode cX5_squareRoot 67 = .ok (.idiv, 1) := by decide +kernel
theorem dX5_squareRoot_68 : decode cX5_squareRoot 68 = .ok (.invokevirtual 60, 3) := by decide +kernel
theorem dX5_squareRoot_71 : decode cX5_squareRoot 71 = .ok (.iconst 2, 1) := by decide +kernel
theorem dX5_squareRoot_72 : decode cX5_squareRoot 72 = .ok (.iload 4, 2) := by decide +kernel
theorem dX5_squareRoot_74 : decode cX5_squareRoot 74 = .ok (.imul, 1) := by decide +kernel
theorem dX5_squareRoot_75 : decode cX5_squareRoot 75 = .ok (.bipush 24, 2) := by decide +kernel
theorem dX5_squareRoot_77 : decode cX5_squareRoot 77 = .ok (.irem, 1) := by decide +kernel
theorem dX5_squareRoot_78 : decode cX5_squareRoot 78 = .ok (.ishr, 1) := by decide +kernel
theorem dX5_squareRoot_79 : decode cX5_squareRoot 79 = .ok (.iconst 1, 1) := by decide +kernel
theorem dX5_squareRoot_80 : decode cX5_squareRoot 80 = .ok (.iand, 1) := by decide +kernel
theorem dX5_squareRoot_81 : decode cX5_squareRoot 81 = .ok (.ior, 1) := by decide +kernel
theorem dX5_squareRoot_82 : decode cX5_squareRoot 82 = .ok (.istore 5, 2) := by decide +kernel
theorem dX5_squareRoot_84 : decode cX5_squareRoot 84 = .ok (.aload_n 0, 1) := by decide +kernel
theorem dX5_squareRoot_85 : decode cX5_squareRoot 85 = .ok (.bipush 29, 2) := by decide +kernel
theorem dX5_squareRoot_87 : decode cX5_squareRoot 87 = .ok (.bipush 29, 2) := by decide +kernel
theorem dX5_squareRoot_89 : decode cX5_squareRoot 89 = .ok (.iconst 2, 1) := by decide +kernel
theorem dX5_squareRoot_90 : decode cX5_squareRoot 90 = .ok (.invokevirtual 95, 3) := by decide +kernel
theorem dX5_squareRoot_93 : decode cX5_squareRoot 93 = .ok (.aload_n 0, 1) := by decide +kernel
theorem dX5_squareRoot_94 : decode cX5_squareRoot 94 = .ok (.getfield 7, 3) := by decide +kernel
theorem dX5_squareRoot_97 : decode cX5_squareRoot 97 = .ok (.sipush 986, 3) := by decide +kernel
theorem dX5_squareRoot_100 : decode cX5_squareRoot 100 = .ok (.dup2, 1) := by decide +kernel
theorem dX5_squareRoot_101 : decode cX5_squareRoot 101 = .ok (.iaload, 1) := by decide +kernel
theorem dX5_squareRoot_102 : decode cX5_squareRoot 102 = .ok (.iload 5, 2) := by decide +kernel
theorem dX5_squareRoot_104 : decode cX5_squareRoot 104 = .ok (.ior, 1) := by decide +kernel
theorem dX5_squareRoot_105 : decode cX5_squareRoot 105 = .ok (.iastore, 1) := by decide +kernel
theorem dX5_squareRoot_106 : decode cX5_squareRoot 106 = .ok (.aload_n 0, 1) := by decide +kernel
theorem dX5_squareRoot_107 : decode cX5_squareRoot 107 = .ok (.bipush 29, 2) := by decide +kernel
theorem dX5_squareRoot_109 : decode cX5_squareRoot 109 = .ok (.iconst 1, 1) := by decide +kernel
theorem dX5_squareRoot_110 : decode cX5_squareRoot 110 = .ok (.invokevirtual 57, 3) := by decide +kernel
theorem dX5_squareRoot_113 : decode cX5_squareRoot 113 = .ok (.aload_n 0, 1) := by decide +kernel
theorem dX5_squareRoot_114 : decode cX5_squareRoot 114 = .ok (.bipush 30, 2) := by decide +kernel
theorem dX5_squareRoot_116 : decode cX5_squareRoot 116 = .ok (.iload_n 1, 1) := by decide +kernel
theorem dX5_squareRoot_117 : decode cX5_squareRoot 117 = .ok (.iconst 2, 1) := by decide +kernel
theorem dX5_squareRoot_118 : decode cX5_squareRoot 118 = .ok (.invokevirtual 95, 3) := by decide +kernel
theorem dX5_squareRoot_121 : decode cX5_squareRoot 121 = .ok (.aload_n 0, 1) := by decide +kernel
theorem dX5_squareRoot_122 : decode cX5_squareRoot 122 = .ok (.getfield 7, 3) := by decide +kernel
theorem dX5_squareRoot_125 : decode cX5_squareRoot 125 = .ok (.sipush 1020, 3) := by decide +kernel
theorem dX5_squareRoot_128 : decode cX5_squareRoot 128 = .ok (.dup2, 1) := by decide +kernel
theorem dX5_squareRoot_129 : decode cX5_squareRoot 129 = .ok (.iaload, 1) := by decide +kernel
theorem dX5_squareRoot_130 : decode cX5_squareRoot 130 = .ok (.iconst 1, 1) := by decide +kernel
theorem dX5_squareRoot_131 : decode cX5_squareRoot 131 = .ok (.ior, 1) := by decide +kernel
theorem dX5_squareRoot_132 : decode cX5_squareRoot 132 = .ok (.iastore, 1) := by decide +kernel
theorem dX5_squareRoot_133 : decode cX5_squareRoot 133 = .ok (.aload_n 0, 1) := by decide +kernel
theorem dX5_squareRoot_134 : decode cX5_squareRoot 134 = .ok (.getfield 13, 3) := by decide +kernel
theorem dX5_squareRoot_137 : decode cX5_squareRoot 137 = .ok (.bipush 30, 2) := by decide +kernel
theorem dX5_squareRoot_139 : decode cX5_squareRoot 139 = .ok (.iconst 1, 1) := by decide +kernel
theorem dX5_squareRoot_140 : decode cX5_squareRoot 140 = .ok (.iastore, 1) := by decide +kernel
theorem dX5_squareRoot_141 : decode cX5_squareRoot 141 = .ok (.aload_n 0, 1) := by decide +kernel
theorem dX5_squareRoot_142 : decode cX5_squareRoot 142 = .ok (.bipush 29, 2) := by decide +kernel
theorem dX5_squareRoot_144 : decode cX5_squareRoot 144 = .ok (.bipush 30, 2) := by decide +kernel
theorem dX5_squareRoot_146 : decode cX5_squareRoot 146 = .ok (.invokevirtual 98, 3) := by decide +kernel
theorem dX5_squareRoot_149 : decode cX5_squareRoot 149 = .ok (.ifCond .lt 7, 3) := by decide +kernel
theorem dX5_squareRoot_152 : decode cX5_squareRoot 152 = .ok (.iconst 1, 1) := by decide +kernel
theorem dX5_squareRoot_153 : decode cX5_squareRoot 153 = .ok (.goto 4, 3) := by decide +kernel
theorem dX5_squareRoot_156 : decode cX5_squareRoot 156 = .ok (.iconst 0, 1) := by decide +kernel
theorem dX5_squareRoot_157 : decode cX5_squareRoot 157 = .ok (.istore 6, 2) := by decide +kernel
theorem dX5_squareRoot_159 : decode cX5_squareRoot 159 = .ok (.iload 6, 2) := by decide +kernel
theorem dX5_squareRoot_161 : decode cX5_squareRoot 161 = .ok (.ifCond .eq 13, 3) := by decide +kernel
theorem dX5_squareRoot_164 : decode cX5_squareRoot 164 = .ok (.aload_n 0, 1) := by decide +kernel
theorem dX5_squareRoot_165 : decode cX5_squareRoot 165 = .ok (.bipush 29, 2) := by decide +kernel
theorem dX5_squareRoot_167 : decode cX5_squareRoot 167 = .ok (.bipush 29, 2) := by decide +kernel
theorem dX5_squareRoot_169 : decode cX5_squareRoot 169 = .ok (.bipush 30, 2) := by decide +kernel
theorem dX5_squareRoot_171 : decode cX5_squareRoot 171 = .ok (.invokevirtual 45, 3) := by decide +kernel
theorem dX5_squareRoot_174 : decode cX5_squareRoot 174 = .ok (.aload_n 0, 1) := by decide +kernel
theorem dX5_squareRoot_175 : decode cX5_squareRoot 175 = .ok (.iload_n 1, 1) := by decide +kernel
theorem dX5_squareRoot_176 : decode cX5_squareRoot 176 = .ok (.iload_n 1, 1) := by decide +kernel
theorem dX5_squareRoot_177 : decode cX5_squareRoot 177 = .ok (.iconst 1, 1) := by decide +kernel
theorem dX5_squareRoot_178 : decode cX5_squareRoot 178 = .ok (.invokevirtual 95, 3) := by decide +kernel
theorem dX5_squareRoot_181 : decode cX5_squareRoot 181 = .ok (.aload_n 0, 1) := by decide +kernel
theorem dX5_squareRoot_182 : decode cX5_squareRoot 182 = .ok (.getfield 7, 3) := by decide +kernel
theorem dX5_squareRoot_185 : decode cX5_squareRoot 185 = .ok (.bipush 34, 2) := by decide +kernel
theorem dX5_squareRoot_187 : decode cX5_squareRoot 187 = .ok (.iload_n 1, 1) := by decide +kernel
theorem dX5_squareRoot_188 : decode cX5_squareRoot 188 = .ok (.imul, 1) := by decide +kernel
theorem dX5_squareRoot_189 : decode cX5_squareRoot 189 = .ok (.dup2, 1) := by decide +kernel
theorem dX5_squareRoot_190 : decode cX5_squareRoot 190 = .ok (.iaload, 1) := by decide +kernel
theorem dX5_squareRoot_191 : decode cX5_squareRoot 191 = .ok (.iload 6, 2) := by decide +kernel
theorem dX5_squareRoot_193 : decode cX5_squareRoot 193 = .ok (.ifCond .eq 7, 3) := by decide +kernel
theorem dX5_squareRoot_196 : decode cX5_squareRoot 196 = .ok (.iconst 1, 1) := by decide +kernel
theorem dX5_squareRoot_197 : decode cX5_squareRoot 197 = .ok (.goto 4, 3) := by decide +kernel
theorem dX5_squareRoot_200 : decode cX5_squareRoot 200 = .ok (.iconst 0, 1) := by decide +kernel
theorem dX5_squareRoot_201 : decode cX5_squareRoot 201 = .ok (.ior, 1) := by decide +kernel
theorem dX5_squareRoot_202 : decode cX5_squareRoot 202 = .ok (.iastore, 1) := by decide +kernel
theorem dX5_squareRoot_203 : decode cX5_squareRoot 203 = .ok (.aload_n 0, 1) := by decide +kernel
theorem dX5_squareRoot_204 : decode cX5_squareRoot 204 = .ok (.iload_n 1, 1) := by decide +kernel
theorem dX5_squareRoot_205 : decode cX5_squareRoot 205 = .ok (.iconst 1, 1) := by decide +kernel
theorem dX5_squareRoot_206 : decode cX5_squareRoot 206 = .ok (.invokevirtual 57, 3) := by decide +kernel
theorem dX5_squareRoot_209 : decode cX5_squareRoot 209 = .ok (.iinc 4 (-1), 3) := by decide +kernel
theorem dX5_squareRoot_212 : decode cX5_squareRoot 212 = .ok (.goto (-186), 3) := by decide +kernel
theorem dX5_squareRoot_215 : decode cX5_squareRoot 215 = .ok (.return_, 1) := by decide +kernel
set_option maxRecDepth 20000 in
theorem ggX5_isEnd_X5_bits : GoodIn wsX5_isEnd wsX5_bits := goodIn_r _ [6, 7, 8, 9, 5, 10, 11, 12, 13, 14, 15, 16, 17, 18] rfl (by decide +kernel)
set_option maxRecDepth 20000 in
theorem gX5_isEnd_X5_bits : GoodIn wsX5_isEnd (wsV RX5 88 RX5 yX5_bits wsX5_bits) := goodIn_app (goodIn_of _ (by decide +kernel)) ggX5_isEnd_X5_bits
theorem dX5_isEnd_0 : decode cX5_isEnd 0 = .ok (.aload_n 0, 1) := by decide +kernel
theorem dX5_isEnd_1 : decode cX5_isEnd 1 = .ok (.getfield 13, 3) := by decide +kernel
theorem dX5_isEnd_4 : decode cX5_isEnd 4 = .ok (.iload_n 1, 1) := by decide +kernel
theorem dX5_isEnd_5 : decode cX5_isEnd 5 = .ok (.iaload, 1) := by decide +kernel
theorem dX5_isEnd_6 : decode cX5_isEnd 6 = .ok (.ifCond .eq 21, 3) := by decide +kernel
theorem dX5_isEnd_9 : decode cX5_isEnd 9 = .ok (.aload_n 0, 1) := by decide +kernel
theorem dX5_isEnd_10 : decode cX5_isEnd 10 = .ok (.getfield 13, 3) := by decide +kernel
theorem dX5_isEnd_13 : decode cX5_isEnd 13 = .ok (.iload_n 1, 1) := by decide +kernel
theorem dX5_isEnd_14 : decode cX5_isEnd 14 = .ok (.iaload, 1) := by decide +kernel
theorem dX5_isEnd_15 : decode cX5_isEnd 15 = .ok (.ifCond .ge 16, 3) := by decide +kernel
theorem dX5_isEnd_18 : decode cX5_isEnd 18 = .ok (.aload_n 0, 1) := by decide +kernel
theorem dX5_isEnd_19 : decode cX5_isEnd 19 = .ok (.iload_n 1, 1) := by decide +kernel
theorem dX5_isEnd_20 : decode cX5_isEnd 20 = .ok (.invokevirtual 88, 3) := by decide +kernel
theorem dX5_isEnd_23 : decode cX5_isEnd 23 = .ok (.iconst 1, 1) := by decide +kernel
theorem dX5_isEnd_24 : decode cX5_isEnd 24 = .ok (.if_icmp .ne 7, 3) := by decide +kernel
theorem dX5_isEnd_27 : decode cX5_isEnd 27 = .ok (.iconst 1, 1) := by decide +kernel
theorem dX5_isEnd_28 : decode cX5_isEnd 28 = .ok (.goto 4, 3) := by decide +kernel
theorem dX5_isEnd_31 : decode cX5_isEnd 31 = .ok (.iconst 0, 1) := by decide +kernel
theorem dX5_isEnd_32 : decode cX5_isEnd 32 = .ok (.ireturn, 1) := by decide +kernel
set_option maxRecDepth 20000 in
theorem ggX5_fineExp_X5_bits : GoodIn wsX5_fineExp wsX5_bits := goodIn_r _ [6, 7, 8, 9, 5, 10, 11, 64, 65, 66, 67, 68, 69, 70] rfl (by decide +kernel)
set_option maxRecDepth 20000 in
theorem gX5_fineExp_X5_bits : GoodIn wsX5_fineExp (wsV RX5 88 RX5 yX5_bits wsX5_bits) := goodIn_app (goodIn_of _ (by decide +kernel)) ggX5_fineExp_X5_bits
set_option maxRecDepth 20000 in
theorem ggX5_fineExp_X5_down : GoodIn wsX5_fineExp wsX5_down := goodIn_r _ [15, 16, 17, 11, 7, 8, 9, 5, 10, 18, 19, 20, 21, 22, 23, 24, 25, 26, 27, 28, 29, 30, 31, 32, 33, 34, 35, 36, 37, 38, 39, 40, 41, 42, 43, 44, 45, 46, 47, 48, 49, 50, 64, 65, 66, 67, 68, 69, 70] rfl (by decide +kernel)
set_option maxRecDepth 20000 in
theorem gX5_fineExp_X5_down : GoodIn wsX5_fineExp (wsV RX5 101 RX5 yX5_down wsX5_down) := goodIn_app (goodIn_of _ (by decide +kernel)) ggX5_fineExp_X5_down
set_option maxRecDepth 20000 in
theorem ggX5_fineExp_X5_copy : GoodIn wsX5_fineExp wsX5_copy := goodIn_r _ [46, 11, 16, 64, 65, 66, 67, 68, 69, 70] rfl (by decide +kernel)
set_option maxRecDepth 20000 in
theorem gX5_fineExp_X5_copy : GoodIn wsX5_fineExp (wsV RX5 67 RX5 yX5_copy wsX5_copy) := goodIn_app (goodIn_of _ (by decide +kernel)) ggX5_fineExp_X5_copy
set_option maxRecDepth 20000 in
theorem ggX5_fineExp_X5_none : GoodIn wsX5_fineExp wsX5_none := goodIn_r _ [34, 11, 16, 64, 65, 66, 67, 68, 69, 70] rfl (by decide +kernel)
set_option maxRecDepth 20000 in
theorem gX5_fineExp_X5_none : GoodIn wsX5_fineExp (wsV RX5 51 RX5 yX5_none wsX5_none) := goodIn_app (goodIn_of _ (by decide +kernel)) ggX5_fineExp_X5_none
set_option maxRecDepth 20000 in
theorem ggX5_fineExp_X5_isEnd : GoodIn wsX5_fineExp wsX5_isEnd := goodIn_r _ [54, 16, 2, 3, 4, 5, 6, 7, 8, 9, 10, 11, 64, 65, 66, 67, 68, 69, 70] rfl (by decide +kernel)
set_option maxRecDepth 20000 in
theorem gX5_fineExp_X5_isEnd : GoodIn wsX5_fineExp (wsV RX5 104 RX5 yX5_isEnd wsX5_isEnd) := goodIn_app (goodIn_of _ (by decide +kernel)) ggX5_fineExp_X5_isEnd
set_option maxRecDepth 20000 in
theorem ggX5_fineExp_X5_plus : GoodIn wsX5_fineExp wsX5_plus := goodIn_r _ [38, 39, 40, 41, 5, 42, 16, 11, 17, 43, 44, 45, 46, 47, 48, 49, 50, 7, 8, 9, 10, 18, 19, 20, 21, 64, 65, 66, 67, 68, 69, 70] rfl (by decide +kernel)
set_option maxRecDepth 20000 in
theorem gX5_fineExp_X5_plus : GoodIn wsX5_fineExp (wsV RX5 79 RX5 yX5_plus wsX5_plus) := goodIn_app (goodIn_of _ (by decide +kernel)) ggX5_fineExp_X5_plus
set_option maxRecDepth 20000 in
theorem ggX5_fineExp_X5_product : GoodIn wsX5_fineExp wsX5_product := goodIn_r _ [58, 59, 16, 11, 30, 7, 8, 9, 5, 10, 18, 19, 20, 21, 64, 65, 66, 67, 68, 69, 70] rfl (by decide +kernel)
set_option maxRecDepth 20000 in
theorem gX5_fineExp_X5_product : GoodIn wsX5_fineExp (wsV RX5 82 RX5 yX5_product wsX5_product) := goodIn_app (goodIn_of _ (by decide +kernel)) ggX5_fineExp_X5_product
set_option maxRecDepth 20000 in
theorem ggX5_fineExp_X5_divideSmall : GoodIn wsX5_fineExp wsX5_divideSmall := goodIn_r _ [63, 16, 11, 7, 8, 9, 5, 10, 18, 19, 20, 21, 22, 23, 24, 25, 26, 27, 28, 29, 30, 31, 32, 33, 34, 35, 36, 37, 38, 39, 40, 41, 42, 17, 43, 44, 45, 46, 47, 48, 49, 50, 64, 65, 66, 67, 68, 69, 70] rfl (by decide +kernel)
set_option maxRecDepth 20000 in
theorem gX5_fineExp_X5_divideSmall : GoodIn wsX5_fineExp (wsV RX5 34 RX5 yX5_divideSmall wsX5_divideSmall) := goodIn_app (goodIn_of _ (by decide +kernel)) ggX5_fineExp_X5_divideSmall
theorem dX5_fineExp_0 : decode cX5_fineExp 0 = .ok (.aload_n 0, 1) := by decide +kernel
theorem dX5_fineExp_1 : decode cX5_fineExp 1 = .ok (.iload_n 2, 1) := by decide +kernel
theorem dX5_fineExp_2 : decode cX5_fineExp 2 = .ok (.invokevirtual 88, 3) := by decide +kernel
theorem dX5_fineExp_5 : decode cX5_fineExp 5 = .ok (.aload_n 0, 1) := by decide +kernel
theorem dX5_fineExp_6 : decode cX5_fineExp 6 = .ok (.getfield 27, 3) := by decide +kernel
theorem dX5_fineExp_9 : decode cX5_fineExp 9 = .ok (.bipush 8, 2) := by decide +kernel
theorem dX5_fineExp_11 : decode cX5_fineExp 11 = .ok (.isub, 1) := by decide +kernel
theorem dX5_fineExp_12 : decode cX5_fineExp 12 = .ok (.if_icmp .le 19, 3) := by decide +kernel
theorem dX5_fineExp_15 : decode cX5_fineExp 15 = .ok (.aload_n 0, 1) := by decide +kernel
theorem dX5_fineExp_16 : decode cX5_fineExp 16 = .ok (.iload_n 2, 1) := by decide +kernel
theorem dX5_fineExp_17 : decode cX5_fineExp 17 = .ok (.invokevirtual 88, 3) := by decide +kernel
theorem dX5_fineExp_20 : decode cX5_fineExp 20 = .ok (.aload_n 0, 1) := by decide +kernel
theorem dX5_fineExp_21 : decode cX5_fineExp 21 = .ok (.getfield 27, 3) := by decide +kernel
theorem dX5_fineExp_24 : decode cX5_fineExp 24 = .ok (.isub, 1) := by decide +kernel
theorem dX5_fineExp_25 : decode cX5_fineExp 25 = .ok (.bipush 8, 2) := by decide +kernel
theorem dX5_fineExp_27 : decode cX5_fineExp 27 = .ok (.iadd, 1) := by decide +kernel
theorem dX5_fineExp_28 : decode cX5_fineExp 28 = .ok (.goto 4, 3) := by decide +kernel
theorem dX5_fineExp_31 : decode cX5_fineExp 31 = .ok (.iconst 0, 1) := by decide +kernel
theorem dX5_fineExp_32 : decode cX5_fineExp 32 = .ok (.istore_n 3, 1) := by decide +kernel
theorem dX5_fineExp_33 : decode cX5_fineExp 33 = .ok (.aload_n 0, 1) := by decide +kernel
theorem dX5_fineExp_34 : decode cX5_fineExp 34 = .ok (.bipush 35, 2) := by decide +kernel
theorem dX5_fineExp_36 : decode cX5_fineExp 36 = .ok (.iload_n 2, 1) := by decide +kernel
theorem dX5_fineExp_37 : decode cX5_fineExp 37 = .ok (.iload_n 3, 1) := by decide +kernel
theorem dX5_fineExp_38 : decode cX5_fineExp 38 = .ok (.invokevirtual 101, 3) := by decide +kernel
theorem dX5_fineExp_41 : decode cX5_fineExp 41 = .ok (.aload_n 0, 1) := by decide +kernel
theorem dX5_fineExp_42 : decode cX5_fineExp 42 = .ok (.bipush 36, 2) := by decide +kernel
theorem dX5_fineExp_44 : decode cX5_fineExp 44 = .ok (.bipush 27, 2) := by decide +kernel
theorem dX5_fineExp_46 : decode cX5_fineExp 46 = .ok (.invokevirtual 67, 3) := by decide +kernel
theorem dX5_fineExp_49 : decode cX5_fineExp 49 = .ok (.aload_n 0, 1) := by decide +kernel
theorem dX5_fineExp_50 : decode cX5_fineExp 50 = .ok (.bipush 37, 2) := by decide +kernel
theorem dX5_fineExp_52 : decode cX5_fineExp 52 = .ok (.invokevirtual 51, 3) := by decide +kernel
theorem dX5_fineExp_55 : decode cX5_fineExp 55 = .ok (.iconst 1, 1) := by decide +kernel
theorem dX5_fineExp_56 : decode cX5_fineExp 56 = .ok (.istore 4, 2) := by decide +kernel
theorem dX5_fineExp_58 : decode cX5_fineExp 58 = .ok (.aload_n 0, 1) := by decide +kernel
theorem dX5_fineExp_59 : decode cX5_fineExp 59 = .ok (.bipush 36, 2) := by decide +kernel
theorem dX5_fineExp_61 : decode cX5_fineExp 61 = .ok (.invokevirtual 104, 3) := by decide +kernel
theorem dX5_fineExp_64 : decode cX5_fineExp 64 = .ok (.ifCond .ne 51, 3) := by decide +kernel
theorem dX5_fineExp_67 : decode cX5_fineExp 67 = .ok (.aload_n 0, 1) := by decide +kernel
theorem dX5_fineExp_68 : decode cX5_fineExp 68 = .ok (.bipush 37, 2) := by decide +kernel
theorem dX5_fineExp_70 : decode cX5_fineExp 70 = .ok (.bipush 37, 2) := by decide +kernel
theorem dX5_fineExp_72 : decode cX5_fineExp 72 = .ok (.bipush 36, 2) := by decide +kernel
theorem dX5_fineExp_74 : decode cX5_fineExp 74 = .ok (.invokevirtual 79, 3) := by decide +kernel
theorem dX5_fineExp_77 : decode cX5_fineExp 77 = .ok (.aload_n 0, 1) := by decide +kernel
theorem dX5_fineExp_78 : decode cX5_fineExp 78 = .ok (.bipush 38, 2) := by decide +kernel
theorem dX5_fineExp_80 : decode cX5_fineExp 80 = .ok (.bipush 36, 2) := by decide +kernel
theorem dX5_fineExp_82 : decode cX5_fineExp 82 = .ok (.bipush 35, 2) := by decide +kernel
theorem dX5_fineExp_84 : decode cX5_fineExp 84 = .ok (.invokevirtual 82, 3) := by decide +kernel
theorem dX5_fineExp_87 : decode cX5_fineExp 87 = .ok (.aload_n 0, 1) := by decide +kernel
theorem dX5_fineExp_88 : decode cX5_fineExp 88 = .ok (.bipush 38, 2) := by decide +kernel
theorem dX5_fineExp_90 : decode cX5_fineExp 90 = .ok (.bipush 38, 2) := by decide +kernel
theorem dX5_fineExp_92 : decode cX5_fineExp 92 = .ok (.aload_n 0, 1) := by decide +kernel
theorem dX5_fineExp_93 : decode cX5_fineExp 93 = .ok (.getfield 27, 3) := by decide +kernel
theorem dX5_fineExp_96 : decode cX5_fineExp 96 = .ok (.invokevirtual 101, 3) := by decide +kernel
theorem dX5_fineExp_99 : decode cX5_fineExp 99 = .ok (.aload_n 0, 1) := by decide +kernel
theorem dX5_fineExp_100 : decode cX5_fineExp 100 = .ok (.bipush 36, 2) := by decide +kernel
theorem dX5_fineExp_102 : decode cX5_fineExp 102 = .ok (.bipush 38, 2) := by decide +kernel
theorem dX5_fineExp_104 : decode cX5_fineExp 104 = .ok (.iload 4, 2) := by decide +kernel
theorem dX5_fineExp_106 : decode cX5_fineExp 106 = .ok (.invokevirtual 34, 3) := by decide +kernel
theorem dX5_fineExp_109 : decode cX5_fineExp 109 = .ok (.iinc 4 1, 3) := by decide +kernel
theorem dX5_fineExp_112 : decode cX5_fineExp 112 = .ok (.goto (-54), 3) := by decide +kernel
theorem dX5_fineExp_115 : decode cX5_fineExp 115 = .ok (.iconst 0, 1) := by decide +kernel
theorem dX5_fineExp_116 : decode cX5_fineExp 116 = .ok (.istore 4, 2) := by decide +kernel
theorem dX5_fineExp_118 : decode cX5_fineExp 118 = .ok (.iload 4, 2) := by decide +kernel
theorem dX5_fineExp_120 : decode cX5_fineExp 120 = .ok (.iload_n 3, 1) := by decide +kernel
theorem dX5_fineExp_121 : decode cX5_fineExp 121 = .ok (.if_icmp .ge 31, 3) := by decide +kernel
theorem dX5_fineExp_124 : decode cX5_fineExp 124 = .ok (.aload_n 0, 1) := by decide +kernel
theorem dX5_fineExp_125 : decode cX5_fineExp 125 = .ok (.bipush 38, 2) := by decide +kernel
theorem dX5_fineExp_127 : decode cX5_fineExp 127 = .ok (.bipush 37, 2) := by decide +kernel
theorem dX5_fineExp_129 : decode cX5_fineExp 129 = .ok (.bipush 37, 2) := by decide +kernel
theorem dX5_fineExp_131 : decode cX5_fineExp 131 = .ok (.invokevirtual 82, 3) := by decide +kernel
theorem dX5_fineExp_134 : decode cX5_fineExp 134 = .ok (.aload_n 0, 1) := by decide +kernel
theorem dX5_fineExp_135 : decode cX5_fineExp 135 = .ok (.bipush 37, 2) := by decide +kernel
theorem dX5_fineExp_137 : decode cX5_fineExp 137 = .ok (.bipush 38, 2) := by decide +kernel
theorem dX5_fineExp_139 : decode cX5_fineExp 139 = .ok (.aload_n 0, 1) := by decide +kernel
theorem dX5_fineExp_140 : decode cX5_fineExp 140 = .ok (.getfield 27, 3) := by decide +kernel
theorem dX5_fineExp_143 : decode cX5_fineExp 143 = .ok (.invokevirtual 101, 3) := by decide +kernel
theorem dX5_fineExp_146 : decode cX5_fineExp 146 = .ok (.iinc 4 1, 3) := by decide +kernel
theorem dX5_fineExp_149 : decode cX5_fineExp 149 = .ok (.goto (-31), 3) := by decide +kernel
theorem dX5_fineExp_152 : decode cX5_fineExp 152 = .ok (.aload_n 0, 1) := by decide +kernel
theorem dX5_fineExp_153 : decode cX5_fineExp 153 = .ok (.iload_n 1, 1) := by decide +kernel
theorem dX5_fineExp_154 : decode cX5_fineExp 154 = .ok (.bipush 37, 2) := by decide +kernel
theorem dX5_fineExp_156 : decode cX5_fineExp 156 = .ok (.invokevirtual 67, 3) := by decide +kernel
theorem dX5_fineExp_159 : decode cX5_fineExp 159 = .ok (.return_, 1) := by decide +kernel
set_option maxRecDepth 20000 in
theorem ggX5_row_X5_product : GoodIn wsX5_row wsX5_product := goodIn_r _ [6, 7, 8, 9, 10, 11, 12, 13, 5, 14, 15, 16, 17, 18, 64, 65, 66, 67, 68, 69, 70] rfl (by decide +kernel)
set_option maxRecDepth 20000 in
theorem gX5_row_X5_product : GoodIn wsX5_row (wsV RX5 82 RX5 yX5_product wsX5_product) := goodIn_app (goodIn_of _ (by decide +kernel)) ggX5_row_X5_product
set_option maxRecDepth 20000 in
theorem ggX5_row_X5_down : GoodIn wsX5_row wsX5_down := goodIn_r _ [22, 8, 23, 9, 11, 12, 13, 5, 14, 15, 16, 17, 18, 24, 25, 26, 27, 28, 29, 30, 31, 10, 32, 33, 34, 35, 36, 37, 38, 39, 40, 41, 42, 43, 44, 45, 46, 47, 48, 49, 50, 51, 64, 65, 66, 67, 68, 69, 70] rfl (by decide +kernel)
set_option maxRecDepth 20000 in
theorem gX5_row_X5_down : GoodIn wsX5_row (wsV RX5 101 RX5 yX5_down wsX5_down) := goodIn_app (goodIn_of _ (by decide +kernel)) ggX5_row_X5_down
set_option maxRecDepth 20000 in
theorem ggX5_row_X5_copy : GoodIn wsX5_row wsX5_copy := goodIn_r _ [47, 9, 8, 64, 65, 66, 67, 68, 69, 70] rfl (by decide +kernel)
set_option maxRecDepth 20000 in
theorem gX5_row_X5_copy : GoodIn wsX5_row (wsV RX5 67 RX5 yX5_copy wsX5_copy) := goodIn_app (goodIn_of _ (by decide +kernel)) ggX5_row_X5_copy
set_option maxRecDepth 20000 in
theorem ggX5_row_X5_none : GoodIn wsX5_row wsX5_none := goodIn_r _ [35, 9, 8, 64, 65, 66, 67, 68, 69, 70] rfl (by decide +kernel)
set_option maxRecDepth 20000 in
theorem gX5_row_X5_none : GoodIn wsX5_row (wsV RX5 51 RX5 yX5_none wsX5_none) := goodIn_app (goodIn_of _ (by decide +kernel)) ggX5_row_X5_none
set_option maxRecDepth 20000 in
theorem ggX5_row_X5_isEnd : GoodIn wsX5_row wsX5_isEnd := goodIn_r _ [55, 8, 56, 57, 58, 5, 59, 11, 12, 13, 14, 9, 64, 65, 66, 67, 68, 69, 70] rfl (by decide +kernel)
set_option maxRecDepth 20000 in
theorem gX5_row_X5_isEnd : GoodIn wsX5_row (wsV RX5 104 RX5 yX5_isEnd wsX5_isEnd) := goodIn_app (goodIn_of _ (by decide +kernel)) ggX5_row_X5_isEnd
set_option maxRecDepth 20000 in
theorem ggX5_row_X5_divideSmall : GoodIn wsX5_row wsX5_divideSmall := goodIn_r _ [63, 8, 9, 11, 12, 13, 5, 14, 15, 16, 17, 18, 24, 25, 26, 27, 28, 29, 30, 31, 10, 32, 33, 34, 35, 36, 37, 38, 39, 40, 41, 42, 43, 23, 44, 45, 46, 47, 48, 49, 50, 51, 64, 65, 66, 67, 68, 69, 70] rfl (by decide +kernel)
set_option maxRecDepth 20000 in
theorem gX5_row_X5_divideSmall : GoodIn wsX5_row (wsV RX5 34 RX5 yX5_divideSmall wsX5_divideSmall) := goodIn_app (goodIn_of _ (by decide +kernel)) ggX5_row_X5_divideSmall
set_option maxRecDepth 20000 in
theorem ggX5_row_X5_sum : GoodIn wsX5_row wsX5_sum := goodIn_r _ [43, 8, 9, 23, 44, 45, 46, 5, 47, 48, 49, 50, 51, 11, 12, 13, 14, 15, 16, 17, 18, 64, 65, 66, 67, 68, 69, 70] rfl (by decide +kernel)
set_option maxRecDepth 20000 in
theorem gX5_row_X5_sum : GoodIn wsX5_row (wsV RX5 71 RX5 yX5_sum wsX5_sum) := goodIn_app (goodIn_of _ (by decide +kernel)) ggX5_row_X5_sum
theorem dX5_row_0 : decode cX5_row 0 = .ok (.aload_n 0, 1) := by decide +kernel
theorem dX5_row_1 : decode cX5_row 1 = .ok (.bipush 35, 2) := by decide +kernel
theorem dX5_row_3 : decode cX5_row 3 = .ok (.iload_n 2, 1) := by decide +kernel
theorem dX5_row_4 : decode cX5_row 4 = .ok (.iload_n 2, 1) := by decide +kernel
theorem dX5_row_5 : decode cX5_row 5 = .ok (.invokevirtual 82, 3) := by decide +kernel
theorem dX5_row_8 : decode cX5_row 8 = .ok (.aload_n 0, 1) := by decide +kernel
theorem dX5_row_9 : decode cX5_row 9 = .ok (.bipush 35, 2) := by decide +kernel
theorem dX5_row_11 : decode cX5_row 11 = .ok (.bipush 35, 2) := by decide +kernel
theorem dX5_row_13 : decode cX5_row 13 = .ok (.aload_n 0, 1) := by decide +kernel
theorem dX5_row_14 : decode cX5_row 14 = .ok (.getfield 27, 3) := by decide +kernel
theorem dX5_row_17 : decode cX5_row 17 = .ok (.invokevirtual 101, 3) := by decide +kernel
theorem dX5_row_20 : decode cX5_row 20 = .ok (.aload_n 0, 1) := by decide +kernel
theorem dX5_row_21 : decode cX5_row 21 = .ok (.bipush 36, 2) := by decide +kernel
theorem dX5_row_23 : decode cX5_row 23 = .ok (.iload_n 2, 1) := by decide +kernel
theorem dX5_row_24 : decode cX5_row 24 = .ok (.invokevirtual 67, 3) := by decide +kernel
theorem dX5_row_27 : decode cX5_row 27 = .ok (.aload_n 0, 1) := by decide +kernel
theorem dX5_row_28 : decode cX5_row 28 = .ok (.bipush 37, 2) := by decide +kernel
theorem dX5_row_30 : decode cX5_row 30 = .ok (.invokevirtual 51, 3) := by decide +kernel
theorem dX5_row_33 : decode cX5_row 33 = .ok (.iconst 0, 1) := by decide +kernel
theorem dX5_row_34 : decode cX5_row 34 = .ok (.istore 4, 2) := by decide +kernel
theorem dX5_row_36 : decode cX5_row 36 = .ok (.aload_n 0, 1) := by decide +kernel
theorem dX5_row_37 : decode cX5_row 37 = .ok (.bipush 36, 2) := by decide +kernel
theorem dX5_row_39 : decode cX5_row 39 = .ok (.invokevirtual 104, 3) := by decide +kernel
theorem dX5_row_42 : decode cX5_row 42 = .ok (.ifCond .ne 72, 3) := by decide +kernel
theorem dX5_row_45 : decode cX5_row 45 = .ok (.aload_n 0, 1) := by decide +kernel
theorem dX5_row_46 : decode cX5_row 46 = .ok (.bipush 38, 2) := by decide +kernel
theorem dX5_row_48 : decode cX5_row 48 = .ok (.bipush 36, 2) := by decide +kernel
theorem dX5_row_50 : decode cX5_row 50 = .ok (.iconst 2, 1) := by decide +kernel
theorem dX5_row_51 : decode cX5_row 51 = .ok (.iload 4, 2) := by decide +kernel
theorem dX5_row_53 : decode cX5_row 53 = .ok (.imul, 1) := by decide +kernel
theorem dX5_row_54 : decode cX5_row 54 = .ok (.iconst 1, 1) := by decide +kernel
theorem dX5_row_55 : decode cX5_row 55 = .ok (.iadd, 1) := by decide +kernel
theorem dX5_row_56 : decode cX5_row 56 = .ok (.invokevirtual 34, 3) := by decide +kernel
theorem dX5_row_59 : decode cX5_row 59 = .ok (.aload_n 0, 1) := by decide +kernel
theorem dX5_row_60 : decode cX5_row 60 = .ok (.bipush 37, 2) := by decide +kernel
theorem dX5_row_62 : decode cX5_row 62 = .ok (.bipush 37, 2) := by decide +kernel
theorem dX5_row_64 : decode cX5_row 64 = .ok (.bipush 38, 2) := by decide +kernel
theorem dX5_row_66 : decode cX5_row 66 = .ok (.iload_n 3, 1) := by decide +kernel
theorem dX5_row_67 : decode cX5_row 67 = .ok (.ifCond .eq 15, 3) := by decide +kernel
theorem dX5_row_70 : decode cX5_row 70 = .ok (.iload 4, 2) := by decide +kernel
theorem dX5_row_72 : decode cX5_row 72 = .ok (.iconst 2, 1) := by decide +kernel
theorem dX5_row_73 : decode cX5_row 73 = .ok (.irem, 1) := by decide +kernel
theorem dX5_row_74 : decode cX5_row 74 = .ok (.iconst 1, 1) := by decide +kernel
theorem dX5_row_75 : decode cX5_row 75 = .ok (.if_icmp .ne 7, 3) := by decide +kernel
theorem dX5_row_78 : decode cX5_row 78 = .ok (.iconst (-1), 1) := by decide +kernel
theorem dX5_row_79 : decode cX5_row 79 = .ok (.goto 4, 3) := by decide +kernel
theorem dX5_row_82 : decode cX5_row 82 = .ok (.iconst 1, 1) := by decide +kernel
theorem dX5_row_83 : decode cX5_row 83 = .ok (.invokevirtual 71, 3) := by decide +kernel
theorem dX5_row_86 : decode cX5_row 86 = .ok (.aload_n 0, 1) := by decide +kernel
theorem dX5_row_87 : decode cX5_row 87 = .ok (.bipush 39, 2) := by decide +kernel
theorem dX5_row_89 : decode cX5_row 89 = .ok (.bipush 36, 2) := by decide +kernel
theorem dX5_row_91 : decode cX5_row 91 = .ok (.bipush 35, 2) := by decide +kernel
theorem dX5_row_93 : decode cX5_row 93 = .ok (.invokevirtual 82, 3) := by decide +kernel
theorem dX5_row_96 : decode cX5_row 96 = .ok (.aload_n 0, 1) := by decide +kernel
theorem dX5_row_97 : decode cX5_row 97 = .ok (.bipush 36, 2) := by decide +kernel
theorem dX5_row_99 : decode cX5_row 99 = .ok (.bipush 39, 2) := by decide +kernel
theorem dX5_row_101 : decode cX5_row 101 = .ok (.aload_n 0, 1) := by decide +kernel
theorem dX5_row_102 : decode cX5_row 102 = .ok (.getfield 27, 3) := by decide +kernel
theorem dX5_row_105 : decode cX5_row 105 = .ok (.invokevirtual 101, 3) := by decide +kernel
theorem dX5_row_108 : decode cX5_row 108 = .ok (.iinc 4 1, 3) := by decide +kernel
theorem dX5_row_111 : decode cX5_row 111 = .ok (.goto (-75), 3) := by decide +kernel
theorem dX5_row_114 : decode cX5_row 114 = .ok (.aload_n 0, 1) := by decide +kernel
theorem dX5_row_115 : decode cX5_row 115 = .ok (.iload_n 1, 1) := by decide +kernel
theorem dX5_row_116 : decode cX5_row 116 = .ok (.bipush 37, 2) := by decide +kernel
theorem dX5_row_118 : decode cX5_row 118 = .ok (.invokevirtual 67, 3) := by decide +kernel
theorem dX5_row_121 : decode cX5_row 121 = .ok (.return_, 1) := by decide +kernel
set_option maxRecDepth 20000 in
theorem ggX5_fineLog_X5_timesSmall : GoodIn wsX5_fineLog wsX5_timesSmall := goodIn_r _ [6, 7, 8, 9, 5, 10, 11, 12, 13, 14, 15, 16, 17, 18, 19, 20, 21, 22, 23, 24, 25, 26, 27, 28, 29, 30, 89, 90, 91, 92, 93, 94, 95] rfl (by decide +kernel)
set_option maxRecDepth 20000 in
theorem gX5_fineLog_X5_timesSmall : GoodIn wsX5_fineLog (wsV RX5 42 RX5 yX5_timesSmall wsX5_timesSmall) := goodIn_app (goodIn_of _ (by decide +kernel)) ggX5_fineLog_X5_timesSmall
set_option maxRecDepth 20000 in
theorem ggX5_fineLog_X5_bits : GoodIn wsX5_fineLog wsX5_bits := goodIn_r _ [34, 27, 28, 29, 5, 30, 11, 89, 90, 91, 92, 93, 94, 95] rfl (by decide +kernel)
set_option maxRecDepth 20000 in
theorem gX5_fineLog_X5_bits : GoodIn wsX5_fineLog (wsV RX5 88 RX5 yX5_bits wsX5_bits) := goodIn_app (goodIn_of _ (by decide +kernel)) ggX5_fineLog_X5_bits
set_option maxRecDepth 20000 in
theorem ggX5_fineLog_X5_copy : GoodIn wsX5_fineLog wsX5_copy := goodIn_r _ [38, 11, 17, 89, 90, 91, 92, 93, 94, 95] rfl (by decide +kernel)
set_option maxRecDepth 20000 in
theorem gX5_fineLog_X5_copy : GoodIn wsX5_fineLog (wsV RX5 67 RX5 yX5_copy wsX5_copy) := goodIn_app (goodIn_of _ (by decide +kernel)) ggX5_fineLog_X5_copy
set_option maxRecDepth 20000 in
theorem ggX5_fineLog_X5_power : GoodIn wsX5_fineLog wsX5_power := goodIn_r _ [42, 11, 17, 13, 14, 15, 5, 16, 89, 90, 91, 92, 93, 94, 95] rfl (by decide +kernel)
set_option maxRecDepth 20000 in
theorem gX5_fineLog_X5_power : GoodIn wsX5_fineLog (wsV RX5 30 RX5 yX5_power wsX5_power) := goodIn_app (goodIn_of _ (by decide +kernel)) ggX5_fineLog_X5_power
set_option maxRecDepth 20000 in
theorem ggX5_fineLog_X5_up : GoodIn wsX5_fineLog wsX5_up := goodIn_r _ [46, 17, 47, 11, 27, 28, 29, 5, 30, 89, 90, 91, 92, 93, 94, 95] rfl (by decide +kernel)
set_option maxRecDepth 20000 in
theorem gX5_fineLog_X5_up : GoodIn wsX5_fineLog (wsV RX5 95 RX5 yX5_up wsX5_up) := goodIn_app (goodIn_of _ (by decide +kernel)) ggX5_fineLog_X5_up
set_option maxRecDepth 20000 in
theorem ggX5_fineLog_X5_minus : GoodIn wsX5_fineLog wsX5_minus := goodIn_r _ [51, 52, 53, 54, 5, 55, 17, 11, 47, 35, 36, 37, 38, 56, 57, 58, 59, 27, 28, 29, 30, 18, 19, 20, 21, 89, 90, 91, 92, 93, 94, 95] rfl (by decide +kernel)
set_option maxRecDepth 20000 in
theorem gX5_fineLog_X5_minus : GoodIn wsX5_fineLog (wsV RX5 45 RX5 yX5_minus wsX5_minus) := goodIn_app (goodIn_of _ (by decide +kernel)) ggX5_fineLog_X5_minus
set_option maxRecDepth 20000 in
theorem ggX5_fineLog_X5_plus : GoodIn wsX5_fineLog wsX5_plus := goodIn_r _ [63, 52, 53, 54, 5, 55, 17, 11, 47, 35, 36, 37, 38, 56, 57, 58, 59, 27, 28, 29, 30, 18, 19, 20, 21, 89, 90, 91, 92, 93, 94, 95] rfl (by decide +kernel)
set_option maxRecDepth 20000 in
theorem gX5_fineLog_X5_plus : GoodIn wsX5_fineLog (wsV RX5 79 RX5 yX5_plus wsX5_plus) := goodIn_app (goodIn_of _ (by decide +kernel)) ggX5_fineLog_X5_plus
set_option maxRecDepth 20000 in
theorem ggX5_fineLog_X5_divide : GoodIn wsX5_fineLog wsX5_divide := goodIn_r _ [67, 68, 47, 11, 17, 31, 32, 33, 5, 34, 27, 28, 29, 30, 13, 14, 15, 16, 18, 19, 20, 21, 69, 70, 71, 72, 7, 8, 9, 10, 12, 60, 61, 62, 63, 52, 53, 54, 55, 35, 36, 37, 38, 56, 57, 58, 59, 89, 90, 91, 92, 93, 94, 95] rfl (by decide +kernel)
set_option maxRecDepth 20000 in
theorem gX5_fineLog_X5_divide : GoodIn wsX5_fineLog (wsV RX5 92 RX5 yX5_divide wsX5_divide) := goodIn_app (goodIn_of _ (by decide +kernel)) ggX5_fineLog_X5_divide
set_option maxRecDepth 20000 in
theorem ggX5_fineLog_X5_row : GoodIn wsX5_fineLog wsX5_row := goodIn_r _ [76, 1, 22, 23, 24, 5, 25, 26, 17, 11, 12, 27, 28, 29, 30, 18, 19, 20, 21, 77, 78, 79, 80, 47, 69, 70, 71, 72, 7, 8, 9, 10, 13, 14, 15, 16, 60, 61, 62, 63, 52, 53, 54, 55, 35, 36, 37, 38, 56, 57, 58, 59, 81, 82, 83, 84, 31, 32, 33, 34, 85, 86, 87, 88, 89, 90, 91, 92, 93, 94, 95] rfl (by decide +kernel)
set_option maxRecDepth 20000 in
theorem gX5_fineLog_X5_row : GoodIn wsX5_fineLog (wsV RX5 38 RX5 yX5_row wsX5_row) := goodIn_app (goodIn_of _ (by decide +kernel)) ggX5_fineLog_X5_row
set_option maxRecDepth 20000 in
theorem ggX5_fineLog_X5_divideSmall : GoodIn wsX5_fineLog wsX5_divideSmall := goodIn_r _ [88, 17, 11, 27, 28, 29, 5, 30, 18, 19, 20, 21, 69, 70, 71, 72, 7, 8, 9, 10, 12, 13, 14, 15, 16, 60, 61, 62, 63, 52, 53, 54, 55, 47, 35, 36, 37, 38, 56, 57, 58, 59, 89, 90, 91, 92, 93, 94, 95] rfl (by decide +kernel)
set_option maxRecDepth 20000 in
theorem gX5_fineLog_X5_divideSmall : GoodIn wsX5_fineLog (wsV RX5 34 RX5 yX5_divideSmall wsX5_divideSmall) := goodIn_app (goodIn_of _ (by decide +kernel)) ggX5_fineLog_X5_divideSmall
theorem dX5_fineLog_0 : decode cX5_fineLog 0 = .ok (.aload_n 0, 1) := by decide +kernel
theorem dX5_fineLog_1 : decode cX5_fineLog 1 = .ok (.bipush 45, 2) := by decide +kernel
theorem dX5_fineLog_3 : decode cX5_fineLog 3 = .ok (.iload_n 2, 1) := by decide +kernel
theorem dX5_fineLog_4 : decode cX5_fineLog 4 = .ok (.iconst 3, 1) := by decide +kernel
theorem dX5_fineLog_5 : decode cX5_fineLog 5 = .ok (.invokevirtual 42, 3) := by decide +kernel
theorem dX5_fineLog_8 : decode cX5_fineLog 8 = .ok (.aload_n 0, 1) := by decide +kernel
theorem dX5_fineLog_9 : decode cX5_fineLog 9 = .ok (.bipush 45, 2) := by decide +kernel
theorem dX5_fineLog_11 : decode cX5_fineLog 11 = .ok (.invokevirtual 88, 3) := by decide +kernel
theorem dX5_fineLog_14 : decode cX5_fineLog 14 = .ok (.aload_n 0, 1) := by decide +kernel
theorem dX5_fineLog_15 : decode cX5_fineLog 15 = .ok (.getfield 27, 3) := by decide +kernel
theorem dX5_fineLog_18 : decode cX5_fineLog 18 = .ok (.isub, 1) := by decide +kernel
theorem dX5_fineLog_19 : decode cX5_fineLog 19 = .ok (.iconst 2, 1) := by decide +kernel
theorem dX5_fineLog_20 : decode cX5_fineLog 20 = .ok (.isub, 1) := by decide +kernel
theorem dX5_fineLog_21 : decode cX5_fineLog 21 = .ok (.istore_n 3, 1) := by decide +kernel
theorem dX5_fineLog_22 : decode cX5_fineLog 22 = .ok (.iload_n 3, 1) := by decide +kernel
theorem dX5_fineLog_23 : decode cX5_fineLog 23 = .ok (.ifCond .lt 25, 3) := by decide +kernel
theorem dX5_fineLog_26 : decode cX5_fineLog 26 = .ok (.aload_n 0, 1) := by decide +kernel
theorem dX5_fineLog_27 : decode cX5_fineLog 27 = .ok (.bipush 46, 2) := by decide +kernel
theorem dX5_fineLog_29 : decode cX5_fineLog 29 = .ok (.iload_n 2, 1) := by decide +kernel
theorem dX5_fineLog_30 : decode cX5_fineLog 30 = .ok (.invokevirtual 67, 3) := by decide +kernel
theorem dX5_fineLog_33 : decode cX5_fineLog 33 = .ok (.aload_n 0, 1) := by decide +kernel
theorem dX5_fineLog_34 : decode cX5_fineLog 34 = .ok (.bipush 47, 2) := by decide +kernel
theorem dX5_fineLog_36 : decode cX5_fineLog 36 = .ok (.aload_n 0, 1) := by decide +kernel
theorem dX5_fineLog_37 : decode cX5_fineLog 37 = .ok (.getfield 27, 3) := by decide +kernel
theorem dX5_fineLog_40 : decode cX5_fineLog 40 = .ok (.iload_n 3, 1) := by decide +kernel
theorem dX5_fineLog_41 : decode cX5_fineLog 41 = .ok (.iadd, 1) := by decide +kernel
theorem dX5_fineLog_42 : decode cX5_fineLog 42 = .ok (.invokevirtual 30, 3) := by decide +kernel
theorem dX5_fineLog_45 : decode cX5_fineLog 45 = .ok (.goto 20, 3) := by decide +kernel
theorem dX5_fineLog_48 : decode cX5_fineLog 48 = .ok (.aload_n 0, 1) := by decide +kernel
theorem dX5_fineLog_49 : decode cX5_fineLog 49 = .ok (.bipush 46, 2) := by decide +kernel
theorem dX5_fineLog_51 : decode cX5_fineLog 51 = .ok (.iload_n 2, 1) := by decide +kernel
theorem dX5_fineLog_52 : decode cX5_fineLog 52 = .ok (.iload_n 3, 1) := by decide +kernel
theorem dX5_fineLog_53 : decode cX5_fineLog 53 = .ok (.ineg, 1) := by decide +kernel
theorem dX5_fineLog_54 : decode cX5_fineLog 54 = .ok (.invokevirtual 95, 3) := by decide +kernel
theorem dX5_fineLog_57 : decode cX5_fineLog 57 = .ok (.aload_n 0, 1) := by decide +kernel
theorem dX5_fineLog_58 : decode cX5_fineLog 58 = .ok (.bipush 47, 2) := by decide +kernel
theorem dX5_fineLog_60 : decode cX5_fineLog 60 = .ok (.bipush 27, 2) := by decide +kernel
theorem dX5_fineLog_62 : decode cX5_fineLog 62 = .ok (.invokevirtual 67, 3) := by decide +kernel
theorem dX5_fineLog_65 : decode cX5_fineLog 65 = .ok (.aload_n 0, 1) := by decide +kernel
theorem dX5_fineLog_66 : decode cX5_fineLog 66 = .ok (.bipush 48, 2) := by decide +kernel
theorem dX5_fineLog_68 : decode cX5_fineLog 68 = .ok (.bipush 46, 2) := by decide +kernel
theorem dX5_fineLog_70 : decode cX5_fineLog 70 = .ok (.bipush 47, 2) := by decide +kernel
theorem dX5_fineLog_72 : decode cX5_fineLog 72 = .ok (.invokevirtual 45, 3) := by decide +kernel
theorem dX5_fineLog_75 : decode cX5_fineLog 75 = .ok (.aload_n 0, 1) := by decide +kernel
theorem dX5_fineLog_76 : decode cX5_fineLog 76 = .ok (.bipush 48, 2) := by decide +kernel
theorem dX5_fineLog_78 : decode cX5_fineLog 78 = .ok (.bipush 48, 2) := by decide +kernel
theorem dX5_fineLog_80 : decode cX5_fineLog 80 = .ok (.aload_n 0, 1) := by decide +kernel
theorem dX5_fineLog_81 : decode cX5_fineLog 81 = .ok (.getfield 27, 3) := by decide +kernel
theorem dX5_fineLog_84 : decode cX5_fineLog 84 = .ok (.invokevirtual 95, 3) := by decide +kernel
theorem dX5_fineLog_87 : decode cX5_fineLog 87 = .ok (.aload_n 0, 1) := by decide +kernel
theorem dX5_fineLog_88 : decode cX5_fineLog 88 = .ok (.bipush 49, 2) := by decide +kernel
theorem dX5_fineLog_90 : decode cX5_fineLog 90 = .ok (.bipush 46, 2) := by decide +kernel
theorem dX5_fineLog_92 : decode cX5_fineLog 92 = .ok (.bipush 47, 2) := by decide +kernel
theorem dX5_fineLog_94 : decode cX5_fineLog 94 = .ok (.invokevirtual 79, 3) := by decide +kernel
theorem dX5_fineLog_97 : decode cX5_fineLog 97 = .ok (.aload_n 0, 1) := by decide +kernel
theorem dX5_fineLog_98 : decode cX5_fineLog 98 = .ok (.bipush 50, 2) := by decide +kernel
theorem dX5_fineLog_100 : decode cX5_fineLog 100 = .ok (.bipush 48, 2) := by decide +kernel
theorem dX5_fineLog_102 : decode cX5_fineLog 102 = .ok (.bipush 49, 2) := by decide +kernel
theorem dX5_fineLog_104 : decode cX5_fineLog 104 = .ok (.invokevirtual 92, 3) := by decide +kernel
theorem dX5_fineLog_107 : decode cX5_fineLog 107 = .ok (.aload_n 0, 1) := by decide +kernel
theorem dX5_fineLog_108 : decode cX5_fineLog 108 = .ok (.bipush 50, 2) := by decide +kernel
theorem dX5_fineLog_110 : decode cX5_fineLog 110 = .ok (.bipush 50, 2) := by decide +kernel
theorem dX5_fineLog_112 : decode cX5_fineLog 112 = .ok (.iconst 0, 1) := by decide +kernel
theorem dX5_fineLog_113 : decode cX5_fineLog 113 = .ok (.invokevirtual 38, 3) := by decide +kernel
theorem dX5_fineLog_116 : decode cX5_fineLog 116 = .ok (.aload_n 0, 1) := by decide +kernel
theorem dX5_fineLog_117 : decode cX5_fineLog 117 = .ok (.bipush 49, 2) := by decide +kernel
theorem dX5_fineLog_119 : decode cX5_fineLog 119 = .ok (.bipush 27, 2) := by decide +kernel
theorem dX5_fineLog_121 : decode cX5_fineLog 121 = .ok (.iconst 3, 1) := by decide +kernel
theorem dX5_fineLog_122 : decode cX5_fineLog 122 = .ok (.invokevirtual 34, 3) := by decide +kernel
theorem dX5_fineLog_125 : decode cX5_fineLog 125 = .ok (.aload_n 0, 1) := by decide +kernel
theorem dX5_fineLog_126 : decode cX5_fineLog 126 = .ok (.bipush 49, 2) := by decide +kernel
theorem dX5_fineLog_128 : decode cX5_fineLog 128 = .ok (.bipush 49, 2) := by decide +kernel
theorem dX5_fineLog_130 : decode cX5_fineLog 130 = .ok (.iconst 0, 1) := by decide +kernel
theorem dX5_fineLog_131 : decode cX5_fineLog 131 = .ok (.invokevirtual 38, 3) := by decide +kernel
theorem dX5_fineLog_134 : decode cX5_fineLog 134 = .ok (.aload_n 0, 1) := by decide +kernel
theorem dX5_fineLog_135 : decode cX5_fineLog 135 = .ok (.bipush 49, 2) := by decide +kernel
theorem dX5_fineLog_137 : decode cX5_fineLog 137 = .ok (.bipush 49, 2) := by decide +kernel
theorem dX5_fineLog_139 : decode cX5_fineLog 139 = .ok (.iload_n 3, 1) := by decide +kernel
theorem dX5_fineLog_140 : decode cX5_fineLog 140 = .ok (.invokevirtual 42, 3) := by decide +kernel
theorem dX5_fineLog_143 : decode cX5_fineLog 143 = .ok (.aload_n 0, 1) := by decide +kernel
theorem dX5_fineLog_144 : decode cX5_fineLog 144 = .ok (.bipush 50, 2) := by decide +kernel
theorem dX5_fineLog_146 : decode cX5_fineLog 146 = .ok (.bipush 50, 2) := by decide +kernel
theorem dX5_fineLog_148 : decode cX5_fineLog 148 = .ok (.bipush 49, 2) := by decide +kernel
theorem dX5_fineLog_150 : decode cX5_fineLog 150 = .ok (.invokevirtual 79, 3) := by decide +kernel
theorem dX5_fineLog_153 : decode cX5_fineLog 153 = .ok (.aload_n 0, 1) := by decide +kernel
theorem dX5_fineLog_154 : decode cX5_fineLog 154 = .ok (.iload_n 1, 1) := by decide +kernel
theorem dX5_fineLog_155 : decode cX5_fineLog 155 = .ok (.bipush 50, 2) := by decide +kernel
theorem dX5_fineLog_157 : decode cX5_fineLog 157 = .ok (.iconst 2, 1) := by decide +kernel
theorem dX5_fineLog_158 : decode cX5_fineLog 158 = .ok (.invokevirtual 42, 3) := by decide +kernel
theorem dX5_fineLog_161 : decode cX5_fineLog 161 = .ok (.return_, 1) := by decide +kernel
set_option maxRecDepth 20000 in
theorem ggX5_fineArc_X5_copy : GoodIn wsX5_fineArc wsX5_copy := goodIn_r _ [7, 8, 1, 93, 94, 95, 96, 97, 98, 99] rfl (by decide +kernel)
set_option maxRecDepth 20000 in
theorem gX5_fineArc_X5_copy : GoodIn wsX5_fineArc (wsV RX5 67 RX5 yX5_copy wsX5_copy) := goodIn_app (goodIn_of _ (by decide +kernel)) ggX5_fineArc_X5_copy
set_option maxRecDepth 20000 in
theorem ggX5_fineArc_X5_compare : GoodIn wsX5_fineArc wsX5_compare := goodIn_r _ [12, 1, 13, 14, 15, 6, 16, 17, 18, 19, 20, 8, 93, 94, 95, 96, 97, 98, 99] rfl (by decide +kernel)
set_option maxRecDepth 20000 in
theorem gX5_fineArc_X5_compare : GoodIn wsX5_fineArc (wsV RX5 98 RX5 yX5_compare wsX5_compare) := goodIn_app (goodIn_of _ (by decide +kernel)) ggX5_fineArc_X5_compare
set_option maxRecDepth 20000 in
theorem ggX5_fineArc_X5_power : GoodIn wsX5_fineArc wsX5_power := goodIn_r _ [24, 8, 1, 25, 26, 27, 6, 28, 93, 94, 95, 96, 97, 98, 99] rfl (by decide +kernel)
set_option maxRecDepth 20000 in
theorem gX5_fineArc_X5_power : GoodIn wsX5_fineArc (wsV RX5 30 RX5 yX5_power wsX5_power) := goodIn_app (goodIn_of _ (by decide +kernel)) ggX5_fineArc_X5_power
set_option maxRecDepth 20000 in
theorem ggX5_fineArc_X5_divide : GoodIn wsX5_fineArc wsX5_divide := goodIn_r _ [32, 33, 34, 8, 1, 35, 36, 37, 6, 38, 17, 18, 19, 20, 25, 26, 27, 28, 39, 40, 41, 42, 43, 44, 45, 46, 47, 48, 49, 50, 51, 52, 53, 54, 55, 56, 57, 58, 59, 3, 4, 5, 7, 13, 14, 15, 16, 93, 94, 95, 96, 97, 98, 99] rfl (by decide +kernel)
set_option maxRecDepth 20000 in
theorem gX5_fineArc_X5_divide : GoodIn wsX5_fineArc (wsV RX5 92 RX5 yX5_divide wsX5_divide) := goodIn_app (goodIn_of _ (by decide +kernel)) ggX5_fineArc_X5_divide
set_option maxRecDepth 20000 in
theorem ggX5_fineArc_X5_product : GoodIn wsX5_fineArc wsX5_product := goodIn_r _ [63, 64, 1, 8, 51, 17, 18, 19, 6, 20, 39, 40, 41, 42, 93, 94, 95, 96, 97, 98, 99] rfl (by decide +kernel)
set_option maxRecDepth 20000 in
theorem gX5_fineArc_X5_product : GoodIn wsX5_fineArc (wsV RX5 82 RX5 yX5_product wsX5_product) := goodIn_app (goodIn_of _ (by decide +kernel)) ggX5_fineArc_X5_product
set_option maxRecDepth 20000 in
theorem ggX5_fineArc_X5_plus : GoodIn wsX5_fineArc wsX5_plus := goodIn_r _ [55, 56, 57, 58, 6, 59, 1, 8, 34, 3, 4, 5, 7, 13, 14, 15, 16, 17, 18, 19, 20, 39, 40, 41, 42, 93, 94, 95, 96, 97, 98, 99] rfl (by decide +kernel)
set_option maxRecDepth 20000 in
theorem gX5_fineArc_X5_plus : GoodIn wsX5_fineArc (wsV RX5 79 RX5 yX5_plus wsX5_plus) := goodIn_app (goodIn_of _ (by decide +kernel)) ggX5_fineArc_X5_plus
set_option maxRecDepth 20000 in
theorem ggX5_fineArc_X5_squareRoot : GoodIn wsX5_fineArc wsX5_squareRoot := goodIn_r _ [68, 8, 1, 35, 36, 37, 6, 38, 17, 18, 19, 20, 25, 26, 27, 28, 69, 70, 71, 72, 34, 39, 40, 41, 42, 9, 10, 11, 12, 13, 14, 15, 16, 73, 74, 75, 76, 56, 57, 58, 59, 3, 4, 5, 7, 93, 94, 95, 96, 97, 98, 99] rfl (by decide +kernel)
set_option maxRecDepth 20000 in
theorem gX5_fineArc_X5_squareRoot : GoodIn wsX5_fineArc (wsV RX5 108 RX5 yX5_squareRoot wsX5_squareRoot) := goodIn_app (goodIn_of _ (by decide +kernel)) ggX5_fineArc_X5_squareRoot
set_option maxRecDepth 20000 in
theorem ggX5_fineArc_X5_up : GoodIn wsX5_fineArc wsX5_up := goodIn_r _ [72, 1, 34, 8, 17, 18, 19, 6, 20, 93, 94, 95, 96, 97, 98, 99] rfl (by decide +kernel)
set_option maxRecDepth 20000 in
theorem gX5_fineArc_X5_up : GoodIn wsX5_fineArc (wsV RX5 95 RX5 yX5_up wsX5_up) := goodIn_app (goodIn_of _ (by decide +kernel)) ggX5_fineArc_X5_up
set_option maxRecDepth 20000 in
theorem ggX5_fineArc_X5_row : GoodIn wsX5_fineArc wsX5_row := goodIn_r _ [80, 2, 60, 61, 62, 6, 63, 64, 1, 8, 51, 17, 18, 19, 20, 39, 40, 41, 42, 81, 82, 83, 84, 34, 43, 44, 45, 46, 47, 48, 49, 50, 25, 26, 27, 28, 52, 53, 54, 55, 56, 57, 58, 59, 3, 4, 5, 7, 13, 14, 15, 16, 85, 86, 87, 88, 35, 36, 37, 38, 89, 90, 91, 92, 93, 94, 95, 96, 97, 98, 99] rfl (by decide +kernel)
set_option maxRecDepth 20000 in
theorem gX5_fineArc_X5_row : GoodIn wsX5_fineArc (wsV RX5 38 RX5 yX5_row wsX5_row) := goodIn_app (goodIn_of _ (by decide +kernel)) ggX5_fineArc_X5_row
set_option maxRecDepth 20000 in
theorem ggX5_fineArc_X5_down : GoodIn wsX5_fineArc wsX5_down := goodIn_r _ [84, 1, 34, 8, 17, 18, 19, 6, 20, 39, 40, 41, 42, 43, 44, 45, 46, 47, 48, 49, 50, 51, 25, 26, 27, 28, 52, 53, 54, 55, 56, 57, 58, 59, 3, 4, 5, 7, 13, 14, 15, 16, 93, 94, 95, 96, 97, 98, 99] rfl (by decide +kernel)
set_option maxRecDepth 20000 in
theorem gX5_fineArc_X5_down : GoodIn wsX5_fineArc (wsV RX5 101 RX5 yX5_down wsX5_down) := goodIn_app (goodIn_of _ (by decide +kernel)) ggX5_fineArc_X5_down
set_option maxRecDepth 20000 in
theorem ggX5_fineArc_X5_minus : GoodIn wsX5_fineArc wsX5_minus := goodIn_r _ [76, 56, 57, 58, 6, 59, 1, 8, 34, 3, 4, 5, 7, 13, 14, 15, 16, 17, 18, 19, 20, 39, 40, 41, 42, 93, 94, 95, 96, 97, 98, 99] rfl (by decide +kernel)
set_option maxRecDepth 20000 in
theorem gX5_fineArc_X5_minus : GoodIn wsX5_fineArc (wsV RX5 45 RX5 yX5_minus wsX5_minus) := goodIn_app (goodIn_of _ (by decide +kernel)) ggX5_fineArc_X5_minus
theorem dX5_fineArc_0 : decode cX5_fineArc 0 = .ok (.aload_n 0, 1) := by decide +kernel
theorem dX5_fineArc_1 : decode cX5_fineArc 1 = .ok (.getfield 13, 3) := by decide +kernel
theorem dX5_fineArc_4 : decode cX5_fineArc 4 = .ok (.iload_n 2, 1) := by decide +kernel
theorem dX5_fineArc_5 : decode cX5_fineArc 5 = .ok (.iaload, 1) := by decide +kernel
theorem dX5_fineArc_6 : decode cX5_fineArc 6 = .ok (.istore_n 3, 1) := by decide +kernel
theorem dX5_fineArc_7 : decode cX5_fineArc 7 = .ok (.aload_n 0, 1) := by decide +kernel
theorem dX5_fineArc_8 : decode cX5_fineArc 8 = .ok (.bipush 52, 2) := by decide +kernel
theorem dX5_fineArc_10 : decode cX5_fineArc 10 = .ok (.iload_n 2, 1) := by decide +kernel
theorem dX5_fineArc_11 : decode cX5_fineArc 11 = .ok (.invokevirtual 67, 3) := by decide +kernel
theorem dX5_fineArc_14 : decode cX5_fineArc 14 = .ok (.aload_n 0, 1) := by decide +kernel
theorem dX5_fineArc_15 : decode cX5_fineArc 15 = .ok (.getfield 13, 3) := by decide +kernel
theorem dX5_fineArc_18 : decode cX5_fineArc 18 = .ok (.bipush 52, 2) := by decide +kernel
theorem dX5_fineArc_20 : decode cX5_fineArc 20 = .ok (.iload_n 3, 1) := by decide +kernel
theorem dX5_fineArc_21 : decode cX5_fineArc 21 = .ok (.ifCond .ne 7, 3) := by decide +kernel
theorem dX5_fineArc_24 : decode cX5_fineArc 24 = .ok (.iconst 0, 1) := by decide +kernel
theorem dX5_fineArc_25 : decode cX5_fineArc 25 = .ok (.goto 4, 3) := by decide +kernel
theorem dX5_fineArc_28 : decode cX5_fineArc 28 = .ok (.iconst 1, 1) := by decide +kernel
theorem dX5_fineArc_29 : decode cX5_fineArc 29 = .ok (.iastore, 1) := by decide +kernel
theorem dX5_fineArc_30 : decode cX5_fineArc 30 = .ok (.aload_n 0, 1) := by decide +kernel
theorem dX5_fineArc_31 : decode cX5_fineArc 31 = .ok (.bipush 52, 2) := by decide +kernel
theorem dX5_fineArc_33 : decode cX5_fineArc 33 = .ok (.bipush 27, 2) := by decide +kernel
theorem dX5_fineArc_35 : decode cX5_fineArc 35 = .ok (.invokevirtual 98, 3) := by decide +kernel
theorem dX5_fineArc_38 : decode cX5_fineArc 38 = .ok (.ifCond .le 7, 3) := by decide +kernel
theorem dX5_fineArc_41 : decode cX5_fineArc 41 = .ok (.iconst 1, 1) := by decide +kernel
theorem dX5_fineArc_42 : decode cX5_fineArc 42 = .ok (.goto 4, 3) := by decide +kernel
theorem dX5_fineArc_45 : decode cX5_fineArc 45 = .ok (.iconst 0, 1) := by decide +kernel
theorem dX5_fineArc_46 : decode cX5_fineArc 46 = .ok (.istore 4, 2) := by decide +kernel
theorem dX5_fineArc_48 : decode cX5_fineArc 48 = .ok (.iload 4, 2) := by decide +kernel
theorem dX5_fineArc_50 : decode cX5_fineArc 50 = .ok (.ifCond .eq 33, 3) := by decide +kernel
theorem dX5_fineArc_53 : decode cX5_fineArc 53 = .ok (.aload_n 0, 1) := by decide +kernel
theorem dX5_fineArc_54 : decode cX5_fineArc 54 = .ok (.bipush 53, 2) := by decide +kernel
theorem dX5_fineArc_56 : decode cX5_fineArc 56 = .ok (.iconst 2, 1) := by decide +kernel
theorem dX5_fineArc_57 : decode cX5_fineArc 57 = .ok (.aload_n 0, 1) := by decide +kernel
theorem dX5_fineArc_58 : decode cX5_fineArc 58 = .ok (.getfield 27, 3) := by decide +kernel
theorem dX5_fineArc_61 : decode cX5_fineArc 61 = .ok (.imul, 1) := by decide +kernel
theorem dX5_fineArc_62 : decode cX5_fineArc 62 = .ok (.invokevirtual 30, 3) := by decide +kernel
theorem dX5_fineArc_65 : decode cX5_fineArc 65 = .ok (.aload_n 0, 1) := by decide +kernel
theorem dX5_fineArc_66 : decode cX5_fineArc 66 = .ok (.bipush 54, 2) := by decide +kernel
theorem dX5_fineArc_68 : decode cX5_fineArc 68 = .ok (.bipush 53, 2) := by decide +kernel
theorem dX5_fineArc_70 : decode cX5_fineArc 70 = .ok (.bipush 52, 2) := by decide +kernel
theorem dX5_fineArc_72 : decode cX5_fineArc 72 = .ok (.invokevirtual 92, 3) := by decide +kernel
theorem dX5_fineArc_75 : decode cX5_fineArc 75 = .ok (.aload_n 0, 1) := by decide +kernel
theorem dX5_fineArc_76 : decode cX5_fineArc 76 = .ok (.bipush 52, 2) := by decide +kernel
theorem dX5_fineArc_78 : decode cX5_fineArc 78 = .ok (.bipush 54, 2) := by decide +kernel
theorem dX5_fineArc_80 : decode cX5_fineArc 80 = .ok (.invokevirtual 67, 3) := by decide +kernel
theorem dX5_fineArc_83 : decode cX5_fineArc 83 = .ok (.iconst 0, 1) := by decide +kernel
theorem dX5_fineArc_84 : decode cX5_fineArc 84 = .ok (.istore 5, 2) := by decide +kernel
theorem dX5_fineArc_86 : decode cX5_fineArc 86 = .ok (.iload 5, 2) := by decide +kernel
theorem dX5_fineArc_88 : decode cX5_fineArc 88 = .ok (.iconst 3, 1) := by decide +kernel
theorem dX5_fineArc_89 : decode cX5_fineArc 89 = .ok (.if_icmp .ge 81, 3) := by decide +kernel
theorem dX5_fineArc_92 : decode cX5_fineArc 92 = .ok (.aload_n 0, 1) := by decide +kernel
theorem dX5_fineArc_93 : decode cX5_fineArc 93 = .ok (.bipush 53, 2) := by decide +kernel
theorem dX5_fineArc_95 : decode cX5_fineArc 95 = .ok (.bipush 52, 2) := by decide +kernel
theorem dX5_fineArc_97 : decode cX5_fineArc 97 = .ok (.bipush 52, 2) := by decide +kernel
theorem dX5_fineArc_99 : decode cX5_fineArc 99 = .ok (.invokevirtual 82, 3) := by decide +kernel
theorem dX5_fineArc_102 : decode cX5_fineArc 102 = .ok (.aload_n 0, 1) := by decide +kernel
theorem dX5_fineArc_103 : decode cX5_fineArc 103 = .ok (.bipush 54, 2) := by decide +kernel
theorem dX5_fineArc_105 : decode cX5_fineArc 105 = .ok (.iconst 2, 1) := by decide +kernel
theorem dX5_fineArc_106 : decode cX5_fineArc 106 = .ok (.aload_n 0, 1) := by decide +kernel
theorem dX5_fineArc_107 : decode cX5_fineArc 107 = .ok (.getfield 27, 3) := by decide +kernel
theorem dX5_fineArc_110 : decode cX5_fineArc 110 = .ok (.imul, 1) := by decide +kernel
theorem dX5_fineArc_111 : decode cX5_fineArc 111 = .ok (.invokevirtual 30, 3) := by decide +kernel
theorem dX5_fineArc_114 : decode cX5_fineArc 114 = .ok (.aload_n 0, 1) := by decide +kernel
theorem dX5_fineArc_115 : decode cX5_fineArc 115 = .ok (.bipush 53, 2) := by decide +kernel
theorem dX5_fineArc_117 : decode cX5_fineArc 117 = .ok (.bipush 53, 2) := by decide +kernel
theorem dX5_fineArc_119 : decode cX5_fineArc 119 = .ok (.bipush 54, 2) := by decide +kernel
theorem dX5_fineArc_121 : decode cX5_fineArc 121 = .ok (.invokevirtual 79, 3) := by decide +kernel
theorem dX5_fineArc_124 : decode cX5_fineArc 124 = .ok (.aload_n 0, 1) := by decide +kernel
theorem dX5_fineArc_125 : decode cX5_fineArc 125 = .ok (.bipush 54, 2) := by decide +kernel
theorem dX5_fineArc_127 : decode cX5_fineArc 127 = .ok (.bipush 53, 2) := by decide +kernel
theorem dX5_fineArc_129 : decode cX5_fineArc 129 = .ok (.invokevirtual 108, 3) := by decide +kernel
theorem dX5_fineArc_132 : decode cX5_fineArc 132 = .ok (.aload_n 0, 1) := by decide +kernel
theorem dX5_fineArc_133 : decode cX5_fineArc 133 = .ok (.bipush 54, 2) := by decide +kernel
theorem dX5_fineArc_135 : decode cX5_fineArc 135 = .ok (.bipush 54, 2) := by decide +kernel
theorem dX5_fineArc_137 : decode cX5_fineArc 137 = .ok (.bipush 27, 2) := by decide +kernel
theorem dX5_fineArc_139 : decode cX5_fineArc 139 = .ok (.invokevirtual 79, 3) := by decide +kernel
theorem dX5_fineArc_142 : decode cX5_fineArc 142 = .ok (.aload_n 0, 1) := by decide +kernel
theorem dX5_fineArc_143 : decode cX5_fineArc 143 = .ok (.bipush 53, 2) := by decide +kernel
theorem dX5_fineArc_145 : decode cX5_fineArc 145 = .ok (.bipush 52, 2) := by decide +kernel
theorem dX5_fineArc_147 : decode cX5_fineArc 147 = .ok (.aload_n 0, 1) := by decide +kernel
theorem dX5_fineArc_148 : decode cX5_fineArc 148 = .ok (.getfield 27, 3) := by decide +kernel
theorem dX5_fineArc_151 : decode cX5_fineArc 151 = .ok (.invokevirtual 95, 3) := by decide +kernel
theorem dX5_fineArc_154 : decode cX5_fineArc 154 = .ok (.aload_n 0, 1) := by decide +kernel
theorem dX5_fineArc_155 : decode cX5_fineArc 155 = .ok (.bipush 52, 2) := by decide +kernel
theorem dX5_fineArc_157 : decode cX5_fineArc 157 = .ok (.bipush 53, 2) := by decide +kernel
