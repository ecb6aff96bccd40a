set_option maxRecDepth 20000 in
theorem ggX4_init_X3_init : GoodIn wsX4_init wsX3_init := goodIn_r _ [35, 36, 2, 3, 37, 38, 79, 80, 81] rfl (by decide +kernel)
set_option maxRecDepth 20000 in
theorem gX4_init_X3_init_n9 : GoodIn wsX4_init (wsX3_init) := ggX4_init_X3_init
set_option maxRecDepth 20000 in
theorem ggX4_init_X0_init : GoodIn wsX4_init wsX0_init := goodIn_r _ [40, 41, 2, 3, 42, 5, 6, 43, 44, 34, 35, 36, 37, 38, 79, 80, 81, 93, 94] rfl (by decide +kernel)
set_option maxRecDepth 20000 in
theorem gX4_init_X0_init_n22 : GoodIn wsX4_init (wsX0_init) := ggX4_init_X0_init
set_option maxRecDepth 20000 in
theorem ggX4_init_X1_init : GoodIn wsX4_init wsX1_init := goodIn_r _ [46, 47, 2, 3, 37, 48, 49, 95, 96, 97, 98] rfl (by decide +kernel)
set_option maxRecDepth 20000 in
theorem gX4_init_X1_init_n44 : GoodIn wsX4_init (wsX1_init) := ggX4_init_X1_init
set_option maxRecDepth 20000 in
theorem ggX4_init_X3_becomePower : GoodIn wsX4_init wsX3_becomePower := goodIn_r _ [53, 38, 54, 55, 56, 57, 58, 6, 59, 79, 80, 81] rfl (by decide +kernel)
set_option maxRecDepth 20000 in
theorem gX4_init_X3_becomePower : GoodIn wsX4_init (wsV RX4 62 RX3 yX3_becomePower wsX3_becomePower) := goodIn_app (goodIn_of _ (by decide +kernel)) ggX4_init_X3_becomePower
set_option maxRecDepth 20000 in
theorem ggX4_init_X2_init : GoodIn wsX4_init wsX2_init := goodIn_r _ [62, 63, 2, 3, 64, 5, 6, 65, 66, 19, 20, 67, 68, 69, 70, 71, 72, 73, 74, 75, 76, 77, 34, 35, 36, 37, 38, 45, 46, 47, 48, 49, 78, 51, 52, 53, 54, 55, 56, 57, 58, 59, 79, 80, 81, 99, 100, 101, 102, 103, 104, 105, 106, 107, 108, 109, 110, 95, 96, 97, 98] rfl (by decide +kernel)
set_option maxRecDepth 20000 in
theorem gX4_init_X2_init : GoodIn wsX4_init (wsX2_init) := ggX4_init_X2_init
theorem dX4_init_0 : decode cX4_init 0 = .ok (.aload_n 0, 1) := by decide +kernel
theorem dX4_init_1 : decode cX4_init 1 = .ok (.invokespecial 1, 3) := by decide +kernel
theorem dX4_init_4 : decode cX4_init 4 = .ok (.aload_n 0, 1) := by decide +kernel
theorem dX4_init_5 : decode cX4_init 5 = .ok (.new 7, 3) := by decide +kernel
theorem dX4_init_8 : decode cX4_init 8 = .ok (.dup, 1) := by decide +kernel
theorem dX4_init_9 : decode cX4_init 9 = .ok (.invokespecial 9, 3) := by decide +kernel
theorem dX4_init_12 : decode cX4_init 12 = .ok (.putfield 10, 3) := by decide +kernel
theorem dX4_init_15 : decode cX4_init 15 = .ok (.aload_n 0, 1) := by decide +kernel
theorem dX4_init_16 : decode cX4_init 16 = .ok (.bipush 12, 2) := by decide +kernel
theorem dX4_init_18 : decode cX4_init 18 = .ok (.anewarray 16, 3) := by decide +kernel
theorem dX4_init_21 : decode cX4_init 21 = .ok (.putfield 18, 3) := by decide +kernel
theorem dX4_init_24 : decode cX4_init 24 = .ok (.aload_n 0, 1) := by decide +kernel
theorem dX4_init_25 : decode cX4_init 25 = .ok (.new 16, 3) := by decide +kernel
theorem dX4_init_28 : decode cX4_init 28 = .ok (.dup, 1) := by decide +kernel
theorem dX4_init_29 : decode cX4_init 29 = .ok (.invokespecial 22, 3) := by decide +kernel
theorem dX4_init_32 : decode cX4_init 32 = .ok (.putfield 23, 3) := by decide +kernel
theorem dX4_init_35 : decode cX4_init 35 = .ok (.aload_n 0, 1) := by decide +kernel
theorem dX4_init_36 : decode cX4_init 36 = .ok (.new 7, 3) := by decide +kernel
theorem dX4_init_39 : decode cX4_init 39 = .ok (.dup, 1) := by decide +kernel
theorem dX4_init_40 : decode cX4_init 40 = .ok (.invokespecial 9, 3) := by decide +kernel
theorem dX4_init_43 : decode cX4_init 43 = .ok (.putfield 27, 3) := by decide +kernel
theorem dX4_init_46 : decode cX4_init 46 = .ok (.aload_n 0, 1) := by decide +kernel
theorem dX4_init_47 : decode cX4_init 47 = .ok (.new 7, 3) := by decide +kernel
theorem dX4_init_50 : decode cX4_init 50 = .ok (.dup, 1) := by decide +kernel
theorem dX4_init_51 : decode cX4_init 51 = .ok (.invokespecial 9, 3) := by decide +kernel
theorem dX4_init_54 : decode cX4_init 54 = .ok (.putfield 30, 3) := by decide +kernel
theorem dX4_init_57 : decode cX4_init 57 = .ok (.aload_n 0, 1) := by decide +kernel
theorem dX4_init_58 : decode cX4_init 58 = .ok (.new 7, 3) := by decide +kernel
theorem dX4_init_61 : decode cX4_init 61 = .ok (.dup, 1) := by decide +kernel
theorem dX4_init_62 : decode cX4_init 62 = .ok (.invokespecial 9, 3) := by decide +kernel
theorem dX4_init_65 : decode cX4_init 65 = .ok (.putfield 33, 3) := by decide +kernel
theorem dX4_init_68 : decode cX4_init 68 = .ok (.aload_n 0, 1) := by decide +kernel
theorem dX4_init_69 : decode cX4_init 69 = .ok (.new 7, 3) := by decide +kernel
theorem dX4_init_72 : decode cX4_init 72 = .ok (.dup, 1) := by decide +kernel
theorem dX4_init_73 : decode cX4_init 73 = .ok (.invokespecial 9, 3) := by decide +kernel
theorem dX4_init_76 : decode cX4_init 76 = .ok (.putfield 36, 3) := by decide +kernel
theorem dX4_init_79 : decode cX4_init 79 = .ok (.aload_n 0, 1) := by decide +kernel
theorem dX4_init_80 : decode cX4_init 80 = .ok (.new 7, 3) := by decide +kernel
theorem dX4_init_83 : decode cX4_init 83 = .ok (.dup, 1) := by decide +kernel
theorem dX4_init_84 : decode cX4_init 84 = .ok (.invokespecial 9, 3) := by decide +kernel
theorem dX4_init_87 : decode cX4_init 87 = .ok (.putfield 39, 3) := by decide +kernel
theorem dX4_init_90 : decode cX4_init 90 = .ok (.aload_n 0, 1) := by decide +kernel
theorem dX4_init_91 : decode cX4_init 91 = .ok (.new 42, 3) := by decide +kernel
theorem dX4_init_94 : decode cX4_init 94 = .ok (.dup, 1) := by decide +kernel
theorem dX4_init_95 : decode cX4_init 95 = .ok (.invokespecial 44, 3) := by decide +kernel
theorem dX4_init_98 : decode cX4_init 98 = .ok (.putfield 45, 3) := by decide +kernel
theorem dX4_init_101 : decode cX4_init 101 = .ok (.aload_n 0, 1) := by decide +kernel
theorem dX4_init_102 : decode cX4_init 102 = .ok (.bipush 16, 2) := by decide +kernel
theorem dX4_init_104 : decode cX4_init 104 = .ok (.sipush 192, 3) := by decide +kernel
theorem dX4_init_107 : decode cX4_init 107 = .ok (.iload_n 1, 1) := by decide +kernel
theorem dX4_init_108 : decode cX4_init 108 = .ok (.invokestatic 49, 3) := by decide +kernel
theorem dX4_init_111 : decode cX4_init 111 = .ok (.invokestatic 55, 3) := by decide +kernel
theorem dX4_init_114 : decode cX4_init 114 = .ok (.putfield 58, 3) := by decide +kernel
theorem dX4_init_117 : decode cX4_init 117 = .ok (.aload_n 0, 1) := by decide +kernel
theorem dX4_init_118 : decode cX4_init 118 = .ok (.getfield 10, 3) := by decide +kernel
theorem dX4_init_121 : decode cX4_init 121 = .ok (.aload_n 0, 1) := by decide +kernel
theorem dX4_init_122 : decode cX4_init 122 = .ok (.getfield 58, 3) := by decide +kernel
theorem dX4_init_125 : decode cX4_init 125 = .ok (.bipush 48, 2) := by decide +kernel
theorem dX4_init_127 : decode cX4_init 127 = .ok (.iadd, 1) := by decide +kernel
theorem dX4_init_128 : decode cX4_init 128 = .ok (.invokevirtual 62, 3) := by decide +kernel
theorem dX4_init_131 : decode cX4_init 131 = .ok (.iconst 0, 1) := by decide +kernel
theorem dX4_init_132 : decode cX4_init 132 = .ok (.istore_n 2, 1) := by decide +kernel
theorem dX4_init_133 : decode cX4_init 133 = .ok (.iload_n 2, 1) := by decide +kernel
theorem dX4_init_134 : decode cX4_init 134 = .ok (.bipush 12, 2) := by decide +kernel
theorem dX4_init_136 : decode cX4_init 136 = .ok (.if_icmp .ge 22, 3) := by decide +kernel
theorem dX4_init_139 : decode cX4_init 139 = .ok (.aload_n 0, 1) := by decide +kernel
theorem dX4_init_140 : decode cX4_init 140 = .ok (.getfield 18, 3) := by decide +kernel
theorem dX4_init_143 : decode cX4_init 143 = .ok (.iload_n 2, 1) := by decide +kernel
theorem dX4_init_144 : decode cX4_init 144 = .ok (.new 16, 3) := by decide +kernel
theorem dX4_init_147 : decode cX4_init 147 = .ok (.dup, 1) := by decide +kernel
theorem dX4_init_148 : decode cX4_init 148 = .ok (.invokespecial 22, 3) := by decide +kernel
theorem dX4_init_151 : decode cX4_init 151 = .ok (.aastore, 1) := by decide +kernel
theorem dX4_init_152 : decode cX4_init 152 = .ok (.iinc 2 1, 3) := by decide +kernel
theorem dX4_init_155 : decode cX4_init 155 = .ok (.goto (-22), 3) := by decide +kernel
theorem dX4_init_158 : decode cX4_init 158 = .ok (.aload_n 0, 1) := by decide +kernel
theorem dX4_init_159 : decode cX4_init 159 = .ok (.new 66, 3) := by decide +kernel
theorem dX4_init_162 : decode cX4_init 162 = .ok (.dup, 1) := by decide +kernel
theorem dX4_init_163 : decode cX4_init 163 = .ok (.aload_n 0, 1) := by decide +kernel
theorem dX4_init_164 : decode cX4_init 164 = .ok (.getfield 58, 3) := by decide +kernel
theorem dX4_init_167 : decode cX4_init 167 = .ok (.bipush 64, 2) := by decide +kernel
theorem dX4_init_169 : decode cX4_init 169 = .ok (.iadd, 1) := by decide +kernel
theorem dX4_init_170 : decode cX4_init 170 = .ok (.invokespecial 68, 3) := by decide +kernel
theorem dX4_init_173 : decode cX4_init 173 = .ok (.putfield 70, 3) := by decide +kernel
theorem dX4_init_176 : decode cX4_init 176 = .ok (.return_, 1) := by decide +kernel
set_option maxRecDepth 20000 in
theorem ggX4_set_X4_isPlace : GoodIn wsX4_set wsX4_isPlace := goodIn_r _ [11] rfl (by decide +kernel)
set_option maxRecDepth 20000 in
theorem gX4_set_X4_isPlace : GoodIn wsX4_set (va_wsS RX4 74 yX4_isPlace wsX4_isPlace) := goodIn_app (goodIn_of _ (by decide +kernel)) ggX4_set_X4_isPlace
set_option maxRecDepth 20000 in
theorem ggX4_set_X3_become : GoodIn wsX4_set wsX3_become := goodIn_r _ [16, 17, 18, 19, 20, 21, 22, 23, 24, 25, 26, 15, 27, 28, 155, 156, 157] rfl (by decide +kernel)
set_option maxRecDepth 20000 in
theorem gX4_set_X3_become : GoodIn wsX4_set (wsV RX4 78 RX3 yX3_become wsX3_become) := goodIn_app (goodIn_of _ (by decide +kernel)) ggX4_set_X3_become
set_option maxRecDepth 20000 in
theorem ggX4_set_X3_raise : GoodIn wsX4_set wsX3_raise := goodIn_r _ [32, 28, 17, 33, 34, 35, 15, 36, 18, 37, 38, 39, 40, 24, 25, 26, 27, 19, 155, 156, 157] rfl (by decide +kernel)
set_option maxRecDepth 20000 in
theorem gX4_set_X3_raise : GoodIn wsX4_set (wsV RX4 82 RX3 yX3_raise wsX3_raise) := goodIn_app (goodIn_of _ (by decide +kernel)) ggX4_set_X3_raise
set_option maxRecDepth 20000 in
theorem ggX4_set_X1_quotient : GoodIn wsX4_set wsX1_quotient := goodIn_r _ [45, 46, 47, 48, 49, 50, 51, 52, 53, 54, 55, 56, 15, 57, 19, 58, 59, 60, 61, 28, 62, 63, 64, 65, 66, 67, 68, 69, 17, 70, 71, 22, 72, 73, 74, 75, 76, 77, 78, 34, 35, 36, 18, 37, 38, 39, 40, 79, 80, 81, 44, 82, 83, 84, 85, 86, 87, 88, 89, 90, 91, 92, 93, 94, 95, 96, 97, 98, 99, 100, 101, 25, 26, 27, 102, 103, 104, 105, 158, 159, 160, 161, 155, 156, 157] rfl (by decide +kernel)
set_option maxRecDepth 20000 in
theorem gX4_set_X1_quotient : GoodIn wsX4_set (wsV RX4 88 RX1 yX1_quotient wsX1_quotient) := goodIn_app (goodIn_of _ (by decide +kernel)) ggX4_set_X1_quotient
set_option maxRecDepth 20000 in
theorem ggX4_set_X4_keep : GoodIn wsX4_set wsX4_keep := goodIn_r _ [109, 5, 110, 111, 112, 113, 114, 115, 116, 117, 118, 119, 120, 121, 15, 122, 28, 17, 123, 124, 75, 125, 126, 127, 22, 128, 129, 55, 56, 57, 19, 130, 131, 132, 133, 134, 135, 136, 137, 138, 139, 140, 141, 142, 143, 144, 145, 146, 147, 148, 149, 150, 151, 152, 153, 154, 155, 156, 157] rfl (by decide +kernel)
set_option maxRecDepth 20000 in
theorem gX4_set_X4_keep : GoodIn wsX4_set (wsV RX4 95 RX4 yX4_keep wsX4_keep) := goodIn_app (goodIn_of _ (by decide +kernel)) ggX4_set_X4_keep
theorem dX4_set_0 : decode cX4_set 0 = .ok (.iload_n 1, 1) := by decide +kernel
theorem dX4_set_1 : decode cX4_set 1 = .ok (.invokestatic 74, 3) := by decide +kernel
theorem dX4_set_4 : decode cX4_set 4 = .ok (.ifCond .eq 10, 3) := by decide +kernel
theorem dX4_set_7 : decode cX4_set 7 = .ok (.lload 4, 2) := by decide +kernel
theorem dX4_set_9 : decode cX4_set 9 = .ok (.lconst 0, 1) := by decide +kernel
theorem dX4_set_10 : decode cX4_set 10 = .ok (.lcmp, 1) := by decide +kernel
theorem dX4_set_11 : decode cX4_set 11 = .ok (.ifCond .gt 5, 3) := by decide +kernel
theorem dX4_set_14 : decode cX4_set 14 = .ok (.iconst (-1), 1) := by decide +kernel
theorem dX4_set_15 : decode cX4_set 15 = .ok (.ireturn, 1) := by decide +kernel
theorem dX4_set_16 : decode cX4_set 16 = .ok (.aload_n 0, 1) := by decide +kernel
theorem dX4_set_17 : decode cX4_set 17 = .ok (.getfield 33, 3) := by decide +kernel
theorem dX4_set_20 : decode cX4_set 20 = .ok (.lload_n 2, 1) := by decide +kernel
theorem dX4_set_21 : decode cX4_set 21 = .ok (.invokevirtual 78, 3) := by decide +kernel
theorem dX4_set_24 : decode cX4_set 24 = .ok (.aload_n 0, 1) := by decide +kernel
theorem dX4_set_25 : decode cX4_set 25 = .ok (.getfield 33, 3) := by decide +kernel
theorem dX4_set_28 : decode cX4_set 28 = .ok (.aload_n 0, 1) := by decide +kernel
theorem dX4_set_29 : decode cX4_set 29 = .ok (.getfield 58, 3) := by decide +kernel
theorem dX4_set_32 : decode cX4_set 32 = .ok (.invokevirtual 82, 3) := by decide +kernel
theorem dX4_set_35 : decode cX4_set 35 = .ok (.aload_n 0, 1) := by decide +kernel
theorem dX4_set_36 : decode cX4_set 36 = .ok (.getfield 36, 3) := by decide +kernel
theorem dX4_set_39 : decode cX4_set 39 = .ok (.lload 4, 2) := by decide +kernel
theorem dX4_set_41 : decode cX4_set 41 = .ok (.invokevirtual 78, 3) := by decide +kernel
theorem dX4_set_44 : decode cX4_set 44 = .ok (.aload_n 0, 1) := by decide +kernel
theorem dX4_set_45 : decode cX4_set 45 = .ok (.getfield 45, 3) := by decide +kernel
theorem dX4_set_48 : decode cX4_set 48 = .ok (.aload_n 0, 1) := by decide +kernel
theorem dX4_set_49 : decode cX4_set 49 = .ok (.getfield 23, 3) := by decide +kernel
theorem dX4_set_52 : decode cX4_set 52 = .ok (.getfield 85, 3) := by decide +kernel
theorem dX4_set_55 : decode cX4_set 55 = .ok (.aload_n 0, 1) := by decide +kernel
theorem dX4_set_56 : decode cX4_set 56 = .ok (.getfield 33, 3) := by decide +kernel
theorem dX4_set_59 : decode cX4_set 59 = .ok (.aload_n 0, 1) := by decide +kernel
theorem dX4_set_60 : decode cX4_set 60 = .ok (.getfield 36, 3) := by decide +kernel
theorem dX4_set_63 : decode cX4_set 63 = .ok (.invokevirtual 88, 3) := by decide +kernel
theorem dX4_set_66 : decode cX4_set 66 = .ok (.istore 6, 2) := by decide +kernel
theorem dX4_set_68 : decode cX4_set 68 = .ok (.aload_n 0, 1) := by decide +kernel
theorem dX4_set_69 : decode cX4_set 69 = .ok (.getfield 23, 3) := by decide +kernel
theorem dX4_set_72 : decode cX4_set 72 = .ok (.getfield 92, 3) := by decide +kernel
theorem dX4_set_75 : decode cX4_set 75 = .ok (.iload 6, 2) := by decide +kernel
theorem dX4_set_77 : decode cX4_set 77 = .ok (.ifCond .eq 7, 3) := by decide +kernel
theorem dX4_set_80 : decode cX4_set 80 = .ok (.lconst 0, 1) := by decide +kernel
theorem dX4_set_81 : decode cX4_set 81 = .ok (.goto 4, 3) := by decide +kernel
theorem dX4_set_84 : decode cX4_set 84 = .ok (.lconst 1, 1) := by decide +kernel
theorem dX4_set_85 : decode cX4_set 85 = .ok (.invokevirtual 78, 3) := by decide +kernel
theorem dX4_set_88 : decode cX4_set 88 = .ok (.aload_n 0, 1) := by decide +kernel
theorem dX4_set_89 : decode cX4_set 89 = .ok (.iload_n 1, 1) := by decide +kernel
theorem dX4_set_90 : decode cX4_set 90 = .ok (.invokevirtual 95, 3) := by decide +kernel
theorem dX4_set_93 : decode cX4_set 93 = .ok (.ireturn, 1) := by decide +kernel
set_option maxRecDepth 20000 in
theorem ggX4_add_X4_isPlace : GoodIn wsX4_add wsX4_isPlace := goodIn_r _ [8] rfl (by decide +kernel)
set_option maxRecDepth 20000 in
theorem gX4_add_X4_isPlace : GoodIn wsX4_add (va_wsS RX4 74 yX4_isPlace wsX4_isPlace) := goodIn_app (goodIn_of _ (by decide +kernel)) ggX4_add_X4_isPlace
set_option maxRecDepth 20000 in
theorem ggX4_add_X3_sum : GoodIn wsX4_add wsX3_sum := goodIn_r _ [13, 14, 15, 16, 17, 12, 18, 19, 20, 21, 22, 23, 24, 25, 26, 27, 28, 29, 30, 31, 32, 33, 34, 35, 36, 37, 38, 39, 40, 41, 42, 43, 44, 45, 46, 47, 48, 49, 92, 93, 94] rfl (by decide +kernel)
set_option maxRecDepth 20000 in
theorem gX4_add_X3_sum : GoodIn wsX4_add (wsV RX4 99 RX3 yX3_sum wsX3_sum) := goodIn_app (goodIn_of _ (by decide +kernel)) ggX4_add_X3_sum
set_option maxRecDepth 20000 in
theorem ggX4_add_X4_keep : GoodIn wsX4_add wsX4_keep := goodIn_r _ [53, 1, 54, 3, 55, 56, 57, 58, 59, 60, 61, 62, 31, 32, 12, 33, 23, 28, 34, 35, 36, 37, 38, 39, 40, 41, 63, 64, 65, 66, 14, 67, 68, 69, 70, 71, 72, 73, 74, 75, 76, 77, 78, 79, 80, 81, 82, 83, 84, 85, 86, 87, 88, 89, 90, 91, 92, 93, 94] rfl (by decide +kernel)
set_option maxRecDepth 20000 in
theorem gX4_add_X4_keep : GoodIn wsX4_add (wsV RX4 95 RX4 yX4_keep wsX4_keep) := goodIn_app (goodIn_of _ (by decide +kernel)) ggX4_add_X4_keep
theorem dX4_add_0 : decode cX4_add 0 = .ok (.iload_n 1, 1) := by decide +kernel
theorem dX4_add_1 : decode cX4_add 1 = .ok (.invokestatic 74, 3) := by decide +kernel
theorem dX4_add_4 : decode cX4_add 4 = .ok (.ifCond .eq 17, 3) := by decide +kernel
theorem dX4_add_7 : decode cX4_add 7 = .ok (.iload_n 2, 1) := by decide +kernel
theorem dX4_add_8 : decode cX4_add 8 = .ok (.invokestatic 74, 3) := by decide +kernel
theorem dX4_add_11 : decode cX4_add 11 = .ok (.ifCond .eq 10, 3) := by decide +kernel
theorem dX4_add_14 : decode cX4_add 14 = .ok (.iload_n 3, 1) := by decide +kernel
theorem dX4_add_15 : decode cX4_add 15 = .ok (.invokestatic 74, 3) := by decide +kernel
theorem dX4_add_18 : decode cX4_add 18 = .ok (.ifCond .ne 5, 3) := by decide +kernel
theorem dX4_add_21 : decode cX4_add 21 = .ok (.iconst (-1), 1) := by decide +kernel
theorem dX4_add_22 : decode cX4_add 22 = .ok (.ireturn, 1) := by decide +kernel
theorem dX4_add_23 : decode cX4_add 23 = .ok (.aload_n 0, 1) := by decide +kernel
theorem dX4_add_24 : decode cX4_add 24 = .ok (.getfield 23, 3) := by decide +kernel
theorem dX4_add_27 : decode cX4_add 27 = .ok (.getfield 85, 3) := by decide +kernel
theorem dX4_add_30 : decode cX4_add 30 = .ok (.aload_n 0, 1) := by decide +kernel
theorem dX4_add_31 : decode cX4_add 31 = .ok (.getfield 18, 3) := by decide +kernel
theorem dX4_add_34 : decode cX4_add 34 = .ok (.iload_n 2, 1) := by decide +kernel
theorem dX4_add_35 : decode cX4_add 35 = .ok (.aaload, 1) := by decide +kernel
theorem dX4_add_36 : decode cX4_add 36 = .ok (.getfield 85, 3) := by decide +kernel
theorem dX4_add_39 : decode cX4_add 39 = .ok (.aload_n 0, 1) := by decide +kernel
theorem dX4_add_40 : decode cX4_add 40 = .ok (.getfield 18, 3) := by decide +kernel
theorem dX4_add_43 : decode cX4_add 43 = .ok (.iload_n 3, 1) := by decide +kernel
theorem dX4_add_44 : decode cX4_add 44 = .ok (.aaload, 1) := by decide +kernel
theorem dX4_add_45 : decode cX4_add 45 = .ok (.getfield 85, 3) := by decide +kernel
theorem dX4_add_48 : decode cX4_add 48 = .ok (.invokevirtual 99, 3) := by decide +kernel
theorem dX4_add_51 : decode cX4_add 51 = .ok (.aload_n 0, 1) := by decide +kernel
theorem dX4_add_52 : decode cX4_add 52 = .ok (.getfield 23, 3) := by decide +kernel
theorem dX4_add_55 : decode cX4_add 55 = .ok (.getfield 92, 3) := by decide +kernel
theorem dX4_add_58 : decode cX4_add 58 = .ok (.aload_n 0, 1) := by decide +kernel
theorem dX4_add_59 : decode cX4_add 59 = .ok (.getfield 18, 3) := by decide +kernel
theorem dX4_add_62 : decode cX4_add 62 = .ok (.iload_n 2, 1) := by decide +kernel
theorem dX4_add_63 : decode cX4_add 63 = .ok (.aaload, 1) := by decide +kernel
theorem dX4_add_64 : decode cX4_add 64 = .ok (.getfield 92, 3) := by decide +kernel
theorem dX4_add_67 : decode cX4_add 67 = .ok (.aload_n 0, 1) := by decide +kernel
theorem dX4_add_68 : decode cX4_add 68 = .ok (.getfield 18, 3) := by decide +kernel
theorem dX4_add_71 : decode cX4_add 71 = .ok (.iload_n 3, 1) := by decide +kernel
theorem dX4_add_72 : decode cX4_add 72 = .ok (.aaload, 1) := by decide +kernel
theorem dX4_add_73 : decode cX4_add 73 = .ok (.getfield 92, 3) := by decide +kernel
theorem dX4_add_76 : decode cX4_add 76 = .ok (.invokevirtual 99, 3) := by decide +kernel
theorem dX4_add_79 : decode cX4_add 79 = .ok (.aload_n 0, 1) := by decide +kernel
theorem dX4_add_80 : decode cX4_add 80 = .ok (.iload_n 1, 1) := by decide +kernel
theorem dX4_add_81 : decode cX4_add 81 = .ok (.invokevirtual 95, 3) := by decide +kernel
theorem dX4_add_84 : decode cX4_add 84 = .ok (.ireturn, 1) := by decide +kernel
set_option maxRecDepth 20000 in
theorem ggX4_take_X4_isPlace : GoodIn wsX4_take wsX4_isPlace := goodIn_r _ [8] rfl (by decide +kernel)
set_option maxRecDepth 20000 in
theorem gX4_take_X4_isPlace : GoodIn wsX4_take (va_wsS RX4 74 yX4_isPlace wsX4_isPlace) := goodIn_app (goodIn_of _ (by decide +kernel)) ggX4_take_X4_isPlace
set_option maxRecDepth 20000 in
theorem ggX4_take_X3_difference : GoodIn wsX4_take wsX3_difference := goodIn_r _ [13, 14, 15, 16, 17, 12, 18, 19, 20, 21, 22, 23, 24, 25, 26, 27, 28, 29, 30, 31, 32, 33, 34, 35, 36, 37, 38, 39, 40, 41, 42, 43, 44, 45, 46, 47, 48, 49, 96, 97, 98] rfl (by decide +kernel)
set_option maxRecDepth 20000 in
theorem gX4_take_X3_difference : GoodIn wsX4_take (wsV RX4 103 RX3 yX3_difference wsX3_difference) := goodIn_app (goodIn_of _ (by decide +kernel)) ggX4_take_X3_difference
set_option maxRecDepth 20000 in
theorem ggX4_take_X3_sum : GoodIn wsX4_take wsX3_sum := goodIn_r _ [53, 14, 15, 16, 17, 12, 18, 19, 20, 21, 22, 23, 24, 25, 26, 27, 28, 29, 30, 31, 32, 33, 34, 35, 36, 37, 38, 39, 40, 41, 42, 43, 44, 45, 46, 47, 48, 49, 96, 97, 98] rfl (by decide +kernel)
set_option maxRecDepth 20000 in
theorem gX4_take_X3_sum : GoodIn wsX4_take (wsV RX4 99 RX3 yX3_sum wsX3_sum) := goodIn_app (goodIn_of _ (by decide +kernel)) ggX4_take_X3_sum
set_option maxRecDepth 20000 in
theorem ggX4_take_X4_keep : GoodIn wsX4_take wsX4_keep := goodIn_r _ [57, 1, 58, 3, 59, 60, 61, 62, 63, 64, 65, 66, 31, 32, 12, 33, 23, 28, 34, 35, 36, 37, 38, 39, 40, 41, 67, 68, 69, 70, 14, 71, 72, 73, 74, 75, 76, 77, 78, 79, 80, 81, 82, 83, 84, 85, 86, 87, 88, 89, 90, 91, 92, 93, 94, 95, 96, 97, 98] rfl (by decide +kernel)
set_option maxRecDepth 20000 in
theorem gX4_take_X4_keep : GoodIn wsX4_take (wsV RX4 95 RX4 yX4_keep wsX4_keep) := goodIn_app (goodIn_of _ (by decide +kernel)) ggX4_take_X4_keep
theorem dX4_take_0 : decode cX4_take 0 = .ok (.iload_n 1, 1) := by decide +kernel
theorem dX4_take_1 : decode cX4_take 1 = .ok (.invokestatic 74, 3) := by decide +kernel
theorem dX4_take_4 : decode cX4_take 4 = .ok (.ifCond .eq 17, 3) := by decide +kernel
theorem dX4_take_7 : decode cX4_take 7 = .ok (.iload_n 2, 1) := by decide +kernel
theorem dX4_take_8 : decode cX4_take 8 = .ok (.invokestatic 74, 3) := by decide +kernel
theorem dX4_take_11 : decode cX4_take 11 = .ok (.ifCond .eq 10, 3) := by decide +kernel
theorem dX4_take_14 : decode cX4_take 14 = .ok (.iload_n 3, 1) := by decide +kernel
theorem dX4_take_15 : decode cX4_take 15 = .ok (.invokestatic 74, 3) := by decide +kernel
theorem dX4_take_18 : decode cX4_take 18 = .ok (.ifCond .ne 5, 3) := by decide +kernel
theorem dX4_take_21 : decode cX4_take 21 = .ok (.iconst (-1), 1) := by decide +kernel
theorem dX4_take_22 : decode cX4_take 22 = .ok (.ireturn, 1) := by decide +kernel
theorem dX4_take_23 : decode cX4_take 23 = .ok (.aload_n 0, 1) := by decide +kernel
theorem dX4_take_24 : decode cX4_take 24 = .ok (.getfield 23, 3) := by decide +kernel
theorem dX4_take_27 : decode cX4_take 27 = .ok (.getfield 85, 3) := by decide +kernel
theorem dX4_take_30 : decode cX4_take 30 = .ok (.aload_n 0, 1) := by decide +kernel
theorem dX4_take_31 : decode cX4_take 31 = .ok (.getfield 18, 3) := by decide +kernel
theorem dX4_take_34 : decode cX4_take 34 = .ok (.iload_n 2, 1) := by decide +kernel
theorem dX4_take_35 : decode cX4_take 35 = .ok (.aaload, 1) := by decide +kernel
theorem dX4_take_36 : decode cX4_take 36 = .ok (.getfield 85, 3) := by decide +kernel
theorem dX4_take_39 : decode cX4_take 39 = .ok (.aload_n 0, 1) := by decide +kernel
theorem dX4_take_40 : decode cX4_take 40 = .ok (.getfield 18, 3) := by decide +kernel
theorem dX4_take_43 : decode cX4_take 43 = .ok (.iload_n 3, 1) := by decide +kernel
theorem dX4_take_44 : decode cX4_take 44 = .ok (.aaload, 1) := by decide +kernel
theorem dX4_take_45 : decode cX4_take 45 = .ok (.getfield 85, 3) := by decide +kernel
theorem dX4_take_48 : decode cX4_take 48 = .ok (.invokevirtual 103, 3) := by decide +kernel
theorem dX4_take_51 : decode cX4_take 51 = .ok (.aload_n 0, 1) := by decide +kernel
theorem dX4_take_52 : decode cX4_take 52 = .ok (.getfield 23, 3) := by decide +kernel
theorem dX4_take_55 : decode cX4_take 55 = .ok (.getfield 92, 3) := by decide +kernel
theorem dX4_take_58 : decode cX4_take 58 = .ok (.aload_n 0, 1) := by decide +kernel
theorem dX4_take_59 : decode cX4_take 59 = .ok (.getfield 18, 3) := by decide +kernel
theorem dX4_take_62 : decode cX4_take 62 = .ok (.iload_n 2, 1) := by decide +kernel
theorem dX4_take_63 : decode cX4_take 63 = .ok (.aaload, 1) := by decide +kernel
theorem dX4_take_64 : decode cX4_take 64 = .ok (.getfield 92, 3) := by decide +kernel
theorem dX4_take_67 : decode cX4_take 67 = .ok (.aload_n 0, 1) := by decide +kernel
theorem dX4_take_68 : decode cX4_take 68 = .ok (.getfield 18, 3) := by decide +kernel
theorem dX4_take_71 : decode cX4_take 71 = .ok (.iload_n 3, 1) := by decide +kernel
theorem dX4_take_72 : decode cX4_take 72 = .ok (.aaload, 1) := by decide +kernel
theorem dX4_take_73 : decode cX4_take 73 = .ok (.getfield 92, 3) := by decide +kernel
theorem dX4_take_76 : decode cX4_take 76 = .ok (.invokevirtual 99, 3) := by decide +kernel
theorem dX4_take_79 : decode cX4_take 79 = .ok (.aload_n 0, 1) := by decide +kernel
theorem dX4_take_80 : decode cX4_take 80 = .ok (.iload_n 1, 1) := by decide +kernel
theorem dX4_take_81 : decode cX4_take 81 = .ok (.invokevirtual 95, 3) := by decide +kernel
theorem dX4_take_84 : decode cX4_take 84 = .ok (.ireturn, 1) := by decide +kernel
set_option maxRecDepth 20000 in
theorem ggX4_times_X4_isPlace : GoodIn wsX4_times wsX4_isPlace := goodIn_r _ [11] rfl (by decide +kernel)
set_option maxRecDepth 20000 in
theorem gX4_times_X4_isPlace : GoodIn wsX4_times (va_wsS RX4 74 yX4_isPlace wsX4_isPlace) := goodIn_app (goodIn_of _ (by decide +kernel)) ggX4_times_X4_isPlace
set_option maxRecDepth 20000 in
theorem ggX4_times_X3_product : GoodIn wsX4_times wsX3_product := goodIn_r _ [16, 17, 18, 19, 20, 21, 22, 23, 15, 24, 25, 26, 27, 28, 139, 140, 141] rfl (by decide +kernel)
set_option maxRecDepth 20000 in
theorem gX4_times_X3_product : GoodIn wsX4_times (wsV RX4 106 RX3 yX3_product wsX3_product) := goodIn_app (goodIn_of _ (by decide +kernel)) ggX4_times_X3_product
set_option maxRecDepth 20000 in
theorem ggX4_times_X3_lower : GoodIn wsX4_times wsX3_lower := goodIn_r _ [32, 20, 17, 33, 34, 35, 36, 18, 19, 37, 38, 39, 15, 40, 25, 26, 27, 28, 41, 42, 43, 44, 139, 140, 141] rfl (by decide +kernel)
set_option maxRecDepth 20000 in
theorem gX4_times_X3_lower : GoodIn wsX4_times (wsV RX4 109 RX3 yX3_lower wsX3_lower) := goodIn_app (goodIn_of _ (by decide +kernel)) ggX4_times_X3_lower
set_option maxRecDepth 20000 in
theorem ggX4_times_X3_dropSign : GoodIn wsX4_times wsX3_dropSign := goodIn_r _ [48, 20, 49, 50, 35, 51, 139, 140, 141] rfl (by decide +kernel)
set_option maxRecDepth 20000 in
theorem gX4_times_X3_dropSign : GoodIn wsX4_times (wsV RX4 112 RX3 yX3_dropSign wsX3_dropSign) := goodIn_app (goodIn_of _ (by decide +kernel)) ggX4_times_X3_dropSign
set_option maxRecDepth 20000 in
theorem ggX4_times_X3_sum : GoodIn wsX4_times wsX3_sum := goodIn_r _ [55, 20, 56, 57, 58, 15, 59, 60, 61, 62, 63, 17, 33, 34, 35, 36, 18, 19, 64, 65, 66, 67, 68, 69, 70, 71, 72, 73, 74, 75, 76, 77, 78, 79, 25, 26, 27, 28, 139, 140, 141] rfl (by decide +kernel)
set_option maxRecDepth 20000 in
theorem gX4_times_X3_sum : GoodIn wsX4_times (wsV RX4 99 RX3 yX3_sum wsX3_sum) := goodIn_app (goodIn_of _ (by decide +kernel)) ggX4_times_X3_sum
set_option maxRecDepth 20000 in
theorem ggX4_times_X3_turn : GoodIn wsX4_times wsX3_turn := goodIn_r _ [83, 20, 139, 140, 141] rfl (by decide +kernel)
set_option maxRecDepth 20000 in
theorem gX4_times_X3_turn : GoodIn wsX4_times (wsV RX4 115 RX3 yX3_turn wsX3_turn) := goodIn_app (goodIn_of _ (by decide +kernel)) ggX4_times_X3_turn
set_option maxRecDepth 20000 in
theorem ggX4_times_X3_become_ : GoodIn wsX4_times wsX3_become_ := goodIn_r _ [87, 18, 17, 88, 89, 90, 91, 20, 139, 140, 141] rfl (by decide +kernel)
set_option maxRecDepth 20000 in
theorem gX4_times_X3_become_ : GoodIn wsX4_times (wsV RX4 118 RX3 yX3_become_ wsX3_become_) := goodIn_app (goodIn_of _ (by decide +kernel)) ggX4_times_X3_become_
set_option maxRecDepth 20000 in
theorem ggX4_times_X4_change : GoodIn wsX4_times wsX4_change := goodIn_r _ [95, 96, 97, 98, 99, 15, 100, 18, 19, 20, 101, 102, 74, 103, 25, 26, 27, 28, 17, 52, 53, 54, 55, 56, 57, 58, 59, 60, 61, 62, 63, 33, 34, 35, 36, 64, 65, 66, 67, 68, 69, 70, 71, 72, 73, 75, 76, 77, 78, 79, 126, 127, 128, 129, 130, 131, 132, 133, 134, 135, 136, 139, 140, 141] rfl (by decide +kernel)
set_option maxRecDepth 20000 in
theorem gX4_times_X4_change : GoodIn wsX4_times (wsV RX4 121 RX4 yX4_change wsX4_change) := goodIn_app (goodIn_of _ (by decide +kernel)) ggX4_times_X4_change
set_option maxRecDepth 20000 in
theorem ggX4_times_X4_keep : GoodIn wsX4_times wsX4_keep := goodIn_r _ [107, 2, 108, 1, 109, 110, 111, 112, 113, 114, 115, 116, 65, 66, 15, 67, 17, 18, 68, 69, 70, 71, 72, 73, 74, 75, 117, 118, 119, 120, 20, 121, 122, 123, 124, 125, 85, 86, 87, 88, 89, 90, 91, 126, 127, 128, 129, 130, 131, 132, 133, 134, 135, 136, 137, 138, 139, 140, 141] rfl (by decide +kernel)
set_option maxRecDepth 20000 in
theorem gX4_times_X4_keep : GoodIn wsX4_times (wsV RX4 95 RX4 yX4_keep wsX4_keep) := goodIn_app (goodIn_of _ (by decide +kernel)) ggX4_times_X4_keep
theorem dX4_times_0 : decode cX4_times 0 = .ok (.iload_n 1, 1) := by decide +kernel
theorem dX4_times_1 : decode cX4_times 1 = .ok (.invokestatic 74, 3) := by decide +kernel
theorem dX4_times_4 : decode cX4_times 4 = .ok (.ifCond .eq 17, 3) := by decide +kernel
theorem dX4_times_7 : decode cX4_times 7 = .ok (.iload_n 2, 1) := by decide +kernel
theorem dX4_times_8 : decode cX4_times 8 = .ok (.invokestatic 74, 3) := by decide +kernel
theorem dX4_times_11 : decode cX4_times 11 = .ok (.ifCond .eq 10, 3) := by decide +kernel
theorem dX4_times_14 : decode cX4_times 14 = .ok (.iload_n 3, 1) := by decide +kernel
theorem dX4_times_15 : decode cX4_times 15 = .ok (.invokestatic 74, 3) := by decide +kernel
theorem dX4_times_18 : decode cX4_times 18 = .ok (.ifCond .ne 5, 3) := by decide +kernel
theorem dX4_times_21 : decode cX4_times 21 = .ok (.iconst (-1), 1) := by decide +kernel
theorem dX4_times_22 : decode cX4_times 22 = .ok (.ireturn, 1) := by decide +kernel
theorem dX4_times_23 : decode cX4_times 23 = .ok (.aload_n 0, 1) := by decide +kernel
theorem dX4_times_24 : decode cX4_times 24 = .ok (.getfield 18, 3) := by decide +kernel
theorem dX4_times_27 : decode cX4_times 27 = .ok (.iload_n 2, 1) := by decide +kernel
theorem dX4_times_28 : decode cX4_times 28 = .ok (.aaload, 1) := by decide +kernel
theorem dX4_times_29 : decode cX4_times 29 = .ok (.astore 4, 2) := by decide +kernel
theorem dX4_times_31 : decode cX4_times 31 = .ok (.aload_n 0, 1) := by decide +kernel
theorem dX4_times_32 : decode cX4_times 32 = .ok (.getfield 18, 3) := by decide +kernel
theorem dX4_times_35 : decode cX4_times 35 = .ok (.iload_n 3, 1) := by decide +kernel
theorem dX4_times_36 : decode cX4_times 36 = .ok (.aaload, 1) := by decide +kernel
theorem dX4_times_37 : decode cX4_times 37 = .ok (.astore 5, 2) := by decide +kernel
theorem dX4_times_39 : decode cX4_times 39 = .ok (.aload_n 0, 1) := by decide +kernel
theorem dX4_times_40 : decode cX4_times 40 = .ok (.getfield 23, 3) := by decide +kernel
theorem dX4_times_43 : decode cX4_times 43 = .ok (.getfield 85, 3) := by decide +kernel
theorem dX4_times_46 : decode cX4_times 46 = .ok (.aload 4, 2) := by decide +kernel
theorem dX4_times_48 : decode cX4_times 48 = .ok (.getfield 85, 3) := by decide +kernel
theorem dX4_times_51 : decode cX4_times 51 = .ok (.aload 5, 2) := by decide +kernel
theorem dX4_times_53 : decode cX4_times 53 = .ok (.getfield 85, 3) := by decide +kernel
theorem dX4_times_56 : decode cX4_times 56 = .ok (.invokevirtual 106, 3) := by decide +kernel
theorem dX4_times_59 : decode cX4_times 59 = .ok (.aload_n 0, 1) := by decide +kernel
theorem dX4_times_60 : decode cX4_times 60 = .ok (.getfield 23, 3) := by decide +kernel
theorem dX4_times_63 : decode cX4_times 63 = .ok (.getfield 85, 3) := by decide +kernel
theorem dX4_times_66 : decode cX4_times 66 = .ok (.aload_n 0, 1) := by decide +kernel
theorem dX4_times_67 : decode cX4_times 67 = .ok (.getfield 58, 3) := by decide +kernel
theorem dX4_times_70 : decode cX4_times 70 = .ok (.invokevirtual 109, 3) := by decide +kernel
theorem dX4_times_73 : decode cX4_times 73 = .ok (.aload_n 0, 1) := by decide +kernel
theorem dX4_times_74 : decode cX4_times 74 = .ok (.getfield 33, 3) := by decide +kernel
theorem dX4_times_77 : decode cX4_times 77 = .ok (.aload 4, 2) := by decide +kernel
theorem dX4_times_79 : decode cX4_times 79 = .ok (.getfield 85, 3) := by decide +kernel
theorem dX4_times_82 : decode cX4_times 82 = .ok (.aload 5, 2) := by decide +kernel
theorem dX4_times_84 : decode cX4_times 84 = .ok (.getfield 92, 3) := by decide +kernel
theorem dX4_times_87 : decode cX4_times 87 = .ok (.invokevirtual 106, 3) := by decide +kernel
theorem dX4_times_90 : decode cX4_times 90 = .ok (.aload_n 0, 1) := by decide +kernel
theorem dX4_times_91 : decode cX4_times 91 = .ok (.getfield 33, 3) := by decide +kernel
theorem dX4_times_94 : decode cX4_times 94 = .ok (.invokevirtual 112, 3) := by decide +kernel
theorem dX4_times_97 : decode cX4_times 97 = .ok (.aload_n 0, 1) := by decide +kernel
theorem dX4_times_98 : decode cX4_times 98 = .ok (.getfield 36, 3) := by decide +kernel
theorem dX4_times_101 : decode cX4_times 101 = .ok (.aload 5, 2) := by decide +kernel
theorem dX4_times_103 : decode cX4_times 103 = .ok (.getfield 85, 3) := by decide +kernel
theorem dX4_times_106 : decode cX4_times 106 = .ok (.aload 4, 2) := by decide +kernel
theorem dX4_times_108 : decode cX4_times 108 = .ok (.getfield 92, 3) := by decide +kernel
theorem dX4_times_111 : decode cX4_times 111 = .ok (.invokevirtual 106, 3) := by decide +kernel
theorem dX4_times_114 : decode cX4_times 114 = .ok (.aload_n 0, 1) := by decide +kernel
theorem dX4_times_115 : decode cX4_times 115 = .ok (.getfield 36, 3) := by decide +kernel
theorem dX4_times_118 : decode cX4_times 118 = .ok (.invokevirtual 112, 3) := by decide +kernel
theorem dX4_times_121 : decode cX4_times 121 = .ok (.aload_n 0, 1) := by decide +kernel
theorem dX4_times_122 : decode cX4_times 122 = .ok (.getfield 33, 3) := by decide +kernel
theorem dX4_times_125 : decode cX4_times 125 = .ok (.aload_n 0, 1) := by decide +kernel
theorem dX4_times_126 : decode cX4_times 126 = .ok (.getfield 33, 3) := by decide +kernel
theorem dX4_times_129 : decode cX4_times 129 = .ok (.aload_n 0, 1) := by decide +kernel
theorem dX4_times_130 : decode cX4_times 130 = .ok (.getfield 36, 3) := by decide +kernel
theorem dX4_times_133 : decode cX4_times 133 = .ok (.invokevirtual 99, 3) := by decide +kernel
theorem dX4_times_136 : decode cX4_times 136 = .ok (.aload_n 0, 1) := by decide +kernel
theorem dX4_times_137 : decode cX4_times 137 = .ok (.getfield 36, 3) := by decide +kernel
theorem dX4_times_140 : decode cX4_times 140 = .ok (.aload 4, 2) := by decide +kernel
theorem dX4_times_142 : decode cX4_times 142 = .ok (.getfield 92, 3) := by decide +kernel
theorem dX4_times_145 : decode cX4_times 145 = .ok (.aload 5, 2) := by decide +kernel
theorem dX4_times_147 : decode cX4_times 147 = .ok (.getfield 92, 3) := by decide +kernel
theorem dX4_times_150 : decode cX4_times 150 = .ok (.invokevirtual 106, 3) := by decide +kernel
theorem dX4_times_153 : decode cX4_times 153 = .ok (.aload_n 0, 1) := by decide +kernel
theorem dX4_times_154 : decode cX4_times 154 = .ok (.getfield 33, 3) := by decide +kernel
theorem dX4_times_157 : decode cX4_times 157 = .ok (.aload_n 0, 1) := by decide +kernel
theorem dX4_times_158 : decode cX4_times 158 = .ok (.getfield 33, 3) := by decide +kernel
theorem dX4_times_161 : decode cX4_times 161 = .ok (.aload_n 0, 1) := by decide +kernel
theorem dX4_times_162 : decode cX4_times 162 = .ok (.getfield 36, 3) := by decide +kernel
theorem dX4_times_165 : decode cX4_times 165 = .ok (.invokevirtual 99, 3) := by decide +kernel
theorem dX4_times_168 : decode cX4_times 168 = .ok (.aload_n 0, 1) := by decide +kernel
theorem dX4_times_169 : decode cX4_times 169 = .ok (.getfield 33, 3) := by decide +kernel
theorem dX4_times_172 : decode cX4_times 172 = .ok (.invokevirtual 115, 3) := by decide +kernel
theorem dX4_times_175 : decode cX4_times 175 = .ok (.aload_n 0, 1) := by decide +kernel
theorem dX4_times_176 : decode cX4_times 176 = .ok (.getfield 33, 3) := by decide +kernel
theorem dX4_times_179 : decode cX4_times 179 = .ok (.aload_n 0, 1) := by decide +kernel
theorem dX4_times_180 : decode cX4_times 180 = .ok (.getfield 58, 3) := by decide +kernel
theorem dX4_times_183 : decode cX4_times 183 = .ok (.invokevirtual 109, 3) := by decide +kernel
theorem dX4_times_186 : decode cX4_times 186 = .ok (.aload_n 0, 1) := by decide +kernel
theorem dX4_times_187 : decode cX4_times 187 = .ok (.getfield 33, 3) := by decide +kernel
theorem dX4_times_190 : decode cX4_times 190 = .ok (.invokevirtual 115, 3) := by decide +kernel
theorem dX4_times_193 : decode cX4_times 193 = .ok (.aload_n 0, 1) := by decide +kernel
theorem dX4_times_194 : decode cX4_times 194 = .ok (.getfield 23, 3) := by decide +kernel
theorem dX4_times_197 : decode cX4_times 197 = .ok (.getfield 92, 3) := by decide +kernel
theorem dX4_times_200 : decode cX4_times 200 = .ok (.aload_n 0, 1) := by decide +kernel
theorem dX4_times_201 : decode cX4_times 201 = .ok (.getfield 33, 3) := by decide +kernel
theorem dX4_times_204 : decode cX4_times 204 = .ok (.invokevirtual 118, 3) := by decide +kernel
theorem dX4_times_207 : decode cX4_times 207 = .ok (.aload_n 0, 1) := by decide +kernel
theorem dX4_times_208 : decode cX4_times 208 = .ok (.aload_n 0, 1) := by decide +kernel
theorem dX4_times_209 : decode cX4_times 209 = .ok (.getfield 23, 3) := by decide +kernel
theorem dX4_times_212 : decode cX4_times 212 = .ok (.getfield 92, 3) := by decide +kernel
theorem dX4_times_215 : decode cX4_times 215 = .ok (.lconst 1, 1) := by decide +kernel
theorem dX4_times_216 : decode cX4_times 216 = .ok (.invokevirtual 121, 3) := by decide +kernel
theorem dX4_times_219 : decode cX4_times 219 = .ok (.aload_n 0, 1) := by decide +kernel
theorem dX4_times_220 : decode cX4_times 220 = .ok (.iload_n 1, 1) := by decide +kernel
theorem dX4_times_221 : decode cX4_times 221 = .ok (.invokevirtual 95, 3) := by decide +kernel
theorem dX4_times_224 : decode cX4_times 224 = .ok (.ireturn, 1) := by decide +kernel
set_option maxRecDepth 20000 in
theorem ggX4_over_X4_isPlace : GoodIn wsX4_over wsX4_isPlace := goodIn_r _ [11] rfl (by decide +kernel)
set_option maxRecDepth 20000 in
theorem gX4_over_X4_isPlace : GoodIn wsX4_over (va_wsS RX4 74 yX4_isPlace wsX4_isPlace) := goodIn_app (goodIn_of _ (by decide +kernel)) ggX4_over_X4_isPlace
set_option maxRecDepth 20000 in
theorem ggX4_over_X3_become_ : GoodIn wsX4_over wsX3_become_ := goodIn_r _ [16, 17, 18, 19, 20, 21, 22, 23, 210, 211, 212] rfl (by decide +kernel)
set_option maxRecDepth 20000 in
theorem gX4_over_X3_become_ : GoodIn wsX4_over (wsV RX4 118 RX3 yX3_become_ wsX3_become_) := goodIn_app (goodIn_of _ (by decide +kernel)) ggX4_over_X3_become_
set_option maxRecDepth 20000 in
theorem ggX4_over_X3_dropSign : GoodIn wsX4_over wsX3_dropSign := goodIn_r _ [27, 23, 28, 29, 30, 31, 210, 211, 212] rfl (by decide +kernel)
set_option maxRecDepth 20000 in
theorem gX4_over_X3_dropSign : GoodIn wsX4_over (wsV RX4 112 RX3 yX3_dropSign wsX3_dropSign) := goodIn_app (goodIn_of _ (by decide +kernel)) ggX4_over_X3_dropSign
set_option maxRecDepth 20000 in
theorem ggX4_over_X3_order : GoodIn wsX4_over wsX3_order := goodIn_r _ [35, 23, 36, 37, 38, 39, 40, 41, 42, 15, 43, 18, 17, 44, 45, 46, 47, 210, 211, 212] rfl (by decide +kernel)
set_option maxRecDepth 20000 in
theorem gX4_over_X3_order : GoodIn wsX4_over (wsV RX4 125 RX3 yX3_order wsX3_order) := goodIn_app (goodIn_of _ (by decide +kernel)) ggX4_over_X3_order
set_option maxRecDepth 20000 in
theorem ggX4_over_X3_sign : GoodIn wsX4_over wsX3_sign := goodIn_r _ [51, 23, 210, 211, 212] rfl (by decide +kernel)
set_option maxRecDepth 20000 in
theorem gX4_over_X3_sign : GoodIn wsX4_over (wsV RX4 129 RX3 yX3_sign wsX3_sign) := goodIn_app (goodIn_of _ (by decide +kernel)) ggX4_over_X3_sign
set_option maxRecDepth 20000 in
theorem ggX4_over_X3_turn : GoodIn wsX4_over wsX3_turn := goodIn_r _ [55, 23, 210, 211, 212] rfl (by decide +kernel)
set_option maxRecDepth 20000 in
theorem gX4_over_X3_turn : GoodIn wsX4_over (wsV RX4 115 RX3 yX3_turn wsX3_turn) := goodIn_app (goodIn_of _ (by decide +kernel)) ggX4_over_X3_turn
set_option maxRecDepth 20000 in
theorem ggX4_over_X3_raise : GoodIn wsX4_over wsX3_raise := goodIn_r _ [59, 18, 17, 60, 61, 62, 15, 63, 64, 65, 66, 67, 68, 69, 70, 71, 72, 23, 210, 211, 212] rfl (by decide +kernel)
set_option maxRecDepth 20000 in
theorem gX4_over_X3_raise : GoodIn wsX4_over (wsV RX4 82 RX3 yX3_raise wsX3_raise) := goodIn_app (goodIn_of _ (by decide +kernel)) ggX4_over_X3_raise
set_option maxRecDepth 20000 in
theorem ggX4_over_X1_quotient : GoodIn wsX4_over wsX1_quotient := goodIn_r _ [77, 78, 79, 80, 81, 30, 82, 83, 84, 85, 49, 50, 15, 51, 23, 86, 87, 88, 89, 18, 90, 91, 92, 93, 94, 95, 96, 97, 17, 98, 99, 46, 100, 101, 102, 38, 103, 104, 105, 61, 62, 63, 64, 65, 66, 67, 68, 106, 107, 108, 76, 109, 110, 111, 112, 113, 114, 115, 116, 117, 118, 119, 120, 121, 122, 123, 124, 125, 126, 127, 128, 70, 71, 72, 129, 130, 131, 132, 213, 214, 215, 216, 210, 211, 212] rfl (by decide +kernel)
set_option maxRecDepth 20000 in
theorem gX4_over_X1_quotient : GoodIn wsX4_over (wsV RX4 88 RX1 yX1_quotient wsX1_quotient) := goodIn_app (goodIn_of _ (by decide +kernel)) ggX4_over_X1_quotient
set_option maxRecDepth 20000 in
theorem ggX4_over_X4_radiusOfQuotient : GoodIn wsX4_over wsX4_radiusOfQuotient := goodIn_r _ [136, 137, 3, 138, 4, 6, 139, 7, 5, 140, 141, 142, 15, 143, 18, 17, 64, 23, 144, 87, 88, 89, 69, 70, 71, 72, 24, 25, 26, 27, 28, 29, 30, 31, 145, 146, 147, 148, 149, 150, 151, 152, 153, 154, 155, 156, 157, 81, 82, 40, 41, 42, 43, 36, 37, 38, 39, 44, 45, 46, 47, 158, 159, 160, 161, 56, 57, 58, 59, 60, 61, 62, 63, 65, 66, 67, 68, 162, 163, 164, 165, 52, 53, 54, 55, 73, 74, 75, 76, 77, 78, 79, 80, 83, 84, 85, 49, 50, 51, 86, 90, 91, 92, 93, 94, 95, 96, 97, 98, 99, 100, 101, 102, 103, 104, 105, 106, 107, 108, 109, 110, 111, 112, 113, 114, 115, 116, 117, 118, 119, 120, 121, 122, 123, 124, 125, 126, 127, 128, 129, 130, 131, 132, 166, 167, 168, 10, 169, 170, 171, 172, 173, 174, 175, 176, 177, 197, 198, 199, 200, 201, 202, 203, 204, 205, 206, 207, 208, 209, 210, 211, 212, 213, 214, 215, 216] rfl (by decide +kernel)
set_option maxRecDepth 20000 in
theorem gX4_over_X4_radiusOfQuotient : GoodIn wsX4_over (wsV RX4 133 RX4 yX4_radiusOfQuotient wsX4_radiusOfQuotient) := goodIn_app (goodIn_of _ (by decide +kernel)) ggX4_over_X4_radiusOfQuotient
set_option maxRecDepth 20000 in
theorem ggX4_over_X4_keep : GoodIn wsX4_over wsX4_keep := goodIn_r _ [181, 5, 182, 1, 183, 184, 185, 186, 187, 188, 189, 190, 41, 42, 15, 43, 18, 17, 36, 37, 38, 39, 44, 45, 46, 47, 191, 49, 50, 51, 23, 192, 193, 194, 195, 196, 13, 14, 16, 19, 20, 21, 22, 197, 198, 199, 200, 201, 202, 203, 204, 205, 206, 207, 208, 209, 210, 211, 212] rfl (by decide +kernel)
set_option maxRecDepth 20000 in
theorem gX4_over_X4_keep : GoodIn wsX4_over (wsV RX4 95 RX4 yX4_keep wsX4_keep) := goodIn_app (goodIn_of _ (by decide +kernel)) ggX4_over_X4_keep
theorem dX4_over_0 : decode cX4_over 0 = .ok (.iload_n 1, 1) := by decide +kernel
theorem dX4_over_1 : decode cX4_over 1 = .ok (.invokestatic 74, 3) := by decide +kernel
theorem dX4_over_4 : decode cX4_over 4 = .ok (.ifCond .eq 17, 3) := by decide +kernel
theorem dX4_over_7 : decode cX4_over 7 = .ok (.iload_n 2, 1) := by decide +kernel
theorem dX4_over_8 : decode cX4_over 8 = .ok (.invokestatic 74, 3) := by decide +kernel
theorem dX4_over_11 : decode cX4_over 11 = .ok (.ifCond .eq 10, 3) := by decide +kernel
theorem dX4_over_14 : decode cX4_over 14 = .ok (.iload_n 3, 1) := by decide +kernel
theorem dX4_over_15 : decode cX4_over 15 = .ok (.invokestatic 74, 3) := by decide +kernel
theorem dX4_over_18 : decode cX4_over 18 = .ok (.ifCond .ne 5, 3) := by decide +kernel
theorem dX4_over_21 : decode cX4_over 21 = .ok (.iconst (-1), 1) := by decide +kernel
theorem dX4_over_22 : decode cX4_over 22 = .ok (.ireturn, 1) := by decide +kernel
theorem dX4_over_23 : decode cX4_over 23 = .ok (.aload_n 0, 1) := by decide +kernel
theorem dX4_over_24 : decode cX4_over 24 = .ok (.getfield 18, 3) := by decide +kernel
theorem dX4_over_27 : decode cX4_over 27 = .ok (.iload_n 2, 1) := by decide +kernel
theorem dX4_over_28 : decode cX4_over 28 = .ok (.aaload, 1) := by decide +kernel
theorem dX4_over_29 : decode cX4_over 29 = .ok (.astore 4, 2) := by decide +kernel
theorem dX4_over_31 : decode cX4_over 31 = .ok (.aload_n 0, 1) := by decide +kernel
theorem dX4_over_32 : decode cX4_over 32 = .ok (.getfield 18, 3) := by decide +kernel
theorem dX4_over_35 : decode cX4_over 35 = .ok (.iload_n 3, 1) := by decide +kernel
theorem dX4_over_36 : decode cX4_over 36 = .ok (.aaload, 1) := by decide +kernel
theorem dX4_over_37 : decode cX4_over 37 = .ok (.astore 5, 2) := by decide +kernel
theorem dX4_over_39 : decode cX4_over 39 = .ok (.aload_n 0, 1) := by decide +kernel
theorem dX4_over_40 : decode cX4_over 40 = .ok (.getfield 33, 3) := by decide +kernel
theorem dX4_over_43 : decode cX4_over 43 = .ok (.astore 6, 2) := by decide +kernel
theorem dX4_over_45 : decode cX4_over 45 = .ok (.aload 6, 2) := by decide +kernel
theorem dX4_over_47 : decode cX4_over 47 = .ok (.aload 5, 2) := by decide +kernel
theorem dX4_over_49 : decode cX4_over 49 = .ok (.getfield 85, 3) := by decide +kernel
theorem dX4_over_52 : decode cX4_over 52 = .ok (.invokevirtual 118, 3) := by decide +kernel
theorem dX4_over_55 : decode cX4_over 55 = .ok (.aload 6, 2) := by decide +kernel
theorem dX4_over_57 : decode cX4_over 57 = .ok (.invokevirtual 112, 3) := by decide +kernel
theorem dX4_over_60 : decode cX4_over 60 = .ok (.aload 6, 2) := by decide +kernel
theorem dX4_over_62 : decode cX4_over 62 = .ok (.aload 5, 2) := by decide +kernel
theorem dX4_over_64 : decode cX4_over 64 = .ok (.getfield 92, 3) := by decide +kernel
theorem dX4_over_67 : decode cX4_over 67 = .ok (.invokevirtual 125, 3) := by decide +kernel
theorem dX4_over_70 : decode cX4_over 70 = .ok (.ifCond .gt 5, 3) := by decide +kernel
theorem dX4_over_73 : decode cX4_over 73 = .ok (.iconst (-1), 1) := by decide +kernel
theorem dX4_over_74 : decode cX4_over 74 = .ok (.ireturn, 1) := by decide +kernel
theorem dX4_over_75 : decode cX4_over 75 = .ok (.aload_n 0, 1) := by decide +kernel
theorem dX4_over_76 : decode cX4_over 76 = .ok (.getfield 23, 3) := by decide +kernel
theorem dX4_over_79 : decode cX4_over 79 = .ok (.getfield 85, 3) := by decide +kernel
theorem dX4_over_82 : decode cX4_over 82 = .ok (.aload 4, 2) := by decide +kernel
theorem dX4_over_84 : decode cX4_over 84 = .ok (.getfield 85, 3) := by decide +kernel
theorem dX4_over_87 : decode cX4_over 87 = .ok (.invokevirtual 118, 3) := by decide +kernel
theorem dX4_over_90 : decode cX4_over 90 = .ok (.aload 5, 2) := by decide +kernel
theorem dX4_over_92 : decode cX4_over 92 = .ok (.getfield 85, 3) := by decide +kernel
theorem dX4_over_95 : decode cX4_over 95 = .ok (.invokevirtual 129, 3) := by decide +kernel
theorem dX4_over_98 : decode cX4_over 98 = .ok (.ifCond .ge 13, 3) := by decide +kernel
theorem dX4_over_101 : decode cX4_over 101 = .ok (.aload_n 0, 1) := by decide +kernel
theorem dX4_over_102 : decode cX4_over 102 = .ok (.getfield 23, 3) := by decide +kernel
theorem dX4_over_105 : decode cX4_over 105 = .ok (.getfield 85, 3) := by decide +kernel
theorem dX4_over_108 : decode cX4_over 108 = .ok (.invokevirtual 115, 3) := by decide +kernel
theorem dX4_over_111 : decode cX4_over 111 = .ok (.aload_n 0, 1) := by decide +kernel
theorem dX4_over_112 : decode cX4_over 112 = .ok (.getfield 23, 3) := by decide +kernel
theorem dX4_over_115 : decode cX4_over 115 = .ok (.getfield 85, 3) := by decide +kernel
theorem dX4_over_118 : decode cX4_over 118 = .ok (.aload_n 0, 1) := by decide +kernel
theorem dX4_over_119 : decode cX4_over 119 = .ok (.getfield 58, 3) := by decide +kernel
theorem dX4_over_122 : decode cX4_over 122 = .ok (.invokevirtual 82, 3) := by decide +kernel
theorem dX4_over_125 : decode cX4_over 125 = .ok (.aload_n 0, 1) := by decide +kernel
theorem dX4_over_126 : decode cX4_over 126 = .ok (.getfield 45, 3) := by decide +kernel
theorem dX4_over_129 : decode cX4_over 129 = .ok (.aload_n 0, 1) := by decide +kernel
theorem dX4_over_130 : decode cX4_over 130 = .ok (.getfield 23, 3) := by decide +kernel
theorem dX4_over_133 : decode cX4_over 133 = .ok (.getfield 85, 3) := by decide +kernel
theorem dX4_over_136 : decode cX4_over 136 = .ok (.aload_n 0, 1) := by decide +kernel
theorem dX4_over_137 : decode cX4_over 137 = .ok (.getfield 23, 3) := by decide +kernel
theorem dX4_over_140 : decode cX4_over 140 = .ok (.getfield 85, 3) := by decide +kernel
theorem dX4_over_143 : decode cX4_over 143 = .ok (.aload 6, 2) := by decide +kernel
theorem dX4_over_145 : decode cX4_over 145 = .ok (.invokevirtual 88, 3) := by decide +kernel
theorem dX4_over_148 : decode cX4_over 148 = .ok (.pop, 1) := by decide +kernel
theorem dX4_over_149 : decode cX4_over 149 = .ok (.aload_n 0, 1) := by decide +kernel
theorem dX4_over_150 : decode cX4_over 150 = .ok (.aload 4, 2) := by decide +kernel
theorem dX4_over_152 : decode cX4_over 152 = .ok (.aload 6, 2) := by decide +kernel
theorem dX4_over_154 : decode cX4_over 154 = .ok (.aload 5, 2) := by decide +kernel
theorem dX4_over_156 : decode cX4_over 156 = .ok (.getfield 92, 3) := by decide +kernel
theorem dX4_over_159 : decode cX4_over 159 = .ok (.invokevirtual 133, 3) := by decide +kernel
theorem dX4_over_162 : decode cX4_over 162 = .ok (.aload_n 0, 1) := by decide +kernel
theorem dX4_over_163 : decode cX4_over 163 = .ok (.iload_n 1, 1) := by decide +kernel
theorem dX4_over_164 : decode cX4_over 164 = .ok (.invokevirtual 95, 3) := by decide +kernel
theorem dX4_over_167 : decode cX4_over 167 = .ok (.ireturn, 1) := by decide +kernel
set_option maxRecDepth 20000 in
theorem ggX4_root_X4_isPlace : GoodIn wsX4_root wsX4_isPlace := goodIn_r _ [9] rfl (by decide +kernel)
set_option maxRecDepth 20000 in
theorem gX4_root_X4_isPlace : GoodIn wsX4_root (va_wsS RX4 74 yX4_isPlace wsX4_isPlace) := goodIn_app (goodIn_of _ (by decide +kernel)) ggX4_root_X4_isPlace
set_option maxRecDepth 20000 in
theorem ggX4_root_X4_findEnds : GoodIn wsX4_root wsX4_findEnds := goodIn_r _ [13, 2, 14, 15, 5, 16, 17, 18, 19, 20, 21, 22, 23, 24, 25, 26, 27, 28, 29, 30, 31, 32, 33, 34, 35, 36, 37, 38, 39, 40, 41, 42, 43, 44, 45, 46, 47, 48, 49, 50, 51, 52, 53, 54, 55, 56, 57, 58, 59, 60, 210, 211, 212, 213, 214, 215, 216, 217, 218, 219, 220, 221, 222, 223, 224, 225] rfl (by decide +kernel)
set_option maxRecDepth 20000 in
theorem gX4_root_X4_findEnds : GoodIn wsX4_root (wsV RX4 137 RX4 yX4_findEnds wsX4_findEnds) := goodIn_app (goodIn_of _ (by decide +kernel)) ggX4_root_X4_findEnds
set_option maxRecDepth 20000 in
theorem ggX4_root_X3_sign : GoodIn wsX4_root wsX3_sign := goodIn_r _ [64, 21, 223, 224, 225] rfl (by decide +kernel)
set_option maxRecDepth 20000 in
theorem gX4_root_X3_sign : GoodIn wsX4_root (wsV RX4 129 RX3 yX3_sign wsX3_sign) := goodIn_app (goodIn_of _ (by decide +kernel)) ggX4_root_X3_sign
set_option maxRecDepth 20000 in
theorem ggX4_root_X3_raise : GoodIn wsX4_root wsX3_raise := goodIn_r _ [68, 30, 35, 69, 70, 71, 19, 72, 36, 73, 74, 75, 76, 53, 54, 55, 56, 21, 223, 224, 225] rfl (by decide +kernel)
set_option maxRecDepth 20000 in
theorem gX4_root_X3_raise : GoodIn wsX4_root (wsV RX4 82 RX3 yX3_raise wsX3_raise) := goodIn_app (goodIn_of _ (by decide +kernel)) ggX4_root_X3_raise
set_option maxRecDepth 20000 in
theorem ggX4_root_X2_squareRoot : GoodIn wsX4_root wsX2_squareRoot := goodIn_r _ [81, 82, 83, 84, 85, 62, 63, 19, 64, 21, 86, 87, 88, 89, 30, 90, 91, 92, 93, 35, 94, 95, 47, 96, 97, 98, 43, 99, 100, 101, 102, 103, 104, 105, 106, 107, 108, 109, 110, 111, 112, 113, 32, 33, 34, 114, 115, 116, 117, 118, 119, 120, 121, 122, 123, 70, 71, 72, 36, 73, 74, 75, 76, 124, 125, 126, 127, 128, 129, 130, 131, 132, 133, 134, 135, 136, 137, 138, 139, 140, 141, 142, 143, 144, 145, 146, 54, 55, 56, 147, 148, 149, 150, 151, 58, 59, 60, 22, 23, 24, 25, 26, 27, 28, 29, 31, 37, 38, 39, 40, 41, 42, 44, 45, 46, 48, 49, 50, 51, 52, 53, 152, 153, 154, 155, 156, 157, 158, 159, 160, 161, 162, 163, 164, 165, 166, 167, 168, 169, 170, 171, 172, 226, 227, 228, 229, 230, 231, 232, 233, 234, 235, 236, 237, 223, 224, 225, 238, 239, 240, 241] rfl (by decide +kernel)
set_option maxRecDepth 20000 in
theorem gX4_root_X2_squareRoot : GoodIn wsX4_root (wsV RX4 141 RX2 yX2_squareRoot wsX2_squareRoot) := goodIn_app (goodIn_of _ (by decide +kernel)) ggX4_root_X2_squareRoot
set_option maxRecDepth 20000 in
theorem ggX4_root_X4_change : GoodIn wsX4_root wsX4_change := goodIn_r _ [176, 177, 178, 179, 180, 19, 181, 35, 36, 21, 182, 183, 47, 184, 53, 54, 55, 56, 30, 57, 58, 59, 60, 22, 23, 24, 25, 26, 27, 28, 29, 31, 32, 33, 34, 37, 38, 39, 40, 41, 42, 43, 44, 45, 46, 48, 49, 50, 51, 52, 210, 211, 212, 213, 214, 215, 216, 217, 218, 219, 220, 223, 224, 225] rfl (by decide +kernel)
set_option maxRecDepth 20000 in
theorem gX4_root_X4_change : GoodIn wsX4_root (wsV RX4 121 RX4 yX4_change wsX4_change) := goodIn_app (goodIn_of _ (by decide +kernel)) ggX4_root_X4_change
set_option maxRecDepth 20000 in
theorem ggX4_root_X4_keepEnds : GoodIn wsX4_root wsX4_keepEnds := goodIn_r _ [188, 189, 14, 2, 5, 15, 57, 58, 59, 19, 60, 21, 22, 23, 24, 25, 26, 27, 28, 29, 30, 31, 32, 33, 34, 35, 36, 37, 38, 39, 40, 41, 42, 43, 44, 45, 46, 47, 48, 49, 50, 51, 52, 53, 54, 55, 56, 190, 153, 154, 155, 156, 157, 158, 159, 160, 148, 149, 150, 16, 17, 18, 20, 191, 192, 193, 8, 194, 195, 1, 196, 197, 198, 199, 200, 201, 202, 203, 204, 62, 63, 64, 205, 206, 207, 208, 209, 166, 167, 168, 169, 170, 171, 172, 210, 211, 212, 213, 214, 215, 216, 217, 218, 219, 220, 221, 222, 223, 224, 225] rfl (by decide +kernel)
set_option maxRecDepth 20000 in
theorem gX4_root_X4_keepEnds : GoodIn wsX4_root (wsV RX4 144 RX4 yX4_keepEnds wsX4_keepEnds) := goodIn_app (goodIn_of _ (by decide +kernel)) ggX4_root_X4_keepEnds
theorem dX4_root_0 : decode cX4_root 0 = .ok (.iload_n 1, 1) := by decide +kernel
theorem dX4_root_1 : decode cX4_root 1 = .ok (.invokestatic 74, 3) := by decide +kernel
theorem dX4_root_4 : decode cX4_root 4 = .ok (.ifCond .eq 10, 3) := by decide +kernel
theorem dX4_root_7 : decode cX4_root 7 = .ok (.iload_n 2, 1) := by decide +kernel
theorem dX4_root_8 : decode cX4_root 8 = .ok (.invokestatic 74, 3) := by decide +kernel
theorem dX4_root_11 : decode cX4_root 11 = .ok (.ifCond .ne 5, 3) := by decide +kernel
theorem dX4_root_14 : decode cX4_root 14 = .ok (.iconst (-1), 1) := by decide +kernel
theorem dX4_root_15 : decode cX4_root 15 = .ok (.ireturn, 1) := by decide +kernel
theorem dX4_root_16 : decode cX4_root 16 = .ok (.aload_n 0, 1) := by decide +kernel
theorem dX4_root_17 : decode cX4_root 17 = .ok (.aload_n 0, 1) := by decide +kernel
theorem dX4_root_18 : decode cX4_root 18 = .ok (.getfield 18, 3) := by decide +kernel
theorem dX4_root_21 : decode cX4_root 21 = .ok (.iload_n 2, 1) := by decide +kernel
theorem dX4_root_22 : decode cX4_root 22 = .ok (.aaload, 1) := by decide +kernel
theorem dX4_root_23 : decode cX4_root 23 = .ok (.invokevirtual 137, 3) := by decide +kernel
theorem dX4_root_26 : decode cX4_root 26 = .ok (.aload_n 0, 1) := by decide +kernel
theorem dX4_root_27 : decode cX4_root 27 = .ok (.getfield 27, 3) := by decide +kernel
theorem dX4_root_30 : decode cX4_root 30 = .ok (.invokevirtual 129, 3) := by decide +kernel
theorem dX4_root_33 : decode cX4_root 33 = .ok (.ifCond .ge 5, 3) := by decide +kernel
theorem dX4_root_36 : decode cX4_root 36 = .ok (.iconst (-1), 1) := by decide +kernel
theorem dX4_root_37 : decode cX4_root 37 = .ok (.ireturn, 1) := by decide +kernel
theorem dX4_root_38 : decode cX4_root 38 = .ok (.aload_n 0, 1) := by decide +kernel
theorem dX4_root_39 : decode cX4_root 39 = .ok (.getfield 27, 3) := by decide +kernel
theorem dX4_root_42 : decode cX4_root 42 = .ok (.aload_n 0, 1) := by decide +kernel
theorem dX4_root_43 : decode cX4_root 43 = .ok (.getfield 58, 3) := by decide +kernel
theorem dX4_root_46 : decode cX4_root 46 = .ok (.invokevirtual 82, 3) := by decide +kernel
theorem dX4_root_49 : decode cX4_root 49 = .ok (.aload_n 0, 1) := by decide +kernel
theorem dX4_root_50 : decode cX4_root 50 = .ok (.getfield 70, 3) := by decide +kernel
theorem dX4_root_53 : decode cX4_root 53 = .ok (.aload_n 0, 1) := by decide +kernel
theorem dX4_root_54 : decode cX4_root 54 = .ok (.getfield 27, 3) := by decide +kernel
theorem dX4_root_57 : decode cX4_root 57 = .ok (.invokevirtual 141, 3) := by decide +kernel
theorem dX4_root_60 : decode cX4_root 60 = .ok (.aload_n 0, 1) := by decide +kernel
theorem dX4_root_61 : decode cX4_root 61 = .ok (.getfield 30, 3) := by decide +kernel
theorem dX4_root_64 : decode cX4_root 64 = .ok (.aload_n 0, 1) := by decide +kernel
theorem dX4_root_65 : decode cX4_root 65 = .ok (.getfield 58, 3) := by decide +kernel
theorem dX4_root_68 : decode cX4_root 68 = .ok (.invokevirtual 82, 3) := by decide +kernel
theorem dX4_root_71 : decode cX4_root 71 = .ok (.aload_n 0, 1) := by decide +kernel
theorem dX4_root_72 : decode cX4_root 72 = .ok (.getfield 70, 3) := by decide +kernel
theorem dX4_root_75 : decode cX4_root 75 = .ok (.aload_n 0, 1) := by decide +kernel
theorem dX4_root_76 : decode cX4_root 76 = .ok (.getfield 30, 3) := by decide +kernel
theorem dX4_root_79 : decode cX4_root 79 = .ok (.invokevirtual 141, 3) := by decide +kernel
theorem dX4_root_82 : decode cX4_root 82 = .ok (.aload_n 0, 1) := by decide +kernel
theorem dX4_root_83 : decode cX4_root 83 = .ok (.aload_n 0, 1) := by decide +kernel
theorem dX4_root_84 : decode cX4_root 84 = .ok (.getfield 30, 3) := by decide +kernel
theorem dX4_root_87 : decode cX4_root 87 = .ok (.lconst 1, 1) := by decide +kernel
theorem dX4_root_88 : decode cX4_root 88 = .ok (.invokevirtual 121, 3) := by decide +kernel
theorem dX4_root_91 : decode cX4_root 91 = .ok (.aload_n 0, 1) := by decide +kernel
theorem dX4_root_92 : decode cX4_root 92 = .ok (.iload_n 1, 1) := by decide +kernel
theorem dX4_root_93 : decode cX4_root 93 = .ok (.invokevirtual 144, 3) := by decide +kernel
theorem dX4_root_96 : decode cX4_root 96 = .ok (.ireturn, 1) := by decide +kernel
set_option maxRecDepth 20000 in
theorem ggX4_exp_X4_isPlace : GoodIn wsX4_exp wsX4_isPlace := goodIn_r _ [12] rfl (by decide +kernel)
set_option maxRecDepth 20000 in
theorem gX4_exp_X4_isPlace : GoodIn wsX4_exp (va_wsS RX4 74 yX4_isPlace wsX4_isPlace) := goodIn_app (goodIn_of _ (by decide +kernel)) ggX4_exp_X4_isPlace
set_option maxRecDepth 20000 in
theorem ggX4_exp_X4_findEnds : GoodIn wsX4_exp wsX4_findEnds := goodIn_r _ [16, 6, 17, 18, 7, 19, 20, 21, 22, 23, 24, 25, 26, 27, 28, 29, 30, 31, 32, 33, 34, 35, 36, 37, 38, 39, 40, 41, 42, 43, 44, 45, 46, 47, 48, 49, 50, 51, 52, 53, 54, 55, 56, 57, 58, 59, 60, 61, 62, 63, 200, 201, 202, 203, 204, 205, 206, 207, 208, 209, 210, 211, 212, 213, 214, 215] rfl (by decide +kernel)
set_option maxRecDepth 20000 in
theorem gX4_exp_X4_findEnds : GoodIn wsX4_exp (wsV RX4 137 RX4 yX4_findEnds wsX4_findEnds) := goodIn_app (goodIn_of _ (by decide +kernel)) ggX4_exp_X4_findEnds
set_option maxRecDepth 20000 in
theorem ggX4_exp_X3_become : GoodIn wsX4_exp wsX3_become := goodIn_r _ [67, 38, 39, 24, 68, 69, 50, 70, 56, 57, 58, 22, 59, 33, 213, 214, 215] rfl (by decide +kernel)
set_option maxRecDepth 20000 in
theorem gX4_exp_X3_become : GoodIn wsX4_exp (wsV RX4 78 RX3 yX3_become wsX3_become) := goodIn_app (goodIn_of _ (by decide +kernel)) ggX4_exp_X3_become
set_option maxRecDepth 20000 in
theorem ggX4_exp_X3_raise : GoodIn wsX4_exp wsX3_raise := goodIn_r _ [74, 33, 38, 75, 76, 77, 22, 78, 39, 79, 80, 81, 82, 56, 57, 58, 59, 24, 213, 214, 215] rfl (by decide +kernel)
set_option maxRecDepth 20000 in
theorem gX4_exp_X3_raise : GoodIn wsX4_exp (wsV RX4 82 RX3 yX3_raise wsX3_raise) := goodIn_app (goodIn_of _ (by decide +kernel)) ggX4_exp_X3_raise
set_option maxRecDepth 20000 in
theorem ggX4_exp_X3_become_ : GoodIn wsX4_exp wsX3_become_ := goodIn_r _ [86, 38, 33, 87, 88, 89, 90, 24, 213, 214, 215] rfl (by decide +kernel)
set_option maxRecDepth 20000 in
theorem gX4_exp_X3_become_ : GoodIn wsX4_exp (wsV RX4 118 RX3 yX3_become_ wsX3_become_) := goodIn_app (goodIn_of _ (by decide +kernel)) ggX4_exp_X3_become_
set_option maxRecDepth 20000 in
theorem ggX4_exp_X3_turn : GoodIn wsX4_exp wsX3_turn := goodIn_r _ [94, 24, 213, 214, 215] rfl (by decide +kernel)
set_option maxRecDepth 20000 in
theorem gX4_exp_X3_turn : GoodIn wsX4_exp (wsV RX4 115 RX3 yX3_turn wsX3_turn) := goodIn_app (goodIn_of _ (by decide +kernel)) ggX4_exp_X3_turn
set_option maxRecDepth 20000 in
theorem ggX4_exp_X3_order : GoodIn wsX4_exp wsX3_order := goodIn_r _ [98, 24, 44, 45, 46, 47, 40, 41, 42, 22, 43, 33, 38, 48, 49, 50, 51, 213, 214, 215] rfl (by decide +kernel)
set_option maxRecDepth 20000 in
theorem gX4_exp_X3_order : GoodIn wsX4_exp (wsV RX4 125 RX3 yX3_order wsX3_order) := goodIn_app (goodIn_of _ (by decide +kernel)) ggX4_exp_X3_order
set_option maxRecDepth 20000 in
theorem ggX4_exp_X4_refineEnds : GoodIn wsX4_exp wsX4_refineEnds := goodIn_r _ [102, 6, 7, 71, 72, 73, 22, 74, 33, 38, 75, 76, 77, 78, 39, 79, 80, 81, 82, 56, 57, 58, 59, 24, 200, 201, 202, 203, 204, 205, 206, 207, 208, 209, 210, 213, 214, 215] rfl (by decide +kernel)
set_option maxRecDepth 20000 in
theorem gX4_exp_X4_refineEnds : GoodIn wsX4_exp (wsV RX4 149 RX4 yX4_refineEnds wsX4_refineEnds) := goodIn_app (goodIn_of _ (by decide +kernel)) ggX4_exp_X4_refineEnds
set_option maxRecDepth 20000 in
theorem ggX4_exp_X2_exponential : GoodIn wsX4_exp wsX2_exponential := goodIn_r _ [107, 108, 109, 35, 36, 37, 110, 111, 112, 113, 114, 115, 22, 116, 33, 38, 117, 118, 50, 119, 120, 121, 46, 122, 123, 124, 84, 85, 86, 87, 88, 89, 90, 24, 125, 126, 127, 128, 34, 39, 129, 130, 131, 132, 56, 57, 58, 59, 133, 134, 135, 136, 137, 138, 139, 106, 140, 141, 142, 143, 144, 145, 146, 147, 148, 149, 150, 151, 152, 153, 154, 155, 156, 157, 158, 61, 62, 63, 25, 26, 27, 28, 29, 30, 31, 32, 40, 41, 42, 43, 44, 45, 47, 48, 49, 51, 52, 53, 54, 55, 216, 217, 218, 219, 220, 221, 222, 223, 224, 225, 226, 227, 213, 214, 215] rfl (by decide +kernel)
set_option maxRecDepth 20000 in
theorem gX4_exp_X2_exponential : GoodIn wsX4_exp (wsV RX4 152 RX2 yX2_exponential wsX2_exponential) := goodIn_app (goodIn_of _ (by decide +kernel)) ggX4_exp_X2_exponential
set_option maxRecDepth 20000 in
theorem ggX4_exp_X4_coarsenEnds : GoodIn wsX4_exp wsX4_coarsenEnds := goodIn_r _ [162, 6, 163, 7, 164, 165, 126, 127, 22, 128, 24, 33, 34, 35, 36, 37, 38, 39, 129, 130, 131, 132, 56, 57, 58, 59, 133, 134, 135, 136, 166, 167, 168, 11, 169, 170, 64, 65, 66, 67, 68, 69, 50, 70, 60, 61, 62, 63, 25, 26, 27, 28, 29, 30, 31, 32, 40, 41, 42, 43, 44, 45, 46, 47, 48, 49, 51, 52, 53, 54, 55, 200, 201, 202, 203, 204, 205, 206, 207, 208, 209, 210, 213, 214, 215] rfl (by decide +kernel)
set_option maxRecDepth 20000 in
theorem gX4_exp_X4_coarsenEnds : GoodIn wsX4_exp (wsV RX4 155 RX4 yX4_coarsenEnds wsX4_coarsenEnds) := goodIn_app (goodIn_of _ (by decide +kernel)) ggX4_exp_X4_coarsenEnds
set_option maxRecDepth 20000 in
theorem ggX4_exp_X3_sign : GoodIn wsX4_exp wsX3_sign := goodIn_r _ [174, 24, 213, 214, 215] rfl (by decide +kernel)
set_option maxRecDepth 20000 in
theorem gX4_exp_X3_sign : GoodIn wsX4_exp (wsV RX4 129 RX3 yX3_sign wsX3_sign) := goodIn_app (goodIn_of _ (by decide +kernel)) ggX4_exp_X3_sign
set_option maxRecDepth 20000 in
theorem ggX4_exp_X3_clear : GoodIn wsX4_exp wsX3_clear := goodIn_r _ [149, 33, 24, 213, 214, 215] rfl (by decide +kernel)
set_option maxRecDepth 20000 in
theorem gX4_exp_X3_clear : GoodIn wsX4_exp (wsV RX4 158 RX3 yX3_clear wsX3_clear) := goodIn_app (goodIn_of _ (by decide +kernel)) ggX4_exp_X3_clear
set_option maxRecDepth 20000 in
theorem ggX4_exp_X4_keepEnds : GoodIn wsX4_exp wsX4_keepEnds := goodIn_r _ [179, 180, 17, 6, 7, 18, 60, 61, 62, 22, 63, 24, 25, 26, 27, 28, 29, 30, 31, 32, 33, 34, 35, 36, 37, 38, 39, 40, 41, 42, 43, 44, 45, 46, 47, 48, 49, 50, 51, 52, 53, 54, 55, 56, 57, 58, 59, 165, 126, 127, 128, 129, 130, 131, 132, 133, 134, 135, 136, 19, 20, 21, 23, 181, 182, 183, 11, 184, 185, 1, 186, 187, 188, 189, 190, 191, 192, 193, 194, 172, 173, 174, 195, 196, 197, 198, 199, 84, 85, 86, 87, 88, 89, 90, 200, 201, 202, 203, 204, 205, 206, 207, 208, 209, 210, 211, 212, 213, 214, 215] rfl (by decide +kernel)
set_option maxRecDepth 20000 in
theorem gX4_exp_X4_keepEnds : GoodIn wsX4_exp (wsV RX4 144 RX4 yX4_keepEnds wsX4_keepEnds) := goodIn_app (goodIn_of _ (by decide +kernel)) ggX4_exp_X4_keepEnds
theorem dX4_exp_0 : decode cX4_exp 0 = .ok (.iload_n 1, 1) := by decide +kernel
theorem dX4_exp_1 : decode cX4_exp 1 = .ok (.invokestatic 74, 3) := by decide +kernel
theorem dX4_exp_4 : decode cX4_exp 4 = .ok (.ifCond .eq 10, 3) := by decide +kernel
theorem dX4_exp_7 : decode cX4_exp 7 = .ok (.iload_n 2, 1) := by decide +kernel
theorem dX4_exp_8 : decode cX4_exp 8 = .ok (.invokestatic 74, 3) := by decide +kernel
theorem dX4_exp_11 : decode cX4_exp 11 = .ok (.ifCond .ne 5, 3) := by decide +kernel
theorem dX4_exp_14 : decode cX4_exp 14 = .ok (.iconst (-1), 1) := by decide +kernel
theorem dX4_exp_15 : decode cX4_exp 15 = .ok (.ireturn, 1) := by decide +kernel
theorem dX4_exp_16 : decode cX4_exp 16 = .ok (.aload_n 0, 1) := by decide +kernel
theorem dX4_exp_17 : decode cX4_exp 17 = .ok (.aload_n 0, 1) := by decide +kernel
theorem dX4_exp_18 : decode cX4_exp 18 = .ok (.getfield 18, 3) := by decide +kernel
theorem dX4_exp_21 : decode cX4_exp 21 = .ok (.iload_n 2, 1) := by decide +kernel
theorem dX4_exp_22 : decode cX4_exp 22 = .ok (.aaload, 1) := by decide +kernel
theorem dX4_exp_23 : decode cX4_exp 23 = .ok (.invokevirtual 137, 3) := by decide +kernel
theorem dX4_exp_26 : decode cX4_exp 26 = .ok (.aload_n 0, 1) := by decide +kernel
theorem dX4_exp_27 : decode cX4_exp 27 = .ok (.getfield 36, 3) := by decide +kernel
theorem dX4_exp_30 : decode cX4_exp 30 = .ok (.ldc2_w 147, 3) := by decide +kernel
theorem dX4_exp_33 : decode cX4_exp 33 = .ok (.invokevirtual 78, 3) := by decide +kernel
theorem dX4_exp_36 : decode cX4_exp 36 = .ok (.aload_n 0, 1) := by decide +kernel
theorem dX4_exp_37 : decode cX4_exp 37 = .ok (.getfield 36, 3) := by decide +kernel
theorem dX4_exp_40 : decode cX4_exp 40 = .ok (.aload_n 0, 1) := by decide +kernel
theorem dX4_exp_41 : decode cX4_exp 41 = .ok (.getfield 58, 3) := by decide +kernel
theorem dX4_exp_44 : decode cX4_exp 44 = .ok (.invokevirtual 82, 3) := by decide +kernel
theorem dX4_exp_47 : decode cX4_exp 47 = .ok (.aload_n 0, 1) := by decide +kernel
theorem dX4_exp_48 : decode cX4_exp 48 = .ok (.getfield 33, 3) := by decide +kernel
theorem dX4_exp_51 : decode cX4_exp 51 = .ok (.aload_n 0, 1) := by decide +kernel
theorem dX4_exp_52 : decode cX4_exp 52 = .ok (.getfield 36, 3) := by decide +kernel
theorem dX4_exp_55 : decode cX4_exp 55 = .ok (.invokevirtual 118, 3) := by decide +kernel
theorem dX4_exp_58 : decode cX4_exp 58 = .ok (.aload_n 0, 1) := by decide +kernel
theorem dX4_exp_59 : decode cX4_exp 59 = .ok (.getfield 33, 3) := by decide +kernel
theorem dX4_exp_62 : decode cX4_exp 62 = .ok (.invokevirtual 115, 3) := by decide +kernel
theorem dX4_exp_65 : decode cX4_exp 65 = .ok (.aload_n 0, 1) := by decide +kernel
theorem dX4_exp_66 : decode cX4_exp 66 = .ok (.getfield 27, 3) := by decide +kernel
theorem dX4_exp_69 : decode cX4_exp 69 = .ok (.aload_n 0, 1) := by decide +kernel
theorem dX4_exp_70 : decode cX4_exp 70 = .ok (.getfield 33, 3) := by decide +kernel
theorem dX4_exp_73 : decode cX4_exp 73 = .ok (.invokevirtual 125, 3) := by decide +kernel
theorem dX4_exp_76 : decode cX4_exp 76 = .ok (.ifCond .lt 17, 3) := by decide +kernel
theorem dX4_exp_79 : decode cX4_exp 79 = .ok (.aload_n 0, 1) := by decide +kernel
theorem dX4_exp_80 : decode cX4_exp 80 = .ok (.getfield 30, 3) := by decide +kernel
theorem dX4_exp_83 : decode cX4_exp 83 = .ok (.aload_n 0, 1) := by decide +kernel
theorem dX4_exp_84 : decode cX4_exp 84 = .ok (.getfield 36, 3) := by decide +kernel
theorem dX4_exp_87 : decode cX4_exp 87 = .ok (.invokevirtual 125, 3) := by decide +kernel
theorem dX4_exp_90 : decode cX4_exp 90 = .ok (.ifCond .le 5, 3) := by decide +kernel
theorem dX4_exp_93 : decode cX4_exp 93 = .ok (.iconst (-1), 1) := by decide +kernel
theorem dX4_exp_94 : decode cX4_exp 94 = .ok (.ireturn, 1) := by decide +kernel
theorem dX4_exp_95 : decode cX4_exp 95 = .ok (.aload_n 0, 1) := by decide +kernel
theorem dX4_exp_96 : decode cX4_exp 96 = .ok (.invokevirtual 149, 3) := by decide +kernel
theorem dX4_exp_99 : decode cX4_exp 99 = .ok (.aload_n 0, 1) := by decide +kernel
theorem dX4_exp_100 : decode cX4_exp 100 = .ok (.getfield 70, 3) := by decide +kernel
theorem dX4_exp_103 : decode cX4_exp 103 = .ok (.aload_n 0, 1) := by decide +kernel
theorem dX4_exp_104 : decode cX4_exp 104 = .ok (.getfield 27, 3) := by decide +kernel
theorem dX4_exp_107 : decode cX4_exp 107 = .ok (.invokevirtual 152, 3) := by decide +kernel
theorem dX4_exp_110 : decode cX4_exp 110 = .ok (.aload_n 0, 1) := by decide +kernel
theorem dX4_exp_111 : decode cX4_exp 111 = .ok (.getfield 70, 3) := by decide +kernel
theorem dX4_exp_114 : decode cX4_exp 114 = .ok (.aload_n 0, 1) := by decide +kernel
theorem dX4_exp_115 : decode cX4_exp 115 = .ok (.getfield 30, 3) := by decide +kernel
theorem dX4_exp_118 : decode cX4_exp 118 = .ok (.invokevirtual 152, 3) := by decide +kernel
theorem dX4_exp_121 : decode cX4_exp 121 = .ok (.aload_n 0, 1) := by decide +kernel
theorem dX4_exp_122 : decode cX4_exp 122 = .ok (.invokevirtual 155, 3) := by decide +kernel
theorem dX4_exp_125 : decode cX4_exp 125 = .ok (.aload_n 0, 1) := by decide +kernel
theorem dX4_exp_126 : decode cX4_exp 126 = .ok (.getfield 27, 3) := by decide +kernel
theorem dX4_exp_129 : decode cX4_exp 129 = .ok (.invokevirtual 129, 3) := by decide +kernel
theorem dX4_exp_132 : decode cX4_exp 132 = .ok (.ifCond .ge 10, 3) := by decide +kernel
theorem dX4_exp_135 : decode cX4_exp 135 = .ok (.aload_n 0, 1) := by decide +kernel
theorem dX4_exp_136 : decode cX4_exp 136 = .ok (.getfield 27, 3) := by decide +kernel
theorem dX4_exp_139 : decode cX4_exp 139 = .ok (.invokevirtual 158, 3) := by decide +kernel
theorem dX4_exp_142 : decode cX4_exp 142 = .ok (.aload_n 0, 1) := by decide +kernel
theorem dX4_exp_143 : decode cX4_exp 143 = .ok (.iload_n 1, 1) := by decide +kernel
theorem dX4_exp_144 : decode cX4_exp 144 = .ok (.invokevirtual 144, 3) := by decide +kernel
theorem dX4_exp_147 : decode cX4_exp 147 = .ok (.ireturn, 1) := by decide +kernel
set_option maxRecDepth 20000 in
theorem ggX4_log_X4_isPlace : GoodIn wsX4_log wsX4_isPlace := goodIn_r _ [8] rfl (by decide +kernel)
set_option maxRecDepth 20000 in
theorem gX4_log_X4_isPlace : GoodIn wsX4_log (va_wsS RX4 74 yX4_isPlace wsX4_isPlace) := goodIn_app (goodIn_of _ (by decide +kernel)) ggX4_log_X4_isPlace
set_option maxRecDepth 20000 in
theorem ggX4_log_X4_findEnds : GoodIn wsX4_log wsX4_findEnds := goodIn_r _ [12, 2, 13, 14, 4, 15, 16, 17, 18, 19, 20, 21, 22, 23, 24, 25, 26, 27, 28, 29, 30, 31, 32, 33, 34, 35, 36, 37, 38, 39, 40, 41, 42, 43, 44, 45, 46, 47, 48, 49, 50, 51, 52, 53, 54, 55, 56, 57, 58, 59, 258, 259, 260, 261, 262, 263, 264, 265, 266, 267, 268, 269, 270, 271, 272, 273] rfl (by decide +kernel)
set_option maxRecDepth 20000 in
theorem gX4_log_X4_findEnds : GoodIn wsX4_log (wsV RX4 137 RX4 yX4_findEnds wsX4_findEnds) := goodIn_app (goodIn_of _ (by decide +kernel)) ggX4_log_X4_findEnds
set_option maxRecDepth 20000 in
theorem ggX4_log_X3_sign : GoodIn wsX4_log wsX3_sign := goodIn_r _ [63, 20, 271, 272, 273] rfl (by decide +kernel)
set_option maxRecDepth 20000 in
theorem gX4_log_X3_sign : GoodIn wsX4_log (wsV RX4 129 RX3 yX3_sign wsX3_sign) := goodIn_app (goodIn_of _ (by decide +kernel)) ggX4_log_X3_sign
set_option maxRecDepth 20000 in
theorem ggX4_log_X4_refineEnds : GoodIn wsX4_log wsX4_refineEnds := goodIn_r _ [67, 2, 4, 68, 69, 70, 18, 71, 29, 34, 72, 73, 74, 75, 35, 76, 77, 78, 79, 52, 53, 54, 55, 20, 258, 259, 260, 261, 262, 263, 264, 265, 266, 267, 268, 271, 272, 273] rfl (by decide +kernel)
set_option maxRecDepth 20000 in
theorem gX4_log_X4_refineEnds : GoodIn wsX4_log (wsV RX4 149 RX4 yX4_refineEnds wsX4_refineEnds) := goodIn_app (goodIn_of _ (by decide +kernel)) ggX4_log_X4_refineEnds
set_option maxRecDepth 20000 in
theorem ggX4_log_X2_logarithm : GoodIn wsX4_log wsX2_logarithm := goodIn_r _ [84, 85, 86, 87, 31, 32, 33, 88, 89, 90, 91, 92, 18, 93, 34, 29, 94, 95, 96, 97, 20, 98, 99, 100, 101, 102, 103, 104, 35, 105, 106, 42, 107, 52, 53, 54, 55, 108, 109, 110, 111, 112, 113, 46, 114, 115, 116, 117, 118, 119, 69, 70, 71, 72, 73, 74, 75, 76, 77, 78, 79, 120, 121, 122, 123, 124, 125, 126, 127, 128, 16, 17, 19, 21, 22, 23, 24, 25, 26, 27, 28, 30, 36, 37, 38, 39, 40, 41, 43, 44, 45, 47, 48, 49, 50, 51, 129, 57, 58, 59, 130, 131, 132, 133, 134, 135, 136, 137, 138, 139, 140, 61, 62, 63, 141, 142, 143, 144, 145, 146, 147, 148, 149, 150, 151, 152, 153, 154, 155, 156, 157, 158, 159, 160, 161, 162, 163, 164, 165, 166, 167, 168, 169, 170, 171, 172, 173, 174, 175, 176, 177, 83, 178, 179, 180, 181, 182, 183, 184, 185, 186, 187, 188, 189, 190, 191, 192, 193, 194, 195, 196, 197, 198, 199, 200, 201, 202, 203, 204, 205, 206, 207, 208, 209, 210, 211, 212, 213, 214, 274, 275, 276, 277, 278, 279, 280, 281, 282, 283, 284, 285, 271, 272, 273, 286, 287, 288, 289] rfl (by decide +kernel)
set_option maxRecDepth 20000 in
theorem gX4_log_X2_logarithm : GoodIn wsX4_log (wsV RX4 161 RX2 yX2_logarithm wsX2_logarithm) := goodIn_app (goodIn_of _ (by decide +kernel)) ggX4_log_X2_logarithm
set_option maxRecDepth 20000 in
theorem ggX4_log_X4_coarsenEnds : GoodIn wsX4_log wsX4_coarsenEnds := goodIn_r _ [218, 2, 219, 4, 220, 221, 191, 192, 18, 193, 20, 29, 30, 31, 32, 33, 34, 35, 194, 195, 196, 197, 52, 53, 54, 55, 198, 172, 173, 174, 222, 223, 224, 7, 225, 226, 227, 228, 229, 230, 231, 232, 46, 233, 56, 57, 58, 59, 21, 22, 23, 24, 25, 26, 27, 28, 36, 37, 38, 39, 40, 41, 42, 43, 44, 45, 47, 48, 49, 50, 51, 258, 259, 260, 261, 262, 263, 264, 265, 266, 267, 268, 271, 272, 273] rfl (by decide +kernel)
set_option maxRecDepth 20000 in
theorem gX4_log_X4_coarsenEnds : GoodIn wsX4_log (wsV RX4 155 RX4 yX4_coarsenEnds wsX4_coarsenEnds) := goodIn_app (goodIn_of _ (by decide +kernel)) ggX4_log_X4_coarsenEnds
set_option maxRecDepth 20000 in
theorem ggX4_log_X4_keepEnds : GoodIn wsX4_log wsX4_keepEnds := goodIn_r _ [237, 238, 13, 2, 4, 14, 56, 57, 58, 18, 59, 20, 21, 22, 23, 24, 25, 26, 27, 28, 29, 30, 31, 32, 33, 34, 35, 36, 37, 38, 39, 40, 41, 42, 43, 44, 45, 46, 47, 48, 49, 50, 51, 52, 53, 54, 55, 221, 191, 192, 193, 194, 195, 196, 197, 198, 172, 173, 174, 15, 16, 17, 19, 239, 240, 241, 7, 242, 243, 1, 244, 245, 246, 247, 248, 249, 250, 251, 252, 61, 62, 63, 253, 254, 255, 256, 257, 91, 92, 93, 94, 95, 96, 97, 258, 259, 260, 261, 262, 263, 264, 265, 266, 267, 268, 269, 270, 271, 272, 273] rfl (by decide +kernel)
set_option maxRecDepth 20000 in
theorem gX4_log_X4_keepEnds : GoodIn wsX4_log (wsV RX4 144 RX4 yX4_keepEnds wsX4_keepEnds) := goodIn_app (goodIn_of _ (by decide +kernel)) ggX4_log_X4_keepEnds
theorem dX4_log_0 : decode cX4_log 0 = .ok (.iload_n 1, 1) := by decide +kernel
theorem dX4_log_1 : decode cX4_log 1 = .ok (.invokestatic 74, 3) := by decide +kernel
theorem dX4_log_4 : decode cX4_log 4 = .ok (.ifCond .eq 10, 3) := by decide +kernel
theorem dX4_log_7 : decode cX4_log 7 = .ok (.iload_n 2, 1) := by decide +kernel
theorem dX4_log_8 : decode cX4_log 8 = .ok (.invokestatic 74, 3) := by decide +kernel
theorem dX4_log_11 : decode cX4_log 11 = .ok (.ifCond .ne 5, 3) := by decide +kernel
theorem dX4_log_14 : decode cX4_log 14 = .ok (.iconst (-1), 1) := by decide +kernel
theorem dX4_log_15 : decode cX4_log 15 = .ok (.ireturn, 1) := by decide +kernel
theorem dX4_log_16 : decode cX4_log 16 = .ok (.aload_n 0, 1) := by decide +kernel
theorem dX4_log_17 : decode cX4_log 17 = .ok (.aload_n 0, 1) := by decide +kernel
theorem dX4_log_18 : decode cX4_log 18 = .ok (.getfield 18, 3) := by decide +kernel
theorem dX4_log_21 : decode cX4_log 21 = .ok (.iload_n 2, 1) := by decide +kernel
theorem dX4_log_22 : decode cX4_log 22 = .ok (.aaload, 1) := by decide +kernel
theorem dX4_log_23 : decode cX4_log 23 = .ok (.invokevirtual 137, 3) := by decide +kernel
theorem dX4_log_26 : decode cX4_log 26 = .ok (.aload_n 0, 1) := by decide +kernel
theorem dX4_log_27 : decode cX4_log 27 = .ok (.getfield 27, 3) := by decide +kernel
theorem dX4_log_30 : decode cX4_log 30 = .ok (.invokevirtual 129, 3) := by decide +kernel
theorem dX4_log_33 : decode cX4_log 33 = .ok (.ifCond .gt 5, 3) := by decide +kernel
theorem dX4_log_36 : decode cX4_log 36 = .ok (.iconst (-1), 1) := by decide +kernel
theorem dX4_log_37 : decode cX4_log 37 = .ok (.ireturn, 1) := by decide +kernel
theorem dX4_log_38 : decode cX4_log 38 = .ok (.aload_n 0, 1) := by decide +kernel
theorem dX4_log_39 : decode cX4_log 39 = .ok (.invokevirtual 149, 3) := by decide +kernel
theorem dX4_log_42 : decode cX4_log 42 = .ok (.aload_n 0, 1) := by decide +kernel
theorem dX4_log_43 : decode cX4_log 43 = .ok (.getfield 70, 3) := by decide +kernel
theorem dX4_log_46 : decode cX4_log 46 = .ok (.aload_n 0, 1) := by decide +kernel
theorem dX4_log_47 : decode cX4_log 47 = .ok (.getfield 27, 3) := by decide +kernel
theorem dX4_log_50 : decode cX4_log 50 = .ok (.invokevirtual 161, 3) := by decide +kernel
theorem dX4_log_53 : decode cX4_log 53 = .ok (.aload_n 0, 1) := by decide +kernel
theorem dX4_log_54 : decode cX4_log 54 = .ok (.getfield 70, 3) := by decide +kernel
theorem dX4_log_57 : decode cX4_log 57 = .ok (.aload_n 0, 1) := by decide +kernel
theorem dX4_log_58 : decode cX4_log 58 = .ok (.getfield 30, 3) := by decide +kernel
theorem dX4_log_61 : decode cX4_log 61 = .ok (.invokevirtual 161, 3) := by decide +kernel
theorem dX4_log_64 : decode cX4_log 64 = .ok (.aload_n 0, 1) := by decide +kernel
theorem dX4_log_65 : decode cX4_log 65 = .ok (.invokevirtual 155, 3) := by decide +kernel
theorem dX4_log_68 : decode cX4_log 68 = .ok (.aload_n 0, 1) := by decide +kernel
theorem dX4_log_69 : decode cX4_log 69 = .ok (.iload_n 1, 1) := by decide +kernel
theorem dX4_log_70 : decode cX4_log 70 = .ok (.invokevirtual 144, 3) := by decide +kernel
theorem dX4_log_73 : decode cX4_log 73 = .ok (.ireturn, 1) := by decide +kernel
set_option maxRecDepth 20000 in
theorem ggX4_arc_X4_isPlace : GoodIn wsX4_arc wsX4_isPlace := goodIn_r _ [8] rfl (by decide +kernel)
set_option maxRecDepth 20000 in
theorem gX4_arc_X4_isPlace : GoodIn wsX4_arc (va_wsS RX4 74 yX4_isPlace wsX4_isPlace) := goodIn_app (goodIn_of _ (by decide +kernel)) ggX4_arc_X4_isPlace
set_option maxRecDepth 20000 in
theorem ggX4_arc_X4_findEnds : GoodIn wsX4_arc wsX4_findEnds := goodIn_r _ [12, 3, 13, 14, 4, 15, 16, 17, 18, 19, 20, 21, 22, 23, 24, 25, 26, 27, 28, 29, 30, 31, 32, 33, 34, 35, 36, 37, 38, 39, 40, 41, 42, 43, 44, 45, 46, 47, 48, 49, 50, 51, 52, 53, 54, 55, 56, 57, 58, 59, 271, 272, 273, 274, 275, 276, 277, 278, 279, 280, 281, 282, 283, 284, 285, 286] rfl (by decide +kernel)
set_option maxRecDepth 20000 in
theorem gX4_arc_X4_findEnds : GoodIn wsX4_arc (wsV RX4 137 RX4 yX4_findEnds wsX4_findEnds) := goodIn_app (goodIn_of _ (by decide +kernel)) ggX4_arc_X4_findEnds
set_option maxRecDepth 20000 in
theorem ggX4_arc_X4_refineEnds : GoodIn wsX4_arc wsX4_refineEnds := goodIn_r _ [63, 3, 4, 64, 65, 66, 18, 67, 29, 34, 68, 69, 70, 71, 35, 72, 73, 74, 75, 52, 53, 54, 55, 20, 271, 272, 273, 274, 275, 276, 277, 278, 279, 280, 281, 284, 285, 286] rfl (by decide +kernel)
set_option maxRecDepth 20000 in
theorem gX4_arc_X4_refineEnds : GoodIn wsX4_arc (wsV RX4 149 RX4 yX4_refineEnds wsX4_refineEnds) := goodIn_app (goodIn_of _ (by decide +kernel)) ggX4_arc_X4_refineEnds
set_option maxRecDepth 20000 in
theorem ggX4_arc_X2_arcOf : GoodIn wsX4_arc wsX2_arcOf := goodIn_r _ [80, 81, 82, 83, 84, 85, 86, 87, 18, 88, 20, 89, 90, 91, 92, 93, 94, 32, 95, 96, 97, 98, 99, 40, 41, 42, 43, 36, 37, 38, 39, 29, 34, 44, 45, 46, 47, 100, 101, 102, 103, 104, 105, 106, 107, 108, 109, 110, 111, 112, 113, 114, 115, 31, 33, 116, 117, 118, 119, 120, 121, 122, 123, 124, 125, 126, 127, 128, 129, 130, 131, 132, 133, 134, 135, 69, 70, 71, 35, 72, 73, 74, 75, 136, 137, 138, 139, 140, 141, 142, 143, 144, 145, 146, 147, 148, 149, 150, 151, 152, 153, 154, 155, 156, 157, 158, 53, 54, 55, 159, 160, 161, 162, 163, 164, 165, 79, 166, 167, 168, 169, 170, 171, 52, 172, 57, 58, 59, 21, 22, 23, 24, 25, 26, 27, 28, 30, 48, 49, 50, 51, 173, 174, 175, 176, 177, 178, 179, 180, 181, 182, 183, 184, 185, 186, 187, 188, 189, 190, 191, 192, 193, 194, 195, 196, 197, 198, 65, 66, 67, 68, 199, 200, 201, 202, 203, 204, 205, 206, 207, 208, 209, 210, 211, 212, 213, 214, 215, 216, 217, 218, 16, 17, 19, 219, 220, 221, 222, 223, 224, 225, 226, 227, 287, 288, 289, 290, 291, 292, 293, 294, 295, 296, 297, 298, 284, 285, 286, 299, 300, 301, 302] rfl (by decide +kernel)
set_option maxRecDepth 20000 in
theorem gX4_arc_X2_arcOf : GoodIn wsX4_arc (wsV RX4 164 RX2 yX2_arcOf wsX2_arcOf) := goodIn_app (goodIn_of _ (by decide +kernel)) ggX4_arc_X2_arcOf
set_option maxRecDepth 20000 in
theorem ggX4_arc_X4_coarsenEnds : GoodIn wsX4_arc wsX4_coarsenEnds := goodIn_r _ [231, 3, 232, 4, 233, 234, 182, 183, 18, 184, 20, 29, 30, 31, 32, 33, 34, 35, 185, 186, 187, 188, 52, 53, 54, 55, 189, 160, 161, 162, 235, 236, 237, 7, 238, 239, 240, 241, 242, 243, 244, 245, 46, 246, 56, 57, 58, 59, 21, 22, 23, 24, 25, 26, 27, 28, 36, 37, 38, 39, 40, 41, 42, 43, 44, 45, 47, 48, 49, 50, 51, 271, 272, 273, 274, 275, 276, 277, 278, 279, 280, 281, 284, 285, 286] rfl (by decide +kernel)
set_option maxRecDepth 20000 in
theorem gX4_arc_X4_coarsenEnds : GoodIn wsX4_arc (wsV RX4 155 RX4 yX4_coarsenEnds wsX4_coarsenEnds) := goodIn_app (goodIn_of _ (by decide +kernel)) ggX4_arc_X4_coarsenEnds
set_option maxRecDepth 20000 in
theorem ggX4_arc_X4_keepEnds : GoodIn wsX4_arc wsX4_keepEnds := goodIn_r _ [250, 251, 13, 3, 4, 14, 56, 57, 58, 18, 59, 20, 21, 22, 23, 24, 25, 26, 27, 28, 29, 30, 31, 32, 33, 34, 35, 36, 37, 38, 39, 40, 41, 42, 43, 44, 45, 46, 47, 48, 49, 50, 51, 52, 53, 54, 55, 234, 182, 183, 184, 185, 186, 187, 188, 189, 160, 161, 162, 15, 16, 17, 19, 252, 253, 254, 7, 255, 256, 1, 257, 258, 259, 260, 261, 262, 263, 264, 265, 86, 87, 88, 266, 267, 268, 269, 270, 191, 192, 193, 194, 195, 196, 197, 271, 272, 273, 274, 275, 276, 277, 278, 279, 280, 281, 282, 283, 284, 285, 286] rfl (by decide +kernel)
set_option maxRecDepth 20000 in
theorem gX4_arc_X4_keepEnds : GoodIn wsX4_arc (wsV RX4 144 RX4 yX4_keepEnds wsX4_keepEnds) := goodIn_app (goodIn_of _ (by decide +kernel)) ggX4_arc_X4_keepEnds
theorem dX4_arc_0 : decode cX4_arc 0 = .ok (.iload_n 1, 1) := by decide +kernel
theorem dX4_arc_1 : decode cX4_arc 1 = .ok (.invokestatic 74, 3) := by decide +kernel
theorem dX4_arc_4 : decode cX4_arc 4 = .ok (.ifCond .eq 10, 3) := by decide +kernel
theorem dX4_arc_7 : decode cX4_arc 7 = .ok (.iload_n 2, 1) := by decide +kernel
theorem dX4_arc_8 : decode cX4_arc 8 = .ok (.invokestatic 74, 3) := by decide +kernel
theorem dX4_arc_11 : decode cX4_arc 11 = .ok (.ifCond .ne 5, 3) := by decide +kernel
theorem dX4_arc_14 : decode cX4_arc 14 = .ok (.iconst (-1), 1) := by decide +kernel
theorem dX4_arc_15 : decode cX4_arc 15 = .ok (.ireturn, 1) := by decide +kernel
theorem dX4_arc_16 : decode cX4_arc 16 = .ok (.aload_n 0, 1) := by decide +kernel
theorem dX4_arc_17 : decode cX4_arc 17 = .ok (.aload_n 0, 1) := by decide +kernel
theorem dX4_arc_18 : decode cX4_arc 18 = .ok (.getfield 18, 3) := by decide +kernel
theorem dX4_arc_21 : decode cX4_arc 21 = .ok (.iload_n 2, 1) := by decide +kernel
theorem dX4_arc_22 : decode cX4_arc 22 = .ok (.aaload, 1) := by decide +kernel
theorem dX4_arc_23 : decode cX4_arc 23 = .ok (.invokevirtual 137, 3) := by decide +kernel
theorem dX4_arc_26 : decode cX4_arc 26 = .ok (.aload_n 0, 1) := by decide +kernel
theorem dX4_arc_27 : decode cX4_arc 27 = .ok (.invokevirtual 149, 3) := by decide +kernel
theorem dX4_arc_30 : decode cX4_arc 30 = .ok (.aload_n 0, 1) := by decide +kernel
theorem dX4_arc_31 : decode cX4_arc 31 = .ok (.getfield 70, 3) := by decide +kernel
theorem dX4_arc_34 : decode cX4_arc 34 = .ok (.aload_n 0, 1) := by decide +kernel
theorem dX4_arc_35 : decode cX4_arc 35 = .ok (.getfield 27, 3) := by decide +kernel
theorem dX4_arc_38 : decode cX4_arc 38 = .ok (.invokevirtual 164, 3) := by decide +kernel
theorem dX4_arc_41 : decode cX4_arc 41 = .ok (.aload_n 0, 1) := by decide +kernel
theorem dX4_arc_42 : decode cX4_arc 42 = .ok (.getfield 70, 3) := by decide +kernel
theorem dX4_arc_45 : decode cX4_arc 45 = .ok (.aload_n 0, 1) := by decide +kernel
theorem dX4_arc_46 : decode cX4_arc 46 = .ok (.getfield 30, 3) := by decide +kernel
theorem dX4_arc_49 : decode cX4_arc 49 = .ok (.invokevirtual 164, 3) := by decide +kernel
theorem dX4_arc_52 : decode cX4_arc 52 = .ok (.aload_n 0, 1) := by decide +kernel
theorem dX4_arc_53 : decode cX4_arc 53 = .ok (.invokevirtual 155, 3) := by decide +kernel
theorem dX4_arc_56 : decode cX4_arc 56 = .ok (.aload_n 0, 1) := by decide +kernel
theorem dX4_arc_57 : decode cX4_arc 57 = .ok (.iload_n 1, 1) := by decide +kernel
theorem dX4_arc_58 : decode cX4_arc 58 = .ok (.invokevirtual 144, 3) := by decide +kernel
theorem dX4_arc_61 : decode cX4_arc 61 = .ok (.ireturn, 1) := by decide +kernel
set_option maxRecDepth 20000 in
theorem ggX4_sine_X4_isPlace : GoodIn wsX4_sine wsX4_isPlace := goodIn_r _ [13] rfl (by decide +kernel)
set_option maxRecDepth 20000 in
theorem gX4_sine_X4_isPlace : GoodIn wsX4_sine (va_wsS RX4 74 yX4_isPlace wsX4_isPlace) := goodIn_app (goodIn_of _ (by decide +kernel)) ggX4_sine_X4_isPlace
set_option maxRecDepth 20000 in
theorem ggX4_sine_X3_becomePower : GoodIn wsX4_sine wsX3_becomePower := goodIn_r _ [18, 19, 20, 21, 22, 23, 24, 17, 25, 252, 253, 254] rfl (by decide +kernel)
set_option maxRecDepth 20000 in
theorem gX4_sine_X3_becomePower : GoodIn wsX4_sine (wsV RX4 62 RX3 yX3_becomePower wsX3_becomePower) := goodIn_app (goodIn_of _ (by decide +kernel)) ggX4_sine_X3_becomePower
set_option maxRecDepth 20000 in
theorem ggX4_sine_X3_orderWithoutSign : GoodIn wsX4_sine wsX3_orderWithoutSign := goodIn_r _ [29, 20, 19, 30, 31, 32, 33, 34, 35, 36, 37, 252, 253, 254] rfl (by decide +kernel)
set_option maxRecDepth 20000 in
theorem gX4_sine_X3_orderWithoutSign : GoodIn wsX4_sine (wsV RX4 167 RX3 yX3_orderWithoutSign wsX3_orderWithoutSign) := goodIn_app (goodIn_of _ (by decide +kernel)) ggX4_sine_X3_orderWithoutSign
set_option maxRecDepth 20000 in
theorem ggX4_sine_X3_become_ : GoodIn wsX4_sine wsX3_become_ := goodIn_r _ [41, 19, 20, 42, 43, 44, 45, 21, 252, 253, 254] rfl (by decide +kernel)
set_option maxRecDepth 20000 in
theorem gX4_sine_X3_become_ : GoodIn wsX4_sine (wsV RX4 118 RX3 yX3_become_ wsX3_become_) := goodIn_app (goodIn_of _ (by decide +kernel)) ggX4_sine_X3_become_
set_option maxRecDepth 20000 in
theorem ggX4_sine_X3_raise : GoodIn wsX4_sine wsX3_raise := goodIn_r _ [49, 20, 19, 50, 51, 52, 17, 53, 54, 55, 56, 57, 58, 59, 60, 61, 62, 21, 252, 253, 254] rfl (by decide +kernel)
set_option maxRecDepth 20000 in
theorem gX4_sine_X3_raise : GoodIn wsX4_sine (wsV RX4 82 RX3 yX3_raise wsX3_raise) := goodIn_app (goodIn_of _ (by decide +kernel)) ggX4_sine_X3_raise
set_option maxRecDepth 20000 in
theorem ggX4_sine_X2_halfTurn : GoodIn wsX4_sine wsX2_halfTurn := goodIn_r _ [67, 68, 69, 70, 71, 72, 73, 17, 74, 21, 75, 39, 40, 41, 19, 20, 42, 43, 44, 45, 76, 77, 78, 79, 59, 60, 61, 62, 80, 81, 82, 83, 54, 84, 85, 86, 66, 87, 88, 89, 90, 91, 92, 93, 94, 95, 96, 97, 98, 99, 100, 22, 23, 24, 25, 101, 102, 103, 104, 105, 106, 107, 108, 109, 110, 111, 112, 113, 114, 115, 116, 117, 118, 119, 120, 121, 122, 123, 124, 125, 126, 127, 128, 129, 130, 27, 28, 29, 30, 31, 32, 33, 34, 35, 36, 37, 131, 132, 133, 134, 135, 136, 137, 138, 139, 47, 48, 49, 50, 51, 52, 53, 55, 56, 57, 58, 255, 256, 257, 258, 259, 260, 261, 262, 263, 264, 265, 266, 252, 253, 254] rfl (by decide +kernel)
set_option maxRecDepth 20000 in
theorem gX4_sine_X2_halfTurn : GoodIn wsX4_sine (wsV RX4 170 RX2 yX2_halfTurn wsX2_halfTurn) := goodIn_app (goodIn_of _ (by decide +kernel)) ggX4_sine_X2_halfTurn
set_option maxRecDepth 20000 in
theorem ggX4_sine_X3_lower : GoodIn wsX4_sine wsX3_lower := goodIn_r _ [104, 21, 20, 105, 106, 107, 108, 19, 54, 109, 110, 111, 17, 112, 59, 60, 61, 62, 80, 81, 82, 83, 252, 253, 254] rfl (by decide +kernel)
set_option maxRecDepth 20000 in
theorem gX4_sine_X3_lower : GoodIn wsX4_sine (wsV RX4 109 RX3 yX3_lower wsX3_lower) := goodIn_app (goodIn_of _ (by decide +kernel)) ggX4_sine_X3_lower
set_option maxRecDepth 20000 in
theorem ggX4_sine_X3_sum : GoodIn wsX4_sine wsX3_sum := goodIn_r _ [138, 21, 122, 123, 124, 17, 125, 126, 127, 128, 129, 20, 105, 106, 107, 108, 19, 54, 130, 27, 28, 29, 30, 31, 32, 33, 34, 35, 36, 37, 131, 132, 133, 134, 59, 60, 61, 62, 252, 253, 254] rfl (by decide +kernel)
set_option maxRecDepth 20000 in
theorem gX4_sine_X3_sum : GoodIn wsX4_sine (wsV RX4 99 RX3 yX3_sum wsX3_sum) := goodIn_app (goodIn_of _ (by decide +kernel)) ggX4_sine_X3_sum
set_option maxRecDepth 20000 in
theorem ggX4_sine_X2_sineOf : GoodIn wsX4_sine wsX2_sineOf := goodIn_r _ [145, 90, 70, 146, 95, 88, 89, 147, 64, 65, 66, 67, 68, 69, 71, 72, 73, 17, 74, 21, 75, 39, 40, 41, 19, 20, 42, 43, 44, 45, 76, 77, 78, 79, 59, 60, 61, 62, 80, 81, 82, 83, 54, 84, 85, 86, 87, 91, 92, 93, 94, 96, 97, 98, 99, 100, 22, 23, 24, 25, 101, 102, 103, 104, 105, 106, 107, 108, 109, 110, 111, 112, 113, 114, 115, 116, 117, 118, 119, 120, 121, 122, 123, 124, 125, 126, 127, 128, 129, 130, 27, 28, 29, 30, 31, 32, 33, 34, 35, 36, 37, 131, 132, 133, 134, 135, 136, 137, 138, 139, 47, 48, 49, 50, 51, 52, 53, 55, 56, 57, 58, 148, 149, 150, 151, 152, 153, 154, 155, 156, 157, 158, 159, 160, 161, 162, 163, 164, 165, 166, 167, 168, 169, 170, 171, 172, 173, 174, 175, 176, 177, 178, 179, 180, 181, 182, 183, 184, 185, 186, 187, 188, 189, 190, 191, 192, 193, 194, 195, 196, 197, 198, 199, 200, 201, 202, 203, 204, 205, 206, 207, 255, 256, 257, 258, 259, 260, 261, 262, 263, 264, 265, 266, 252, 253, 254, 267, 268, 269, 270] rfl (by decide +kernel)
set_option maxRecDepth 20000 in
theorem gX4_sine_X2_sineOf : GoodIn wsX4_sine (wsV RX4 174 RX2 yX2_sineOf wsX2_sineOf) := goodIn_app (goodIn_of _ (by decide +kernel)) ggX4_sine_X2_sineOf
set_option maxRecDepth 20000 in
theorem ggX4_sine_X4_change : GoodIn wsX4_sine wsX4_change := goodIn_r _ [211, 212, 213, 214, 215, 17, 216, 19, 54, 21, 217, 218, 36, 219, 59, 60, 61, 62, 20, 141, 136, 137, 138, 122, 123, 124, 125, 126, 127, 128, 129, 105, 106, 107, 108, 130, 27, 28, 29, 30, 31, 32, 33, 34, 35, 37, 131, 132, 133, 134, 239, 240, 241, 242, 243, 244, 245, 246, 247, 248, 249, 252, 253, 254] rfl (by decide +kernel)
set_option maxRecDepth 20000 in
theorem gX4_sine_X4_change : GoodIn wsX4_sine (wsV RX4 121 RX4 yX4_change wsX4_change) := goodIn_app (goodIn_of _ (by decide +kernel)) ggX4_sine_X4_change
set_option maxRecDepth 20000 in
theorem ggX4_sine_X4_keep : GoodIn wsX4_sine wsX4_keep := goodIn_r _ [223, 7, 224, 1, 225, 226, 227, 228, 229, 230, 231, 232, 27, 28, 17, 29, 20, 19, 30, 31, 32, 33, 34, 35, 36, 37, 233, 72, 73, 74, 21, 234, 235, 236, 237, 238, 39, 40, 41, 42, 43, 44, 45, 239, 240, 241, 242, 243, 244, 245, 246, 247, 248, 249, 250, 251, 252, 253, 254] rfl (by decide +kernel)
set_option maxRecDepth 20000 in
theorem gX4_sine_X4_keep : GoodIn wsX4_sine (wsV RX4 95 RX4 yX4_keep wsX4_keep) := goodIn_app (goodIn_of _ (by decide +kernel)) ggX4_sine_X4_keep
theorem dX4_sine_0 : decode cX4_sine 0 = .ok (.iload_n 1, 1) := by decide +kernel
theorem dX4_sine_1 : decode cX4_sine 1 = .ok (.invokestatic 74, 3) := by decide +kernel
theorem dX4_sine_4 : decode cX4_sine 4 = .ok (.ifCond .eq 10, 3) := by decide +kernel
theorem dX4_sine_7 : decode cX4_sine 7 = .ok (.iload_n 2, 1) := by decide +kernel
theorem dX4_sine_8 : decode cX4_sine 8 = .ok (.invokestatic 74, 3) := by decide +kernel
theorem dX4_sine_11 : decode cX4_sine 11 = .ok (.ifCond .ne 5, 3) := by decide +kernel
theorem dX4_sine_14 : decode cX4_sine 14 = .ok (.iconst (-1), 1) := by decide +kernel
theorem dX4_sine_15 : decode cX4_sine 15 = .ok (.ireturn, 1) := by decide +kernel
theorem dX4_sine_16 : decode cX4_sine 16 = .ok (.aload_n 0, 1) := by decide +kernel
theorem dX4_sine_17 : decode cX4_sine 17 = .ok (.getfield 18, 3) := by decide +kernel
theorem dX4_sine_20 : decode cX4_sine 20 = .ok (.iload_n 2, 1) := by decide +kernel
theorem dX4_sine_21 : decode cX4_sine 21 = .ok (.aaload, 1) := by decide +kernel
theorem dX4_sine_22 : decode cX4_sine 22 = .ok (.astore 4, 2) := by decide +kernel
theorem dX4_sine_24 : decode cX4_sine 24 = .ok (.aload_n 0, 1) := by decide +kernel
theorem dX4_sine_25 : decode cX4_sine 25 = .ok (.getfield 36, 3) := by decide +kernel
theorem dX4_sine_28 : decode cX4_sine 28 = .ok (.aload_n 0, 1) := by decide +kernel
theorem dX4_sine_29 : decode cX4_sine 29 = .ok (.getfield 58, 3) := by decide +kernel
theorem dX4_sine_32 : decode cX4_sine 32 = .ok (.bipush 20, 2) := by decide +kernel
theorem dX4_sine_34 : decode cX4_sine 34 = .ok (.iadd, 1) := by decide +kernel
theorem dX4_sine_35 : decode cX4_sine 35 = .ok (.invokevirtual 62, 3) := by decide +kernel
theorem dX4_sine_38 : decode cX4_sine 38 = .ok (.aload 4, 2) := by decide +kernel
theorem dX4_sine_40 : decode cX4_sine 40 = .ok (.getfield 85, 3) := by decide +kernel
theorem dX4_sine_43 : decode cX4_sine 43 = .ok (.aload_n 0, 1) := by decide +kernel
theorem dX4_sine_44 : decode cX4_sine 44 = .ok (.getfield 36, 3) := by decide +kernel
theorem dX4_sine_47 : decode cX4_sine 47 = .ok (.invokevirtual 167, 3) := by decide +kernel
theorem dX4_sine_50 : decode cX4_sine 50 = .ok (.ifCond .le 5, 3) := by decide +kernel
theorem dX4_sine_53 : decode cX4_sine 53 = .ok (.iconst (-1), 1) := by decide +kernel
theorem dX4_sine_54 : decode cX4_sine 54 = .ok (.ireturn, 1) := by decide +kernel
theorem dX4_sine_55 : decode cX4_sine 55 = .ok (.aload_n 0, 1) := by decide +kernel
theorem dX4_sine_56 : decode cX4_sine 56 = .ok (.getfield 33, 3) := by decide +kernel
theorem dX4_sine_59 : decode cX4_sine 59 = .ok (.aload 4, 2) := by decide +kernel
theorem dX4_sine_61 : decode cX4_sine 61 = .ok (.getfield 85, 3) := by decide +kernel
theorem dX4_sine_64 : decode cX4_sine 64 = .ok (.invokevirtual 118, 3) := by decide +kernel
theorem dX4_sine_67 : decode cX4_sine 67 = .ok (.aload_n 0, 1) := by decide +kernel
theorem dX4_sine_68 : decode cX4_sine 68 = .ok (.getfield 33, 3) := by decide +kernel
theorem dX4_sine_71 : decode cX4_sine 71 = .ok (.bipush 64, 2) := by decide +kernel
theorem dX4_sine_73 : decode cX4_sine 73 = .ok (.invokevirtual 82, 3) := by decide +kernel
theorem dX4_sine_76 : decode cX4_sine 76 = .ok (.iload_n 3, 1) := by decide +kernel
theorem dX4_sine_77 : decode cX4_sine 77 = .ok (.ifCond .eq 40, 3) := by decide +kernel
theorem dX4_sine_80 : decode cX4_sine 80 = .ok (.aload_n 0, 1) := by decide +kernel
theorem dX4_sine_81 : decode cX4_sine 81 = .ok (.getfield 36, 3) := by decide +kernel
theorem dX4_sine_84 : decode cX4_sine 84 = .ok (.aload_n 0, 1) := by decide +kernel
