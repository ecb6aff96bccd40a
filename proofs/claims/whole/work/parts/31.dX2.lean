set_option maxRecDepth 20000 in
theorem ggX2_init_X3_init : GoodIn wsX2_init wsX3_init := goodIn_r _ [23, 24, 2, 3, 25, 26, 42, 43, 44] rfl (by decide +kernel)
set_option maxRecDepth 20000 in
theorem gX2_init_X3_init_n9 : GoodIn wsX2_init (wsX3_init) := ggX2_init_X3_init
set_option maxRecDepth 20000 in
theorem ggX2_init_X1_init : GoodIn wsX2_init wsX1_init := goodIn_r _ [28, 29, 2, 3, 25, 30, 31, 57, 58, 59, 60] rfl (by decide +kernel)
set_option maxRecDepth 20000 in
theorem gX2_init_X1_init_n18 : GoodIn wsX2_init (wsX1_init) := ggX2_init_X1_init
set_option maxRecDepth 20000 in
theorem ggX2_init_X3_becomePower : GoodIn wsX2_init wsX3_becomePower := goodIn_r _ [35, 26, 36, 37, 38, 39, 40, 6, 41, 42, 43, 44] rfl (by decide +kernel)
set_option maxRecDepth 20000 in
theorem gX2_init_X3_becomePower : GoodIn wsX2_init (wsV RX2 54 RX3 yX3_becomePower wsX3_becomePower) := goodIn_app (goodIn_of _ (by decide +kernel)) ggX2_init_X3_becomePower
theorem dX2_init_0 : decode cX2_init 0 = .ok (.aload_n 0, 1) := by decide +kernel
theorem dX2_init_1 : decode cX2_init 1 = .ok (.invokespecial 1, 3) := by decide +kernel
theorem dX2_init_4 : decode cX2_init 4 = .ok (.aload_n 0, 1) := by decide +kernel
theorem dX2_init_5 : decode cX2_init 5 = .ok (.new 7, 3) := by decide +kernel
theorem dX2_init_8 : decode cX2_init 8 = .ok (.dup, 1) := by decide +kernel
theorem dX2_init_9 : decode cX2_init 9 = .ok (.invokespecial 9, 3) := by decide +kernel
theorem dX2_init_12 : decode cX2_init 12 = .ok (.putfield 10, 3) := by decide +kernel
theorem dX2_init_15 : decode cX2_init 15 = .ok (.aload_n 0, 1) := by decide +kernel
theorem dX2_init_16 : decode cX2_init 16 = .ok (.new 16, 3) := by decide +kernel
theorem dX2_init_19 : decode cX2_init 19 = .ok (.dup, 1) := by decide +kernel
theorem dX2_init_20 : decode cX2_init 20 = .ok (.invokespecial 18, 3) := by decide +kernel
theorem dX2_init_23 : decode cX2_init 23 = .ok (.putfield 19, 3) := by decide +kernel
theorem dX2_init_26 : decode cX2_init 26 = .ok (.aload_n 0, 1) := by decide +kernel
theorem dX2_init_27 : decode cX2_init 27 = .ok (.new 7, 3) := by decide +kernel
theorem dX2_init_30 : decode cX2_init 30 = .ok (.dup, 1) := by decide +kernel
theorem dX2_init_31 : decode cX2_init 31 = .ok (.invokespecial 9, 3) := by decide +kernel
theorem dX2_init_34 : decode cX2_init 34 = .ok (.putfield 23, 3) := by decide +kernel
theorem dX2_init_37 : decode cX2_init 37 = .ok (.aload_n 0, 1) := by decide +kernel
theorem dX2_init_38 : decode cX2_init 38 = .ok (.new 7, 3) := by decide +kernel
theorem dX2_init_41 : decode cX2_init 41 = .ok (.dup, 1) := by decide +kernel
theorem dX2_init_42 : decode cX2_init 42 = .ok (.invokespecial 9, 3) := by decide +kernel
theorem dX2_init_45 : decode cX2_init 45 = .ok (.putfield 26, 3) := by decide +kernel
theorem dX2_init_48 : decode cX2_init 48 = .ok (.aload_n 0, 1) := by decide +kernel
theorem dX2_init_49 : decode cX2_init 49 = .ok (.new 7, 3) := by decide +kernel
theorem dX2_init_52 : decode cX2_init 52 = .ok (.dup, 1) := by decide +kernel
theorem dX2_init_53 : decode cX2_init 53 = .ok (.invokespecial 9, 3) := by decide +kernel
theorem dX2_init_56 : decode cX2_init 56 = .ok (.putfield 29, 3) := by decide +kernel
theorem dX2_init_59 : decode cX2_init 59 = .ok (.aload_n 0, 1) := by decide +kernel
theorem dX2_init_60 : decode cX2_init 60 = .ok (.new 7, 3) := by decide +kernel
theorem dX2_init_63 : decode cX2_init 63 = .ok (.dup, 1) := by decide +kernel
theorem dX2_init_64 : decode cX2_init 64 = .ok (.invokespecial 9, 3) := by decide +kernel
theorem dX2_init_67 : decode cX2_init 67 = .ok (.putfield 32, 3) := by decide +kernel
theorem dX2_init_70 : decode cX2_init 70 = .ok (.aload_n 0, 1) := by decide +kernel
theorem dX2_init_71 : decode cX2_init 71 = .ok (.new 7, 3) := by decide +kernel
theorem dX2_init_74 : decode cX2_init 74 = .ok (.dup, 1) := by decide +kernel
theorem dX2_init_75 : decode cX2_init 75 = .ok (.invokespecial 9, 3) := by decide +kernel
theorem dX2_init_78 : decode cX2_init 78 = .ok (.putfield 35, 3) := by decide +kernel
theorem dX2_init_81 : decode cX2_init 81 = .ok (.aload_n 0, 1) := by decide +kernel
theorem dX2_init_82 : decode cX2_init 82 = .ok (.new 7, 3) := by decide +kernel
theorem dX2_init_85 : decode cX2_init 85 = .ok (.dup, 1) := by decide +kernel
theorem dX2_init_86 : decode cX2_init 86 = .ok (.invokespecial 9, 3) := by decide +kernel
theorem dX2_init_89 : decode cX2_init 89 = .ok (.putfield 38, 3) := by decide +kernel
theorem dX2_init_92 : decode cX2_init 92 = .ok (.aload_n 0, 1) := by decide +kernel
theorem dX2_init_93 : decode cX2_init 93 = .ok (.new 7, 3) := by decide +kernel
theorem dX2_init_96 : decode cX2_init 96 = .ok (.dup, 1) := by decide +kernel
theorem dX2_init_97 : decode cX2_init 97 = .ok (.invokespecial 9, 3) := by decide +kernel
theorem dX2_init_100 : decode cX2_init 100 = .ok (.putfield 41, 3) := by decide +kernel
theorem dX2_init_103 : decode cX2_init 103 = .ok (.aload_n 0, 1) := by decide +kernel
theorem dX2_init_104 : decode cX2_init 104 = .ok (.new 7, 3) := by decide +kernel
theorem dX2_init_107 : decode cX2_init 107 = .ok (.dup, 1) := by decide +kernel
theorem dX2_init_108 : decode cX2_init 108 = .ok (.invokespecial 9, 3) := by decide +kernel
theorem dX2_init_111 : decode cX2_init 111 = .ok (.putfield 44, 3) := by decide +kernel
theorem dX2_init_114 : decode cX2_init 114 = .ok (.aload_n 0, 1) := by decide +kernel
theorem dX2_init_115 : decode cX2_init 115 = .ok (.new 7, 3) := by decide +kernel
theorem dX2_init_118 : decode cX2_init 118 = .ok (.dup, 1) := by decide +kernel
theorem dX2_init_119 : decode cX2_init 119 = .ok (.invokespecial 9, 3) := by decide +kernel
theorem dX2_init_122 : decode cX2_init 122 = .ok (.putfield 47, 3) := by decide +kernel
theorem dX2_init_125 : decode cX2_init 125 = .ok (.aload_n 0, 1) := by decide +kernel
theorem dX2_init_126 : decode cX2_init 126 = .ok (.iload_n 1, 1) := by decide +kernel
theorem dX2_init_127 : decode cX2_init 127 = .ok (.putfield 50, 3) := by decide +kernel
theorem dX2_init_130 : decode cX2_init 130 = .ok (.aload_n 0, 1) := by decide +kernel
theorem dX2_init_131 : decode cX2_init 131 = .ok (.getfield 10, 3) := by decide +kernel
theorem dX2_init_134 : decode cX2_init 134 = .ok (.iload_n 1, 1) := by decide +kernel
theorem dX2_init_135 : decode cX2_init 135 = .ok (.invokevirtual 54, 3) := by decide +kernel
theorem dX2_init_138 : decode cX2_init 138 = .ok (.return_, 1) := by decide +kernel
set_option maxRecDepth 20000 in
theorem ggX2_exponential_X3_bits : GoodIn wsX2_exponential wsX3_bits := goodIn_r _ [13, 14, 15, 16, 17, 18, 19, 20, 21, 22, 23, 24, 112, 113, 114] rfl (by decide +kernel)
set_option maxRecDepth 20000 in
theorem gX2_exponential_X3_bits : GoodIn wsX2_exponential (wsV RX2 58 RX3 yX3_bits wsX3_bits) := goodIn_app (goodIn_of _ (by decide +kernel)) ggX2_exponential_X3_bits
set_option maxRecDepth 20000 in
theorem ggX2_exponential_X3_become_ : GoodIn wsX2_exponential wsX3_become_ := goodIn_r _ [28, 15, 14, 29, 30, 31, 32, 33, 112, 113, 114] rfl (by decide +kernel)
set_option maxRecDepth 20000 in
theorem gX2_exponential_X3_become_ : GoodIn wsX2_exponential (wsV RX2 67 RX3 yX3_become_ wsX3_become_) := goodIn_app (goodIn_of _ (by decide +kernel)) ggX2_exponential_X3_become_
set_option maxRecDepth 20000 in
theorem ggX2_exponential_X3_lower : GoodIn wsX2_exponential wsX3_lower := goodIn_r _ [37, 33, 14, 38, 3, 4, 5, 15, 39, 40, 41, 42, 12, 43, 44, 45, 46, 47, 48, 49, 50, 51, 112, 113, 114] rfl (by decide +kernel)
set_option maxRecDepth 20000 in
theorem gX2_exponential_X3_lower : GoodIn wsX2_exponential (wsV RX2 71 RX3 yX3_lower wsX3_lower) := goodIn_app (goodIn_of _ (by decide +kernel)) ggX2_exponential_X3_lower
set_option maxRecDepth 20000 in
theorem ggX2_exponential_X2_scale : GoodIn wsX2_exponential wsX2_scale := goodIn_r _ [56, 57, 1, 58, 59, 60, 12, 61, 14, 15, 39, 33, 62, 63, 64, 65, 44, 45, 46, 47, 34, 35, 36, 37, 38, 3, 4, 5, 40, 41, 42, 43, 48, 49, 50, 51, 25, 26, 27, 28, 29, 30, 31, 32, 100, 101, 102, 103, 104, 105, 106, 107, 108, 109, 110, 111, 112, 113, 114] rfl (by decide +kernel)
set_option maxRecDepth 20000 in
theorem gX2_exponential_X2_scale : GoodIn wsX2_exponential (wsV RX2 74 RX2 yX2_scale wsX2_scale) := goodIn_app (goodIn_of _ (by decide +kernel)) ggX2_exponential_X2_scale
set_option maxRecDepth 20000 in
theorem ggX2_exponential_X3_divide : GoodIn wsX2_exponential wsX3_divide := goodIn_r _ [69, 33, 14, 15, 44, 45, 46, 12, 47, 48, 49, 50, 51, 39, 112, 113, 114] rfl (by decide +kernel)
set_option maxRecDepth 20000 in
theorem gX2_exponential_X3_divide : GoodIn wsX2_exponential (wsV RX2 78 RX3 yX3_divide wsX3_divide) := goodIn_app (goodIn_of _ (by decide +kernel)) ggX2_exponential_X3_divide
set_option maxRecDepth 20000 in
theorem ggX2_exponential_X3_isSpent : GoodIn wsX2_exponential wsX3_isSpent := goodIn_r _ [73, 33, 14, 15, 112, 113, 114] rfl (by decide +kernel)
set_option maxRecDepth 20000 in
theorem gX2_exponential_X3_isSpent : GoodIn wsX2_exponential (wsV RX2 82 RX3 yX3_isSpent wsX3_isSpent) := goodIn_app (goodIn_of _ (by decide +kernel)) ggX2_exponential_X3_isSpent
set_option maxRecDepth 20000 in
theorem ggX2_exponential_X3_sum : GoodIn wsX2_exponential wsX3_sum := goodIn_r _ [77, 33, 78, 79, 80, 12, 81, 82, 83, 84, 85, 14, 38, 3, 4, 5, 15, 39, 86, 87, 88, 89, 90, 91, 22, 92, 93, 94, 18, 95, 96, 97, 98, 99, 44, 45, 46, 47, 112, 113, 114] rfl (by decide +kernel)
set_option maxRecDepth 20000 in
theorem gX2_exponential_X3_sum : GoodIn wsX2_exponential (wsV RX2 86 RX3 yX3_sum wsX3_sum) := goodIn_app (goodIn_of _ (by decide +kernel)) ggX2_exponential_X3_sum
theorem dX2_exponential_0 : decode cX2_exponential 0 = .ok (.iconst 0, 1) := by decide +kernel
theorem dX2_exponential_1 : decode cX2_exponential 1 = .ok (.aload_n 1, 1) := by decide +kernel
theorem dX2_exponential_2 : decode cX2_exponential 2 = .ok (.invokevirtual 58, 3) := by decide +kernel
theorem dX2_exponential_5 : decode cX2_exponential 5 = .ok (.aload_n 0, 1) := by decide +kernel
theorem dX2_exponential_6 : decode cX2_exponential 6 = .ok (.getfield 50, 3) := by decide +kernel
theorem dX2_exponential_9 : decode cX2_exponential 9 = .ok (.bipush 8, 2) := by decide +kernel
theorem dX2_exponential_11 : decode cX2_exponential 11 = .ok (.isub, 1) := by decide +kernel
theorem dX2_exponential_12 : decode cX2_exponential 12 = .ok (.isub, 1) := by decide +kernel
theorem dX2_exponential_13 : decode cX2_exponential 13 = .ok (.invokestatic 61, 3) := by decide +kernel
theorem dX2_exponential_16 : decode cX2_exponential 16 = .ok (.istore_n 2, 1) := by decide +kernel
theorem dX2_exponential_17 : decode cX2_exponential 17 = .ok (.aload_n 0, 1) := by decide +kernel
theorem dX2_exponential_18 : decode cX2_exponential 18 = .ok (.getfield 41, 3) := by decide +kernel
theorem dX2_exponential_21 : decode cX2_exponential 21 = .ok (.aload_n 1, 1) := by decide +kernel
theorem dX2_exponential_22 : decode cX2_exponential 22 = .ok (.invokevirtual 67, 3) := by decide +kernel
theorem dX2_exponential_25 : decode cX2_exponential 25 = .ok (.aload_n 0, 1) := by decide +kernel
theorem dX2_exponential_26 : decode cX2_exponential 26 = .ok (.getfield 41, 3) := by decide +kernel
theorem dX2_exponential_29 : decode cX2_exponential 29 = .ok (.iload_n 2, 1) := by decide +kernel
theorem dX2_exponential_30 : decode cX2_exponential 30 = .ok (.invokevirtual 71, 3) := by decide +kernel
theorem dX2_exponential_33 : decode cX2_exponential 33 = .ok (.aload_n 0, 1) := by decide +kernel
theorem dX2_exponential_34 : decode cX2_exponential 34 = .ok (.getfield 29, 3) := by decide +kernel
theorem dX2_exponential_37 : decode cX2_exponential 37 = .ok (.aload_n 0, 1) := by decide +kernel
theorem dX2_exponential_38 : decode cX2_exponential 38 = .ok (.getfield 10, 3) := by decide +kernel
theorem dX2_exponential_41 : decode cX2_exponential 41 = .ok (.invokevirtual 67, 3) := by decide +kernel
theorem dX2_exponential_44 : decode cX2_exponential 44 = .ok (.aload_n 1, 1) := by decide +kernel
theorem dX2_exponential_45 : decode cX2_exponential 45 = .ok (.aload_n 0, 1) := by decide +kernel
theorem dX2_exponential_46 : decode cX2_exponential 46 = .ok (.getfield 10, 3) := by decide +kernel
theorem dX2_exponential_49 : decode cX2_exponential 49 = .ok (.invokevirtual 67, 3) := by decide +kernel
theorem dX2_exponential_52 : decode cX2_exponential 52 = .ok (.iconst 1, 1) := by decide +kernel
theorem dX2_exponential_53 : decode cX2_exponential 53 = .ok (.istore_n 3, 1) := by decide +kernel
theorem dX2_exponential_54 : decode cX2_exponential 54 = .ok (.iload_n 3, 1) := by decide +kernel
theorem dX2_exponential_55 : decode cX2_exponential 55 = .ok (.sipush 10000, 3) := by decide +kernel
theorem dX2_exponential_58 : decode cX2_exponential 58 = .ok (.if_icmp .ge 52, 3) := by decide +kernel
theorem dX2_exponential_61 : decode cX2_exponential 61 = .ok (.aload_n 0, 1) := by decide +kernel
theorem dX2_exponential_62 : decode cX2_exponential 62 = .ok (.aload_n 0, 1) := by decide +kernel
theorem dX2_exponential_63 : decode cX2_exponential 63 = .ok (.getfield 29, 3) := by decide +kernel
theorem dX2_exponential_66 : decode cX2_exponential 66 = .ok (.aload_n 0, 1) := by decide +kernel
theorem dX2_exponential_67 : decode cX2_exponential 67 = .ok (.getfield 41, 3) := by decide +kernel
theorem dX2_exponential_70 : decode cX2_exponential 70 = .ok (.invokevirtual 74, 3) := by decide +kernel
theorem dX2_exponential_73 : decode cX2_exponential 73 = .ok (.aload_n 0, 1) := by decide +kernel
theorem dX2_exponential_74 : decode cX2_exponential 74 = .ok (.getfield 29, 3) := by decide +kernel
theorem dX2_exponential_77 : decode cX2_exponential 77 = .ok (.iload_n 3, 1) := by decide +kernel
theorem dX2_exponential_78 : decode cX2_exponential 78 = .ok (.invokevirtual 78, 3) := by decide +kernel
theorem dX2_exponential_81 : decode cX2_exponential 81 = .ok (.pop, 1) := by decide +kernel
theorem dX2_exponential_82 : decode cX2_exponential 82 = .ok (.aload_n 0, 1) := by decide +kernel
theorem dX2_exponential_83 : decode cX2_exponential 83 = .ok (.getfield 29, 3) := by decide +kernel
theorem dX2_exponential_86 : decode cX2_exponential 86 = .ok (.invokevirtual 82, 3) := by decide +kernel
theorem dX2_exponential_89 : decode cX2_exponential 89 = .ok (.ifCond .eq 6, 3) := by decide +kernel
theorem dX2_exponential_92 : decode cX2_exponential 92 = .ok (.goto 18, 3) := by decide +kernel
theorem dX2_exponential_95 : decode cX2_exponential 95 = .ok (.aload_n 1, 1) := by decide +kernel
theorem dX2_exponential_96 : decode cX2_exponential 96 = .ok (.aload_n 1, 1) := by decide +kernel
theorem dX2_exponential_97 : decode cX2_exponential 97 = .ok (.aload_n 0, 1) := by decide +kernel
theorem dX2_exponential_98 : decode cX2_exponential 98 = .ok (.getfield 29, 3) := by decide +kernel
theorem dX2_exponential_101 : decode cX2_exponential 101 = .ok (.invokevirtual 86, 3) := by decide +kernel
theorem dX2_exponential_104 : decode cX2_exponential 104 = .ok (.iinc 3 1, 3) := by decide +kernel
theorem dX2_exponential_107 : decode cX2_exponential 107 = .ok (.goto (-53), 3) := by decide +kernel
theorem dX2_exponential_110 : decode cX2_exponential 110 = .ok (.iconst 0, 1) := by decide +kernel
theorem dX2_exponential_111 : decode cX2_exponential 111 = .ok (.istore_n 3, 1) := by decide +kernel
theorem dX2_exponential_112 : decode cX2_exponential 112 = .ok (.iload_n 3, 1) := by decide +kernel
theorem dX2_exponential_113 : decode cX2_exponential 113 = .ok (.iload_n 2, 1) := by decide +kernel
theorem dX2_exponential_114 : decode cX2_exponential 114 = .ok (.if_icmp .ge 15, 3) := by decide +kernel
theorem dX2_exponential_117 : decode cX2_exponential 117 = .ok (.aload_n 0, 1) := by decide +kernel
theorem dX2_exponential_118 : decode cX2_exponential 118 = .ok (.aload_n 1, 1) := by decide +kernel
theorem dX2_exponential_119 : decode cX2_exponential 119 = .ok (.aload_n 1, 1) := by decide +kernel
theorem dX2_exponential_120 : decode cX2_exponential 120 = .ok (.invokevirtual 74, 3) := by decide +kernel
theorem dX2_exponential_123 : decode cX2_exponential 123 = .ok (.iinc 3 1, 3) := by decide +kernel
theorem dX2_exponential_126 : decode cX2_exponential 126 = .ok (.goto (-14), 3) := by decide +kernel
theorem dX2_exponential_129 : decode cX2_exponential 129 = .ok (.return_, 1) := by decide +kernel
set_option maxRecDepth 20000 in
theorem ggX2_logarithm_X3_become_ : GoodIn wsX2_logarithm wsX3_become_ := goodIn_r _ [13, 14, 15, 16, 17, 18, 19, 20, 201, 202, 203] rfl (by decide +kernel)
set_option maxRecDepth 20000 in
theorem gX2_logarithm_X3_become_ : GoodIn wsX2_logarithm (wsV RX2 67 RX3 yX3_become_ wsX3_become_) := goodIn_app (goodIn_of _ (by decide +kernel)) ggX2_logarithm_X3_become_
set_option maxRecDepth 20000 in
theorem ggX2_logarithm_X3_multiply : GoodIn wsX2_logarithm wsX3_multiply := goodIn_r _ [24, 25, 26, 5, 27, 15, 14, 28, 20, 29, 30, 31, 32, 33, 34, 35, 12, 36, 201, 202, 203] rfl (by decide +kernel)
set_option maxRecDepth 20000 in
theorem gX2_logarithm_X3_multiply : GoodIn wsX2_logarithm (wsV RX2 89 RX3 yX3_multiply wsX3_multiply) := goodIn_app (goodIn_of _ (by decide +kernel)) ggX2_logarithm_X3_multiply
set_option maxRecDepth 20000 in
theorem ggX2_logarithm_X3_bits : GoodIn wsX2_logarithm wsX3_bits := goodIn_r _ [40, 15, 14, 41, 42, 43, 44, 45, 46, 31, 47, 48, 201, 202, 203] rfl (by decide +kernel)
set_option maxRecDepth 20000 in
theorem gX2_logarithm_X3_bits : GoodIn wsX2_logarithm (wsV RX2 58 RX3 yX3_bits wsX3_bits) := goodIn_app (goodIn_of _ (by decide +kernel)) ggX2_logarithm_X3_bits
set_option maxRecDepth 20000 in
theorem ggX2_logarithm_X3_raise : GoodIn wsX2_logarithm wsX3_raise := goodIn_r _ [52, 15, 14, 53, 54, 55, 12, 56, 28, 57, 58, 59, 60, 33, 34, 35, 36, 20, 201, 202, 203] rfl (by decide +kernel)
set_option maxRecDepth 20000 in
theorem gX2_logarithm_X3_raise : GoodIn wsX2_logarithm (wsV RX2 92 RX3 yX3_raise wsX3_raise) := goodIn_app (goodIn_of _ (by decide +kernel)) ggX2_logarithm_X3_raise
set_option maxRecDepth 20000 in
theorem ggX2_logarithm_X3_becomePower : GoodIn wsX2_logarithm wsX3_becomePower := goodIn_r _ [64, 14, 15, 20, 65, 66, 67, 12, 68, 201, 202, 203] rfl (by decide +kernel)
set_option maxRecDepth 20000 in
theorem gX2_logarithm_X3_becomePower : GoodIn wsX2_logarithm (wsV RX2 54 RX3 yX3_becomePower wsX3_becomePower) := goodIn_app (goodIn_of _ (by decide +kernel)) ggX2_logarithm_X3_becomePower
set_option maxRecDepth 20000 in
theorem ggX2_logarithm_X3_difference : GoodIn wsX2_logarithm wsX3_difference := goodIn_r _ [72, 20, 73, 74, 75, 12, 76, 77, 78, 79, 80, 15, 81, 4, 5, 6, 14, 28, 82, 83, 84, 85, 86, 87, 31, 88, 89, 90, 43, 91, 92, 93, 94, 95, 33, 34, 35, 36, 201, 202, 203] rfl (by decide +kernel)
set_option maxRecDepth 20000 in
theorem gX2_logarithm_X3_difference : GoodIn wsX2_logarithm (wsV RX2 95 RX3 yX3_difference wsX3_difference) := goodIn_app (goodIn_of _ (by decide +kernel)) ggX2_logarithm_X3_difference
set_option maxRecDepth 20000 in
theorem ggX2_logarithm_X3_sum : GoodIn wsX2_logarithm wsX3_sum := goodIn_r _ [99, 20, 73, 74, 75, 12, 76, 77, 78, 79, 80, 15, 81, 4, 5, 6, 14, 28, 82, 83, 84, 85, 86, 87, 31, 88, 89, 90, 43, 91, 92, 93, 94, 95, 33, 34, 35, 36, 201, 202, 203] rfl (by decide +kernel)
set_option maxRecDepth 20000 in
theorem gX2_logarithm_X3_sum : GoodIn wsX2_logarithm (wsV RX2 86 RX3 yX3_sum wsX3_sum) := goodIn_app (goodIn_of _ (by decide +kernel)) ggX2_logarithm_X3_sum
set_option maxRecDepth 20000 in
theorem ggX2_logarithm_X1_quotient : GoodIn wsX2_logarithm wsX1_quotient := goodIn_r _ [104, 105, 106, 107, 4, 5, 6, 108, 109, 110, 111, 112, 12, 113, 20, 114, 66, 67, 68, 15, 115, 116, 117, 118, 119, 38, 39, 40, 14, 41, 42, 43, 44, 45, 46, 31, 47, 48, 120, 54, 55, 56, 28, 57, 58, 59, 60, 121, 122, 123, 103, 124, 125, 126, 127, 128, 129, 130, 131, 132, 133, 134, 135, 136, 137, 138, 139, 140, 141, 142, 143, 34, 35, 36, 144, 145, 146, 147, 204, 205, 206, 207, 201, 202, 203] rfl (by decide +kernel)
set_option maxRecDepth 20000 in
theorem gX2_logarithm_X1_quotient : GoodIn wsX2_logarithm (wsV RX2 98 RX1 yX1_quotient wsX1_quotient) := goodIn_app (goodIn_of _ (by decide +kernel)) ggX2_logarithm_X1_quotient
set_option maxRecDepth 20000 in
theorem ggX2_logarithm_X2_sumOfRow : GoodIn wsX2_logarithm wsX2_sumOfRow := goodIn_r _ [152, 153, 154, 1, 9, 10, 11, 12, 13, 14, 15, 16, 17, 18, 19, 20, 155, 156, 157, 151, 158, 159, 2, 160, 161, 162, 163, 28, 65, 66, 67, 68, 33, 34, 35, 36, 164, 165, 166, 167, 81, 4, 5, 6, 168, 169, 170, 171, 172, 145, 146, 147, 173, 174, 175, 176, 177, 178, 179, 180, 181, 69, 70, 71, 72, 73, 74, 75, 76, 77, 78, 79, 80, 82, 83, 84, 85, 86, 87, 31, 88, 89, 90, 43, 91, 92, 93, 94, 95, 96, 97, 98, 99, 189, 190, 191, 192, 193, 194, 195, 196, 197, 198, 199, 200, 201, 202, 203] rfl (by decide +kernel)
set_option maxRecDepth 20000 in
theorem gX2_logarithm_X2_sumOfRow : GoodIn wsX2_logarithm (wsV RX2 102 RX2 yX2_sumOfRow wsX2_sumOfRow) := goodIn_app (goodIn_of _ (by decide +kernel)) ggX2_logarithm_X2_sumOfRow
set_option maxRecDepth 20000 in
theorem ggX2_logarithm_X2_logOfTwo : GoodIn wsX2_logarithm wsX2_logOfTwo := goodIn_r _ [185, 186, 187, 188, 111, 112, 12, 113, 20, 9, 10, 11, 13, 14, 15, 16, 17, 18, 19, 178, 179, 180, 181, 33, 34, 35, 36, 172, 145, 146, 147, 28, 148, 149, 150, 151, 152, 153, 154, 1, 155, 156, 157, 158, 159, 2, 160, 161, 162, 163, 65, 66, 67, 68, 164, 165, 166, 167, 81, 4, 5, 6, 168, 169, 170, 171, 173, 174, 175, 176, 177, 69, 70, 71, 72, 73, 74, 75, 76, 77, 78, 79, 80, 82, 83, 84, 85, 86, 87, 31, 88, 89, 90, 43, 91, 92, 93, 94, 95, 96, 97, 98, 99, 49, 50, 51, 52, 53, 54, 55, 56, 57, 58, 59, 60, 189, 190, 191, 192, 193, 194, 195, 196, 197, 198, 199, 200, 201, 202, 203] rfl (by decide +kernel)
set_option maxRecDepth 20000 in
theorem gX2_logarithm_X2_logOfTwo : GoodIn wsX2_logarithm (wsV RX2 106 RX2 yX2_logOfTwo wsX2_logOfTwo) := goodIn_app (goodIn_of _ (by decide +kernel)) ggX2_logarithm_X2_logOfTwo
theorem dX2_logarithm_0 : decode cX2_logarithm 0 = .ok (.aload_n 0, 1) := by decide +kernel
theorem dX2_logarithm_1 : decode cX2_logarithm 1 = .ok (.getfield 35, 3) := by decide +kernel
theorem dX2_logarithm_4 : decode cX2_logarithm 4 = .ok (.aload_n 1, 1) := by decide +kernel
theorem dX2_logarithm_5 : decode cX2_logarithm 5 = .ok (.invokevirtual 67, 3) := by decide +kernel
theorem dX2_logarithm_8 : decode cX2_logarithm 8 = .ok (.aload_n 0, 1) := by decide +kernel
theorem dX2_logarithm_9 : decode cX2_logarithm 9 = .ok (.getfield 35, 3) := by decide +kernel
theorem dX2_logarithm_12 : decode cX2_logarithm 12 = .ok (.iconst 3, 1) := by decide +kernel
theorem dX2_logarithm_13 : decode cX2_logarithm 13 = .ok (.invokevirtual 89, 3) := by decide +kernel
theorem dX2_logarithm_16 : decode cX2_logarithm 16 = .ok (.aload_n 0, 1) := by decide +kernel
theorem dX2_logarithm_17 : decode cX2_logarithm 17 = .ok (.getfield 35, 3) := by decide +kernel
theorem dX2_logarithm_20 : decode cX2_logarithm 20 = .ok (.invokevirtual 58, 3) := by decide +kernel
theorem dX2_logarithm_23 : decode cX2_logarithm 23 = .ok (.aload_n 0, 1) := by decide +kernel
theorem dX2_logarithm_24 : decode cX2_logarithm 24 = .ok (.getfield 50, 3) := by decide +kernel
theorem dX2_logarithm_27 : decode cX2_logarithm 27 = .ok (.isub, 1) := by decide +kernel
theorem dX2_logarithm_28 : decode cX2_logarithm 28 = .ok (.iconst 2, 1) := by decide +kernel
theorem dX2_logarithm_29 : decode cX2_logarithm 29 = .ok (.isub, 1) := by decide +kernel
theorem dX2_logarithm_30 : decode cX2_logarithm 30 = .ok (.istore_n 2, 1) := by decide +kernel
theorem dX2_logarithm_31 : decode cX2_logarithm 31 = .ok (.aload_n 1, 1) := by decide +kernel
theorem dX2_logarithm_32 : decode cX2_logarithm 32 = .ok (.iconst 0, 1) := by decide +kernel
theorem dX2_logarithm_33 : decode cX2_logarithm 33 = .ok (.iload_n 2, 1) := by decide +kernel
theorem dX2_logarithm_34 : decode cX2_logarithm 34 = .ok (.ineg, 1) := by decide +kernel
theorem dX2_logarithm_35 : decode cX2_logarithm 35 = .ok (.invokestatic 61, 3) := by decide +kernel
theorem dX2_logarithm_38 : decode cX2_logarithm 38 = .ok (.invokevirtual 92, 3) := by decide +kernel
theorem dX2_logarithm_41 : decode cX2_logarithm 41 = .ok (.aload_n 0, 1) := by decide +kernel
theorem dX2_logarithm_42 : decode cX2_logarithm 42 = .ok (.getfield 35, 3) := by decide +kernel
theorem dX2_logarithm_45 : decode cX2_logarithm 45 = .ok (.aload_n 0, 1) := by decide +kernel
theorem dX2_logarithm_46 : decode cX2_logarithm 46 = .ok (.getfield 50, 3) := by decide +kernel
theorem dX2_logarithm_49 : decode cX2_logarithm 49 = .ok (.iconst 0, 1) := by decide +kernel
theorem dX2_logarithm_50 : decode cX2_logarithm 50 = .ok (.iload_n 2, 1) := by decide +kernel
theorem dX2_logarithm_51 : decode cX2_logarithm 51 = .ok (.invokestatic 61, 3) := by decide +kernel
theorem dX2_logarithm_54 : decode cX2_logarithm 54 = .ok (.iadd, 1) := by decide +kernel
theorem dX2_logarithm_55 : decode cX2_logarithm 55 = .ok (.invokevirtual 54, 3) := by decide +kernel
theorem dX2_logarithm_58 : decode cX2_logarithm 58 = .ok (.aload_n 0, 1) := by decide +kernel
theorem dX2_logarithm_59 : decode cX2_logarithm 59 = .ok (.getfield 41, 3) := by decide +kernel
theorem dX2_logarithm_62 : decode cX2_logarithm 62 = .ok (.aload_n 1, 1) := by decide +kernel
theorem dX2_logarithm_63 : decode cX2_logarithm 63 = .ok (.aload_n 0, 1) := by decide +kernel
theorem dX2_logarithm_64 : decode cX2_logarithm 64 = .ok (.getfield 35, 3) := by decide +kernel
theorem dX2_logarithm_67 : decode cX2_logarithm 67 = .ok (.invokevirtual 95, 3) := by decide +kernel
theorem dX2_logarithm_70 : decode cX2_logarithm 70 = .ok (.aload_n 0, 1) := by decide +kernel
theorem dX2_logarithm_71 : decode cX2_logarithm 71 = .ok (.getfield 41, 3) := by decide +kernel
theorem dX2_logarithm_74 : decode cX2_logarithm 74 = .ok (.aload_n 0, 1) := by decide +kernel
theorem dX2_logarithm_75 : decode cX2_logarithm 75 = .ok (.getfield 50, 3) := by decide +kernel
theorem dX2_logarithm_78 : decode cX2_logarithm 78 = .ok (.invokevirtual 92, 3) := by decide +kernel
theorem dX2_logarithm_81 : decode cX2_logarithm 81 = .ok (.aload_n 1, 1) := by decide +kernel
theorem dX2_logarithm_82 : decode cX2_logarithm 82 = .ok (.aload_n 1, 1) := by decide +kernel
theorem dX2_logarithm_83 : decode cX2_logarithm 83 = .ok (.aload_n 0, 1) := by decide +kernel
theorem dX2_logarithm_84 : decode cX2_logarithm 84 = .ok (.getfield 35, 3) := by decide +kernel
theorem dX2_logarithm_87 : decode cX2_logarithm 87 = .ok (.invokevirtual 86, 3) := by decide +kernel
theorem dX2_logarithm_90 : decode cX2_logarithm 90 = .ok (.aload_n 0, 1) := by decide +kernel
theorem dX2_logarithm_91 : decode cX2_logarithm 91 = .ok (.getfield 19, 3) := by decide +kernel
theorem dX2_logarithm_94 : decode cX2_logarithm 94 = .ok (.aload_n 1, 1) := by decide +kernel
theorem dX2_logarithm_95 : decode cX2_logarithm 95 = .ok (.aload_n 0, 1) := by decide +kernel
theorem dX2_logarithm_96 : decode cX2_logarithm 96 = .ok (.getfield 41, 3) := by decide +kernel
theorem dX2_logarithm_99 : decode cX2_logarithm 99 = .ok (.aload_n 1, 1) := by decide +kernel
theorem dX2_logarithm_100 : decode cX2_logarithm 100 = .ok (.invokevirtual 98, 3) := by decide +kernel
theorem dX2_logarithm_103 : decode cX2_logarithm 103 = .ok (.pop, 1) := by decide +kernel
theorem dX2_logarithm_104 : decode cX2_logarithm 104 = .ok (.aload_n 0, 1) := by decide +kernel
theorem dX2_logarithm_105 : decode cX2_logarithm 105 = .ok (.aload_n 1, 1) := by decide +kernel
theorem dX2_logarithm_106 : decode cX2_logarithm 106 = .ok (.iconst 0, 1) := by decide +kernel
theorem dX2_logarithm_107 : decode cX2_logarithm 107 = .ok (.invokevirtual 102, 3) := by decide +kernel
theorem dX2_logarithm_110 : decode cX2_logarithm 110 = .ok (.aload_n 1, 1) := by decide +kernel
theorem dX2_logarithm_111 : decode cX2_logarithm 111 = .ok (.iconst 1, 1) := by decide +kernel
theorem dX2_logarithm_112 : decode cX2_logarithm 112 = .ok (.invokevirtual 92, 3) := by decide +kernel
theorem dX2_logarithm_115 : decode cX2_logarithm 115 = .ok (.aload_n 0, 1) := by decide +kernel
theorem dX2_logarithm_116 : decode cX2_logarithm 116 = .ok (.getfield 41, 3) := by decide +kernel
theorem dX2_logarithm_119 : decode cX2_logarithm 119 = .ok (.aload_n 0, 1) := by decide +kernel
theorem dX2_logarithm_120 : decode cX2_logarithm 120 = .ok (.invokevirtual 106, 3) := by decide +kernel
theorem dX2_logarithm_123 : decode cX2_logarithm 123 = .ok (.invokevirtual 67, 3) := by decide +kernel
theorem dX2_logarithm_126 : decode cX2_logarithm 126 = .ok (.aload_n 0, 1) := by decide +kernel
theorem dX2_logarithm_127 : decode cX2_logarithm 127 = .ok (.getfield 41, 3) := by decide +kernel
theorem dX2_logarithm_130 : decode cX2_logarithm 130 = .ok (.iload_n 2, 1) := by decide +kernel
theorem dX2_logarithm_131 : decode cX2_logarithm 131 = .ok (.invokevirtual 89, 3) := by decide +kernel
theorem dX2_logarithm_134 : decode cX2_logarithm 134 = .ok (.aload_n 1, 1) := by decide +kernel
theorem dX2_logarithm_135 : decode cX2_logarithm 135 = .ok (.aload_n 1, 1) := by decide +kernel
theorem dX2_logarithm_136 : decode cX2_logarithm 136 = .ok (.aload_n 0, 1) := by decide +kernel
theorem dX2_logarithm_137 : decode cX2_logarithm 137 = .ok (.getfield 41, 3) := by decide +kernel
theorem dX2_logarithm_140 : decode cX2_logarithm 140 = .ok (.invokevirtual 86, 3) := by decide +kernel
theorem dX2_logarithm_143 : decode cX2_logarithm 143 = .ok (.return_, 1) := by decide +kernel
set_option maxRecDepth 20000 in
theorem ggX2_arcOf_X3_sign : GoodIn wsX2_arcOf wsX3_sign := goodIn_r _ [9, 10, 215, 216, 217] rfl (by decide +kernel)
set_option maxRecDepth 20000 in
theorem gX2_arcOf_X3_sign : GoodIn wsX2_arcOf (wsV RX2 109 RX3 yX3_sign wsX3_sign) := goodIn_app (goodIn_of _ (by decide +kernel)) ggX2_arcOf_X3_sign
set_option maxRecDepth 20000 in
theorem ggX2_arcOf_X3_dropSign : GoodIn wsX2_arcOf wsX3_dropSign := goodIn_r _ [14, 10, 15, 16, 17, 18, 215, 216, 217] rfl (by decide +kernel)
set_option maxRecDepth 20000 in
theorem gX2_arcOf_X3_dropSign : GoodIn wsX2_arcOf (wsV RX2 112 RX3 yX3_dropSign wsX3_dropSign) := goodIn_app (goodIn_of _ (by decide +kernel)) ggX2_arcOf_X3_dropSign
set_option maxRecDepth 20000 in
theorem ggX2_arcOf_X3_order : GoodIn wsX2_arcOf wsX3_order := goodIn_r _ [22, 10, 23, 24, 25, 26, 27, 28, 29, 8, 30, 31, 32, 33, 34, 35, 36, 215, 216, 217] rfl (by decide +kernel)
set_option maxRecDepth 20000 in
theorem gX2_arcOf_X3_order : GoodIn wsX2_arcOf (wsV RX2 115 RX3 yX3_order wsX3_order) := goodIn_app (goodIn_of _ (by decide +kernel)) ggX2_arcOf_X3_order
set_option maxRecDepth 20000 in
theorem ggX2_arcOf_X3_becomePower : GoodIn wsX2_arcOf wsX3_becomePower := goodIn_r _ [40, 32, 31, 10, 41, 42, 43, 8, 44, 215, 216, 217] rfl (by decide +kernel)
set_option maxRecDepth 20000 in
theorem gX2_arcOf_X3_becomePower : GoodIn wsX2_arcOf (wsV RX2 54 RX3 yX3_becomePower wsX3_becomePower) := goodIn_app (goodIn_of _ (by decide +kernel)) ggX2_arcOf_X3_becomePower
set_option maxRecDepth 20000 in
theorem ggX2_arcOf_X1_quotient : GoodIn wsX2_arcOf wsX1_quotient := goodIn_r _ [49, 50, 51, 52, 53, 17, 54, 55, 56, 57, 6, 7, 8, 9, 10, 58, 42, 43, 44, 31, 59, 60, 61, 62, 63, 64, 65, 66, 32, 67, 68, 35, 69, 70, 71, 25, 72, 73, 74, 75, 76, 77, 78, 79, 80, 81, 82, 83, 84, 85, 48, 86, 87, 88, 89, 90, 91, 92, 93, 94, 95, 96, 97, 98, 99, 100, 101, 102, 103, 104, 105, 106, 107, 108, 109, 110, 111, 112, 218, 219, 220, 221, 215, 216, 217] rfl (by decide +kernel)
set_option maxRecDepth 20000 in
theorem gX2_arcOf_X1_quotient : GoodIn wsX2_arcOf (wsV RX2 98 RX1 yX1_quotient wsX1_quotient) := goodIn_app (goodIn_of _ (by decide +kernel)) ggX2_arcOf_X1_quotient
set_option maxRecDepth 20000 in
theorem ggX2_arcOf_X2_halveArc : GoodIn wsX2_arcOf wsX2_halveArc := goodIn_r _ [117, 2, 118, 3, 1, 4, 119, 120, 121, 8, 122, 31, 32, 78, 10, 41, 42, 43, 44, 123, 106, 107, 108, 37, 38, 39, 40, 124, 125, 126, 127, 128, 129, 130, 131, 132, 133, 134, 135, 136, 53, 17, 54, 27, 28, 29, 30, 23, 24, 25, 26, 33, 34, 35, 36, 137, 138, 139, 140, 141, 142, 143, 116, 144, 145, 146, 5, 6, 7, 9, 147, 148, 64, 65, 66, 67, 68, 69, 70, 71, 72, 73, 45, 46, 47, 48, 49, 50, 51, 52, 55, 56, 57, 58, 59, 60, 61, 62, 63, 74, 75, 76, 77, 79, 80, 81, 82, 83, 84, 85, 86, 87, 88, 89, 90, 91, 92, 93, 94, 95, 96, 97, 98, 99, 100, 101, 102, 103, 104, 105, 109, 110, 111, 112, 149, 150, 151, 152, 153, 154, 155, 156, 157, 19, 20, 21, 22, 158, 159, 160, 161, 162, 163, 164, 165, 166, 167, 168, 169, 170, 203, 204, 205, 206, 207, 208, 209, 210, 211, 212, 213, 214, 215, 216, 217, 218, 219, 220, 221] rfl (by decide +kernel)
set_option maxRecDepth 20000 in
theorem gX2_arcOf_X2_halveArc : GoodIn wsX2_arcOf (wsV RX2 119 RX2 yX2_halveArc wsX2_halveArc) := goodIn_app (goodIn_of _ (by decide +kernel)) ggX2_arcOf_X2_halveArc
set_option maxRecDepth 20000 in
theorem ggX2_arcOf_X2_sumOfRow : GoodIn wsX2_arcOf wsX2_sumOfRow := goodIn_r _ [174, 175, 176, 118, 158, 159, 160, 8, 161, 32, 31, 162, 163, 164, 165, 10, 177, 178, 179, 116, 180, 181, 3, 119, 120, 121, 122, 78, 41, 42, 43, 44, 123, 106, 107, 108, 149, 150, 151, 152, 136, 53, 17, 54, 153, 154, 155, 156, 157, 110, 111, 112, 147, 182, 183, 184, 185, 186, 187, 188, 189, 190, 191, 192, 193, 128, 129, 130, 131, 132, 133, 134, 135, 27, 28, 29, 30, 23, 24, 25, 26, 33, 34, 35, 36, 137, 138, 139, 140, 124, 125, 126, 127, 203, 204, 205, 206, 207, 208, 209, 210, 211, 212, 213, 214, 215, 216, 217] rfl (by decide +kernel)
set_option maxRecDepth 20000 in
theorem gX2_arcOf_X2_sumOfRow : GoodIn wsX2_arcOf (wsV RX2 102 RX2 yX2_sumOfRow wsX2_sumOfRow) := goodIn_app (goodIn_of _ (by decide +kernel)) ggX2_arcOf_X2_sumOfRow
set_option maxRecDepth 20000 in
theorem ggX2_arcOf_X3_raise : GoodIn wsX2_arcOf wsX3_raise := goodIn_r _ [169, 31, 32, 170, 75, 76, 8, 77, 78, 79, 80, 81, 82, 123, 106, 107, 108, 10, 215, 216, 217] rfl (by decide +kernel)
set_option maxRecDepth 20000 in
theorem gX2_arcOf_X3_raise : GoodIn wsX2_arcOf (wsV RX2 92 RX3 yX3_raise wsX3_raise) := goodIn_app (goodIn_of _ (by decide +kernel)) ggX2_arcOf_X3_raise
set_option maxRecDepth 20000 in
theorem ggX2_arcOf_X2_halfTurn : GoodIn wsX2_arcOf wsX2_halfTurn := goodIn_r _ [197, 198, 1, 2, 5, 6, 7, 8, 9, 10, 158, 159, 160, 161, 32, 31, 162, 163, 164, 165, 186, 187, 188, 189, 123, 106, 107, 108, 157, 110, 111, 112, 78, 171, 172, 173, 116, 174, 175, 176, 118, 177, 178, 179, 180, 181, 3, 119, 120, 121, 122, 41, 42, 43, 44, 149, 150, 151, 152, 136, 53, 17, 54, 153, 154, 155, 156, 147, 182, 183, 184, 185, 190, 191, 192, 193, 128, 129, 130, 131, 132, 133, 134, 135, 27, 28, 29, 30, 23, 24, 25, 26, 33, 34, 35, 36, 137, 138, 139, 140, 124, 125, 126, 127, 166, 167, 168, 169, 170, 75, 76, 77, 79, 80, 81, 82, 203, 204, 205, 206, 207, 208, 209, 210, 211, 212, 213, 214, 215, 216, 217] rfl (by decide +kernel)
set_option maxRecDepth 20000 in
theorem gX2_arcOf_X2_halfTurn : GoodIn wsX2_arcOf (wsV RX2 122 RX2 yX2_halfTurn wsX2_halfTurn) := goodIn_app (goodIn_of _ (by decide +kernel)) ggX2_arcOf_X2_halfTurn
set_option maxRecDepth 20000 in
theorem ggX2_arcOf_X3_become_ : GoodIn wsX2_arcOf wsX3_become_ := goodIn_r _ [161, 32, 31, 162, 163, 164, 165, 10, 215, 216, 217] rfl (by decide +kernel)
set_option maxRecDepth 20000 in
theorem gX2_arcOf_X3_become_ : GoodIn wsX2_arcOf (wsV RX2 67 RX3 yX3_become_ wsX3_become_) := goodIn_app (goodIn_of _ (by decide +kernel)) ggX2_arcOf_X3_become_
set_option maxRecDepth 20000 in
theorem ggX2_arcOf_X3_lower : GoodIn wsX2_arcOf wsX3_lower := goodIn_r _ [152, 10, 31, 136, 53, 17, 54, 32, 78, 153, 154, 155, 8, 156, 123, 106, 107, 108, 157, 110, 111, 112, 215, 216, 217] rfl (by decide +kernel)
set_option maxRecDepth 20000 in
theorem gX2_arcOf_X3_lower : GoodIn wsX2_arcOf (wsV RX2 71 RX3 yX3_lower wsX3_lower) := goodIn_app (goodIn_of _ (by decide +kernel)) ggX2_arcOf_X3_lower
set_option maxRecDepth 20000 in
theorem ggX2_arcOf_X3_difference : GoodIn wsX2_arcOf wsX3_difference := goodIn_r _ [193, 10, 128, 129, 130, 8, 131, 132, 133, 134, 135, 31, 136, 53, 17, 54, 32, 78, 27, 28, 29, 30, 23, 24, 25, 26, 33, 34, 35, 36, 137, 138, 139, 140, 123, 106, 107, 108, 215, 216, 217] rfl (by decide +kernel)
set_option maxRecDepth 20000 in
theorem gX2_arcOf_X3_difference : GoodIn wsX2_arcOf (wsV RX2 95 RX3 yX3_difference wsX3_difference) := goodIn_app (goodIn_of _ (by decide +kernel)) ggX2_arcOf_X3_difference
set_option maxRecDepth 20000 in
theorem ggX2_arcOf_X3_turn : GoodIn wsX2_arcOf wsX3_turn := goodIn_r _ [202, 10, 215, 216, 217] rfl (by decide +kernel)
set_option maxRecDepth 20000 in
theorem gX2_arcOf_X3_turn : GoodIn wsX2_arcOf (wsV RX2 124 RX3 yX3_turn wsX3_turn) := goodIn_app (goodIn_of _ (by decide +kernel)) ggX2_arcOf_X3_turn
theorem dX2_arcOf_0 : decode cX2_arcOf 0 = .ok (.aload_n 1, 1) := by decide +kernel
theorem dX2_arcOf_1 : decode cX2_arcOf 1 = .ok (.invokevirtual 109, 3) := by decide +kernel
theorem dX2_arcOf_4 : decode cX2_arcOf 4 = .ok (.ifCond .ge 7, 3) := by decide +kernel
theorem dX2_arcOf_7 : decode cX2_arcOf 7 = .ok (.iconst 1, 1) := by decide +kernel
theorem dX2_arcOf_8 : decode cX2_arcOf 8 = .ok (.goto 4, 3) := by decide +kernel
theorem dX2_arcOf_11 : decode cX2_arcOf 11 = .ok (.iconst 0, 1) := by decide +kernel
theorem dX2_arcOf_12 : decode cX2_arcOf 12 = .ok (.istore_n 2, 1) := by decide +kernel
theorem dX2_arcOf_13 : decode cX2_arcOf 13 = .ok (.aload_n 1, 1) := by decide +kernel
theorem dX2_arcOf_14 : decode cX2_arcOf 14 = .ok (.invokevirtual 112, 3) := by decide +kernel
theorem dX2_arcOf_17 : decode cX2_arcOf 17 = .ok (.aload_n 1, 1) := by decide +kernel
theorem dX2_arcOf_18 : decode cX2_arcOf 18 = .ok (.aload_n 0, 1) := by decide +kernel
theorem dX2_arcOf_19 : decode cX2_arcOf 19 = .ok (.getfield 10, 3) := by decide +kernel
theorem dX2_arcOf_22 : decode cX2_arcOf 22 = .ok (.invokevirtual 115, 3) := by decide +kernel
theorem dX2_arcOf_25 : decode cX2_arcOf 25 = .ok (.ifCond .le 7, 3) := by decide +kernel
theorem dX2_arcOf_28 : decode cX2_arcOf 28 = .ok (.iconst 1, 1) := by decide +kernel
theorem dX2_arcOf_29 : decode cX2_arcOf 29 = .ok (.goto 4, 3) := by decide +kernel
theorem dX2_arcOf_32 : decode cX2_arcOf 32 = .ok (.iconst 0, 1) := by decide +kernel
theorem dX2_arcOf_33 : decode cX2_arcOf 33 = .ok (.istore_n 3, 1) := by decide +kernel
theorem dX2_arcOf_34 : decode cX2_arcOf 34 = .ok (.iload_n 3, 1) := by decide +kernel
theorem dX2_arcOf_35 : decode cX2_arcOf 35 = .ok (.ifCond .eq 30, 3) := by decide +kernel
theorem dX2_arcOf_38 : decode cX2_arcOf 38 = .ok (.aload_n 0, 1) := by decide +kernel
theorem dX2_arcOf_39 : decode cX2_arcOf 39 = .ok (.getfield 41, 3) := by decide +kernel
theorem dX2_arcOf_42 : decode cX2_arcOf 42 = .ok (.iconst 2, 1) := by decide +kernel
theorem dX2_arcOf_43 : decode cX2_arcOf 43 = .ok (.aload_n 0, 1) := by decide +kernel
theorem dX2_arcOf_44 : decode cX2_arcOf 44 = .ok (.getfield 50, 3) := by decide +kernel
theorem dX2_arcOf_47 : decode cX2_arcOf 47 = .ok (.imul, 1) := by decide +kernel
theorem dX2_arcOf_48 : decode cX2_arcOf 48 = .ok (.invokevirtual 54, 3) := by decide +kernel
theorem dX2_arcOf_51 : decode cX2_arcOf 51 = .ok (.aload_n 0, 1) := by decide +kernel
theorem dX2_arcOf_52 : decode cX2_arcOf 52 = .ok (.getfield 19, 3) := by decide +kernel
theorem dX2_arcOf_55 : decode cX2_arcOf 55 = .ok (.aload_n 1, 1) := by decide +kernel
theorem dX2_arcOf_56 : decode cX2_arcOf 56 = .ok (.aload_n 0, 1) := by decide +kernel
theorem dX2_arcOf_57 : decode cX2_arcOf 57 = .ok (.getfield 41, 3) := by decide +kernel
theorem dX2_arcOf_60 : decode cX2_arcOf 60 = .ok (.aload_n 1, 1) := by decide +kernel
theorem dX2_arcOf_61 : decode cX2_arcOf 61 = .ok (.invokevirtual 98, 3) := by decide +kernel
theorem dX2_arcOf_64 : decode cX2_arcOf 64 = .ok (.pop, 1) := by decide +kernel
theorem dX2_arcOf_65 : decode cX2_arcOf 65 = .ok (.iconst 0, 1) := by decide +kernel
theorem dX2_arcOf_66 : decode cX2_arcOf 66 = .ok (.istore 4, 2) := by decide +kernel
theorem dX2_arcOf_68 : decode cX2_arcOf 68 = .ok (.iload 4, 2) := by decide +kernel
theorem dX2_arcOf_70 : decode cX2_arcOf 70 = .ok (.iconst 3, 1) := by decide +kernel
theorem dX2_arcOf_71 : decode cX2_arcOf 71 = .ok (.if_icmp .ge 14, 3) := by decide +kernel
theorem dX2_arcOf_74 : decode cX2_arcOf 74 = .ok (.aload_n 0, 1) := by decide +kernel
theorem dX2_arcOf_75 : decode cX2_arcOf 75 = .ok (.aload_n 1, 1) := by decide +kernel
theorem dX2_arcOf_76 : decode cX2_arcOf 76 = .ok (.invokevirtual 119, 3) := by decide +kernel
theorem dX2_arcOf_79 : decode cX2_arcOf 79 = .ok (.iinc 4 1, 3) := by decide +kernel
theorem dX2_arcOf_82 : decode cX2_arcOf 82 = .ok (.goto (-14), 3) := by decide +kernel
theorem dX2_arcOf_85 : decode cX2_arcOf 85 = .ok (.aload_n 0, 1) := by decide +kernel
theorem dX2_arcOf_86 : decode cX2_arcOf 86 = .ok (.aload_n 1, 1) := by decide +kernel
theorem dX2_arcOf_87 : decode cX2_arcOf 87 = .ok (.iconst 1, 1) := by decide +kernel
theorem dX2_arcOf_88 : decode cX2_arcOf 88 = .ok (.invokevirtual 102, 3) := by decide +kernel
theorem dX2_arcOf_91 : decode cX2_arcOf 91 = .ok (.aload_n 1, 1) := by decide +kernel
theorem dX2_arcOf_92 : decode cX2_arcOf 92 = .ok (.iconst 3, 1) := by decide +kernel
theorem dX2_arcOf_93 : decode cX2_arcOf 93 = .ok (.invokevirtual 92, 3) := by decide +kernel
theorem dX2_arcOf_96 : decode cX2_arcOf 96 = .ok (.iload_n 3, 1) := by decide +kernel
theorem dX2_arcOf_97 : decode cX2_arcOf 97 = .ok (.ifCond .eq 31, 3) := by decide +kernel
theorem dX2_arcOf_100 : decode cX2_arcOf 100 = .ok (.aload_n 0, 1) := by decide +kernel
theorem dX2_arcOf_101 : decode cX2_arcOf 101 = .ok (.getfield 41, 3) := by decide +kernel
theorem dX2_arcOf_104 : decode cX2_arcOf 104 = .ok (.aload_n 0, 1) := by decide +kernel
theorem dX2_arcOf_105 : decode cX2_arcOf 105 = .ok (.invokevirtual 122, 3) := by decide +kernel
theorem dX2_arcOf_108 : decode cX2_arcOf 108 = .ok (.invokevirtual 67, 3) := by decide +kernel
theorem dX2_arcOf_111 : decode cX2_arcOf 111 = .ok (.aload_n 0, 1) := by decide +kernel
theorem dX2_arcOf_112 : decode cX2_arcOf 112 = .ok (.getfield 41, 3) := by decide +kernel
theorem dX2_arcOf_115 : decode cX2_arcOf 115 = .ok (.iconst 1, 1) := by decide +kernel
theorem dX2_arcOf_116 : decode cX2_arcOf 116 = .ok (.invokevirtual 71, 3) := by decide +kernel
theorem dX2_arcOf_119 : decode cX2_arcOf 119 = .ok (.aload_n 1, 1) := by decide +kernel
theorem dX2_arcOf_120 : decode cX2_arcOf 120 = .ok (.aload_n 0, 1) := by decide +kernel
theorem dX2_arcOf_121 : decode cX2_arcOf 121 = .ok (.getfield 41, 3) := by decide +kernel
theorem dX2_arcOf_124 : decode cX2_arcOf 124 = .ok (.aload_n 1, 1) := by decide +kernel
theorem dX2_arcOf_125 : decode cX2_arcOf 125 = .ok (.invokevirtual 95, 3) := by decide +kernel
theorem dX2_arcOf_128 : decode cX2_arcOf 128 = .ok (.iload_n 2, 1) := by decide +kernel
theorem dX2_arcOf_129 : decode cX2_arcOf 129 = .ok (.ifCond .eq 7, 3) := by decide +kernel
theorem dX2_arcOf_132 : decode cX2_arcOf 132 = .ok (.aload_n 1, 1) := by decide +kernel
theorem dX2_arcOf_133 : decode cX2_arcOf 133 = .ok (.invokevirtual 124, 3) := by decide +kernel
theorem dX2_arcOf_136 : decode cX2_arcOf 136 = .ok (.return_, 1) := by decide +kernel
set_option maxRecDepth 20000 in
theorem ggX2_sineOf_X2_halfTurn : GoodIn wsX2_sineOf wsX2_halfTurn := goodIn_r _ [11, 12, 13, 2, 14, 15, 16, 17, 18, 19, 20, 21, 22, 23, 24, 25, 26, 27, 28, 29, 30, 31, 32, 33, 34, 35, 36, 37, 38, 39, 40, 41, 42, 43, 44, 45, 10, 46, 5, 6, 1, 47, 48, 49, 50, 4, 51, 52, 53, 54, 55, 56, 57, 58, 59, 60, 61, 62, 63, 64, 65, 66, 67, 68, 69, 70, 71, 72, 73, 74, 75, 76, 77, 78, 79, 80, 81, 82, 83, 84, 85, 86, 87, 88, 89, 90, 91, 92, 93, 94, 95, 96, 97, 98, 99, 100, 101, 102, 103, 104, 105, 106, 107, 108, 109, 110, 111, 112, 113, 114, 115, 116, 117, 118, 119, 120, 181, 182, 183, 184, 185, 186, 187, 188, 189, 190, 191, 192, 193, 194, 195] rfl (by decide +kernel)
set_option maxRecDepth 20000 in
theorem gX2_sineOf_X2_halfTurn : GoodIn wsX2_sineOf (wsV RX2 122 RX2 yX2_halfTurn wsX2_halfTurn) := goodIn_app (goodIn_of _ (by decide +kernel)) ggX2_sineOf_X2_halfTurn
set_option maxRecDepth 20000 in
theorem ggX2_sineOf_X3_become_ : GoodIn wsX2_sineOf wsX3_become_ := goodIn_r _ [23, 24, 25, 26, 27, 28, 29, 19, 193, 194, 195] rfl (by decide +kernel)
set_option maxRecDepth 20000 in
theorem gX2_sineOf_X3_become_ : GoodIn wsX2_sineOf (wsV RX2 67 RX3 yX3_become_ wsX3_become_) := goodIn_app (goodIn_of _ (by decide +kernel)) ggX2_sineOf_X3_become_
set_option maxRecDepth 20000 in
theorem ggX2_sineOf_X3_raise : GoodIn wsX2_sineOf wsX3_raise := goodIn_r _ [112, 25, 24, 113, 114, 115, 17, 116, 42, 117, 118, 119, 120, 34, 35, 36, 37, 19, 193, 194, 195] rfl (by decide +kernel)
set_option maxRecDepth 20000 in
theorem gX2_sineOf_X3_raise : GoodIn wsX2_sineOf (wsV RX2 92 RX3 yX3_raise wsX3_raise) := goodIn_app (goodIn_of _ (by decide +kernel)) ggX2_sineOf_X3_raise
set_option maxRecDepth 20000 in
theorem ggX2_sineOf_X3_sum : GoodIn wsX2_sineOf wsX3_sum := goodIn_r _ [108, 19, 81, 82, 83, 17, 84, 85, 86, 87, 88, 25, 64, 65, 66, 67, 24, 42, 89, 90, 91, 92, 93, 94, 95, 96, 97, 98, 99, 100, 101, 102, 103, 104, 34, 35, 36, 37, 193, 194, 195] rfl (by decide +kernel)
set_option maxRecDepth 20000 in
theorem gX2_sineOf_X3_sum : GoodIn wsX2_sineOf (wsV RX2 86 RX3 yX3_sum wsX3_sum) := goodIn_app (goodIn_of _ (by decide +kernel)) ggX2_sineOf_X3_sum
set_option maxRecDepth 20000 in
theorem ggX2_sineOf_X1_quotient : GoodIn wsX2_sineOf wsX1_quotient := goodIn_r _ [125, 126, 127, 128, 65, 66, 67, 129, 130, 131, 15, 16, 17, 18, 19, 132, 57, 58, 59, 25, 133, 134, 135, 136, 137, 138, 139, 140, 24, 141, 142, 99, 143, 144, 145, 95, 146, 147, 148, 114, 115, 116, 42, 117, 118, 119, 120, 149, 150, 151, 124, 152, 153, 154, 155, 156, 157, 158, 159, 160, 161, 162, 163, 164, 165, 166, 167, 168, 169, 170, 171, 35, 36, 37, 172, 39, 40, 41, 196, 197, 198, 199, 193, 194, 195] rfl (by decide +kernel)
set_option maxRecDepth 20000 in
theorem gX2_sineOf_X1_quotient : GoodIn wsX2_sineOf (wsV RX2 98 RX1 yX1_quotient wsX1_quotient) := goodIn_app (goodIn_of _ (by decide +kernel)) ggX2_sineOf_X1_quotient
set_option maxRecDepth 20000 in
theorem ggX2_sineOf_X3_isOdd : GoodIn wsX2_sineOf wsX3_isOdd := goodIn_r _ [176, 117, 118, 119, 17, 120, 25, 24, 193, 194, 195] rfl (by decide +kernel)
set_option maxRecDepth 20000 in
theorem gX2_sineOf_X3_isOdd : GoodIn wsX2_sineOf (wsV RX2 127 RX3 yX3_isOdd wsX3_isOdd) := goodIn_app (goodIn_of _ (by decide +kernel)) ggX2_sineOf_X3_isOdd
set_option maxRecDepth 20000 in
theorem ggX2_sineOf_X3_product : GoodIn wsX2_sineOf wsX3_product := goodIn_r _ [55, 25, 24, 42, 19, 56, 57, 58, 17, 59, 34, 35, 36, 37, 193, 194, 195] rfl (by decide +kernel)
set_option maxRecDepth 20000 in
theorem gX2_sineOf_X3_product : GoodIn wsX2_sineOf (wsV RX2 130 RX3 yX3_product wsX3_product) := goodIn_app (goodIn_of _ (by decide +kernel)) ggX2_sineOf_X3_product
set_option maxRecDepth 20000 in
theorem ggX2_sineOf_X3_difference : GoodIn wsX2_sineOf wsX3_difference := goodIn_r _ [80, 19, 81, 82, 83, 17, 84, 85, 86, 87, 88, 25, 64, 65, 66, 67, 24, 42, 89, 90, 91, 92, 93, 94, 95, 96, 97, 98, 99, 100, 101, 102, 103, 104, 34, 35, 36, 37, 193, 194, 195] rfl (by decide +kernel)
set_option maxRecDepth 20000 in
theorem gX2_sineOf_X3_difference : GoodIn wsX2_sineOf (wsV RX2 95 RX3 yX3_difference wsX3_difference) := goodIn_app (goodIn_of _ (by decide +kernel)) ggX2_sineOf_X3_difference
set_option maxRecDepth 20000 in
theorem ggX2_sineOf_X2_scale : GoodIn wsX2_sineOf wsX2_scale := goodIn_r _ [50, 4, 51, 52, 53, 54, 17, 55, 25, 24, 42, 19, 56, 57, 58, 59, 34, 35, 36, 37, 60, 61, 62, 63, 64, 65, 66, 67, 68, 69, 70, 71, 38, 39, 40, 41, 20, 21, 22, 23, 26, 27, 28, 29, 181, 182, 183, 184, 185, 186, 187, 188, 189, 190, 191, 192, 193, 194, 195] rfl (by decide +kernel)
set_option maxRecDepth 20000 in
theorem gX2_sineOf_X2_scale : GoodIn wsX2_sineOf (wsV RX2 74 RX2 yX2_scale wsX2_scale) := goodIn_app (goodIn_of _ (by decide +kernel)) ggX2_sineOf_X2_scale
set_option maxRecDepth 20000 in
theorem ggX2_sineOf_X3_clear : GoodIn wsX2_sineOf wsX3_clear := goodIn_r _ [59, 25, 19, 193, 194, 195] rfl (by decide +kernel)
set_option maxRecDepth 20000 in
theorem gX2_sineOf_X3_clear : GoodIn wsX2_sineOf (wsV RX2 133 RX3 yX3_clear wsX3_clear) := goodIn_app (goodIn_of _ (by decide +kernel)) ggX2_sineOf_X3_clear
set_option maxRecDepth 20000 in
theorem ggX2_sineOf_X3_sign : GoodIn wsX2_sineOf wsX3_sign := goodIn_r _ [18, 19, 193, 194, 195] rfl (by decide +kernel)
set_option maxRecDepth 20000 in
theorem gX2_sineOf_X3_sign : GoodIn wsX2_sineOf (wsV RX2 109 RX3 yX3_sign wsX3_sign) := goodIn_app (goodIn_of _ (by decide +kernel)) ggX2_sineOf_X3_sign
set_option maxRecDepth 20000 in
theorem ggX2_sineOf_X3_divide : GoodIn wsX2_sineOf wsX3_divide := goodIn_r _ [33, 19, 25, 24, 34, 35, 36, 17, 37, 38, 39, 40, 41, 42, 193, 194, 195] rfl (by decide +kernel)
set_option maxRecDepth 20000 in
theorem gX2_sineOf_X3_divide : GoodIn wsX2_sineOf (wsV RX2 78 RX3 yX3_divide wsX3_divide) := goodIn_app (goodIn_of _ (by decide +kernel)) ggX2_sineOf_X3_divide
set_option maxRecDepth 20000 in
theorem ggX2_sineOf_X3_turn : GoodIn wsX2_sineOf wsX3_turn := goodIn_r _ [180, 19, 193, 194, 195] rfl (by decide +kernel)
set_option maxRecDepth 20000 in
theorem gX2_sineOf_X3_turn : GoodIn wsX2_sineOf (wsV RX2 124 RX3 yX3_turn wsX3_turn) := goodIn_app (goodIn_of _ (by decide +kernel)) ggX2_sineOf_X3_turn
theorem dX2_sineOf_0 : decode cX2_sineOf 0 = .ok (.aload_n 0, 1) := by decide +kernel
theorem dX2_sineOf_1 : decode cX2_sineOf 1 = .ok (.invokevirtual 122, 3) := by decide +kernel
theorem dX2_sineOf_4 : decode cX2_sineOf 4 = .ok (.astore_n 2, 1) := by decide +kernel
theorem dX2_sineOf_5 : decode cX2_sineOf 5 = .ok (.aload_n 0, 1) := by decide +kernel
theorem dX2_sineOf_6 : decode cX2_sineOf 6 = .ok (.getfield 35, 3) := by decide +kernel
theorem dX2_sineOf_9 : decode cX2_sineOf 9 = .ok (.aload_n 1, 1) := by decide +kernel
theorem dX2_sineOf_10 : decode cX2_sineOf 10 = .ok (.invokevirtual 67, 3) := by decide +kernel
theorem dX2_sineOf_13 : decode cX2_sineOf 13 = .ok (.aload_n 0, 1) := by decide +kernel
theorem dX2_sineOf_14 : decode cX2_sineOf 14 = .ok (.getfield 35, 3) := by decide +kernel
theorem dX2_sineOf_17 : decode cX2_sineOf 17 = .ok (.iconst 1, 1) := by decide +kernel
theorem dX2_sineOf_18 : decode cX2_sineOf 18 = .ok (.invokevirtual 92, 3) := by decide +kernel
theorem dX2_sineOf_21 : decode cX2_sineOf 21 = .ok (.aload_n 0, 1) := by decide +kernel
theorem dX2_sineOf_22 : decode cX2_sineOf 22 = .ok (.getfield 35, 3) := by decide +kernel
theorem dX2_sineOf_25 : decode cX2_sineOf 25 = .ok (.aload_n 0, 1) := by decide +kernel
theorem dX2_sineOf_26 : decode cX2_sineOf 26 = .ok (.getfield 35, 3) := by decide +kernel
theorem dX2_sineOf_29 : decode cX2_sineOf 29 = .ok (.aload_n 2, 1) := by decide +kernel
theorem dX2_sineOf_30 : decode cX2_sineOf 30 = .ok (.invokevirtual 86, 3) := by decide +kernel
theorem dX2_sineOf_33 : decode cX2_sineOf 33 = .ok (.aload_n 0, 1) := by decide +kernel
theorem dX2_sineOf_34 : decode cX2_sineOf 34 = .ok (.getfield 41, 3) := by decide +kernel
theorem dX2_sineOf_37 : decode cX2_sineOf 37 = .ok (.aload_n 2, 1) := by decide +kernel
theorem dX2_sineOf_38 : decode cX2_sineOf 38 = .ok (.invokevirtual 67, 3) := by decide +kernel
theorem dX2_sineOf_41 : decode cX2_sineOf 41 = .ok (.aload_n 0, 1) := by decide +kernel
theorem dX2_sineOf_42 : decode cX2_sineOf 42 = .ok (.getfield 41, 3) := by decide +kernel
theorem dX2_sineOf_45 : decode cX2_sineOf 45 = .ok (.iconst 1, 1) := by decide +kernel
theorem dX2_sineOf_46 : decode cX2_sineOf 46 = .ok (.invokevirtual 92, 3) := by decide +kernel
theorem dX2_sineOf_49 : decode cX2_sineOf 49 = .ok (.aload_n 0, 1) := by decide +kernel
theorem dX2_sineOf_50 : decode cX2_sineOf 50 = .ok (.getfield 19, 3) := by decide +kernel
theorem dX2_sineOf_53 : decode cX2_sineOf 53 = .ok (.aload_n 0, 1) := by decide +kernel
theorem dX2_sineOf_54 : decode cX2_sineOf 54 = .ok (.getfield 35, 3) := by decide +kernel
theorem dX2_sineOf_57 : decode cX2_sineOf 57 = .ok (.aload_n 0, 1) := by decide +kernel
theorem dX2_sineOf_58 : decode cX2_sineOf 58 = .ok (.getfield 35, 3) := by decide +kernel
theorem dX2_sineOf_61 : decode cX2_sineOf 61 = .ok (.aload_n 0, 1) := by decide +kernel
theorem dX2_sineOf_62 : decode cX2_sineOf 62 = .ok (.getfield 41, 3) := by decide +kernel
theorem dX2_sineOf_65 : decode cX2_sineOf 65 = .ok (.invokevirtual 98, 3) := by decide +kernel
theorem dX2_sineOf_68 : decode cX2_sineOf 68 = .ok (.pop, 1) := by decide +kernel
theorem dX2_sineOf_69 : decode cX2_sineOf 69 = .ok (.aload_n 0, 1) := by decide +kernel
theorem dX2_sineOf_70 : decode cX2_sineOf 70 = .ok (.getfield 35, 3) := by decide +kernel
theorem dX2_sineOf_73 : decode cX2_sineOf 73 = .ok (.invokevirtual 127, 3) := by decide +kernel
theorem dX2_sineOf_76 : decode cX2_sineOf 76 = .ok (.istore_n 3, 1) := by decide +kernel
theorem dX2_sineOf_77 : decode cX2_sineOf 77 = .ok (.aload_n 0, 1) := by decide +kernel
theorem dX2_sineOf_78 : decode cX2_sineOf 78 = .ok (.getfield 38, 3) := by decide +kernel
theorem dX2_sineOf_81 : decode cX2_sineOf 81 = .ok (.aload_n 0, 1) := by decide +kernel
theorem dX2_sineOf_82 : decode cX2_sineOf 82 = .ok (.getfield 35, 3) := by decide +kernel
theorem dX2_sineOf_85 : decode cX2_sineOf 85 = .ok (.aload_n 2, 1) := by decide +kernel
theorem dX2_sineOf_86 : decode cX2_sineOf 86 = .ok (.invokevirtual 130, 3) := by decide +kernel
theorem dX2_sineOf_89 : decode cX2_sineOf 89 = .ok (.aload_n 0, 1) := by decide +kernel
theorem dX2_sineOf_90 : decode cX2_sineOf 90 = .ok (.getfield 29, 3) := by decide +kernel
theorem dX2_sineOf_93 : decode cX2_sineOf 93 = .ok (.aload_n 1, 1) := by decide +kernel
theorem dX2_sineOf_94 : decode cX2_sineOf 94 = .ok (.aload_n 0, 1) := by decide +kernel
theorem dX2_sineOf_95 : decode cX2_sineOf 95 = .ok (.getfield 38, 3) := by decide +kernel
theorem dX2_sineOf_98 : decode cX2_sineOf 98 = .ok (.invokevirtual 95, 3) := by decide +kernel
theorem dX2_sineOf_101 : decode cX2_sineOf 101 = .ok (.aload_n 0, 1) := by decide +kernel
theorem dX2_sineOf_102 : decode cX2_sineOf 102 = .ok (.getfield 32, 3) := by decide +kernel
theorem dX2_sineOf_105 : decode cX2_sineOf 105 = .ok (.aload_n 0, 1) := by decide +kernel
theorem dX2_sineOf_106 : decode cX2_sineOf 106 = .ok (.getfield 29, 3) := by decide +kernel
theorem dX2_sineOf_109 : decode cX2_sineOf 109 = .ok (.invokevirtual 67, 3) := by decide +kernel
theorem dX2_sineOf_112 : decode cX2_sineOf 112 = .ok (.aload_n 0, 1) := by decide +kernel
theorem dX2_sineOf_113 : decode cX2_sineOf 113 = .ok (.aload_n 0, 1) := by decide +kernel
theorem dX2_sineOf_114 : decode cX2_sineOf 114 = .ok (.getfield 32, 3) := by decide +kernel
theorem dX2_sineOf_117 : decode cX2_sineOf 117 = .ok (.aload_n 0, 1) := by decide +kernel
theorem dX2_sineOf_118 : decode cX2_sineOf 118 = .ok (.getfield 29, 3) := by decide +kernel
theorem dX2_sineOf_121 : decode cX2_sineOf 121 = .ok (.invokevirtual 74, 3) := by decide +kernel
theorem dX2_sineOf_124 : decode cX2_sineOf 124 = .ok (.aload_n 1, 1) := by decide +kernel
theorem dX2_sineOf_125 : decode cX2_sineOf 125 = .ok (.invokevirtual 133, 3) := by decide +kernel
theorem dX2_sineOf_128 : decode cX2_sineOf 128 = .ok (.iconst 1, 1) := by decide +kernel
theorem dX2_sineOf_129 : decode cX2_sineOf 129 = .ok (.istore 4, 2) := by decide +kernel
theorem dX2_sineOf_131 : decode cX2_sineOf 131 = .ok (.iload 4, 2) := by decide +kernel
theorem dX2_sineOf_133 : decode cX2_sineOf 133 = .ok (.sipush 10000, 3) := by decide +kernel
theorem dX2_sineOf_136 : decode cX2_sineOf 136 = .ok (.if_icmp .ge 66, 3) := by decide +kernel
theorem dX2_sineOf_139 : decode cX2_sineOf 139 = .ok (.aload_n 0, 1) := by decide +kernel
theorem dX2_sineOf_140 : decode cX2_sineOf 140 = .ok (.getfield 29, 3) := by decide +kernel
theorem dX2_sineOf_143 : decode cX2_sineOf 143 = .ok (.invokevirtual 109, 3) := by decide +kernel
theorem dX2_sineOf_146 : decode cX2_sineOf 146 = .ok (.ifCond .eq 56, 3) := by decide +kernel
theorem dX2_sineOf_149 : decode cX2_sineOf 149 = .ok (.aload_n 1, 1) := by decide +kernel
theorem dX2_sineOf_150 : decode cX2_sineOf 150 = .ok (.aload_n 1, 1) := by decide +kernel
theorem dX2_sineOf_151 : decode cX2_sineOf 151 = .ok (.aload_n 0, 1) := by decide +kernel
theorem dX2_sineOf_152 : decode cX2_sineOf 152 = .ok (.getfield 29, 3) := by decide +kernel
theorem dX2_sineOf_155 : decode cX2_sineOf 155 = .ok (.invokevirtual 86, 3) := by decide +kernel
theorem dX2_sineOf_158 : decode cX2_sineOf 158 = .ok (.aload_n 0, 1) := by decide +kernel
theorem dX2_sineOf_159 : decode cX2_sineOf 159 = .ok (.aload_n 0, 1) := by decide +kernel
theorem dX2_sineOf_160 : decode cX2_sineOf 160 = .ok (.getfield 29, 3) := by decide +kernel
theorem dX2_sineOf_163 : decode cX2_sineOf 163 = .ok (.aload_n 0, 1) := by decide +kernel
theorem dX2_sineOf_164 : decode cX2_sineOf 164 = .ok (.getfield 32, 3) := by decide +kernel
theorem dX2_sineOf_167 : decode cX2_sineOf 167 = .ok (.invokevirtual 74, 3) := by decide +kernel
theorem dX2_sineOf_170 : decode cX2_sineOf 170 = .ok (.aload_n 0, 1) := by decide +kernel
theorem dX2_sineOf_171 : decode cX2_sineOf 171 = .ok (.getfield 29, 3) := by decide +kernel
theorem dX2_sineOf_174 : decode cX2_sineOf 174 = .ok (.iconst 2, 1) := by decide +kernel
theorem dX2_sineOf_175 : decode cX2_sineOf 175 = .ok (.iload 4, 2) := by decide +kernel
theorem dX2_sineOf_177 : decode cX2_sineOf 177 = .ok (.imul, 1) := by decide +kernel
theorem dX2_sineOf_178 : decode cX2_sineOf 178 = .ok (.iconst 2, 1) := by decide +kernel
theorem dX2_sineOf_179 : decode cX2_sineOf 179 = .ok (.iload 4, 2) := by decide +kernel
theorem dX2_sineOf_181 : decode cX2_sineOf 181 = .ok (.imul, 1) := by decide +kernel
theorem dX2_sineOf_182 : decode cX2_sineOf 182 = .ok (.iconst 1, 1) := by decide +kernel
theorem dX2_sineOf_183 : decode cX2_sineOf 183 = .ok (.iadd, 1) := by decide +kernel
theorem dX2_sineOf_184 : decode cX2_sineOf 184 = .ok (.imul, 1) := by decide +kernel
theorem dX2_sineOf_185 : decode cX2_sineOf 185 = .ok (.invokevirtual 78, 3) := by decide +kernel
theorem dX2_sineOf_188 : decode cX2_sineOf 188 = .ok (.pop, 1) := by decide +kernel
theorem dX2_sineOf_189 : decode cX2_sineOf 189 = .ok (.aload_n 0, 1) := by decide +kernel
theorem dX2_sineOf_190 : decode cX2_sineOf 190 = .ok (.getfield 29, 3) := by decide +kernel
theorem dX2_sineOf_193 : decode cX2_sineOf 193 = .ok (.invokevirtual 124, 3) := by decide +kernel
theorem dX2_sineOf_196 : decode cX2_sineOf 196 = .ok (.iinc 4 1, 3) := by decide +kernel
theorem dX2_sineOf_199 : decode cX2_sineOf 199 = .ok (.goto (-68), 3) := by decide +kernel
theorem dX2_sineOf_202 : decode cX2_sineOf 202 = .ok (.iload_n 3, 1) := by decide +kernel
theorem dX2_sineOf_203 : decode cX2_sineOf 203 = .ok (.ifCond .eq 7, 3) := by decide +kernel
theorem dX2_sineOf_206 : decode cX2_sineOf 206 = .ok (.aload_n 1, 1) := by decide +kernel
theorem dX2_sineOf_207 : decode cX2_sineOf 207 = .ok (.invokevirtual 124, 3) := by decide +kernel
theorem dX2_sineOf_210 : decode cX2_sineOf 210 = .ok (.return_, 1) := by decide +kernel
set_option maxRecDepth 20000 in
theorem ggX2_squareRoot_X3_sign : GoodIn wsX2_squareRoot wsX3_sign := goodIn_r _ [8, 9, 154, 155, 156] rfl (by decide +kernel)
set_option maxRecDepth 20000 in
theorem gX2_squareRoot_X3_sign : GoodIn wsX2_squareRoot (wsV RX2 109 RX3 yX3_sign wsX3_sign) := goodIn_app (goodIn_of _ (by decide +kernel)) ggX2_squareRoot_X3_sign
set_option maxRecDepth 20000 in
theorem ggX2_squareRoot_X3_clear : GoodIn wsX2_squareRoot wsX3_clear := goodIn_r _ [13, 14, 9, 154, 155, 156] rfl (by decide +kernel)
set_option maxRecDepth 20000 in
theorem gX2_squareRoot_X3_clear : GoodIn wsX2_squareRoot (wsV RX2 133 RX3 yX3_clear wsX3_clear) := goodIn_app (goodIn_of _ (by decide +kernel)) ggX2_squareRoot_X3_clear
set_option maxRecDepth 20000 in
theorem ggX2_squareRoot_X3_bits : GoodIn wsX2_squareRoot wsX3_bits := goodIn_r _ [18, 14, 19, 20, 21, 22, 23, 24, 25, 26, 27, 28, 154, 155, 156] rfl (by decide +kernel)
set_option maxRecDepth 20000 in
theorem gX2_squareRoot_X3_bits : GoodIn wsX2_squareRoot (wsV RX2 58 RX3 yX3_bits wsX3_bits) := goodIn_app (goodIn_of _ (by decide +kernel)) ggX2_squareRoot_X3_bits
set_option maxRecDepth 20000 in
theorem ggX2_squareRoot_X3_becomePower : GoodIn wsX2_squareRoot wsX3_becomePower := goodIn_r _ [32, 19, 14, 9, 33, 11, 12, 7, 13, 154, 155, 156] rfl (by decide +kernel)
set_option maxRecDepth 20000 in
theorem gX2_squareRoot_X3_becomePower : GoodIn wsX2_squareRoot (wsV RX2 54 RX3 yX3_becomePower wsX3_becomePower) := goodIn_app (goodIn_of _ (by decide +kernel)) ggX2_squareRoot_X3_becomePower
set_option maxRecDepth 20000 in
theorem ggX2_squareRoot_X1_quotient : GoodIn wsX2_squareRoot wsX1_quotient := goodIn_r _ [38, 39, 40, 41, 42, 43, 44, 45, 46, 47, 5, 6, 7, 8, 9, 48, 11, 12, 13, 14, 49, 50, 51, 52, 53, 16, 17, 18, 19, 20, 21, 22, 23, 24, 25, 26, 27, 28, 54, 55, 56, 57, 58, 59, 60, 61, 62, 63, 64, 65, 37, 66, 67, 68, 69, 70, 71, 72, 73, 74, 75, 76, 77, 78, 79, 80, 81, 82, 83, 84, 85, 86, 87, 88, 89, 90, 91, 92, 157, 158, 159, 160, 154, 155, 156] rfl (by decide +kernel)
set_option maxRecDepth 20000 in
theorem gX2_squareRoot_X1_quotient : GoodIn wsX2_squareRoot (wsV RX2 98 RX1 yX1_quotient wsX1_quotient) := goodIn_app (goodIn_of _ (by decide +kernel)) ggX2_squareRoot_X1_quotient
set_option maxRecDepth 20000 in
theorem ggX2_squareRoot_X3_sum : GoodIn wsX2_squareRoot wsX3_sum := goodIn_r _ [96, 9, 97, 98, 99, 7, 100, 101, 102, 103, 104, 14, 105, 42, 43, 44, 19, 58, 106, 107, 108, 109, 110, 111, 26, 112, 113, 114, 22, 115, 116, 117, 118, 119, 120, 86, 87, 88, 154, 155, 156] rfl (by decide +kernel)
set_option maxRecDepth 20000 in
theorem gX2_squareRoot_X3_sum : GoodIn wsX2_squareRoot (wsV RX2 86 RX3 yX3_sum wsX3_sum) := goodIn_app (goodIn_of _ (by decide +kernel)) ggX2_squareRoot_X3_sum
set_option maxRecDepth 20000 in
theorem ggX2_squareRoot_X3_lower : GoodIn wsX2_squareRoot wsX3_lower := goodIn_r _ [124, 9, 14, 105, 42, 43, 44, 19, 58, 125, 126, 127, 7, 128, 120, 86, 87, 88, 129, 90, 91, 92, 154, 155, 156] rfl (by decide +kernel)
set_option maxRecDepth 20000 in
theorem gX2_squareRoot_X3_lower : GoodIn wsX2_squareRoot (wsV RX2 71 RX3 yX3_lower wsX3_lower) := goodIn_app (goodIn_of _ (by decide +kernel)) ggX2_squareRoot_X3_lower
set_option maxRecDepth 20000 in
theorem ggX2_squareRoot_X3_order : GoodIn wsX2_squareRoot wsX3_order := goodIn_r _ [133, 9, 110, 111, 26, 112, 106, 107, 108, 7, 109, 14, 19, 113, 114, 22, 115, 154, 155, 156] rfl (by decide +kernel)
set_option maxRecDepth 20000 in
theorem gX2_squareRoot_X3_order : GoodIn wsX2_squareRoot (wsV RX2 115 RX3 yX3_order wsX3_order) := goodIn_app (goodIn_of _ (by decide +kernel)) ggX2_squareRoot_X3_order
set_option maxRecDepth 20000 in
theorem ggX2_squareRoot_X3_become_ : GoodIn wsX2_squareRoot wsX3_become_ := goodIn_r _ [137, 19, 14, 138, 139, 140, 141, 9, 154, 155, 156] rfl (by decide +kernel)
set_option maxRecDepth 20000 in
theorem gX2_squareRoot_X3_become_ : GoodIn wsX2_squareRoot (wsV RX2 67 RX3 yX3_become_ wsX3_become_) := goodIn_app (goodIn_of _ (by decide +kernel)) ggX2_squareRoot_X3_become_
theorem dX2_squareRoot_0 : decode cX2_squareRoot 0 = .ok (.aload_n 1, 1) := by decide +kernel
theorem dX2_squareRoot_1 : decode cX2_squareRoot 1 = .ok (.invokevirtual 109, 3) := by decide +kernel
theorem dX2_squareRoot_4 : decode cX2_squareRoot 4 = .ok (.ifCond .gt 8, 3) := by decide +kernel
theorem dX2_squareRoot_7 : decode cX2_squareRoot 7 = .ok (.aload_n 1, 1) := by decide +kernel
theorem dX2_squareRoot_8 : decode cX2_squareRoot 8 = .ok (.invokevirtual 133, 3) := by decide +kernel
theorem dX2_squareRoot_11 : decode cX2_squareRoot 11 = .ok (.return_, 1) := by decide +kernel
theorem dX2_squareRoot_12 : decode cX2_squareRoot 12 = .ok (.aload_n 0, 1) := by decide +kernel
theorem dX2_squareRoot_13 : decode cX2_squareRoot 13 = .ok (.getfield 44, 3) := by decide +kernel
theorem dX2_squareRoot_16 : decode cX2_squareRoot 16 = .ok (.aload_n 1, 1) := by decide +kernel
theorem dX2_squareRoot_17 : decode cX2_squareRoot 17 = .ok (.invokevirtual 58, 3) := by decide +kernel
theorem dX2_squareRoot_20 : decode cX2_squareRoot 20 = .ok (.iconst 1, 1) := by decide +kernel
theorem dX2_squareRoot_21 : decode cX2_squareRoot 21 = .ok (.iadd, 1) := by decide +kernel
theorem dX2_squareRoot_22 : decode cX2_squareRoot 22 = .ok (.iconst 2, 1) := by decide +kernel
theorem dX2_squareRoot_23 : decode cX2_squareRoot 23 = .ok (.idiv, 1) := by decide +kernel
theorem dX2_squareRoot_24 : decode cX2_squareRoot 24 = .ok (.invokevirtual 54, 3) := by decide +kernel
theorem dX2_squareRoot_27 : decode cX2_squareRoot 27 = .ok (.iconst 0, 1) := by decide +kernel
theorem dX2_squareRoot_28 : decode cX2_squareRoot 28 = .ok (.istore_n 2, 1) := by decide +kernel
theorem dX2_squareRoot_29 : decode cX2_squareRoot 29 = .ok (.iload_n 2, 1) := by decide +kernel
theorem dX2_squareRoot_30 : decode cX2_squareRoot 30 = .ok (.sipush 10000, 3) := by decide +kernel
theorem dX2_squareRoot_33 : decode cX2_squareRoot 33 = .ok (.if_icmp .ge 77, 3) := by decide +kernel
theorem dX2_squareRoot_36 : decode cX2_squareRoot 36 = .ok (.aload_n 0, 1) := by decide +kernel
theorem dX2_squareRoot_37 : decode cX2_squareRoot 37 = .ok (.getfield 19, 3) := by decide +kernel
theorem dX2_squareRoot_40 : decode cX2_squareRoot 40 = .ok (.aload_n 0, 1) := by decide +kernel
theorem dX2_squareRoot_41 : decode cX2_squareRoot 41 = .ok (.getfield 47, 3) := by decide +kernel
theorem dX2_squareRoot_44 : decode cX2_squareRoot 44 = .ok (.aload_n 1, 1) := by decide +kernel
theorem dX2_squareRoot_45 : decode cX2_squareRoot 45 = .ok (.aload_n 0, 1) := by decide +kernel
theorem dX2_squareRoot_46 : decode cX2_squareRoot 46 = .ok (.getfield 44, 3) := by decide +kernel
theorem dX2_squareRoot_49 : decode cX2_squareRoot 49 = .ok (.invokevirtual 98, 3) := by decide +kernel
theorem dX2_squareRoot_52 : decode cX2_squareRoot 52 = .ok (.pop, 1) := by decide +kernel
theorem dX2_squareRoot_53 : decode cX2_squareRoot 53 = .ok (.aload_n 0, 1) := by decide +kernel
theorem dX2_squareRoot_54 : decode cX2_squareRoot 54 = .ok (.getfield 47, 3) := by decide +kernel
theorem dX2_squareRoot_57 : decode cX2_squareRoot 57 = .ok (.aload_n 0, 1) := by decide +kernel
theorem dX2_squareRoot_58 : decode cX2_squareRoot 58 = .ok (.getfield 47, 3) := by decide +kernel
theorem dX2_squareRoot_61 : decode cX2_squareRoot 61 = .ok (.aload_n 0, 1) := by decide +kernel
theorem dX2_squareRoot_62 : decode cX2_squareRoot 62 = .ok (.getfield 44, 3) := by decide +kernel
theorem dX2_squareRoot_65 : decode cX2_squareRoot 65 = .ok (.invokevirtual 86, 3) := by decide +kernel
theorem dX2_squareRoot_68 : decode cX2_squareRoot 68 = .ok (.aload_n 0, 1) := by decide +kernel
theorem dX2_squareRoot_69 : decode cX2_squareRoot 69 = .ok (.getfield 47, 3) := by decide +kernel
theorem dX2_squareRoot_72 : decode cX2_squareRoot 72 = .ok (.iconst 1, 1) := by decide +kernel
theorem dX2_squareRoot_73 : decode cX2_squareRoot 73 = .ok (.invokevirtual 71, 3) := by decide +kernel
theorem dX2_squareRoot_76 : decode cX2_squareRoot 76 = .ok (.aload_n 0, 1) := by decide +kernel
theorem dX2_squareRoot_77 : decode cX2_squareRoot 77 = .ok (.getfield 47, 3) := by decide +kernel
theorem dX2_squareRoot_80 : decode cX2_squareRoot 80 = .ok (.aload_n 0, 1) := by decide +kernel
theorem dX2_squareRoot_81 : decode cX2_squareRoot 81 = .ok (.getfield 44, 3) := by decide +kernel
theorem dX2_squareRoot_84 : decode cX2_squareRoot 84 = .ok (.invokevirtual 115, 3) := by decide +kernel
theorem dX2_squareRoot_87 : decode cX2_squareRoot 87 = .ok (.ifCond .lt 6, 3) := by decide +kernel
theorem dX2_squareRoot_90 : decode cX2_squareRoot 90 = .ok (.goto 20, 3) := by decide +kernel
theorem dX2_squareRoot_93 : decode cX2_squareRoot 93 = .ok (.aload_n 0, 1) := by decide +kernel
theorem dX2_squareRoot_94 : decode cX2_squareRoot 94 = .ok (.getfield 44, 3) := by decide +kernel
theorem dX2_squareRoot_97 : decode cX2_squareRoot 97 = .ok (.aload_n 0, 1) := by decide +kernel
theorem dX2_squareRoot_98 : decode cX2_squareRoot 98 = .ok (.getfield 47, 3) := by decide +kernel
theorem dX2_squareRoot_101 : decode cX2_squareRoot 101 = .ok (.invokevirtual 67, 3) := by decide +kernel
theorem dX2_squareRoot_104 : decode cX2_squareRoot 104 = .ok (.iinc 2 1, 3) := by decide +kernel
theorem dX2_squareRoot_107 : decode cX2_squareRoot 107 = .ok (.goto (-78), 3) := by decide +kernel
theorem dX2_squareRoot_110 : decode cX2_squareRoot 110 = .ok (.aload_n 1, 1) := by decide +kernel
theorem dX2_squareRoot_111 : decode cX2_squareRoot 111 = .ok (.aload_n 0, 1) := by decide +kernel
theorem dX2_squareRoot_112 : decode cX2_squareRoot 112 = .ok (.getfield 44, 3) := by decide +kernel
theorem dX2_squareRoot_115 : decode cX2_squareRoot 115 = .ok (.invokevirtual 67, 3) := by decide +kernel
theorem dX2_squareRoot_118 : decode cX2_squareRoot 118 = .ok (.return_, 1) := by decide +kernel
set_option maxRecDepth 20000 in
theorem ggX2_halfTurn_X3_sign : GoodIn wsX2_halfTurn wsX3_sign := goodIn_r _ [8, 9, 128, 129, 130] rfl (by decide +kernel)
set_option maxRecDepth 20000 in
theorem gX2_halfTurn_X3_sign : GoodIn wsX2_halfTurn (wsV RX2 109 RX3 yX3_sign wsX3_sign) := goodIn_app (goodIn_of _ (by decide +kernel)) ggX2_halfTurn_X3_sign
set_option maxRecDepth 20000 in
theorem ggX2_halfTurn_X3_become_ : GoodIn wsX2_halfTurn wsX3_become_ := goodIn_r _ [13, 14, 15, 16, 17, 18, 19, 9, 128, 129, 130] rfl (by decide +kernel)
set_option maxRecDepth 20000 in
theorem gX2_halfTurn_X3_become_ : GoodIn wsX2_halfTurn (wsV RX2 67 RX3 yX3_become_ wsX3_become_) := goodIn_app (goodIn_of _ (by decide +kernel)) ggX2_halfTurn_X3_become_
set_option maxRecDepth 20000 in
theorem ggX2_halfTurn_X3_divide : GoodIn wsX2_halfTurn wsX3_divide := goodIn_r _ [23, 9, 15, 14, 24, 25, 26, 7, 27, 28, 29, 30, 31, 32, 128, 129, 130] rfl (by decide +kernel)
set_option maxRecDepth 20000 in
theorem gX2_halfTurn_X3_divide : GoodIn wsX2_halfTurn (wsV RX2 78 RX3 yX3_divide wsX3_divide) := goodIn_app (goodIn_of _ (by decide +kernel)) ggX2_halfTurn_X3_divide
set_option maxRecDepth 20000 in
theorem ggX2_halfTurn_X2_sumOfRow : GoodIn wsX2_halfTurn wsX2_sumOfRow := goodIn_r _ [37, 38, 39, 40, 10, 11, 12, 7, 13, 14, 15, 16, 17, 18, 19, 9, 41, 42, 43, 36, 44, 45, 46, 47, 48, 49, 50, 32, 51, 52, 53, 54, 24, 25, 26, 27, 55, 56, 57, 58, 59, 60, 61, 62, 63, 64, 65, 66, 28, 29, 30, 31, 67, 68, 69, 70, 71, 20, 21, 22, 23, 72, 73, 74, 75, 76, 77, 78, 79, 80, 81, 82, 83, 84, 85, 86, 87, 88, 89, 90, 91, 92, 93, 94, 95, 96, 97, 98, 99, 100, 101, 102, 103, 116, 117, 118, 119, 120, 121, 122, 123, 124, 125, 126, 127, 128, 129, 130] rfl (by decide +kernel)
set_option maxRecDepth 20000 in
theorem gX2_halfTurn_X2_sumOfRow : GoodIn wsX2_halfTurn (wsV RX2 102 RX2 yX2_sumOfRow wsX2_sumOfRow) := goodIn_app (goodIn_of _ (by decide +kernel)) ggX2_halfTurn_X2_sumOfRow
set_option maxRecDepth 20000 in
theorem ggX2_halfTurn_X3_raise : GoodIn wsX2_halfTurn wsX3_raise := goodIn_r _ [107, 15, 14, 108, 109, 110, 7, 111, 32, 112, 113, 114, 115, 24, 25, 26, 27, 9, 128, 129, 130] rfl (by decide +kernel)
set_option maxRecDepth 20000 in
theorem gX2_halfTurn_X3_raise : GoodIn wsX2_halfTurn (wsV RX2 92 RX3 yX3_raise wsX3_raise) := goodIn_app (goodIn_of _ (by decide +kernel)) ggX2_halfTurn_X3_raise
set_option maxRecDepth 20000 in
theorem ggX2_halfTurn_X3_difference : GoodIn wsX2_halfTurn wsX3_difference := goodIn_r _ [75, 9, 76, 77, 78, 7, 79, 80, 81, 82, 83, 15, 59, 60, 61, 62, 14, 32, 84, 85, 86, 87, 88, 89, 90, 91, 92, 93, 94, 95, 96, 97, 98, 99, 24, 25, 26, 27, 128, 129, 130] rfl (by decide +kernel)
set_option maxRecDepth 20000 in
theorem gX2_halfTurn_X3_difference : GoodIn wsX2_halfTurn (wsV RX2 95 RX3 yX3_difference wsX3_difference) := goodIn_app (goodIn_of _ (by decide +kernel)) ggX2_halfTurn_X3_difference
theorem dX2_halfTurn_0 : decode cX2_halfTurn 0 = .ok (.aload_n 0, 1) := by decide +kernel
theorem dX2_halfTurn_1 : decode cX2_halfTurn 1 = .ok (.getfield 23, 3) := by decide +kernel
theorem dX2_halfTurn_4 : decode cX2_halfTurn 4 = .ok (.invokevirtual 109, 3) := by decide +kernel
theorem dX2_halfTurn_7 : decode cX2_halfTurn 7 = .ok (.ifCond .ne 94, 3) := by decide +kernel
theorem dX2_halfTurn_10 : decode cX2_halfTurn 10 = .ok (.aload_n 0, 1) := by decide +kernel
theorem dX2_halfTurn_11 : decode cX2_halfTurn 11 = .ok (.getfield 23, 3) := by decide +kernel
theorem dX2_halfTurn_14 : decode cX2_halfTurn 14 = .ok (.aload_n 0, 1) := by decide +kernel
theorem dX2_halfTurn_15 : decode cX2_halfTurn 15 = .ok (.getfield 10, 3) := by decide +kernel
theorem dX2_halfTurn_18 : decode cX2_halfTurn 18 = .ok (.invokevirtual 67, 3) := by decide +kernel
theorem dX2_halfTurn_21 : decode cX2_halfTurn 21 = .ok (.aload_n 0, 1) := by decide +kernel
theorem dX2_halfTurn_22 : decode cX2_halfTurn 22 = .ok (.getfield 23, 3) := by decide +kernel
theorem dX2_halfTurn_25 : decode cX2_halfTurn 25 = .ok (.iconst 5, 1) := by decide +kernel
theorem dX2_halfTurn_26 : decode cX2_halfTurn 26 = .ok (.invokevirtual 78, 3) := by decide +kernel
theorem dX2_halfTurn_29 : decode cX2_halfTurn 29 = .ok (.pop, 1) := by decide +kernel
theorem dX2_halfTurn_30 : decode cX2_halfTurn 30 = .ok (.aload_n 0, 1) := by decide +kernel
theorem dX2_halfTurn_31 : decode cX2_halfTurn 31 = .ok (.aload_n 0, 1) := by decide +kernel
theorem dX2_halfTurn_32 : decode cX2_halfTurn 32 = .ok (.getfield 23, 3) := by decide +kernel
theorem dX2_halfTurn_35 : decode cX2_halfTurn 35 = .ok (.iconst 1, 1) := by decide +kernel
theorem dX2_halfTurn_36 : decode cX2_halfTurn 36 = .ok (.invokevirtual 102, 3) := by decide +kernel
theorem dX2_halfTurn_39 : decode cX2_halfTurn 39 = .ok (.aload_n 0, 1) := by decide +kernel
theorem dX2_halfTurn_40 : decode cX2_halfTurn 40 = .ok (.getfield 23, 3) := by decide +kernel
theorem dX2_halfTurn_43 : decode cX2_halfTurn 43 = .ok (.iconst 4, 1) := by decide +kernel
theorem dX2_halfTurn_44 : decode cX2_halfTurn 44 = .ok (.invokevirtual 92, 3) := by decide +kernel
theorem dX2_halfTurn_47 : decode cX2_halfTurn 47 = .ok (.aload_n 0, 1) := by decide +kernel
theorem dX2_halfTurn_48 : decode cX2_halfTurn 48 = .ok (.getfield 41, 3) := by decide +kernel
theorem dX2_halfTurn_51 : decode cX2_halfTurn 51 = .ok (.aload_n 0, 1) := by decide +kernel
theorem dX2_halfTurn_52 : decode cX2_halfTurn 52 = .ok (.getfield 10, 3) := by decide +kernel
theorem dX2_halfTurn_55 : decode cX2_halfTurn 55 = .ok (.invokevirtual 67, 3) := by decide +kernel
theorem dX2_halfTurn_58 : decode cX2_halfTurn 58 = .ok (.aload_n 0, 1) := by decide +kernel
theorem dX2_halfTurn_59 : decode cX2_halfTurn 59 = .ok (.getfield 41, 3) := by decide +kernel
theorem dX2_halfTurn_62 : decode cX2_halfTurn 62 = .ok (.sipush 239, 3) := by decide +kernel
theorem dX2_halfTurn_65 : decode cX2_halfTurn 65 = .ok (.invokevirtual 78, 3) := by decide +kernel
theorem dX2_halfTurn_68 : decode cX2_halfTurn 68 = .ok (.pop, 1) := by decide +kernel
theorem dX2_halfTurn_69 : decode cX2_halfTurn 69 = .ok (.aload_n 0, 1) := by decide +kernel
theorem dX2_halfTurn_70 : decode cX2_halfTurn 70 = .ok (.aload_n 0, 1) := by decide +kernel
theorem dX2_halfTurn_71 : decode cX2_halfTurn 71 = .ok (.getfield 41, 3) := by decide +kernel
theorem dX2_halfTurn_74 : decode cX2_halfTurn 74 = .ok (.iconst 1, 1) := by decide +kernel
theorem dX2_halfTurn_75 : decode cX2_halfTurn 75 = .ok (.invokevirtual 102, 3) := by decide +kernel
theorem dX2_halfTurn_78 : decode cX2_halfTurn 78 = .ok (.aload_n 0, 1) := by decide +kernel
theorem dX2_halfTurn_79 : decode cX2_halfTurn 79 = .ok (.getfield 41, 3) := by decide +kernel
theorem dX2_halfTurn_82 : decode cX2_halfTurn 82 = .ok (.iconst 2, 1) := by decide +kernel
theorem dX2_halfTurn_83 : decode cX2_halfTurn 83 = .ok (.invokevirtual 92, 3) := by decide +kernel
theorem dX2_halfTurn_86 : decode cX2_halfTurn 86 = .ok (.aload_n 0, 1) := by decide +kernel
theorem dX2_halfTurn_87 : decode cX2_halfTurn 87 = .ok (.getfield 23, 3) := by decide +kernel
theorem dX2_halfTurn_90 : decode cX2_halfTurn 90 = .ok (.aload_n 0, 1) := by decide +kernel
theorem dX2_halfTurn_91 : decode cX2_halfTurn 91 = .ok (.getfield 23, 3) := by decide +kernel
theorem dX2_halfTurn_94 : decode cX2_halfTurn 94 = .ok (.aload_n 0, 1) := by decide +kernel
theorem dX2_halfTurn_95 : decode cX2_halfTurn 95 = .ok (.getfield 41, 3) := by decide +kernel
theorem dX2_halfTurn_98 : decode cX2_halfTurn 98 = .ok (.invokevirtual 95, 3) := by decide +kernel
theorem dX2_halfTurn_101 : decode cX2_halfTurn 101 = .ok (.aload_n 0, 1) := by decide +kernel
theorem dX2_halfTurn_102 : decode cX2_halfTurn 102 = .ok (.getfield 23, 3) := by decide +kernel
theorem dX2_halfTurn_105 : decode cX2_halfTurn 105 = .ok (.areturn, 1) := by decide +kernel
set_option maxRecDepth 20000 in
theorem ggX2_logOfTwo_X3_sign : GoodIn wsX2_logOfTwo wsX3_sign := goodIn_r _ [7, 8, 127, 128, 129] rfl (by decide +kernel)
set_option maxRecDepth 20000 in
theorem gX2_logOfTwo_X3_sign : GoodIn wsX2_logOfTwo (wsV RX2 109 RX3 yX3_sign wsX3_sign) := goodIn_app (goodIn_of _ (by decide +kernel)) ggX2_logOfTwo_X3_sign
set_option maxRecDepth 20000 in
theorem ggX2_logOfTwo_X3_become_ : GoodIn wsX2_logOfTwo wsX3_become_ := goodIn_r _ [12, 13, 14, 15, 16, 17, 18, 8, 127, 128, 129] rfl (by decide +kernel)
set_option maxRecDepth 20000 in
theorem gX2_logOfTwo_X3_become_ : GoodIn wsX2_logOfTwo (wsV RX2 67 RX3 yX3_become_ wsX3_become_) := goodIn_app (goodIn_of _ (by decide +kernel)) ggX2_logOfTwo_X3_become_
set_option maxRecDepth 20000 in
theorem ggX2_logOfTwo_X3_divide : GoodIn wsX2_logOfTwo wsX3_divide := goodIn_r _ [22, 8, 14, 13, 23, 24, 25, 6, 26, 27, 28, 29, 30, 31, 127, 128, 129] rfl (by decide +kernel)
set_option maxRecDepth 20000 in
theorem gX2_logOfTwo_X3_divide : GoodIn wsX2_logOfTwo (wsV RX2 78 RX3 yX3_divide wsX3_divide) := goodIn_app (goodIn_of _ (by decide +kernel)) ggX2_logOfTwo_X3_divide
set_option maxRecDepth 20000 in
theorem ggX2_logOfTwo_X2_sumOfRow : GoodIn wsX2_logOfTwo wsX2_sumOfRow := goodIn_r _ [36, 37, 38, 39, 9, 10, 11, 6, 12, 13, 14, 15, 16, 17, 18, 8, 40, 41, 42, 35, 43, 44, 45, 46, 47, 48, 49, 31, 50, 51, 52, 53, 23, 24, 25, 26, 54, 55, 56, 57, 58, 59, 60, 61, 62, 63, 64, 65, 27, 28, 29, 30, 66, 67, 68, 69, 70, 19, 20, 21, 22, 71, 72, 73, 74, 75, 76, 77, 78, 79, 80, 81, 82, 83, 84, 85, 86, 87, 88, 89, 90, 91, 92, 93, 94, 95, 96, 97, 98, 99, 100, 101, 102, 115, 116, 117, 118, 119, 120, 121, 122, 123, 124, 125, 126, 127, 128, 129] rfl (by decide +kernel)
set_option maxRecDepth 20000 in
theorem gX2_logOfTwo_X2_sumOfRow : GoodIn wsX2_logOfTwo (wsV RX2 102 RX2 yX2_sumOfRow wsX2_sumOfRow) := goodIn_app (goodIn_of _ (by decide +kernel)) ggX2_logOfTwo_X2_sumOfRow
set_option maxRecDepth 20000 in
theorem ggX2_logOfTwo_X3_raise : GoodIn wsX2_logOfTwo wsX3_raise := goodIn_r _ [106, 14, 13, 107, 108, 109, 6, 110, 31, 111, 112, 113, 114, 23, 24, 25, 26, 8, 127, 128, 129] rfl (by decide +kernel)
set_option maxRecDepth 20000 in
theorem gX2_logOfTwo_X3_raise : GoodIn wsX2_logOfTwo (wsV RX2 92 RX3 yX3_raise wsX3_raise) := goodIn_app (goodIn_of _ (by decide +kernel)) ggX2_logOfTwo_X3_raise
theorem dX2_logOfTwo_0 : decode cX2_logOfTwo 0 = .ok (.aload_n 0, 1) := by decide +kernel
theorem dX2_logOfTwo_1 : decode cX2_logOfTwo 1 = .ok (.getfield 26, 3) := by decide +kernel
theorem dX2_logOfTwo_4 : decode cX2_logOfTwo 4 = .ok (.invokevirtual 109, 3) := by decide +kernel
theorem dX2_logOfTwo_7 : decode cX2_logOfTwo 7 = .ok (.ifCond .ne 40, 3) := by decide +kernel
theorem dX2_logOfTwo_10 : decode cX2_logOfTwo 10 = .ok (.aload_n 0, 1) := by decide +kernel
theorem dX2_logOfTwo_11 : decode cX2_logOfTwo 11 = .ok (.getfield 26, 3) := by decide +kernel
theorem dX2_logOfTwo_14 : decode cX2_logOfTwo 14 = .ok (.aload_n 0, 1) := by decide +kernel
theorem dX2_logOfTwo_15 : decode cX2_logOfTwo 15 = .ok (.getfield 10, 3) := by decide +kernel
theorem dX2_logOfTwo_18 : decode cX2_logOfTwo 18 = .ok (.invokevirtual 67, 3) := by decide +kernel
theorem dX2_logOfTwo_21 : decode cX2_logOfTwo 21 = .ok (.aload_n 0, 1) := by decide +kernel
theorem dX2_logOfTwo_22 : decode cX2_logOfTwo 22 = .ok (.getfield 26, 3) := by decide +kernel
theorem dX2_logOfTwo_25 : decode cX2_logOfTwo 25 = .ok (.iconst 3, 1) := by decide +kernel
theorem dX2_logOfTwo_26 : decode cX2_logOfTwo 26 = .ok (.invokevirtual 78, 3) := by decide +kernel
theorem dX2_logOfTwo_29 : decode cX2_logOfTwo 29 = .ok (.pop, 1) := by decide +kernel
theorem dX2_logOfTwo_30 : decode cX2_logOfTwo 30 = .ok (.aload_n 0, 1) := by decide +kernel
theorem dX2_logOfTwo_31 : decode cX2_logOfTwo 31 = .ok (.aload_n 0, 1) := by decide +kernel
theorem dX2_logOfTwo_32 : decode cX2_logOfTwo 32 = .ok (.getfield 26, 3) := by decide +kernel
theorem dX2_logOfTwo_35 : decode cX2_logOfTwo 35 = .ok (.iconst 0, 1) := by decide +kernel
theorem dX2_logOfTwo_36 : decode cX2_logOfTwo 36 = .ok (.invokevirtual 102, 3) := by decide +kernel
theorem dX2_logOfTwo_39 : decode cX2_logOfTwo 39 = .ok (.aload_n 0, 1) := by decide +kernel
theorem dX2_logOfTwo_40 : decode cX2_logOfTwo 40 = .ok (.getfield 26, 3) := by decide +kernel
theorem dX2_logOfTwo_43 : decode cX2_logOfTwo 43 = .ok (.iconst 1, 1) := by decide +kernel
theorem dX2_logOfTwo_44 : decode cX2_logOfTwo 44 = .ok (.invokevirtual 92, 3) := by decide +kernel
theorem dX2_logOfTwo_47 : decode cX2_logOfTwo 47 = .ok (.aload_n 0, 1) := by decide +kernel
theorem dX2_logOfTwo_48 : decode cX2_logOfTwo 48 = .ok (.getfield 26, 3) := by decide +kernel
theorem dX2_logOfTwo_51 : decode cX2_logOfTwo 51 = .ok (.areturn, 1) := by decide +kernel
set_option maxRecDepth 20000 in
theorem ggX2_halveArc_X3_product : GoodIn wsX2_halveArc wsX3_product := goodIn_r _ [10, 11, 12, 13, 14, 15, 16, 17, 9, 18, 19, 20, 21, 22, 172, 173, 174] rfl (by decide +kernel)
set_option maxRecDepth 20000 in
theorem gX2_halveArc_X3_product : GoodIn wsX2_halveArc (wsV RX2 130 RX3 yX3_product wsX3_product) := goodIn_app (goodIn_of _ (by decide +kernel)) ggX2_halveArc_X3_product
set_option maxRecDepth 20000 in
theorem ggX2_halveArc_X3_becomePower : GoodIn wsX2_halveArc wsX3_becomePower := goodIn_r _ [26, 12, 11, 14, 15, 16, 17, 9, 18, 172, 173, 174] rfl (by decide +kernel)
set_option maxRecDepth 20000 in
theorem gX2_halveArc_X3_becomePower : GoodIn wsX2_halveArc (wsV RX2 54 RX3 yX3_becomePower wsX3_becomePower) := goodIn_app (goodIn_of _ (by decide +kernel)) ggX2_halveArc_X3_becomePower
set_option maxRecDepth 20000 in
theorem ggX2_halveArc_X3_sum : GoodIn wsX2_halveArc wsX3_sum := goodIn_r _ [30, 14, 31, 32, 33, 9, 34, 35, 36, 37, 38, 11, 39, 40, 41, 42, 12, 13, 43, 44, 45, 46, 47, 48, 49, 50, 51, 52, 53, 54, 55, 56, 57, 58, 19, 20, 21, 22, 172, 173, 174] rfl (by decide +kernel)
set_option maxRecDepth 20000 in
theorem gX2_halveArc_X3_sum : GoodIn wsX2_halveArc (wsV RX2 86 RX3 yX3_sum wsX3_sum) := goodIn_app (goodIn_of _ (by decide +kernel)) ggX2_halveArc_X3_sum
set_option maxRecDepth 20000 in
theorem ggX2_halveArc_X2_squareRoot : GoodIn wsX2_halveArc wsX2_squareRoot := goodIn_r _ [63, 64, 5, 65, 66, 67, 68, 9, 69, 14, 70, 16, 17, 18, 11, 71, 72, 73, 74, 12, 75, 76, 53, 77, 78, 79, 49, 80, 81, 23, 24, 25, 26, 15, 82, 83, 84, 85, 86, 87, 88, 89, 40, 41, 42, 90, 91, 92, 93, 94, 95, 96, 97, 98, 99, 100, 101, 102, 13, 103, 104, 105, 106, 107, 108, 109, 110, 111, 112, 113, 114, 115, 116, 117, 118, 119, 120, 121, 122, 123, 124, 125, 126, 127, 128, 129, 20, 21, 22, 130, 131, 132, 133, 27, 28, 29, 30, 31, 32, 33, 34, 35, 36, 37, 38, 39, 43, 44, 45, 46, 47, 48, 50, 51, 52, 54, 55, 56, 57, 58, 19, 134, 135, 136, 137, 138, 139, 140, 141, 142, 143, 144, 145, 146, 147, 148, 149, 150, 151, 152, 153, 154, 160, 161, 162, 163, 164, 165, 166, 167, 168, 169, 170, 171, 172, 173, 174, 175, 176, 177, 178] rfl (by decide +kernel)
set_option maxRecDepth 20000 in
theorem gX2_halveArc_X2_squareRoot : GoodIn wsX2_halveArc (wsV RX2 136 RX2 yX2_squareRoot wsX2_squareRoot) := goodIn_app (goodIn_of _ (by decide +kernel)) ggX2_halveArc_X2_squareRoot
set_option maxRecDepth 20000 in
theorem ggX2_halveArc_X3_raise : GoodIn wsX2_halveArc wsX3_raise := goodIn_r _ [158, 11, 12, 159, 100, 101, 9, 102, 13, 103, 104, 105, 106, 19, 20, 21, 22, 14, 172, 173, 174] rfl (by decide +kernel)
set_option maxRecDepth 20000 in
theorem gX2_halveArc_X3_raise : GoodIn wsX2_halveArc (wsV RX2 92 RX3 yX3_raise wsX3_raise) := goodIn_app (goodIn_of _ (by decide +kernel)) ggX2_halveArc_X3_raise
set_option maxRecDepth 20000 in
theorem ggX2_halveArc_X1_quotient : GoodIn wsX2_halveArc wsX1_quotient := goodIn_r _ [86, 87, 88, 89, 40, 41, 42, 90, 91, 92, 67, 68, 9, 69, 14, 93, 16, 17, 18, 11, 94, 95, 96, 97, 98, 72, 73, 74, 12, 75, 76, 53, 77, 78, 79, 49, 80, 81, 99, 100, 101, 102, 13, 103, 104, 105, 106, 107, 108, 109, 85, 110, 111, 112, 113, 114, 115, 116, 117, 118, 119, 120, 121, 122, 123, 124, 125, 126, 127, 128, 129, 20, 21, 22, 130, 131, 132, 133, 175, 176, 177, 178, 172, 173, 174] rfl (by decide +kernel)
set_option maxRecDepth 20000 in
theorem gX2_halveArc_X1_quotient : GoodIn wsX2_halveArc (wsV RX2 98 RX1 yX1_quotient wsX1_quotient) := goodIn_app (goodIn_of _ (by decide +kernel)) ggX2_halveArc_X1_quotient
theorem dX2_halveArc_0 : decode cX2_halveArc 0 = .ok (.aload_n 0, 1) := by decide +kernel
theorem dX2_halveArc_1 : decode cX2_halveArc 1 = .ok (.getfield 41, 3) := by decide +kernel
theorem dX2_halveArc_4 : decode cX2_halveArc 4 = .ok (.aload_n 1, 1) := by decide +kernel
theorem dX2_halveArc_5 : decode cX2_halveArc 5 = .ok (.aload_n 1, 1) := by decide +kernel
theorem dX2_halveArc_6 : decode cX2_halveArc 6 = .ok (.invokevirtual 130, 3) := by decide +kernel
theorem dX2_halveArc_9 : decode cX2_halveArc 9 = .ok (.aload_n 0, 1) := by decide +kernel
theorem dX2_halveArc_10 : decode cX2_halveArc 10 = .ok (.getfield 35, 3) := by decide +kernel
theorem dX2_halveArc_13 : decode cX2_halveArc 13 = .ok (.iconst 2, 1) := by decide +kernel
theorem dX2_halveArc_14 : decode cX2_halveArc 14 = .ok (.aload_n 0, 1) := by decide +kernel
theorem dX2_halveArc_15 : decode cX2_halveArc 15 = .ok (.getfield 50, 3) := by decide +kernel
theorem dX2_halveArc_18 : decode cX2_halveArc 18 = .ok (.imul, 1) := by decide +kernel
theorem dX2_halveArc_19 : decode cX2_halveArc 19 = .ok (.invokevirtual 54, 3) := by decide +kernel
theorem dX2_halveArc_22 : decode cX2_halveArc 22 = .ok (.aload_n 0, 1) := by decide +kernel
theorem dX2_halveArc_23 : decode cX2_halveArc 23 = .ok (.getfield 41, 3) := by decide +kernel
theorem dX2_halveArc_26 : decode cX2_halveArc 26 = .ok (.aload_n 0, 1) := by decide +kernel
theorem dX2_halveArc_27 : decode cX2_halveArc 27 = .ok (.getfield 41, 3) := by decide +kernel
theorem dX2_halveArc_30 : decode cX2_halveArc 30 = .ok (.aload_n 0, 1) := by decide +kernel
theorem dX2_halveArc_31 : decode cX2_halveArc 31 = .ok (.getfield 35, 3) := by decide +kernel
theorem dX2_halveArc_34 : decode cX2_halveArc 34 = .ok (.invokevirtual 86, 3) := by decide +kernel
theorem dX2_halveArc_37 : decode cX2_halveArc 37 = .ok (.aload_n 0, 1) := by decide +kernel
theorem dX2_halveArc_38 : decode cX2_halveArc 38 = .ok (.aload_n 0, 1) := by decide +kernel
theorem dX2_halveArc_39 : decode cX2_halveArc 39 = .ok (.getfield 41, 3) := by decide +kernel
theorem dX2_halveArc_42 : decode cX2_halveArc 42 = .ok (.invokevirtual 136, 3) := by decide +kernel
theorem dX2_halveArc_45 : decode cX2_halveArc 45 = .ok (.aload_n 0, 1) := by decide +kernel
theorem dX2_halveArc_46 : decode cX2_halveArc 46 = .ok (.getfield 41, 3) := by decide +kernel
theorem dX2_halveArc_49 : decode cX2_halveArc 49 = .ok (.aload_n 0, 1) := by decide +kernel
theorem dX2_halveArc_50 : decode cX2_halveArc 50 = .ok (.getfield 41, 3) := by decide +kernel
theorem dX2_halveArc_53 : decode cX2_halveArc 53 = .ok (.aload_n 0, 1) := by decide +kernel
theorem dX2_halveArc_54 : decode cX2_halveArc 54 = .ok (.getfield 10, 3) := by decide +kernel
theorem dX2_halveArc_57 : decode cX2_halveArc 57 = .ok (.invokevirtual 86, 3) := by decide +kernel
theorem dX2_halveArc_60 : decode cX2_halveArc 60 = .ok (.aload_n 1, 1) := by decide +kernel
theorem dX2_halveArc_61 : decode cX2_halveArc 61 = .ok (.aload_n 0, 1) := by decide +kernel
theorem dX2_halveArc_62 : decode cX2_halveArc 62 = .ok (.getfield 50, 3) := by decide +kernel
theorem dX2_halveArc_65 : decode cX2_halveArc 65 = .ok (.invokevirtual 92, 3) := by decide +kernel
theorem dX2_halveArc_68 : decode cX2_halveArc 68 = .ok (.aload_n 0, 1) := by decide +kernel
theorem dX2_halveArc_69 : decode cX2_halveArc 69 = .ok (.getfield 19, 3) := by decide +kernel
theorem dX2_halveArc_72 : decode cX2_halveArc 72 = .ok (.aload_n 1, 1) := by decide +kernel
theorem dX2_halveArc_73 : decode cX2_halveArc 73 = .ok (.aload_n 1, 1) := by decide +kernel
theorem dX2_halveArc_74 : decode cX2_halveArc 74 = .ok (.aload_n 0, 1) := by decide +kernel
theorem dX2_halveArc_75 : decode cX2_halveArc 75 = .ok (.getfield 41, 3) := by decide +kernel
theorem dX2_halveArc_78 : decode cX2_halveArc 78 = .ok (.invokevirtual 98, 3) := by decide +kernel
theorem dX2_halveArc_81 : decode cX2_halveArc 81 = .ok (.pop, 1) := by decide +kernel
theorem dX2_halveArc_82 : decode cX2_halveArc 82 = .ok (.return_, 1) := by decide +kernel
set_option maxRecDepth 20000 in
theorem ggX2_sumOfRow_X3_become_ : GoodIn wsX2_sumOfRow wsX3_become_ := goodIn_r _ [8, 9, 10, 11, 12, 13, 14, 15, 105, 106, 107] rfl (by decide +kernel)
set_option maxRecDepth 20000 in
theorem gX2_sumOfRow_X3_become_ : GoodIn wsX2_sumOfRow (wsV RX2 67 RX3 yX3_become_ wsX3_become_) := goodIn_app (goodIn_of _ (by decide +kernel)) ggX2_sumOfRow_X3_become_
set_option maxRecDepth 20000 in
theorem ggX2_sumOfRow_X2_scale : GoodIn wsX2_sumOfRow wsX2_scale := goodIn_r _ [20, 21, 22, 23, 24, 25, 7, 26, 10, 9, 27, 15, 28, 29, 30, 31, 32, 33, 34, 35, 36, 37, 38, 39, 40, 41, 42, 43, 44, 45, 46, 47, 48, 49, 50, 51, 4, 5, 6, 8, 11, 12, 13, 14, 93, 94, 95, 96, 97, 98, 99, 100, 101, 102, 103, 104, 105, 106, 107] rfl (by decide +kernel)
set_option maxRecDepth 20000 in
theorem gX2_sumOfRow_X2_scale : GoodIn wsX2_sumOfRow (wsV RX2 74 RX2 yX2_scale wsX2_scale) := goodIn_app (goodIn_of _ (by decide +kernel)) ggX2_sumOfRow_X2_scale
set_option maxRecDepth 20000 in
theorem ggX2_sumOfRow_X3_clear : GoodIn wsX2_sumOfRow wsX3_clear := goodIn_r _ [31, 10, 15, 105, 106, 107] rfl (by decide +kernel)
set_option maxRecDepth 20000 in
theorem gX2_sumOfRow_X3_clear : GoodIn wsX2_sumOfRow (wsV RX2 133 RX3 yX3_clear wsX3_clear) := goodIn_app (goodIn_of _ (by decide +kernel)) ggX2_sumOfRow_X3_clear
set_option maxRecDepth 20000 in
theorem ggX2_sumOfRow_X3_isSpent : GoodIn wsX2_sumOfRow wsX3_isSpent := goodIn_r _ [56, 15, 10, 9, 105, 106, 107] rfl (by decide +kernel)
set_option maxRecDepth 20000 in
theorem gX2_sumOfRow_X3_isSpent : GoodIn wsX2_sumOfRow (wsV RX2 82 RX3 yX3_isSpent wsX3_isSpent) := goodIn_app (goodIn_of _ (by decide +kernel)) ggX2_sumOfRow_X3_isSpent
set_option maxRecDepth 20000 in
theorem ggX2_sumOfRow_X3_divide : GoodIn wsX2_sumOfRow wsX3_divide := goodIn_r _ [60, 15, 10, 9, 32, 33, 34, 7, 35, 48, 49, 50, 51, 27, 105, 106, 107] rfl (by decide +kernel)
set_option maxRecDepth 20000 in
theorem gX2_sumOfRow_X3_divide : GoodIn wsX2_sumOfRow (wsV RX2 78 RX3 yX3_divide wsX3_divide) := goodIn_app (goodIn_of _ (by decide +kernel)) ggX2_sumOfRow_X3_divide
set_option maxRecDepth 20000 in
theorem ggX2_sumOfRow_X3_difference : GoodIn wsX2_sumOfRow wsX3_difference := goodIn_r _ [64, 15, 65, 66, 67, 7, 68, 69, 70, 71, 72, 10, 40, 41, 42, 43, 9, 27, 73, 74, 75, 76, 77, 78, 79, 80, 81, 82, 83, 84, 85, 86, 87, 88, 32, 33, 34, 35, 105, 106, 107] rfl (by decide +kernel)
set_option maxRecDepth 20000 in
theorem gX2_sumOfRow_X3_difference : GoodIn wsX2_sumOfRow (wsV RX2 95 RX3 yX3_difference wsX3_difference) := goodIn_app (goodIn_of _ (by decide +kernel)) ggX2_sumOfRow_X3_difference
set_option maxRecDepth 20000 in
theorem ggX2_sumOfRow_X3_sum : GoodIn wsX2_sumOfRow wsX3_sum := goodIn_r _ [92, 15, 65, 66, 67, 7, 68, 69, 70, 71, 72, 10, 40, 41, 42, 43, 9, 27, 73, 74, 75, 76, 77, 78, 79, 80, 81, 82, 83, 84, 85, 86, 87, 88, 32, 33, 34, 35, 105, 106, 107] rfl (by decide +kernel)
set_option maxRecDepth 20000 in
theorem gX2_sumOfRow_X3_sum : GoodIn wsX2_sumOfRow (wsV RX2 86 RX3 yX3_sum wsX3_sum) := goodIn_app (goodIn_of _ (by decide +kernel)) ggX2_sumOfRow_X3_sum
theorem dX2_sumOfRow_0 : decode cX2_sumOfRow 0 = .ok (.aload_n 0, 1) := by decide +kernel
theorem dX2_sumOfRow_1 : decode cX2_sumOfRow 1 = .ok (.getfield 29, 3) := by decide +kernel
theorem dX2_sumOfRow_4 : decode cX2_sumOfRow 4 = .ok (.aload_n 1, 1) := by decide +kernel
theorem dX2_sumOfRow_5 : decode cX2_sumOfRow 5 = .ok (.invokevirtual 67, 3) := by decide +kernel
theorem dX2_sumOfRow_8 : decode cX2_sumOfRow 8 = .ok (.aload_n 0, 1) := by decide +kernel
theorem dX2_sumOfRow_9 : decode cX2_sumOfRow 9 = .ok (.getfield 32, 3) := by decide +kernel
theorem dX2_sumOfRow_12 : decode cX2_sumOfRow 12 = .ok (.aload_n 1, 1) := by decide +kernel
theorem dX2_sumOfRow_13 : decode cX2_sumOfRow 13 = .ok (.invokevirtual 67, 3) := by decide +kernel
theorem dX2_sumOfRow_16 : decode cX2_sumOfRow 16 = .ok (.aload_n 0, 1) := by decide +kernel
theorem dX2_sumOfRow_17 : decode cX2_sumOfRow 17 = .ok (.aload_n 0, 1) := by decide +kernel
theorem dX2_sumOfRow_18 : decode cX2_sumOfRow 18 = .ok (.getfield 32, 3) := by decide +kernel
theorem dX2_sumOfRow_21 : decode cX2_sumOfRow 21 = .ok (.aload_n 1, 1) := by decide +kernel
theorem dX2_sumOfRow_22 : decode cX2_sumOfRow 22 = .ok (.invokevirtual 74, 3) := by decide +kernel
theorem dX2_sumOfRow_25 : decode cX2_sumOfRow 25 = .ok (.aload_n 1, 1) := by decide +kernel
theorem dX2_sumOfRow_26 : decode cX2_sumOfRow 26 = .ok (.invokevirtual 133, 3) := by decide +kernel
theorem dX2_sumOfRow_29 : decode cX2_sumOfRow 29 = .ok (.iconst 0, 1) := by decide +kernel
theorem dX2_sumOfRow_30 : decode cX2_sumOfRow 30 = .ok (.istore_n 3, 1) := by decide +kernel
theorem dX2_sumOfRow_31 : decode cX2_sumOfRow 31 = .ok (.iload_n 3, 1) := by decide +kernel
theorem dX2_sumOfRow_32 : decode cX2_sumOfRow 32 = .ok (.sipush 10000, 3) := by decide +kernel
theorem dX2_sumOfRow_35 : decode cX2_sumOfRow 35 = .ok (.if_icmp .ge 87, 3) := by decide +kernel
theorem dX2_sumOfRow_38 : decode cX2_sumOfRow 38 = .ok (.aload_n 0, 1) := by decide +kernel
theorem dX2_sumOfRow_39 : decode cX2_sumOfRow 39 = .ok (.getfield 29, 3) := by decide +kernel
theorem dX2_sumOfRow_42 : decode cX2_sumOfRow 42 = .ok (.invokevirtual 82, 3) := by decide +kernel
theorem dX2_sumOfRow_45 : decode cX2_sumOfRow 45 = .ok (.ifCond .ne 77, 3) := by decide +kernel
theorem dX2_sumOfRow_48 : decode cX2_sumOfRow 48 = .ok (.aload_n 0, 1) := by decide +kernel
theorem dX2_sumOfRow_49 : decode cX2_sumOfRow 49 = .ok (.getfield 35, 3) := by decide +kernel
theorem dX2_sumOfRow_52 : decode cX2_sumOfRow 52 = .ok (.aload_n 0, 1) := by decide +kernel
theorem dX2_sumOfRow_53 : decode cX2_sumOfRow 53 = .ok (.getfield 29, 3) := by decide +kernel
theorem dX2_sumOfRow_56 : decode cX2_sumOfRow 56 = .ok (.invokevirtual 67, 3) := by decide +kernel
theorem dX2_sumOfRow_59 : decode cX2_sumOfRow 59 = .ok (.aload_n 0, 1) := by decide +kernel
theorem dX2_sumOfRow_60 : decode cX2_sumOfRow 60 = .ok (.getfield 35, 3) := by decide +kernel
theorem dX2_sumOfRow_63 : decode cX2_sumOfRow 63 = .ok (.iconst 2, 1) := by decide +kernel
theorem dX2_sumOfRow_64 : decode cX2_sumOfRow 64 = .ok (.iload_n 3, 1) := by decide +kernel
theorem dX2_sumOfRow_65 : decode cX2_sumOfRow 65 = .ok (.imul, 1) := by decide +kernel
theorem dX2_sumOfRow_66 : decode cX2_sumOfRow 66 = .ok (.iconst 1, 1) := by decide +kernel
theorem dX2_sumOfRow_67 : decode cX2_sumOfRow 67 = .ok (.iadd, 1) := by decide +kernel
theorem dX2_sumOfRow_68 : decode cX2_sumOfRow 68 = .ok (.invokevirtual 78, 3) := by decide +kernel
theorem dX2_sumOfRow_71 : decode cX2_sumOfRow 71 = .ok (.pop, 1) := by decide +kernel
theorem dX2_sumOfRow_72 : decode cX2_sumOfRow 72 = .ok (.iload_n 2, 1) := by decide +kernel
theorem dX2_sumOfRow_73 : decode cX2_sumOfRow 73 = .ok (.ifCond .eq 22, 3) := by decide +kernel
theorem dX2_sumOfRow_76 : decode cX2_sumOfRow 76 = .ok (.iload_n 3, 1) := by decide +kernel
theorem dX2_sumOfRow_77 : decode cX2_sumOfRow 77 = .ok (.iconst 2, 1) := by decide +kernel
theorem dX2_sumOfRow_78 : decode cX2_sumOfRow 78 = .ok (.irem, 1) := by decide +kernel
theorem dX2_sumOfRow_79 : decode cX2_sumOfRow 79 = .ok (.iconst 1, 1) := by decide +kernel
theorem dX2_sumOfRow_80 : decode cX2_sumOfRow 80 = .ok (.if_icmp .ne 15, 3) := by decide +kernel
theorem dX2_sumOfRow_83 : decode cX2_sumOfRow 83 = .ok (.aload_n 1, 1) := by decide +kernel
theorem dX2_sumOfRow_84 : decode cX2_sumOfRow 84 = .ok (.aload_n 1, 1) := by decide +kernel
theorem dX2_sumOfRow_85 : decode cX2_sumOfRow 85 = .ok (.aload_n 0, 1) := by decide +kernel
theorem dX2_sumOfRow_86 : decode cX2_sumOfRow 86 = .ok (.getfield 35, 3) := by decide +kernel
theorem dX2_sumOfRow_89 : decode cX2_sumOfRow 89 = .ok (.invokevirtual 95, 3) := by decide +kernel
theorem dX2_sumOfRow_92 : decode cX2_sumOfRow 92 = .ok (.goto 12, 3) := by decide +kernel
theorem dX2_sumOfRow_95 : decode cX2_sumOfRow 95 = .ok (.aload_n 1, 1) := by decide +kernel
theorem dX2_sumOfRow_96 : decode cX2_sumOfRow 96 = .ok (.aload_n 1, 1) := by decide +kernel
theorem dX2_sumOfRow_97 : decode cX2_sumOfRow 97 = .ok (.aload_n 0, 1) := by decide +kernel
theorem dX2_sumOfRow_98 : decode cX2_sumOfRow 98 = .ok (.getfield 35, 3) := by decide +kernel
theorem dX2_sumOfRow_101 : decode cX2_sumOfRow 101 = .ok (.invokevirtual 86, 3) := by decide +kernel
theorem dX2_sumOfRow_104 : decode cX2_sumOfRow 104 = .ok (.aload_n 0, 1) := by decide +kernel
theorem dX2_sumOfRow_105 : decode cX2_sumOfRow 105 = .ok (.aload_n 0, 1) := by decide +kernel
theorem dX2_sumOfRow_106 : decode cX2_sumOfRow 106 = .ok (.getfield 29, 3) := by decide +kernel
theorem dX2_sumOfRow_109 : decode cX2_sumOfRow 109 = .ok (.aload_n 0, 1) := by decide +kernel
theorem dX2_sumOfRow_110 : decode cX2_sumOfRow 110 = .ok (.getfield 32, 3) := by decide +kernel
theorem dX2_sumOfRow_113 : decode cX2_sumOfRow 113 = .ok (.invokevirtual 74, 3) := by decide +kernel
theorem dX2_sumOfRow_116 : decode cX2_sumOfRow 116 = .ok (.iinc 3 1, 3) := by decide +kernel
theorem dX2_sumOfRow_119 : decode cX2_sumOfRow 119 = .ok (.goto (-88), 3) := by decide +kernel
theorem dX2_sumOfRow_122 : decode cX2_sumOfRow 122 = .ok (.return_, 1) := by decide +kernel
set_option maxRecDepth 20000 in
theorem ggX2_scale_X3_product : GoodIn wsX2_scale wsX3_product := goodIn_r _ [7, 8, 9, 10, 11, 12, 13, 14, 6, 15, 16, 17, 18, 19, 56, 57, 58] rfl (by decide +kernel)
set_option maxRecDepth 20000 in
theorem gX2_scale_X3_product : GoodIn wsX2_scale (wsV RX2 130 RX3 yX3_product wsX3_product) := goodIn_app (goodIn_of _ (by decide +kernel)) ggX2_scale_X3_product
set_option maxRecDepth 20000 in
theorem ggX2_scale_X3_lower : GoodIn wsX2_scale wsX3_lower := goodIn_r _ [23, 11, 8, 24, 25, 26, 27, 9, 10, 28, 29, 30, 6, 31, 16, 17, 18, 19, 32, 33, 34, 35, 56, 57, 58] rfl (by decide +kernel)
set_option maxRecDepth 20000 in
theorem gX2_scale_X3_lower : GoodIn wsX2_scale (wsV RX2 71 RX3 yX3_lower wsX3_lower) := goodIn_app (goodIn_of _ (by decide +kernel)) ggX2_scale_X3_lower
set_option maxRecDepth 20000 in
theorem ggX2_scale_X3_become_ : GoodIn wsX2_scale wsX3_become_ := goodIn_r _ [39, 9, 8, 40, 41, 42, 43, 11, 56, 57, 58] rfl (by decide +kernel)
set_option maxRecDepth 20000 in
theorem gX2_scale_X3_become_ : GoodIn wsX2_scale (wsV RX2 67 RX3 yX3_become_ wsX3_become_) := goodIn_app (goodIn_of _ (by decide +kernel)) ggX2_scale_X3_become_
theorem dX2_scale_0 : decode cX2_scale 0 = .ok (.aload_n 0, 1) := by decide +kernel
theorem dX2_scale_1 : decode cX2_scale 1 = .ok (.getfield 38, 3) := by decide +kernel
theorem dX2_scale_4 : decode cX2_scale 4 = .ok (.aload_n 1, 1) := by decide +kernel
theorem dX2_scale_5 : decode cX2_scale 5 = .ok (.aload_n 2, 1) := by decide +kernel
theorem dX2_scale_6 : decode cX2_scale 6 = .ok (.invokevirtual 130, 3) := by decide +kernel
theorem dX2_scale_9 : decode cX2_scale 9 = .ok (.aload_n 0, 1) := by decide +kernel
theorem dX2_scale_10 : decode cX2_scale 10 = .ok (.getfield 38, 3) := by decide +kernel
theorem dX2_scale_13 : decode cX2_scale 13 = .ok (.aload_n 0, 1) := by decide +kernel
theorem dX2_scale_14 : decode cX2_scale 14 = .ok (.getfield 50, 3) := by decide +kernel
theorem dX2_scale_17 : decode cX2_scale 17 = .ok (.invokevirtual 71, 3) := by decide +kernel
theorem dX2_scale_20 : decode cX2_scale 20 = .ok (.aload_n 1, 1) := by decide +kernel
theorem dX2_scale_21 : decode cX2_scale 21 = .ok (.aload_n 0, 1) := by decide +kernel
theorem dX2_scale_22 : decode cX2_scale 22 = .ok (.getfield 38, 3) := by decide +kernel
theorem dX2_scale_25 : decode cX2_scale 25 = .ok (.invokevirtual 67, 3) := by decide +kernel
theorem dX2_scale_28 : decode cX2_scale 28 = .ok (.return_, 1) := by decide +kernel
