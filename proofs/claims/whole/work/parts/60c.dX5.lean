set_option maxRecDepth 20000 in
theorem ggX5_init_X5_power : GoodIn wsX5_init wsX5_power := goodIn_r _ [16, 5, 6, 17, 18, 19, 15, 20, 87, 88, 89, 90, 91, 92, 93] rfl (by decide +kernel)
set_option maxRecDepth 20000 in
theorem gX5_init_X5_power : GoodIn wsX5_init (wsV RX5 30 RX5 yX5_power wsX5_power) := goodIn_app (goodIn_of _ (by decide +kernel)) ggX5_init_X5_power
set_option maxRecDepth 20000 in
theorem ggX5_init_X5_divideSmall : GoodIn wsX5_init wsX5_divideSmall := goodIn_r _ [24, 6, 5, 25, 26, 27, 15, 28, 29, 30, 31, 32, 33, 34, 35, 36, 37, 38, 39, 40, 41, 17, 18, 19, 20, 42, 43, 44, 45, 46, 47, 48, 49, 50, 51, 52, 53, 54, 55, 56, 57, 58, 87, 88, 89, 90, 91, 92, 93] rfl (by decide +kernel)
set_option maxRecDepth 20000 in
theorem gX5_init_X5_divideSmall : GoodIn wsX5_init (wsV RX5 34 RX5 yX5_divideSmall wsX5_divideSmall) := goodIn_app (goodIn_of _ (by decide +kernel)) ggX5_init_X5_divideSmall
set_option maxRecDepth 20000 in
theorem ggX5_init_X5_row : GoodIn wsX5_init wsX5_row := goodIn_r _ [62, 11, 63, 64, 65, 15, 66, 8, 6, 5, 41, 25, 26, 27, 28, 29, 30, 31, 32, 67, 68, 69, 70, 50, 33, 34, 35, 36, 37, 38, 39, 40, 17, 18, 19, 20, 42, 43, 44, 45, 46, 47, 48, 49, 51, 52, 53, 54, 55, 56, 57, 58, 71, 72, 73, 74, 75, 76, 77, 78, 21, 22, 23, 24, 87, 88, 89, 90, 91, 92, 93] rfl (by decide +kernel)
set_option maxRecDepth 20000 in
theorem gX5_init_X5_row : GoodIn wsX5_init (wsV RX5 38 RX5 yX5_row wsX5_row) := goodIn_app (goodIn_of _ (by decide +kernel)) ggX5_init_X5_row
set_option maxRecDepth 20000 in
theorem ggX5_init_X5_timesSmall : GoodIn wsX5_init wsX5_timesSmall := goodIn_r _ [82, 37, 38, 39, 15, 40, 5, 41, 17, 18, 19, 20, 6, 29, 30, 31, 32, 63, 64, 65, 66, 8, 25, 26, 27, 28, 87, 88, 89, 90, 91, 92, 93] rfl (by decide +kernel)
set_option maxRecDepth 20000 in
theorem gX5_init_X5_timesSmall : GoodIn wsX5_init (wsV RX5 42 RX5 yX5_timesSmall wsX5_timesSmall) := goodIn_app (goodIn_of _ (by decide +kernel)) ggX5_init_X5_timesSmall
set_option maxRecDepth 20000 in
theorem ggX5_init_X5_minus : GoodIn wsX5_init wsX5_minus := goodIn_r _ [86, 46, 47, 48, 15, 49, 6, 5, 50, 51, 52, 53, 54, 55, 56, 57, 58, 25, 26, 27, 28, 29, 30, 31, 32, 87, 88, 89, 90, 91, 92, 93] rfl (by decide +kernel)
set_option maxRecDepth 20000 in
theorem gX5_init_X5_minus : GoodIn wsX5_init (wsV RX5 45 RX5 yX5_minus wsX5_minus) := goodIn_app (goodIn_of _ (by decide +kernel)) ggX5_init_X5_minus
theorem dX5_init_0 : decode cX5_init 0 = .ok (.aload_n 0, 1) := by decide +kernel
theorem dX5_init_1 : decode cX5_init 1 = .ok (.invokespecial 1, 3) := by decide +kernel
theorem dX5_init_4 : decode cX5_init 4 = .ok (.aload_n 0, 1) := by decide +kernel
theorem dX5_init_5 : decode cX5_init 5 = .ok (.sipush 2040, 3) := by decide +kernel
theorem dX5_init_8 : decode cX5_init 8 = .ok (.newarray .int, 2) := by decide +kernel
theorem dX5_init_10 : decode cX5_init 10 = .ok (.putfield 7, 3) := by decide +kernel
theorem dX5_init_13 : decode cX5_init 13 = .ok (.aload_n 0, 1) := by decide +kernel
theorem dX5_init_14 : decode cX5_init 14 = .ok (.bipush 60, 2) := by decide +kernel
theorem dX5_init_16 : decode cX5_init 16 = .ok (.newarray .int, 2) := by decide +kernel
theorem dX5_init_18 : decode cX5_init 18 = .ok (.putfield 13, 3) := by decide +kernel
theorem dX5_init_21 : decode cX5_init 21 = .ok (.aload_n 0, 1) := by decide +kernel
theorem dX5_init_22 : decode cX5_init 22 = .ok (.bipush 70, 2) := by decide +kernel
theorem dX5_init_24 : decode cX5_init 24 = .ok (.newarray .long, 2) := by decide +kernel
theorem dX5_init_26 : decode cX5_init 26 = .ok (.putfield 16, 3) := by decide +kernel
theorem dX5_init_29 : decode cX5_init 29 = .ok (.aload_n 0, 1) := by decide +kernel
theorem dX5_init_30 : decode cX5_init 30 = .ok (.bipush 36, 2) := by decide +kernel
theorem dX5_init_32 : decode cX5_init 32 = .ok (.newarray .int, 2) := by decide +kernel
theorem dX5_init_34 : decode cX5_init 34 = .ok (.putfield 20, 3) := by decide +kernel
theorem dX5_init_37 : decode cX5_init 37 = .ok (.aload_n 0, 1) := by decide +kernel
theorem dX5_init_38 : decode cX5_init 38 = .ok (.iload_n 1, 1) := by decide +kernel
theorem dX5_init_39 : decode cX5_init 39 = .ok (.bipush 16, 2) := by decide +kernel
theorem dX5_init_41 : decode cX5_init 41 = .ok (.if_icmp .ge 8, 3) := by decide +kernel
theorem dX5_init_44 : decode cX5_init 44 = .ok (.bipush 16, 2) := by decide +kernel
theorem dX5_init_46 : decode cX5_init 46 = .ok (.goto 17, 3) := by decide +kernel
theorem dX5_init_49 : decode cX5_init 49 = .ok (.iload_n 1, 1) := by decide +kernel
theorem dX5_init_50 : decode cX5_init 50 = .ok (.sipush 192, 3) := by decide +kernel
theorem dX5_init_53 : decode cX5_init 53 = .ok (.if_icmp .le 9, 3) := by decide +kernel
theorem dX5_init_56 : decode cX5_init 56 = .ok (.sipush 192, 3) := by decide +kernel
theorem dX5_init_59 : decode cX5_init 59 = .ok (.goto 4, 3) := by decide +kernel
theorem dX5_init_62 : decode cX5_init 62 = .ok (.iload_n 1, 1) := by decide +kernel
theorem dX5_init_63 : decode cX5_init 63 = .ok (.putfield 23, 3) := by decide +kernel
theorem dX5_init_66 : decode cX5_init 66 = .ok (.aload_n 0, 1) := by decide +kernel
theorem dX5_init_67 : decode cX5_init 67 = .ok (.aload_n 0, 1) := by decide +kernel
theorem dX5_init_68 : decode cX5_init 68 = .ok (.getfield 23, 3) := by decide +kernel
theorem dX5_init_71 : decode cX5_init 71 = .ok (.bipush 64, 2) := by decide +kernel
theorem dX5_init_73 : decode cX5_init 73 = .ok (.iadd, 1) := by decide +kernel
theorem dX5_init_74 : decode cX5_init 74 = .ok (.putfield 27, 3) := by decide +kernel
theorem dX5_init_77 : decode cX5_init 77 = .ok (.aload_n 0, 1) := by decide +kernel
theorem dX5_init_78 : decode cX5_init 78 = .ok (.bipush 27, 2) := by decide +kernel
theorem dX5_init_80 : decode cX5_init 80 = .ok (.aload_n 0, 1) := by decide +kernel
theorem dX5_init_81 : decode cX5_init 81 = .ok (.getfield 27, 3) := by decide +kernel
theorem dX5_init_84 : decode cX5_init 84 = .ok (.invokevirtual 30, 3) := by decide +kernel
theorem dX5_init_87 : decode cX5_init 87 = .ok (.aload_n 0, 1) := by decide +kernel
theorem dX5_init_88 : decode cX5_init 88 = .ok (.bipush 28, 2) := by decide +kernel
theorem dX5_init_90 : decode cX5_init 90 = .ok (.aload_n 0, 1) := by decide +kernel
theorem dX5_init_91 : decode cX5_init 91 = .ok (.getfield 23, 3) := by decide +kernel
theorem dX5_init_94 : decode cX5_init 94 = .ok (.bipush 48, 2) := by decide +kernel
theorem dX5_init_96 : decode cX5_init 96 = .ok (.iadd, 1) := by decide +kernel
theorem dX5_init_97 : decode cX5_init 97 = .ok (.invokevirtual 30, 3) := by decide +kernel
theorem dX5_init_100 : decode cX5_init 100 = .ok (.aload_n 0, 1) := by decide +kernel
theorem dX5_init_101 : decode cX5_init 101 = .ok (.bipush 45, 2) := by decide +kernel
theorem dX5_init_103 : decode cX5_init 103 = .ok (.bipush 27, 2) := by decide +kernel
theorem dX5_init_105 : decode cX5_init 105 = .ok (.iconst 5, 1) := by decide +kernel
theorem dX5_init_106 : decode cX5_init 106 = .ok (.invokevirtual 34, 3) := by decide +kernel
theorem dX5_init_109 : decode cX5_init 109 = .ok (.aload_n 0, 1) := by decide +kernel
theorem dX5_init_110 : decode cX5_init 110 = .ok (.bipush 45, 2) := by decide +kernel
theorem dX5_init_112 : decode cX5_init 112 = .ok (.bipush 45, 2) := by decide +kernel
theorem dX5_init_114 : decode cX5_init 114 = .ok (.iconst 1, 1) := by decide +kernel
theorem dX5_init_115 : decode cX5_init 115 = .ok (.invokevirtual 38, 3) := by decide +kernel
theorem dX5_init_118 : decode cX5_init 118 = .ok (.aload_n 0, 1) := by decide +kernel
theorem dX5_init_119 : decode cX5_init 119 = .ok (.bipush 45, 2) := by decide +kernel
theorem dX5_init_121 : decode cX5_init 121 = .ok (.bipush 45, 2) := by decide +kernel
theorem dX5_init_123 : decode cX5_init 123 = .ok (.bipush 16, 2) := by decide +kernel
theorem dX5_init_125 : decode cX5_init 125 = .ok (.invokevirtual 42, 3) := by decide +kernel
theorem dX5_init_128 : decode cX5_init 128 = .ok (.aload_n 0, 1) := by decide +kernel
theorem dX5_init_129 : decode cX5_init 129 = .ok (.bipush 46, 2) := by decide +kernel
theorem dX5_init_131 : decode cX5_init 131 = .ok (.bipush 27, 2) := by decide +kernel
theorem dX5_init_133 : decode cX5_init 133 = .ok (.sipush 239, 3) := by decide +kernel
theorem dX5_init_136 : decode cX5_init 136 = .ok (.invokevirtual 34, 3) := by decide +kernel
theorem dX5_init_139 : decode cX5_init 139 = .ok (.aload_n 0, 1) := by decide +kernel
theorem dX5_init_140 : decode cX5_init 140 = .ok (.bipush 46, 2) := by decide +kernel
theorem dX5_init_142 : decode cX5_init 142 = .ok (.bipush 46, 2) := by decide +kernel
theorem dX5_init_144 : decode cX5_init 144 = .ok (.iconst 1, 1) := by decide +kernel
theorem dX5_init_145 : decode cX5_init 145 = .ok (.invokevirtual 38, 3) := by decide +kernel
theorem dX5_init_148 : decode cX5_init 148 = .ok (.aload_n 0, 1) := by decide +kernel
theorem dX5_init_149 : decode cX5_init 149 = .ok (.bipush 46, 2) := by decide +kernel
theorem dX5_init_151 : decode cX5_init 151 = .ok (.bipush 46, 2) := by decide +kernel
theorem dX5_init_153 : decode cX5_init 153 = .ok (.iconst 4, 1) := by decide +kernel
theorem dX5_init_154 : decode cX5_init 154 = .ok (.invokevirtual 42, 3) := by decide +kernel
theorem dX5_init_157 : decode cX5_init 157 = .ok (.aload_n 0, 1) := by decide +kernel
theorem dX5_init_158 : decode cX5_init 158 = .ok (.bipush 26, 2) := by decide +kernel
theorem dX5_init_160 : decode cX5_init 160 = .ok (.bipush 45, 2) := by decide +kernel
theorem dX5_init_162 : decode cX5_init 162 = .ok (.bipush 46, 2) := by decide +kernel
theorem dX5_init_164 : decode cX5_init 164 = .ok (.invokevirtual 45, 3) := by decide +kernel
theorem dX5_init_167 : decode cX5_init 167 = .ok (.return_, 1) := by decide +kernel
theorem dX5_thrown_0 : decode cX5_thrown 0 = .ok (.aload_n 0, 1) := by decide +kernel
theorem dX5_thrown_1 : decode cX5_thrown 1 = .ok (.getfield 48, 3) := by decide +kernel
theorem dX5_thrown_4 : decode cX5_thrown 4 = .ok (.ireturn, 1) := by decide +kernel
theorem dX5_at_0 : decode cX5_at 0 = .ok (.aload_n 0, 1) := by decide +kernel
theorem dX5_at_1 : decode cX5_at 1 = .ok (.getfield 7, 3) := by decide +kernel
theorem dX5_at_4 : decode cX5_at 4 = .ok (.bipush 34, 2) := by decide +kernel
theorem dX5_at_6 : decode cX5_at 6 = .ok (.iload_n 1, 1) := by decide +kernel
theorem dX5_at_7 : decode cX5_at 7 = .ok (.imul, 1) := by decide +kernel
theorem dX5_at_8 : decode cX5_at 8 = .ok (.iload_n 2, 1) := by decide +kernel
theorem dX5_at_9 : decode cX5_at 9 = .ok (.iadd, 1) := by decide +kernel
theorem dX5_at_10 : decode cX5_at 10 = .ok (.iaload, 1) := by decide +kernel
theorem dX5_at_11 : decode cX5_at 11 = .ok (.ireturn, 1) := by decide +kernel
theorem dX5_none_0 : decode cX5_none 0 = .ok (.iconst 0, 1) := by decide +kernel
theorem dX5_none_1 : decode cX5_none 1 = .ok (.istore_n 2, 1) := by decide +kernel
theorem dX5_none_2 : decode cX5_none 2 = .ok (.iload_n 2, 1) := by decide +kernel
theorem dX5_none_3 : decode cX5_none 3 = .ok (.bipush 34, 2) := by decide +kernel
theorem dX5_none_5 : decode cX5_none 5 = .ok (.if_icmp .ge 21, 3) := by decide +kernel
theorem dX5_none_8 : decode cX5_none 8 = .ok (.aload_n 0, 1) := by decide +kernel
theorem dX5_none_9 : decode cX5_none 9 = .ok (.getfield 7, 3) := by decide +kernel
theorem dX5_none_12 : decode cX5_none 12 = .ok (.bipush 34, 2) := by decide +kernel
theorem dX5_none_14 : decode cX5_none 14 = .ok (.iload_n 1, 1) := by decide +kernel
theorem dX5_none_15 : decode cX5_none 15 = .ok (.imul, 1) := by decide +kernel
theorem dX5_none_16 : decode cX5_none 16 = .ok (.iload_n 2, 1) := by decide +kernel
theorem dX5_none_17 : decode cX5_none 17 = .ok (.iadd, 1) := by decide +kernel
theorem dX5_none_18 : decode cX5_none 18 = .ok (.iconst 0, 1) := by decide +kernel
theorem dX5_none_19 : decode cX5_none 19 = .ok (.iastore, 1) := by decide +kernel
theorem dX5_none_20 : decode cX5_none 20 = .ok (.iinc 2 1, 3) := by decide +kernel
theorem dX5_none_23 : decode cX5_none 23 = .ok (.goto (-21), 3) := by decide +kernel
theorem dX5_none_26 : decode cX5_none 26 = .ok (.aload_n 0, 1) := by decide +kernel
theorem dX5_none_27 : decode cX5_none 27 = .ok (.getfield 13, 3) := by decide +kernel
theorem dX5_none_30 : decode cX5_none 30 = .ok (.iload_n 1, 1) := by decide +kernel
theorem dX5_none_31 : decode cX5_none 31 = .ok (.iconst 0, 1) := by decide +kernel
theorem dX5_none_32 : decode cX5_none 32 = .ok (.iastore, 1) := by decide +kernel
theorem dX5_none_33 : decode cX5_none 33 = .ok (.return_, 1) := by decide +kernel
theorem dX5_settle_0 : decode cX5_settle 0 = .ok (.iconst 0, 1) := by decide +kernel
theorem dX5_settle_1 : decode cX5_settle 1 = .ok (.istore_n 3, 1) := by decide +kernel
theorem dX5_settle_2 : decode cX5_settle 2 = .ok (.iconst 0, 1) := by decide +kernel
theorem dX5_settle_3 : decode cX5_settle 3 = .ok (.istore 4, 2) := by decide +kernel
theorem dX5_settle_5 : decode cX5_settle 5 = .ok (.iload 4, 2) := by decide +kernel
theorem dX5_settle_7 : decode cX5_settle 7 = .ok (.bipush 34, 2) := by decide +kernel
theorem dX5_settle_9 : decode cX5_settle 9 = .ok (.if_icmp .ge 34, 3) := by decide +kernel
theorem dX5_settle_12 : decode cX5_settle 12 = .ok (.iload_n 3, 1) := by decide +kernel
theorem dX5_settle_13 : decode cX5_settle 13 = .ok (.ifCond .ne 18, 3) := by decide +kernel
theorem dX5_settle_16 : decode cX5_settle 16 = .ok (.aload_n 0, 1) := by decide +kernel
theorem dX5_settle_17 : decode cX5_settle 17 = .ok (.getfield 7, 3) := by decide +kernel
theorem dX5_settle_20 : decode cX5_settle 20 = .ok (.bipush 34, 2) := by decide +kernel
theorem dX5_settle_22 : decode cX5_settle 22 = .ok (.iload_n 1, 1) := by decide +kernel
theorem dX5_settle_23 : decode cX5_settle 23 = .ok (.imul, 1) := by decide +kernel
theorem dX5_settle_24 : decode cX5_settle 24 = .ok (.iload 4, 2) := by decide +kernel
theorem dX5_settle_26 : decode cX5_settle 26 = .ok (.iadd, 1) := by decide +kernel
theorem dX5_settle_27 : decode cX5_settle 27 = .ok (.iaload, 1) := by decide +kernel
theorem dX5_settle_28 : decode cX5_settle 28 = .ok (.ifCond .eq 7, 3) := by decide +kernel
theorem dX5_settle_31 : decode cX5_settle 31 = .ok (.iconst 1, 1) := by decide +kernel
theorem dX5_settle_32 : decode cX5_settle 32 = .ok (.goto 4, 3) := by decide +kernel
theorem dX5_settle_35 : decode cX5_settle 35 = .ok (.iconst 0, 1) := by decide +kernel
theorem dX5_settle_36 : decode cX5_settle 36 = .ok (.istore_n 3, 1) := by decide +kernel
theorem dX5_settle_37 : decode cX5_settle 37 = .ok (.iinc 4 1, 3) := by decide +kernel
theorem dX5_settle_40 : decode cX5_settle 40 = .ok (.goto (-35), 3) := by decide +kernel
theorem dX5_settle_43 : decode cX5_settle 43 = .ok (.aload_n 0, 1) := by decide +kernel
theorem dX5_settle_44 : decode cX5_settle 44 = .ok (.getfield 13, 3) := by decide +kernel
theorem dX5_settle_47 : decode cX5_settle 47 = .ok (.iload_n 1, 1) := by decide +kernel
theorem dX5_settle_48 : decode cX5_settle 48 = .ok (.iload_n 3, 1) := by decide +kernel
theorem dX5_settle_49 : decode cX5_settle 49 = .ok (.ifCond .eq 7, 3) := by decide +kernel
theorem dX5_settle_52 : decode cX5_settle 52 = .ok (.iload_n 2, 1) := by decide +kernel
theorem dX5_settle_53 : decode cX5_settle 53 = .ok (.goto 4, 3) := by decide +kernel
theorem dX5_settle_56 : decode cX5_settle 56 = .ok (.iconst 0, 1) := by decide +kernel
theorem dX5_settle_57 : decode cX5_settle 57 = .ok (.iastore, 1) := by decide +kernel
theorem dX5_settle_58 : decode cX5_settle 58 = .ok (.return_, 1) := by decide +kernel
theorem dX5_copy_0 : decode cX5_copy 0 = .ok (.iconst 0, 1) := by decide +kernel
theorem dX5_copy_1 : decode cX5_copy 1 = .ok (.istore_n 3, 1) := by decide +kernel
theorem dX5_copy_2 : decode cX5_copy 2 = .ok (.iload_n 3, 1) := by decide +kernel
theorem dX5_copy_3 : decode cX5_copy 3 = .ok (.bipush 34, 2) := by decide +kernel
theorem dX5_copy_5 : decode cX5_copy 5 = .ok (.if_icmp .ge 31, 3) := by decide +kernel
theorem dX5_copy_8 : decode cX5_copy 8 = .ok (.aload_n 0, 1) := by decide +kernel
theorem dX5_copy_9 : decode cX5_copy 9 = .ok (.getfield 7, 3) := by decide +kernel
theorem dX5_copy_12 : decode cX5_copy 12 = .ok (.bipush 34, 2) := by decide +kernel
theorem dX5_copy_14 : decode cX5_copy 14 = .ok (.iload_n 1, 1) := by decide +kernel
theorem dX5_copy_15 : decode cX5_copy 15 = .ok (.imul, 1) := by decide +kernel
theorem dX5_copy_16 : decode cX5_copy 16 = .ok (.iload_n 3, 1) := by decide +kernel
theorem dX5_copy_17 : decode cX5_copy 17 = .ok (.iadd, 1) := by decide +kernel
theorem dX5_copy_18 : decode cX5_copy 18 = .ok (.aload_n 0, 1) := by decide +kernel
theorem dX5_copy_19 : decode cX5_copy 19 = .ok (.getfield 7, 3) := by decide +kernel
theorem dX5_copy_22 : decode cX5_copy 22 = .ok (.bipush 34, 2) := by decide +kernel
theorem dX5_copy_24 : decode cX5_copy 24 = .ok (.iload_n 2, 1) := by decide +kernel
theorem dX5_copy_25 : decode cX5_copy 25 = .ok (.imul, 1) := by decide +kernel
theorem dX5_copy_26 : decode cX5_copy 26 = .ok (.iload_n 3, 1) := by decide +kernel
theorem dX5_copy_27 : decode cX5_copy 27 = .ok (.iadd, 1) := by decide +kernel
theorem dX5_copy_28 : decode cX5_copy 28 = .ok (.iaload, 1) := by decide +kernel
theorem dX5_copy_29 : decode cX5_copy 29 = .ok (.iastore, 1) := by decide +kernel
theorem dX5_copy_30 : decode cX5_copy 30 = .ok (.iinc 3 1, 3) := by decide +kernel
theorem dX5_copy_33 : decode cX5_copy 33 = .ok (.goto (-31), 3) := by decide +kernel
theorem dX5_copy_36 : decode cX5_copy 36 = .ok (.aload_n 0, 1) := by decide +kernel
theorem dX5_copy_37 : decode cX5_copy 37 = .ok (.getfield 13, 3) := by decide +kernel
theorem dX5_copy_40 : decode cX5_copy 40 = .ok (.iload_n 1, 1) := by decide +kernel
theorem dX5_copy_41 : decode cX5_copy 41 = .ok (.aload_n 0, 1) := by decide +kernel
theorem dX5_copy_42 : decode cX5_copy 42 = .ok (.getfield 13, 3) := by decide +kernel
theorem dX5_copy_45 : decode cX5_copy 45 = .ok (.iload_n 2, 1) := by decide +kernel
theorem dX5_copy_46 : decode cX5_copy 46 = .ok (.iaload, 1) := by decide +kernel
theorem dX5_copy_47 : decode cX5_copy 47 = .ok (.iastore, 1) := by decide +kernel
theorem dX5_copy_48 : decode cX5_copy 48 = .ok (.return_, 1) := by decide +kernel
set_option maxRecDepth 20000 in
theorem ggX5_put_X5_none : GoodIn wsX5_put wsX5_none := goodIn_r _ [7, 1, 8, 13, 14, 15, 16, 17, 18, 19] rfl (by decide +kernel)
set_option maxRecDepth 20000 in
theorem gX5_put_X5_none : GoodIn wsX5_put (wsV RX5 51 RX5 yX5_none wsX5_none) := goodIn_app (goodIn_of _ (by decide +kernel)) ggX5_put_X5_none
set_option maxRecDepth 20000 in
theorem ggX5_put_X5_settle : GoodIn wsX5_put wsX5_settle := goodIn_r _ [12, 1, 8, 13, 14, 15, 16, 17, 18, 19] rfl (by decide +kernel)
set_option maxRecDepth 20000 in
theorem gX5_put_X5_settle : GoodIn wsX5_put (wsV RX5 57 RX5 yX5_settle wsX5_settle) := goodIn_app (goodIn_of _ (by decide +kernel)) ggX5_put_X5_settle
theorem dX5_put_0 : decode cX5_put 0 = .ok (.aload_n 0, 1) := by decide +kernel
theorem dX5_put_1 : decode cX5_put 1 = .ok (.iload_n 1, 1) := by decide +kernel
theorem dX5_put_2 : decode cX5_put 2 = .ok (.invokevirtual 51, 3) := by decide +kernel
theorem dX5_put_5 : decode cX5_put 5 = .ok (.lload_n 2, 1) := by decide +kernel
theorem dX5_put_6 : decode cX5_put 6 = .ok (.lconst 0, 1) := by decide +kernel
theorem dX5_put_7 : decode cX5_put 7 = .ok (.lcmp, 1) := by decide +kernel
theorem dX5_put_8 : decode cX5_put 8 = .ok (.ifCond .ge 8, 3) := by decide +kernel
theorem dX5_put_11 : decode cX5_put 11 = .ok (.lload_n 2, 1) := by decide +kernel
theorem dX5_put_12 : decode cX5_put 12 = .ok (.lneg, 1) := by decide +kernel
theorem dX5_put_13 : decode cX5_put 13 = .ok (.goto 4, 3) := by decide +kernel
theorem dX5_put_16 : decode cX5_put 16 = .ok (.lload_n 2, 1) := by decide +kernel
theorem dX5_put_17 : decode cX5_put 17 = .ok (.lstore 4, 2) := by decide +kernel
theorem dX5_put_19 : decode cX5_put 19 = .ok (.iconst 0, 1) := by decide +kernel
theorem dX5_put_20 : decode cX5_put 20 = .ok (.istore 6, 2) := by decide +kernel
theorem dX5_put_22 : decode cX5_put 22 = .ok (.iload 6, 2) := by decide +kernel
theorem dX5_put_24 : decode cX5_put 24 = .ok (.iconst 3, 1) := by decide +kernel
theorem dX5_put_25 : decode cX5_put 25 = .ok (.if_icmp .ge 34, 3) := by decide +kernel
theorem dX5_put_28 : decode cX5_put 28 = .ok (.aload_n 0, 1) := by decide +kernel
theorem dX5_put_29 : decode cX5_put 29 = .ok (.getfield 7, 3) := by decide +kernel
theorem dX5_put_32 : decode cX5_put 32 = .ok (.bipush 34, 2) := by decide +kernel
theorem dX5_put_34 : decode cX5_put 34 = .ok (.iload_n 1, 1) := by decide +kernel
theorem dX5_put_35 : decode cX5_put 35 = .ok (.imul, 1) := by decide +kernel
theorem dX5_put_36 : decode cX5_put 36 = .ok (.iload 6, 2) := by decide +kernel
theorem dX5_put_38 : decode cX5_put 38 = .ok (.iadd, 1) := by decide +kernel
theorem dX5_put_39 : decode cX5_put 39 = .ok (.lload 4, 2) := by decide +kernel
theorem dX5_put_41 : decode cX5_put 41 = .ok (.bipush 24, 2) := by decide +kernel
theorem dX5_put_43 : decode cX5_put 43 = .ok (.iload 6, 2) := by decide +kernel
theorem dX5_put_45 : decode cX5_put 45 = .ok (.imul, 1) := by decide +kernel
theorem dX5_put_46 : decode cX5_put 46 = .ok (.lushr, 1) := by decide +kernel
theorem dX5_put_47 : decode cX5_put 47 = .ok (.ldc2_w 55, 3) := by decide +kernel
theorem dX5_put_50 : decode cX5_put 50 = .ok (.land, 1) := by decide +kernel
theorem dX5_put_51 : decode cX5_put 51 = .ok (.l2i, 1) := by decide +kernel
theorem dX5_put_52 : decode cX5_put 52 = .ok (.iastore, 1) := by decide +kernel
theorem dX5_put_53 : decode cX5_put 53 = .ok (.iinc 6 1, 3) := by decide +kernel
theorem dX5_put_56 : decode cX5_put 56 = .ok (.goto (-34), 3) := by decide +kernel
theorem dX5_put_59 : decode cX5_put 59 = .ok (.aload_n 0, 1) := by decide +kernel
theorem dX5_put_60 : decode cX5_put 60 = .ok (.iload_n 1, 1) := by decide +kernel
theorem dX5_put_61 : decode cX5_put 61 = .ok (.lload_n 2, 1) := by decide +kernel
theorem dX5_put_62 : decode cX5_put 62 = .ok (.lconst 0, 1) := by decide +kernel
theorem dX5_put_63 : decode cX5_put 63 = .ok (.lcmp, 1) := by decide +kernel
theorem dX5_put_64 : decode cX5_put 64 = .ok (.ifCond .ge 7, 3) := by decide +kernel
theorem dX5_put_67 : decode cX5_put 67 = .ok (.iconst (-1), 1) := by decide +kernel
theorem dX5_put_68 : decode cX5_put 68 = .ok (.goto 4, 3) := by decide +kernel
theorem dX5_put_71 : decode cX5_put 71 = .ok (.iconst 1, 1) := by decide +kernel
theorem dX5_put_72 : decode cX5_put 72 = .ok (.invokevirtual 57, 3) := by decide +kernel
theorem dX5_put_75 : decode cX5_put 75 = .ok (.return_, 1) := by decide +kernel
set_option maxRecDepth 20000 in
theorem ggX5_power_X5_none : GoodIn wsX5_power wsX5_none := goodIn_r _ [7, 1, 2, 8, 9, 10, 11, 12, 13, 14] rfl (by decide +kernel)
set_option maxRecDepth 20000 in
theorem gX5_power_X5_none : GoodIn wsX5_power (wsV RX5 51 RX5 yX5_none wsX5_none) := goodIn_app (goodIn_of _ (by decide +kernel)) ggX5_power_X5_none
theorem dX5_power_0 : decode cX5_power 0 = .ok (.aload_n 0, 1) := by decide +kernel
theorem dX5_power_1 : decode cX5_power 1 = .ok (.iload_n 1, 1) := by decide +kernel
theorem dX5_power_2 : decode cX5_power 2 = .ok (.invokevirtual 51, 3) := by decide +kernel
theorem dX5_power_5 : decode cX5_power 5 = .ok (.aload_n 0, 1) := by decide +kernel
theorem dX5_power_6 : decode cX5_power 6 = .ok (.getfield 7, 3) := by decide +kernel
theorem dX5_power_9 : decode cX5_power 9 = .ok (.bipush 34, 2) := by decide +kernel
theorem dX5_power_11 : decode cX5_power 11 = .ok (.iload_n 1, 1) := by decide +kernel
theorem dX5_power_12 : decode cX5_power 12 = .ok (.imul, 1) := by decide +kernel
theorem dX5_power_13 : decode cX5_power 13 = .ok (.iload_n 2, 1) := by decide +kernel
theorem dX5_power_14 : decode cX5_power 14 = .ok (.bipush 24, 2) := by decide +kernel
theorem dX5_power_16 : decode cX5_power 16 = .ok (.idiv, 1) := by decide +kernel
theorem dX5_power_17 : decode cX5_power 17 = .ok (.iadd, 1) := by decide +kernel
theorem dX5_power_18 : decode cX5_power 18 = .ok (.iconst 1, 1) := by decide +kernel
theorem dX5_power_19 : decode cX5_power 19 = .ok (.iload_n 2, 1) := by decide +kernel
theorem dX5_power_20 : decode cX5_power 20 = .ok (.bipush 24, 2) := by decide +kernel
theorem dX5_power_22 : decode cX5_power 22 = .ok (.irem, 1) := by decide +kernel
theorem dX5_power_23 : decode cX5_power 23 = .ok (.ishl, 1) := by decide +kernel
theorem dX5_power_24 : decode cX5_power 24 = .ok (.iastore, 1) := by decide +kernel
theorem dX5_power_25 : decode cX5_power 25 = .ok (.aload_n 0, 1) := by decide +kernel
theorem dX5_power_26 : decode cX5_power 26 = .ok (.getfield 13, 3) := by decide +kernel
theorem dX5_power_29 : decode cX5_power 29 = .ok (.iload_n 1, 1) := by decide +kernel
theorem dX5_power_30 : decode cX5_power 30 = .ok (.iconst 1, 1) := by decide +kernel
theorem dX5_power_31 : decode cX5_power 31 = .ok (.iastore, 1) := by decide +kernel
theorem dX5_power_32 : decode cX5_power 32 = .ok (.return_, 1) := by decide +kernel
set_option maxRecDepth 20000 in
theorem ggX5_bits_X5_at : GoodIn wsX5_bits wsX5_at := goodIn_r _ [5, 6, 7, 8, 9, 10, 11, 12, 13] rfl (by decide +kernel)
set_option maxRecDepth 20000 in
theorem gX5_bits_X5_at : GoodIn wsX5_bits (wsV RX5 60 RX5 yX5_at wsX5_at) := goodIn_app (goodIn_of _ (by decide +kernel)) ggX5_bits_X5_at
theorem dX5_bits_0 : decode cX5_bits 0 = .ok (.bipush 33, 2) := by decide +kernel
theorem dX5_bits_2 : decode cX5_bits 2 = .ok (.istore_n 2, 1) := by decide +kernel
theorem dX5_bits_3 : decode cX5_bits 3 = .ok (.iload_n 2, 1) := by decide +kernel
theorem dX5_bits_4 : decode cX5_bits 4 = .ok (.ifCond .lt 18, 3) := by decide +kernel
theorem dX5_bits_7 : decode cX5_bits 7 = .ok (.aload_n 0, 1) := by decide +kernel
theorem dX5_bits_8 : decode cX5_bits 8 = .ok (.iload_n 1, 1) := by decide +kernel
theorem dX5_bits_9 : decode cX5_bits 9 = .ok (.iload_n 2, 1) := by decide +kernel
theorem dX5_bits_10 : decode cX5_bits 10 = .ok (.invokevirtual 60, 3) := by decide +kernel
theorem dX5_bits_13 : decode cX5_bits 13 = .ok (.ifCond .ne 9, 3) := by decide +kernel
theorem dX5_bits_16 : decode cX5_bits 16 = .ok (.iinc 2 (-1), 3) := by decide +kernel
theorem dX5_bits_19 : decode cX5_bits 19 = .ok (.goto (-16), 3) := by decide +kernel
theorem dX5_bits_22 : decode cX5_bits 22 = .ok (.iload_n 2, 1) := by decide +kernel
theorem dX5_bits_23 : decode cX5_bits 23 = .ok (.ifCond .ge 7, 3) := by decide +kernel
theorem dX5_bits_26 : decode cX5_bits 26 = .ok (.iconst 0, 1) := by decide +kernel
theorem dX5_bits_27 : decode cX5_bits 27 = .ok (.goto 7, 3) := by decide +kernel
theorem dX5_bits_30 : decode cX5_bits 30 = .ok (.bipush 24, 2) := by decide +kernel
theorem dX5_bits_32 : decode cX5_bits 32 = .ok (.iload_n 2, 1) := by decide +kernel
theorem dX5_bits_33 : decode cX5_bits 33 = .ok (.imul, 1) := by decide +kernel
theorem dX5_bits_34 : decode cX5_bits 34 = .ok (.istore_n 3, 1) := by decide +kernel
theorem dX5_bits_35 : decode cX5_bits 35 = .ok (.iload_n 2, 1) := by decide +kernel
theorem dX5_bits_36 : decode cX5_bits 36 = .ok (.ifCond .ge 7, 3) := by decide +kernel
theorem dX5_bits_39 : decode cX5_bits 39 = .ok (.iconst 0, 1) := by decide +kernel
theorem dX5_bits_40 : decode cX5_bits 40 = .ok (.goto 9, 3) := by decide +kernel
theorem dX5_bits_43 : decode cX5_bits 43 = .ok (.aload_n 0, 1) := by decide +kernel
theorem dX5_bits_44 : decode cX5_bits 44 = .ok (.iload_n 1, 1) := by decide +kernel
theorem dX5_bits_45 : decode cX5_bits 45 = .ok (.iload_n 2, 1) := by decide +kernel
theorem dX5_bits_46 : decode cX5_bits 46 = .ok (.invokevirtual 60, 3) := by decide +kernel
theorem dX5_bits_49 : decode cX5_bits 49 = .ok (.istore 4, 2) := by decide +kernel
theorem dX5_bits_51 : decode cX5_bits 51 = .ok (.iload 4, 2) := by decide +kernel
theorem dX5_bits_53 : decode cX5_bits 53 = .ok (.ifCond .le 15, 3) := by decide +kernel
theorem dX5_bits_56 : decode cX5_bits 56 = .ok (.iinc 3 1, 3) := by decide +kernel
theorem dX5_bits_59 : decode cX5_bits 59 = .ok (.iload 4, 2) := by decide +kernel
theorem dX5_bits_61 : decode cX5_bits 61 = .ok (.iconst 1, 1) := by decide +kernel
theorem dX5_bits_62 : decode cX5_bits 62 = .ok (.ishr, 1) := by decide +kernel
theorem dX5_bits_63 : decode cX5_bits 63 = .ok (.istore 4, 2) := by decide +kernel
theorem dX5_bits_65 : decode cX5_bits 65 = .ok (.goto (-14), 3) := by decide +kernel
theorem dX5_bits_68 : decode cX5_bits 68 = .ok (.iload_n 3, 1) := by decide +kernel
theorem dX5_bits_69 : decode cX5_bits 69 = .ok (.ireturn, 1) := by decide +kernel
set_option maxRecDepth 20000 in
theorem ggX5_sizes_X5_at : GoodIn wsX5_sizes wsX5_at := goodIn_r _ [5, 6, 7, 8, 9, 10, 11, 12, 13] rfl (by decide +kernel)
set_option maxRecDepth 20000 in
theorem gX5_sizes_X5_at : GoodIn wsX5_sizes (wsV RX5 60 RX5 yX5_at wsX5_at) := goodIn_app (goodIn_of _ (by decide +kernel)) ggX5_sizes_X5_at
theorem dX5_sizes_0 : decode cX5_sizes 0 = .ok (.bipush 33, 2) := by decide +kernel
theorem dX5_sizes_2 : decode cX5_sizes 2 = .ok (.istore_n 3, 1) := by decide +kernel
theorem dX5_sizes_3 : decode cX5_sizes 3 = .ok (.iload_n 3, 1) := by decide +kernel
theorem dX5_sizes_4 : decode cX5_sizes 4 = .ok (.ifCond .le 24, 3) := by decide +kernel
theorem dX5_sizes_7 : decode cX5_sizes 7 = .ok (.aload_n 0, 1) := by decide +kernel
theorem dX5_sizes_8 : decode cX5_sizes 8 = .ok (.iload_n 1, 1) := by decide +kernel
theorem dX5_sizes_9 : decode cX5_sizes 9 = .ok (.iload_n 3, 1) := by decide +kernel
theorem dX5_sizes_10 : decode cX5_sizes 10 = .ok (.invokevirtual 60, 3) := by decide +kernel
theorem dX5_sizes_13 : decode cX5_sizes 13 = .ok (.aload_n 0, 1) := by decide +kernel
theorem dX5_sizes_14 : decode cX5_sizes 14 = .ok (.iload_n 2, 1) := by decide +kernel
theorem dX5_sizes_15 : decode cX5_sizes 15 = .ok (.iload_n 3, 1) := by decide +kernel
theorem dX5_sizes_16 : decode cX5_sizes 16 = .ok (.invokevirtual 60, 3) := by decide +kernel
theorem dX5_sizes_19 : decode cX5_sizes 19 = .ok (.if_icmp .ne 9, 3) := by decide +kernel
theorem dX5_sizes_22 : decode cX5_sizes 22 = .ok (.iinc 3 (-1), 3) := by decide +kernel
theorem dX5_sizes_25 : decode cX5_sizes 25 = .ok (.goto (-22), 3) := by decide +kernel
theorem dX5_sizes_28 : decode cX5_sizes 28 = .ok (.aload_n 0, 1) := by decide +kernel
theorem dX5_sizes_29 : decode cX5_sizes 29 = .ok (.iload_n 1, 1) := by decide +kernel
theorem dX5_sizes_30 : decode cX5_sizes 30 = .ok (.iload_n 3, 1) := by decide +kernel
theorem dX5_sizes_31 : decode cX5_sizes 31 = .ok (.invokevirtual 60, 3) := by decide +kernel
theorem dX5_sizes_34 : decode cX5_sizes 34 = .ok (.aload_n 0, 1) := by decide +kernel
theorem dX5_sizes_35 : decode cX5_sizes 35 = .ok (.iload_n 2, 1) := by decide +kernel
theorem dX5_sizes_36 : decode cX5_sizes 36 = .ok (.iload_n 3, 1) := by decide +kernel
theorem dX5_sizes_37 : decode cX5_sizes 37 = .ok (.invokevirtual 60, 3) := by decide +kernel
theorem dX5_sizes_40 : decode cX5_sizes 40 = .ok (.if_icmp .le 7, 3) := by decide +kernel
theorem dX5_sizes_43 : decode cX5_sizes 43 = .ok (.iconst 1, 1) := by decide +kernel
theorem dX5_sizes_44 : decode cX5_sizes 44 = .ok (.goto 23, 3) := by decide +kernel
theorem dX5_sizes_47 : decode cX5_sizes 47 = .ok (.aload_n 0, 1) := by decide +kernel
theorem dX5_sizes_48 : decode cX5_sizes 48 = .ok (.iload_n 1, 1) := by decide +kernel
theorem dX5_sizes_49 : decode cX5_sizes 49 = .ok (.iload_n 3, 1) := by decide +kernel
theorem dX5_sizes_50 : decode cX5_sizes 50 = .ok (.invokevirtual 60, 3) := by decide +kernel
theorem dX5_sizes_53 : decode cX5_sizes 53 = .ok (.aload_n 0, 1) := by decide +kernel
theorem dX5_sizes_54 : decode cX5_sizes 54 = .ok (.iload_n 2, 1) := by decide +kernel
theorem dX5_sizes_55 : decode cX5_sizes 55 = .ok (.iload_n 3, 1) := by decide +kernel
theorem dX5_sizes_56 : decode cX5_sizes 56 = .ok (.invokevirtual 60, 3) := by decide +kernel
theorem dX5_sizes_59 : decode cX5_sizes 59 = .ok (.if_icmp .ge 7, 3) := by decide +kernel
theorem dX5_sizes_62 : decode cX5_sizes 62 = .ok (.iconst (-1), 1) := by decide +kernel
theorem dX5_sizes_63 : decode cX5_sizes 63 = .ok (.goto 4, 3) := by decide +kernel
theorem dX5_sizes_66 : decode cX5_sizes 66 = .ok (.iconst 0, 1) := by decide +kernel
theorem dX5_sizes_67 : decode cX5_sizes 67 = .ok (.ireturn, 1) := by decide +kernel
set_option maxRecDepth 20000 in
theorem ggX5_compare_X5_sizes : GoodIn wsX5_compare wsX5_sizes := goodIn_r _ [6, 7, 8, 9, 5, 10, 11, 12, 13, 14, 15, 16, 17, 18] rfl (by decide +kernel)
set_option maxRecDepth 20000 in
theorem gX5_compare_X5_sizes : GoodIn wsX5_compare (wsV RX5 64 RX5 yX5_sizes wsX5_sizes) := goodIn_app (goodIn_of _ (by decide +kernel)) ggX5_compare_X5_sizes
theorem dX5_compare_0 : decode cX5_compare 0 = .ok (.aload_n 0, 1) := by decide +kernel
theorem dX5_compare_1 : decode cX5_compare 1 = .ok (.getfield 13, 3) := by decide +kernel
theorem dX5_compare_4 : decode cX5_compare 4 = .ok (.iload_n 1, 1) := by decide +kernel
theorem dX5_compare_5 : decode cX5_compare 5 = .ok (.iaload, 1) := by decide +kernel
theorem dX5_compare_6 : decode cX5_compare 6 = .ok (.aload_n 0, 1) := by decide +kernel
theorem dX5_compare_7 : decode cX5_compare 7 = .ok (.getfield 13, 3) := by decide +kernel
theorem dX5_compare_10 : decode cX5_compare 10 = .ok (.iload_n 2, 1) := by decide +kernel
theorem dX5_compare_11 : decode cX5_compare 11 = .ok (.iaload, 1) := by decide +kernel
theorem dX5_compare_12 : decode cX5_compare 12 = .ok (.if_icmp .eq 24, 3) := by decide +kernel
theorem dX5_compare_15 : decode cX5_compare 15 = .ok (.aload_n 0, 1) := by decide +kernel
theorem dX5_compare_16 : decode cX5_compare 16 = .ok (.getfield 13, 3) := by decide +kernel
theorem dX5_compare_19 : decode cX5_compare 19 = .ok (.iload_n 1, 1) := by decide +kernel
theorem dX5_compare_20 : decode cX5_compare 20 = .ok (.iaload, 1) := by decide +kernel
theorem dX5_compare_21 : decode cX5_compare 21 = .ok (.aload_n 0, 1) := by decide +kernel
theorem dX5_compare_22 : decode cX5_compare 22 = .ok (.getfield 13, 3) := by decide +kernel
theorem dX5_compare_25 : decode cX5_compare 25 = .ok (.iload_n 2, 1) := by decide +kernel
theorem dX5_compare_26 : decode cX5_compare 26 = .ok (.iaload, 1) := by decide +kernel
theorem dX5_compare_27 : decode cX5_compare 27 = .ok (.if_icmp .le 7, 3) := by decide +kernel
theorem dX5_compare_30 : decode cX5_compare 30 = .ok (.iconst 1, 1) := by decide +kernel
theorem dX5_compare_31 : decode cX5_compare 31 = .ok (.goto 4, 3) := by decide +kernel
theorem dX5_compare_34 : decode cX5_compare 34 = .ok (.iconst (-1), 1) := by decide +kernel
theorem dX5_compare_35 : decode cX5_compare 35 = .ok (.ireturn, 1) := by decide +kernel
theorem dX5_compare_36 : decode cX5_compare 36 = .ok (.aload_n 0, 1) := by decide +kernel
theorem dX5_compare_37 : decode cX5_compare 37 = .ok (.getfield 13, 3) := by decide +kernel
theorem dX5_compare_40 : decode cX5_compare 40 = .ok (.iload_n 1, 1) := by decide +kernel
theorem dX5_compare_41 : decode cX5_compare 41 = .ok (.iaload, 1) := by decide +kernel
theorem dX5_compare_42 : decode cX5_compare 42 = .ok (.aload_n 0, 1) := by decide +kernel
theorem dX5_compare_43 : decode cX5_compare 43 = .ok (.iload_n 1, 1) := by decide +kernel
theorem dX5_compare_44 : decode cX5_compare 44 = .ok (.iload_n 2, 1) := by decide +kernel
theorem dX5_compare_45 : decode cX5_compare 45 = .ok (.invokevirtual 64, 3) := by decide +kernel
theorem dX5_compare_48 : decode cX5_compare 48 = .ok (.imul, 1) := by decide +kernel
theorem dX5_compare_49 : decode cX5_compare 49 = .ok (.ireturn, 1) := by decide +kernel
set_option maxRecDepth 20000 in
theorem ggX5_sum_X5_copy : GoodIn wsX5_sum wsX5_copy := goodIn_r _ [8, 2, 1, 21, 22, 23, 24, 25, 26, 27] rfl (by decide +kernel)
set_option maxRecDepth 20000 in
theorem gX5_sum_X5_copy : GoodIn wsX5_sum (wsV RX5 67 RX5 yX5_copy wsX5_copy) := goodIn_app (goodIn_of _ (by decide +kernel)) ggX5_sum_X5_copy
set_option maxRecDepth 20000 in
theorem ggX5_sum_X5_sizes : GoodIn wsX5_sum wsX5_sizes := goodIn_r _ [12, 13, 14, 15, 7, 16, 2, 21, 22, 23, 24, 25, 26, 27] rfl (by decide +kernel)
set_option maxRecDepth 20000 in
theorem gX5_sum_X5_sizes : GoodIn wsX5_sum (wsV RX5 64 RX5 yX5_sizes wsX5_sizes) := goodIn_app (goodIn_of _ (by decide +kernel)) ggX5_sum_X5_sizes
set_option maxRecDepth 20000 in
theorem ggX5_sum_X5_at : GoodIn wsX5_sum wsX5_at := goodIn_r _ [16, 2, 21, 22, 23, 24, 25, 26, 27] rfl (by decide +kernel)
set_option maxRecDepth 20000 in
theorem gX5_sum_X5_at : GoodIn wsX5_sum (wsV RX5 60 RX5 yX5_at wsX5_at) := goodIn_app (goodIn_of _ (by decide +kernel)) ggX5_sum_X5_at
set_option maxRecDepth 20000 in
theorem ggX5_sum_X5_settle : GoodIn wsX5_sum wsX5_settle := goodIn_r _ [20, 2, 1, 21, 22, 23, 24, 25, 26, 27] rfl (by decide +kernel)
set_option maxRecDepth 20000 in
theorem gX5_sum_X5_settle : GoodIn wsX5_sum (wsV RX5 57 RX5 yX5_settle wsX5_settle) := goodIn_app (goodIn_of _ (by decide +kernel)) ggX5_sum_X5_settle
theorem dX5_sum_0 : decode cX5_sum 0 = .ok (.aload_n 0, 1) := by decide +kernel
theorem dX5_sum_1 : decode cX5_sum 1 = .ok (.getfield 13, 3) := by decide +kernel
theorem dX5_sum_4 : decode cX5_sum 4 = .ok (.iload_n 3, 1) := by decide +kernel
theorem dX5_sum_5 : decode cX5_sum 5 = .ok (.iaload, 1) := by decide +kernel
theorem dX5_sum_6 : decode cX5_sum 6 = .ok (.iload 4, 2) := by decide +kernel
theorem dX5_sum_8 : decode cX5_sum 8 = .ok (.imul, 1) := by decide +kernel
theorem dX5_sum_9 : decode cX5_sum 9 = .ok (.istore 5, 2) := by decide +kernel
theorem dX5_sum_11 : decode cX5_sum 11 = .ok (.iload 5, 2) := by decide +kernel
theorem dX5_sum_13 : decode cX5_sum 13 = .ok (.ifCond .eq 12, 3) := by decide +kernel
theorem dX5_sum_16 : decode cX5_sum 16 = .ok (.aload_n 0, 1) := by decide +kernel
theorem dX5_sum_17 : decode cX5_sum 17 = .ok (.getfield 13, 3) := by decide +kernel
theorem dX5_sum_20 : decode cX5_sum 20 = .ok (.iload_n 2, 1) := by decide +kernel
theorem dX5_sum_21 : decode cX5_sum 21 = .ok (.iaload, 1) := by decide +kernel
theorem dX5_sum_22 : decode cX5_sum 22 = .ok (.ifCond .ne 49, 3) := by decide +kernel
theorem dX5_sum_25 : decode cX5_sum 25 = .ok (.iload 5, 2) := by decide +kernel
theorem dX5_sum_27 : decode cX5_sum 27 = .ok (.ifCond .ne 7, 3) := by decide +kernel
theorem dX5_sum_30 : decode cX5_sum 30 = .ok (.iload_n 2, 1) := by decide +kernel
theorem dX5_sum_31 : decode cX5_sum 31 = .ok (.goto 4, 3) := by decide +kernel
theorem dX5_sum_34 : decode cX5_sum 34 = .ok (.iload_n 3, 1) := by decide +kernel
theorem dX5_sum_35 : decode cX5_sum 35 = .ok (.istore 6, 2) := by decide +kernel
theorem dX5_sum_37 : decode cX5_sum 37 = .ok (.iload 5, 2) := by decide +kernel
theorem dX5_sum_39 : decode cX5_sum 39 = .ok (.ifCond .ne 12, 3) := by decide +kernel
theorem dX5_sum_42 : decode cX5_sum 42 = .ok (.aload_n 0, 1) := by decide +kernel
theorem dX5_sum_43 : decode cX5_sum 43 = .ok (.getfield 13, 3) := by decide +kernel
theorem dX5_sum_46 : decode cX5_sum 46 = .ok (.iload_n 2, 1) := by decide +kernel
theorem dX5_sum_47 : decode cX5_sum 47 = .ok (.iaload, 1) := by decide +kernel
theorem dX5_sum_48 : decode cX5_sum 48 = .ok (.goto 5, 3) := by decide +kernel
theorem dX5_sum_51 : decode cX5_sum 51 = .ok (.iload 5, 2) := by decide +kernel
theorem dX5_sum_53 : decode cX5_sum 53 = .ok (.istore 7, 2) := by decide +kernel
theorem dX5_sum_55 : decode cX5_sum 55 = .ok (.aload_n 0, 1) := by decide +kernel
theorem dX5_sum_56 : decode cX5_sum 56 = .ok (.iload_n 1, 1) := by decide +kernel
theorem dX5_sum_57 : decode cX5_sum 57 = .ok (.iload 6, 2) := by decide +kernel
theorem dX5_sum_59 : decode cX5_sum 59 = .ok (.invokevirtual 67, 3) := by decide +kernel
theorem dX5_sum_62 : decode cX5_sum 62 = .ok (.aload_n 0, 1) := by decide +kernel
theorem dX5_sum_63 : decode cX5_sum 63 = .ok (.getfield 13, 3) := by decide +kernel
theorem dX5_sum_66 : decode cX5_sum 66 = .ok (.iload_n 1, 1) := by decide +kernel
theorem dX5_sum_67 : decode cX5_sum 67 = .ok (.iload 7, 2) := by decide +kernel
theorem dX5_sum_69 : decode cX5_sum 69 = .ok (.iastore, 1) := by decide +kernel
theorem dX5_sum_70 : decode cX5_sum 70 = .ok (.return_, 1) := by decide +kernel
theorem dX5_sum_71 : decode cX5_sum 71 = .ok (.iload 5, 2) := by decide +kernel
theorem dX5_sum_73 : decode cX5_sum 73 = .ok (.aload_n 0, 1) := by decide +kernel
theorem dX5_sum_74 : decode cX5_sum 74 = .ok (.getfield 13, 3) := by decide +kernel
theorem dX5_sum_77 : decode cX5_sum 77 = .ok (.iload_n 2, 1) := by decide +kernel
theorem dX5_sum_78 : decode cX5_sum 78 = .ok (.iaload, 1) := by decide +kernel
theorem dX5_sum_79 : decode cX5_sum 79 = .ok (.if_icmp .ne 7, 3) := by decide +kernel
theorem dX5_sum_82 : decode cX5_sum 82 = .ok (.iconst 1, 1) := by decide +kernel
theorem dX5_sum_83 : decode cX5_sum 83 = .ok (.goto 4, 3) := by decide +kernel
theorem dX5_sum_86 : decode cX5_sum 86 = .ok (.iconst 0, 1) := by decide +kernel
theorem dX5_sum_87 : decode cX5_sum 87 = .ok (.istore 6, 2) := by decide +kernel
theorem dX5_sum_89 : decode cX5_sum 89 = .ok (.iload 6, 2) := by decide +kernel
theorem dX5_sum_91 : decode cX5_sum 91 = .ok (.ifCond .eq 7, 3) := by decide +kernel
theorem dX5_sum_94 : decode cX5_sum 94 = .ok (.iconst 0, 1) := by decide +kernel
theorem dX5_sum_95 : decode cX5_sum 95 = .ok (.goto 9, 3) := by decide +kernel
theorem dX5_sum_98 : decode cX5_sum 98 = .ok (.aload_n 0, 1) := by decide +kernel
theorem dX5_sum_99 : decode cX5_sum 99 = .ok (.iload_n 2, 1) := by decide +kernel
theorem dX5_sum_100 : decode cX5_sum 100 = .ok (.iload_n 3, 1) := by decide +kernel
theorem dX5_sum_101 : decode cX5_sum 101 = .ok (.invokevirtual 64, 3) := by decide +kernel
theorem dX5_sum_104 : decode cX5_sum 104 = .ok (.istore 7, 2) := by decide +kernel
theorem dX5_sum_106 : decode cX5_sum 106 = .ok (.iload 7, 2) := by decide +kernel
theorem dX5_sum_108 : decode cX5_sum 108 = .ok (.ifCond .ge 7, 3) := by decide +kernel
theorem dX5_sum_111 : decode cX5_sum 111 = .ok (.iload_n 3, 1) := by decide +kernel
theorem dX5_sum_112 : decode cX5_sum 112 = .ok (.goto 4, 3) := by decide +kernel
theorem dX5_sum_115 : decode cX5_sum 115 = .ok (.iload_n 2, 1) := by decide +kernel
theorem dX5_sum_116 : decode cX5_sum 116 = .ok (.istore 8, 2) := by decide +kernel
theorem dX5_sum_118 : decode cX5_sum 118 = .ok (.iload 7, 2) := by decide +kernel
theorem dX5_sum_120 : decode cX5_sum 120 = .ok (.ifCond .ge 7, 3) := by decide +kernel
theorem dX5_sum_123 : decode cX5_sum 123 = .ok (.iload_n 2, 1) := by decide +kernel
theorem dX5_sum_124 : decode cX5_sum 124 = .ok (.goto 4, 3) := by decide +kernel
theorem dX5_sum_127 : decode cX5_sum 127 = .ok (.iload_n 3, 1) := by decide +kernel
theorem dX5_sum_128 : decode cX5_sum 128 = .ok (.istore 9, 2) := by decide +kernel
theorem dX5_sum_130 : decode cX5_sum 130 = .ok (.iload 7, 2) := by decide +kernel
theorem dX5_sum_132 : decode cX5_sum 132 = .ok (.ifCond .ge 8, 3) := by decide +kernel
theorem dX5_sum_135 : decode cX5_sum 135 = .ok (.iload 5, 2) := by decide +kernel
theorem dX5_sum_137 : decode cX5_sum 137 = .ok (.goto 9, 3) := by decide +kernel
theorem dX5_sum_140 : decode cX5_sum 140 = .ok (.aload_n 0, 1) := by decide +kernel
theorem dX5_sum_141 : decode cX5_sum 141 = .ok (.getfield 13, 3) := by decide +kernel
theorem dX5_sum_144 : decode cX5_sum 144 = .ok (.iload_n 2, 1) := by decide +kernel
theorem dX5_sum_145 : decode cX5_sum 145 = .ok (.iaload, 1) := by decide +kernel
theorem dX5_sum_146 : decode cX5_sum 146 = .ok (.istore 10, 2) := by decide +kernel
theorem dX5_sum_148 : decode cX5_sum 148 = .ok (.iconst 0, 1) := by decide +kernel
theorem dX5_sum_149 : decode cX5_sum 149 = .ok (.istore 11, 2) := by decide +kernel
theorem dX5_sum_151 : decode cX5_sum 151 = .ok (.iconst 0, 1) := by decide +kernel
theorem dX5_sum_152 : decode cX5_sum 152 = .ok (.istore 12, 2) := by decide +kernel
theorem dX5_sum_154 : decode cX5_sum 154 = .ok (.iload 12, 2) := by decide +kernel
theorem dX5_sum_156 : decode cX5_sum 156 = .ok (.bipush 34, 2) := by decide +kernel
theorem dX5_sum_158 : decode cX5_sum 158 = .ok (.if_icmp .ge 83, 3) := by decide +kernel
theorem dX5_sum_161 : decode cX5_sum 161 = .ok (.iload 6, 2) := by decide +kernel
theorem dX5_sum_163 : decode cX5_sum 163 = .ok (.ifCond .eq 26, 3) := by decide +kernel
theorem dX5_sum_166 : decode cX5_sum 166 = .ok (.aload_n 0, 1) := by decide +kernel
theorem dX5_sum_167 : decode cX5_sum 167 = .ok (.iload 8, 2) := by decide +kernel
theorem dX5_sum_169 : decode cX5_sum 169 = .ok (.iload 12, 2) := by decide +kernel
theorem dX5_sum_171 : decode cX5_sum 171 = .ok (.invokevirtual 60, 3) := by decide +kernel
theorem dX5_sum_174 : decode cX5_sum 174 = .ok (.aload_n 0, 1) := by decide +kernel
theorem dX5_sum_175 : decode cX5_sum 175 = .ok (.iload 9, 2) := by decide +kernel
theorem dX5_sum_177 : decode cX5_sum 177 = .ok (.iload 12, 2) := by decide +kernel
theorem dX5_sum_179 : decode cX5_sum 179 = .ok (.invokevirtual 60, 3) := by decide +kernel
theorem dX5_sum_182 : decode cX5_sum 182 = .ok (.iadd, 1) := by decide +kernel
theorem dX5_sum_183 : decode cX5_sum 183 = .ok (.iload 11, 2) := by decide +kernel
theorem dX5_sum_185 : decode cX5_sum 185 = .ok (.iadd, 1) := by decide +kernel
theorem dX5_sum_186 : decode cX5_sum 186 = .ok (.goto 23, 3) := by decide +kernel
theorem dX5_sum_189 : decode cX5_sum 189 = .ok (.aload_n 0, 1) := by decide +kernel
theorem dX5_sum_190 : decode cX5_sum 190 = .ok (.iload 8, 2) := by decide +kernel
theorem dX5_sum_192 : decode cX5_sum 192 = .ok (.iload 12, 2) := by decide +kernel
theorem dX5_sum_194 : decode cX5_sum 194 = .ok (.invokevirtual 60, 3) := by decide +kernel
theorem dX5_sum_197 : decode cX5_sum 197 = .ok (.aload_n 0, 1) := by decide +kernel
theorem dX5_sum_198 : decode cX5_sum 198 = .ok (.iload 9, 2) := by decide +kernel
theorem dX5_sum_200 : decode cX5_sum 200 = .ok (.iload 12, 2) := by decide +kernel
theorem dX5_sum_202 : decode cX5_sum 202 = .ok (.invokevirtual 60, 3) := by decide +kernel
theorem dX5_sum_205 : decode cX5_sum 205 = .ok (.isub, 1) := by decide +kernel
theorem dX5_sum_206 : decode cX5_sum 206 = .ok (.iload 11, 2) := by decide +kernel
theorem dX5_sum_208 : decode cX5_sum 208 = .ok (.iadd, 1) := by decide +kernel
theorem dX5_sum_209 : decode cX5_sum 209 = .ok (.istore 13, 2) := by decide +kernel
theorem dX5_sum_211 : decode cX5_sum 211 = .ok (.aload_n 0, 1) := by decide +kernel
theorem dX5_sum_212 : decode cX5_sum 212 = .ok (.getfield 7, 3) := by decide +kernel
theorem dX5_sum_215 : decode cX5_sum 215 = .ok (.bipush 34, 2) := by decide +kernel
theorem dX5_sum_217 : decode cX5_sum 217 = .ok (.iload_n 1, 1) := by decide +kernel
theorem dX5_sum_218 : decode cX5_sum 218 = .ok (.imul, 1) := by decide +kernel
theorem dX5_sum_219 : decode cX5_sum 219 = .ok (.iload 12, 2) := by decide +kernel
theorem dX5_sum_221 : decode cX5_sum 221 = .ok (.iadd, 1) := by decide +kernel
theorem dX5_sum_222 : decode cX5_sum 222 = .ok (.iload 13, 2) := by decide +kernel
theorem dX5_sum_224 : decode cX5_sum 224 = .ok (.ldc 70, 2) := by decide +kernel
theorem dX5_sum_226 : decode cX5_sum 226 = .ok (.iand, 1) := by decide +kernel
theorem dX5_sum_227 : decode cX5_sum 227 = .ok (.iastore, 1) := by decide +kernel
theorem dX5_sum_228 : decode cX5_sum 228 = .ok (.iload 13, 2) := by decide +kernel
theorem dX5_sum_230 : decode cX5_sum 230 = .ok (.bipush 24, 2) := by decide +kernel
theorem dX5_sum_232 : decode cX5_sum 232 = .ok (.ishr, 1) := by decide +kernel
theorem dX5_sum_233 : decode cX5_sum 233 = .ok (.istore 11, 2) := by decide +kernel
theorem dX5_sum_235 : decode cX5_sum 235 = .ok (.iinc 12 1, 3) := by decide +kernel
theorem dX5_sum_238 : decode cX5_sum 238 = .ok (.goto (-84), 3) := by decide +kernel
theorem dX5_sum_241 : decode cX5_sum 241 = .ok (.aload_n 0, 1) := by decide +kernel
theorem dX5_sum_242 : decode cX5_sum 242 = .ok (.iload_n 1, 1) := by decide +kernel
theorem dX5_sum_243 : decode cX5_sum 243 = .ok (.iload 10, 2) := by decide +kernel
theorem dX5_sum_245 : decode cX5_sum 245 = .ok (.invokevirtual 57, 3) := by decide +kernel
theorem dX5_sum_248 : decode cX5_sum 248 = .ok (.return_, 1) := by decide +kernel
set_option maxRecDepth 20000 in
theorem ggX5_plus_X5_sum : GoodIn wsX5_plus wsX5_sum := goodIn_r _ [5, 6, 7, 8, 9, 10, 11, 4, 12, 13, 14, 15, 16, 17, 18, 19, 20, 21, 22, 23, 24, 25, 26, 27, 28, 29, 30, 31] rfl (by decide +kernel)
set_option maxRecDepth 20000 in
theorem gX5_plus_X5_sum : GoodIn wsX5_plus (wsV RX5 71 RX5 yX5_sum wsX5_sum) := goodIn_app (goodIn_of _ (by decide +kernel)) ggX5_plus_X5_sum
theorem dX5_plus_0 : decode cX5_plus 0 = .ok (.aload_n 0, 1) := by decide +kernel
theorem dX5_plus_1 : decode cX5_plus 1 = .ok (.iload_n 1, 1) := by decide +kernel
theorem dX5_plus_2 : decode cX5_plus 2 = .ok (.iload_n 2, 1) := by decide +kernel
theorem dX5_plus_3 : decode cX5_plus 3 = .ok (.iload_n 3, 1) := by decide +kernel
theorem dX5_plus_4 : decode cX5_plus 4 = .ok (.iconst 1, 1) := by decide +kernel
theorem dX5_plus_5 : decode cX5_plus 5 = .ok (.invokevirtual 71, 3) := by decide +kernel
theorem dX5_plus_8 : decode cX5_plus 8 = .ok (.return_, 1) := by decide +kernel
set_option maxRecDepth 20000 in
theorem ggX5_minus_X5_sum : GoodIn wsX5_minus wsX5_sum := goodIn_r _ [5, 6, 7, 8, 9, 10, 11, 4, 12, 13, 14, 15, 16, 17, 18, 19, 20, 21, 22, 23, 24, 25, 26, 27, 28, 29, 30, 31] rfl (by decide +kernel)
set_option maxRecDepth 20000 in
theorem gX5_minus_X5_sum : GoodIn wsX5_minus (wsV RX5 71 RX5 yX5_sum wsX5_sum) := goodIn_app (goodIn_of _ (by decide +kernel)) ggX5_minus_X5_sum
theorem dX5_minus_0 : decode cX5_minus 0 = .ok (.aload_n 0, 1) := by decide +kernel
theorem dX5_minus_1 : decode cX5_minus 1 = .ok (.iload_n 1, 1) := by decide +kernel
theorem dX5_minus_2 : decode cX5_minus 2 = .ok (.iload_n 2, 1) := by decide +kernel
theorem dX5_minus_3 : decode cX5_minus 3 = .ok (.iload_n 3, 1) := by decide +kernel
theorem dX5_minus_4 : decode cX5_minus 4 = .ok (.iconst (-1), 1) := by decide +kernel
theorem dX5_minus_5 : decode cX5_minus 5 = .ok (.invokevirtual 71, 3) := by decide +kernel
theorem dX5_minus_8 : decode cX5_minus 8 = .ok (.return_, 1) := by decide +kernel
set_option maxRecDepth 20000 in
theorem ggX5_addSmall_X5_put : GoodIn wsX5_addSmall wsX5_put := goodIn_r _ [5, 6, 7, 8, 9, 10, 4, 11, 12, 13, 14, 15, 16, 38, 39, 40, 41, 42, 43, 44] rfl (by decide +kernel)
set_option maxRecDepth 20000 in
theorem gX5_addSmall_X5_put : GoodIn wsX5_addSmall (wsV RX5 75 RX5 yX5_put wsX5_put) := goodIn_app (goodIn_of _ (by decide +kernel)) ggX5_addSmall_X5_put
set_option maxRecDepth 20000 in
theorem ggX5_addSmall_X5_plus : GoodIn wsX5_addSmall wsX5_plus := goodIn_r _ [20, 21, 22, 23, 4, 24, 12, 6, 25, 26, 27, 28, 29, 30, 31, 32, 33, 34, 35, 36, 37, 13, 14, 15, 16, 38, 39, 40, 41, 42, 43, 44] rfl (by decide +kernel)
set_option maxRecDepth 20000 in
theorem gX5_addSmall_X5_plus : GoodIn wsX5_addSmall (wsV RX5 79 RX5 yX5_plus wsX5_plus) := goodIn_app (goodIn_of _ (by decide +kernel)) ggX5_addSmall_X5_plus
theorem dX5_addSmall_0 : decode cX5_addSmall 0 = .ok (.aload_n 0, 1) := by decide +kernel
theorem dX5_addSmall_1 : decode cX5_addSmall 1 = .ok (.bipush 32, 2) := by decide +kernel
theorem dX5_addSmall_3 : decode cX5_addSmall 3 = .ok (.iload_n 2, 1) := by decide +kernel
theorem dX5_addSmall_4 : decode cX5_addSmall 4 = .ok (.i2l, 1) := by decide +kernel
theorem dX5_addSmall_5 : decode cX5_addSmall 5 = .ok (.invokevirtual 75, 3) := by decide +kernel
theorem dX5_addSmall_8 : decode cX5_addSmall 8 = .ok (.aload_n 0, 1) := by decide +kernel
theorem dX5_addSmall_9 : decode cX5_addSmall 9 = .ok (.iload_n 1, 1) := by decide +kernel
theorem dX5_addSmall_10 : decode cX5_addSmall 10 = .ok (.iload_n 1, 1) := by decide +kernel
theorem dX5_addSmall_11 : decode cX5_addSmall 11 = .ok (.bipush 32, 2) := by decide +kernel
theorem dX5_addSmall_13 : decode cX5_addSmall 13 = .ok (.invokevirtual 79, 3) := by decide +kernel
theorem dX5_addSmall_16 : decode cX5_addSmall 16 = .ok (.return_, 1) := by decide +kernel
set_option maxRecDepth 20000 in
theorem ggX5_product_X5_at : GoodIn wsX5_product wsX5_at := goodIn_r _ [9, 3, 14, 15, 16, 17, 18, 19, 20] rfl (by decide +kernel)
set_option maxRecDepth 20000 in
theorem gX5_product_X5_at : GoodIn wsX5_product (wsV RX5 60 RX5 yX5_at wsX5_at) := goodIn_app (goodIn_of _ (by decide +kernel)) ggX5_product_X5_at
set_option maxRecDepth 20000 in
theorem ggX5_product_X5_settle : GoodIn wsX5_product wsX5_settle := goodIn_r _ [13, 3, 2, 14, 15, 16, 17, 18, 19, 20] rfl (by decide +kernel)
set_option maxRecDepth 20000 in
theorem gX5_product_X5_settle : GoodIn wsX5_product (wsV RX5 57 RX5 yX5_settle wsX5_settle) := goodIn_app (goodIn_of _ (by decide +kernel)) ggX5_product_X5_settle
theorem dX5_product_0 : decode cX5_product 0 = .ok (.iconst 0, 1) := by decide +kernel
theorem dX5_product_1 : decode cX5_product 1 = .ok (.istore 4, 2) := by decide +kernel
theorem dX5_product_3 : decode cX5_product 3 = .ok (.iload 4, 2) := by decide +kernel
theorem dX5_product_5 : decode cX5_product 5 = .ok (.bipush 70, 2) := by decide +kernel
theorem dX5_product_7 : decode cX5_product 7 = .ok (.if_icmp .ge 17, 3) := by decide +kernel
theorem dX5_product_10 : decode cX5_product 10 = .ok (.aload_n 0, 1) := by decide +kernel
theorem dX5_product_11 : decode cX5_product 11 = .ok (.getfield 16, 3) := by decide +kernel
theorem dX5_product_14 : decode cX5_product 14 = .ok (.iload 4, 2) := by decide +kernel
theorem dX5_product_16 : decode cX5_product 16 = .ok (.lconst 0, 1) := by decide +kernel
theorem dX5_product_17 : decode cX5_product 17 = .ok (.lastore, 1) := by decide +kernel
theorem dX5_product_18 : decode cX5_product 18 = .ok (.iinc 4 1, 3) := by decide +kernel
theorem dX5_product_21 : decode cX5_product 21 = .ok (.goto (-18), 3) := by decide +kernel
theorem dX5_product_24 : decode cX5_product 24 = .ok (.iconst 0, 1) := by decide +kernel
theorem dX5_product_25 : decode cX5_product 25 = .ok (.istore 4, 2) := by decide +kernel
theorem dX5_product_27 : decode cX5_product 27 = .ok (.iload 4, 2) := by decide +kernel
theorem dX5_product_29 : decode cX5_product 29 = .ok (.bipush 34, 2) := by decide +kernel
theorem dX5_product_31 : decode cX5_product 31 = .ok (.if_icmp .ge 65, 3) := by decide +kernel
theorem dX5_product_34 : decode cX5_product 34 = .ok (.iconst 0, 1) := by decide +kernel
theorem dX5_product_35 : decode cX5_product 35 = .ok (.istore 5, 2) := by decide +kernel
theorem dX5_product_37 : decode cX5_product 37 = .ok (.iload 5, 2) := by decide +kernel
theorem dX5_product_39 : decode cX5_product 39 = .ok (.bipush 34, 2) := by decide +kernel
theorem dX5_product_41 : decode cX5_product 41 = .ok (.if_icmp .ge 49, 3) := by decide +kernel
theorem dX5_product_44 : decode cX5_product 44 = .ok (.aload_n 0, 1) := by decide +kernel
theorem dX5_product_45 : decode cX5_product 45 = .ok (.iload_n 2, 1) := by decide +kernel
theorem dX5_product_46 : decode cX5_product 46 = .ok (.iload 4, 2) := by decide +kernel
theorem dX5_product_48 : decode cX5_product 48 = .ok (.invokevirtual 60, 3) := by decide +kernel
theorem dX5_product_51 : decode cX5_product 51 = .ok (.ifCond .eq 39, 3) := by decide +kernel
theorem dX5_product_54 : decode cX5_product 54 = .ok (.aload_n 0, 1) := by decide +kernel
theorem dX5_product_55 : decode cX5_product 55 = .ok (.getfield 16, 3) := by decide +kernel
theorem dX5_product_58 : decode cX5_product 58 = .ok (.iload 4, 2) := by decide +kernel
theorem dX5_product_60 : decode cX5_product 60 = .ok (.iload 5, 2) := by decide +kernel
theorem dX5_product_62 : decode cX5_product 62 = .ok (.iadd, 1) := by decide +kernel
theorem dX5_product_63 : decode cX5_product 63 = .ok (.dup2, 1) := by decide +kernel
theorem dX5_product_64 : decode cX5_product 64 = .ok (.laload, 1) := by decide +kernel
theorem dX5_product_65 : decode cX5_product 65 = .ok (.aload_n 0, 1) := by decide +kernel
theorem dX5_product_66 : decode cX5_product 66 = .ok (.iload_n 2, 1) := by decide +kernel
theorem dX5_product_67 : decode cX5_product 67 = .ok (.iload 4, 2) := by decide +kernel
theorem dX5_product_69 : decode cX5_product 69 = .ok (.invokevirtual 60, 3) := by decide +kernel
theorem dX5_product_72 : decode cX5_product 72 = .ok (.i2l, 1) := by decide +kernel
theorem dX5_product_73 : decode cX5_product 73 = .ok (.aload_n 0, 1) := by decide +kernel
theorem dX5_product_74 : decode cX5_product 74 = .ok (.iload_n 3, 1) := by decide +kernel
theorem dX5_product_75 : decode cX5_product 75 = .ok (.iload 5, 2) := by decide +kernel
theorem dX5_product_77 : decode cX5_product 77 = .ok (.invokevirtual 60, 3) := by decide +kernel
theorem dX5_product_80 : decode cX5_product 80 = .ok (.i2l, 1) := by decide +kernel
theorem dX5_product_81 : decode cX5_product 81 = .ok (.lmul, 1) := by decide +kernel
theorem dX5_product_82 : decode cX5_product 82 = .ok (.ladd, 1) := by decide +kernel
theorem dX5_product_83 : decode cX5_product 83 = .ok (.lastore, 1) := by decide +kernel
theorem dX5_product_84 : decode cX5_product 84 = .ok (.iinc 5 1, 3) := by decide +kernel
theorem dX5_product_87 : decode cX5_product 87 = .ok (.goto (-50), 3) := by decide +kernel
theorem dX5_product_90 : decode cX5_product 90 = .ok (.iinc 4 1, 3) := by decide +kernel
theorem dX5_product_93 : decode cX5_product 93 = .ok (.goto (-66), 3) := by decide +kernel
theorem dX5_product_96 : decode cX5_product 96 = .ok (.aload_n 0, 1) := by decide +kernel
theorem dX5_product_97 : decode cX5_product 97 = .ok (.getfield 13, 3) := by decide +kernel
theorem dX5_product_100 : decode cX5_product 100 = .ok (.iload_n 2, 1) := by decide +kernel
theorem dX5_product_101 : decode cX5_product 101 = .ok (.iaload, 1) := by decide +kernel
theorem dX5_product_102 : decode cX5_product 102 = .ok (.aload_n 0, 1) := by decide +kernel
theorem dX5_product_103 : decode cX5_product 103 = .ok (.getfield 13, 3) := by decide +kernel
theorem dX5_product_106 : decode cX5_product 106 = .ok (.iload_n 3, 1) := by decide +kernel
theorem dX5_product_107 : decode cX5_product 107 = .ok (.iaload, 1) := by decide +kernel
theorem dX5_product_108 : decode cX5_product 108 = .ok (.imul, 1) := by decide +kernel
theorem dX5_product_109 : decode cX5_product 109 = .ok (.istore 4, 2) := by decide +kernel
theorem dX5_product_111 : decode cX5_product 111 = .ok (.lconst 0, 1) := by decide +kernel
theorem dX5_product_112 : decode cX5_product 112 = .ok (.lstore 5, 2) := by decide +kernel
theorem dX5_product_114 : decode cX5_product 114 = .ok (.iconst 0, 1) := by decide +kernel
theorem dX5_product_115 : decode cX5_product 115 = .ok (.istore 7, 2) := by decide +kernel
theorem dX5_product_117 : decode cX5_product 117 = .ok (.iload 7, 2) := by decide +kernel
theorem dX5_product_119 : decode cX5_product 119 = .ok (.bipush 34, 2) := by decide +kernel
theorem dX5_product_121 : decode cX5_product 121 = .ok (.if_icmp .ge 47, 3) := by decide +kernel
theorem dX5_product_124 : decode cX5_product 124 = .ok (.lload 5, 2) := by decide +kernel
theorem dX5_product_126 : decode cX5_product 126 = .ok (.aload_n 0, 1) := by decide +kernel
theorem dX5_product_127 : decode cX5_product 127 = .ok (.getfield 16, 3) := by decide +kernel
theorem dX5_product_130 : decode cX5_product 130 = .ok (.iload 7, 2) := by decide +kernel
theorem dX5_product_132 : decode cX5_product 132 = .ok (.laload, 1) := by decide +kernel
theorem dX5_product_133 : decode cX5_product 133 = .ok (.ladd, 1) := by decide +kernel
theorem dX5_product_134 : decode cX5_product 134 = .ok (.lstore 5, 2) := by decide +kernel
theorem dX5_product_136 : decode cX5_product 136 = .ok (.aload_n 0, 1) := by decide +kernel
theorem dX5_product_137 : decode cX5_product 137 = .ok (.getfield 7, 3) := by decide +kernel
theorem dX5_product_140 : decode cX5_product 140 = .ok (.bipush 34, 2) := by decide +kernel
theorem dX5_product_142 : decode cX5_product 142 = .ok (.iload_n 1, 1) := by decide +kernel
theorem dX5_product_143 : decode cX5_product 143 = .ok (.imul, 1) := by decide +kernel
theorem dX5_product_144 : decode cX5_product 144 = .ok (.iload 7, 2) := by decide +kernel
theorem dX5_product_146 : decode cX5_product 146 = .ok (.iadd, 1) := by decide +kernel
theorem dX5_product_147 : decode cX5_product 147 = .ok (.lload 5, 2) := by decide +kernel
theorem dX5_product_149 : decode cX5_product 149 = .ok (.ldc2_w 55, 3) := by decide +kernel
theorem dX5_product_152 : decode cX5_product 152 = .ok (.land, 1) := by decide +kernel
theorem dX5_product_153 : decode cX5_product 153 = .ok (.l2i, 1) := by decide +kernel
theorem dX5_product_154 : decode cX5_product 154 = .ok (.iastore, 1) := by decide +kernel
theorem dX5_product_155 : decode cX5_product 155 = .ok (.lload 5, 2) := by decide +kernel
theorem dX5_product_157 : decode cX5_product 157 = .ok (.bipush 24, 2) := by decide +kernel
theorem dX5_product_159 : decode cX5_product 159 = .ok (.lshr, 1) := by decide +kernel
theorem dX5_product_160 : decode cX5_product 160 = .ok (.lstore 5, 2) := by decide +kernel
theorem dX5_product_162 : decode cX5_product 162 = .ok (.iinc 7 1, 3) := by decide +kernel
theorem dX5_product_165 : decode cX5_product 165 = .ok (.goto (-48), 3) := by decide +kernel
theorem dX5_product_168 : decode cX5_product 168 = .ok (.aload_n 0, 1) := by decide +kernel
theorem dX5_product_169 : decode cX5_product 169 = .ok (.iload_n 1, 1) := by decide +kernel
theorem dX5_product_170 : decode cX5_product 170 = .ok (.iload 4, 2) := by decide +kernel
theorem dX5_product_172 : decode cX5_product 172 = .ok (.invokevirtual 57, 3) := by decide +kernel
theorem dX5_product_175 : decode cX5_product 175 = .ok (.return_, 1) := by decide +kernel
set_option maxRecDepth 20000 in
theorem ggX5_timesSmall_X5_put : GoodIn wsX5_timesSmall wsX5_put := goodIn_r _ [5, 6, 7, 8, 9, 10, 4, 11, 12, 13, 14, 15, 16, 26, 27, 28, 29, 30, 31, 32] rfl (by decide +kernel)
set_option maxRecDepth 20000 in
theorem gX5_timesSmall_X5_put : GoodIn wsX5_timesSmall (wsV RX5 75 RX5 yX5_put wsX5_put) := goodIn_app (goodIn_of _ (by decide +kernel)) ggX5_timesSmall_X5_put
set_option maxRecDepth 20000 in
theorem ggX5_timesSmall_X5_product : GoodIn wsX5_timesSmall wsX5_product := goodIn_r _ [20, 21, 12, 6, 7, 22, 23, 24, 4, 25, 13, 14, 15, 16, 26, 27, 28, 29, 30, 31, 32] rfl (by decide +kernel)
set_option maxRecDepth 20000 in
theorem gX5_timesSmall_X5_product : GoodIn wsX5_timesSmall (wsV RX5 82 RX5 yX5_product wsX5_product) := goodIn_app (goodIn_of _ (by decide +kernel)) ggX5_timesSmall_X5_product
theorem dX5_timesSmall_0 : decode cX5_timesSmall 0 = .ok (.aload_n 0, 1) := by decide +kernel
theorem dX5_timesSmall_1 : decode cX5_timesSmall 1 = .ok (.bipush 32, 2) := by decide +kernel
theorem dX5_timesSmall_3 : decode cX5_timesSmall 3 = .ok (.iload_n 3, 1) := by decide +kernel
theorem dX5_timesSmall_4 : decode cX5_timesSmall 4 = .ok (.i2l, 1) := by decide +kernel
theorem dX5_timesSmall_5 : decode cX5_timesSmall 5 = .ok (.invokevirtual 75, 3) := by decide +kernel
theorem dX5_timesSmall_8 : decode cX5_timesSmall 8 = .ok (.aload_n 0, 1) := by decide +kernel
theorem dX5_timesSmall_9 : decode cX5_timesSmall 9 = .ok (.iload_n 1, 1) := by decide +kernel
theorem dX5_timesSmall_10 : decode cX5_timesSmall 10 = .ok (.iload_n 2, 1) := by decide +kernel
theorem dX5_timesSmall_11 : decode cX5_timesSmall 11 = .ok (.bipush 32, 2) := by decide +kernel
theorem dX5_timesSmall_13 : decode cX5_timesSmall 13 = .ok (.invokevirtual 82, 3) := by decide +kernel
theorem dX5_timesSmall_16 : decode cX5_timesSmall 16 = .ok (.return_, 1) := by decide +kernel
set_option maxRecDepth 20000 in
theorem ggX5_up_X5_at : GoodIn wsX5_up wsX5_at := goodIn_r _ [8, 3, 9, 10, 11, 12, 13, 14, 15] rfl (by decide +kernel)
set_option maxRecDepth 20000 in
theorem gX5_up_X5_at : GoodIn wsX5_up (wsV RX5 60 RX5 yX5_at wsX5_at) := goodIn_app (goodIn_of _ (by decide +kernel)) ggX5_up_X5_at
theorem dX5_up_0 : decode cX5_up 0 = .ok (.iload_n 3, 1) := by decide +kernel
theorem dX5_up_1 : decode cX5_up 1 = .ok (.bipush 24, 2) := by decide +kernel
theorem dX5_up_3 : decode cX5_up 3 = .ok (.idiv, 1) := by decide +kernel
theorem dX5_up_4 : decode cX5_up 4 = .ok (.istore 4, 2) := by decide +kernel
theorem dX5_up_6 : decode cX5_up 6 = .ok (.iload_n 3, 1) := by decide +kernel
theorem dX5_up_7 : decode cX5_up 7 = .ok (.bipush 24, 2) := by decide +kernel
theorem dX5_up_9 : decode cX5_up 9 = .ok (.irem, 1) := by decide +kernel
theorem dX5_up_10 : decode cX5_up 10 = .ok (.istore 5, 2) := by decide +kernel
theorem dX5_up_12 : decode cX5_up 12 = .ok (.aload_n 0, 1) := by decide +kernel
theorem dX5_up_13 : decode cX5_up 13 = .ok (.getfield 13, 3) := by decide +kernel
theorem dX5_up_16 : decode cX5_up 16 = .ok (.iload_n 2, 1) := by decide +kernel
theorem dX5_up_17 : decode cX5_up 17 = .ok (.iaload, 1) := by decide +kernel
theorem dX5_up_18 : decode cX5_up 18 = .ok (.istore 6, 2) := by decide +kernel
theorem dX5_up_20 : decode cX5_up 20 = .ok (.bipush 33, 2) := by decide +kernel
theorem dX5_up_22 : decode cX5_up 22 = .ok (.istore 7, 2) := by decide +kernel
theorem dX5_up_24 : decode cX5_up 24 = .ok (.iload 7, 2) := by decide +kernel
theorem dX5_up_26 : decode cX5_up 26 = .ok (.ifCond .lt 95, 3) := by decide +kernel
theorem dX5_up_29 : decode cX5_up 29 = .ok (.iload 7, 2) := by decide +kernel
theorem dX5_up_31 : decode cX5_up 31 = .ok (.iload 4, 2) := by decide +kernel
theorem dX5_up_33 : decode cX5_up 33 = .ok (.isub, 1) := by decide +kernel
theorem dX5_up_34 : decode cX5_up 34 = .ok (.ifCond .lt 22, 3) := by decide +kernel
theorem dX5_up_37 : decode cX5_up 37 = .ok (.aload_n 0, 1) := by decide +kernel
theorem dX5_up_38 : decode cX5_up 38 = .ok (.iload_n 2, 1) := by decide +kernel
theorem dX5_up_39 : decode cX5_up 39 = .ok (.iload 7, 2) := by decide +kernel
theorem dX5_up_41 : decode cX5_up 41 = .ok (.iload 4, 2) := by decide +kernel
theorem dX5_up_43 : decode cX5_up 43 = .ok (.isub, 1) := by decide +kernel
theorem dX5_up_44 : decode cX5_up 44 = .ok (.invokevirtual 60, 3) := by decide +kernel
theorem dX5_up_47 : decode cX5_up 47 = .ok (.iload 5, 2) := by decide +kernel
theorem dX5_up_49 : decode cX5_up 49 = .ok (.ishl, 1) := by decide +kernel
theorem dX5_up_50 : decode cX5_up 50 = .ok (.ldc 70, 2) := by decide +kernel
theorem dX5_up_52 : decode cX5_up 52 = .ok (.iand, 1) := by decide +kernel
theorem dX5_up_53 : decode cX5_up 53 = .ok (.goto 4, 3) := by decide +kernel
theorem dX5_up_56 : decode cX5_up 56 = .ok (.iconst 0, 1) := by decide +kernel
theorem dX5_up_57 : decode cX5_up 57 = .ok (.istore 8, 2) := by decide +kernel
theorem dX5_up_59 : decode cX5_up 59 = .ok (.iload 7, 2) := by decide +kernel
theorem dX5_up_61 : decode cX5_up 61 = .ok (.iload 4, 2) := by decide +kernel
theorem dX5_up_63 : decode cX5_up 63 = .ok (.isub, 1) := by decide +kernel
theorem dX5_up_64 : decode cX5_up 64 = .ok (.iconst 1, 1) := by decide +kernel
theorem dX5_up_65 : decode cX5_up 65 = .ok (.isub, 1) := by decide +kernel
theorem dX5_up_66 : decode cX5_up 66 = .ok (.ifCond .lt 29, 3) := by decide +kernel
theorem dX5_up_69 : decode cX5_up 69 = .ok (.iload 5, 2) := by decide +kernel
theorem dX5_up_71 : decode cX5_up 71 = .ok (.ifCond .le 24, 3) := by decide +kernel
theorem dX5_up_74 : decode cX5_up 74 = .ok (.aload_n 0, 1) := by decide +kernel
theorem dX5_up_75 : decode cX5_up 75 = .ok (.iload_n 2, 1) := by decide +kernel
theorem dX5_up_76 : decode cX5_up 76 = .ok (.iload 7, 2) := by decide +kernel
theorem dX5_up_78 : decode cX5_up 78 = .ok (.iload 4, 2) := by decide +kernel
theorem dX5_up_80 : decode cX5_up 80 = .ok (.isub, 1) := by decide +kernel
theorem dX5_up_81 : decode cX5_up 81 = .ok (.iconst 1, 1) := by decide +kernel
theorem dX5_up_82 : decode cX5_up 82 = .ok (.isub, 1) := by decide +kernel
theorem dX5_up_83 : decode cX5_up 83 = .ok (.invokevirtual 60, 3) := by decide +kernel
theorem dX5_up_86 : decode cX5_up 86 = .ok (.bipush 24, 2) := by decide +kernel
theorem dX5_up_88 : decode cX5_up 88 = .ok (.iload 5, 2) := by decide +kernel
theorem dX5_up_90 : decode cX5_up 90 = .ok (.isub, 1) := by decide +kernel
theorem dX5_up_91 : decode cX5_up 91 = .ok (.ishr, 1) := by decide +kernel
theorem dX5_up_92 : decode cX5_up 92 = .ok (.goto 4, 3) := by decide +kernel
theorem dX5_up_95 : decode cX5_up 95 = .ok (.iconst 0, 1) := by decide +kernel
theorem dX5_up_96 : decode cX5_up 96 = .ok (.istore 9, 2) := by decide +kernel
theorem dX5_up_98 : decode cX5_up 98 = .ok (.aload_n 0, 1) := by decide +kernel
theorem dX5_up_99 : decode cX5_up 99 = .ok (.getfield 7, 3) := by decide +kernel
theorem dX5_up_102 : decode cX5_up 102 = .ok (.bipush 34, 2) := by decide +kernel
theorem dX5_up_104 : decode cX5_up 104 = .ok (.iload_n 1, 1) := by decide +kernel
theorem dX5_up_105 : decode cX5_up 105 = .ok (.imul, 1) := by decide +kernel
theorem dX5_up_106 : decode cX5_up 106 = .ok (.iload 7, 2) := by decide +kernel
theorem dX5_up_108 : decode cX5_up 108 = .ok (.iadd, 1) := by decide +kernel
theorem dX5_up_109 : decode cX5_up 109 = .ok (.iload 8, 2) := by decide +kernel
theorem dX5_up_111 : decode cX5_up 111 = .ok (.iload 9, 2) := by decide +kernel
theorem dX5_up_113 : decode cX5_up 113 = .ok (.ior, 1) := by decide +kernel
theorem dX5_up_114 : decode cX5_up 114 = .ok (.iastore, 1) := by decide +kernel
theorem dX5_up_115 : decode cX5_up 115 = .ok (.iinc 7 (-1), 3) := by decide +kernel
theorem dX5_up_118 : decode cX5_up 118 = .ok (.goto (-94), 3) := by decide +kernel
theorem dX5_up_121 : decode cX5_up 121 = .ok (.aload_n 0, 1) := by decide +kernel
theorem dX5_up_122 : decode cX5_up 122 = .ok (.getfield 13, 3) := by decide +kernel
theorem dX5_up_125 : decode cX5_up 125 = .ok (.iload_n 1, 1) := by decide +kernel
theorem dX5_up_126 : decode cX5_up 126 = .ok (.iload 6, 2) := by decide +kernel
theorem dX5_up_128 : decode cX5_up 128 = .ok (.iastore, 1) := by decide +kernel
theorem dX5_up_129 : decode cX5_up 129 = .ok (.return_, 1) := by decide +kernel
set_option maxRecDepth 20000 in
theorem ggX5_down_X5_at : GoodIn wsX5_down wsX5_at := goodIn_r _ [8, 3, 42, 43, 44, 45, 46, 47, 48] rfl (by decide +kernel)
set_option maxRecDepth 20000 in
theorem gX5_down_X5_at : GoodIn wsX5_down (wsV RX5 60 RX5 yX5_at wsX5_at) := goodIn_app (goodIn_of _ (by decide +kernel)) ggX5_down_X5_at
set_option maxRecDepth 20000 in
theorem ggX5_down_X5_settle : GoodIn wsX5_down wsX5_settle := goodIn_r _ [12, 3, 1, 42, 43, 44, 45, 46, 47, 48] rfl (by decide +kernel)
set_option maxRecDepth 20000 in
theorem gX5_down_X5_settle : GoodIn wsX5_down (wsV RX5 57 RX5 yX5_settle wsX5_settle) := goodIn_app (goodIn_of _ (by decide +kernel)) ggX5_down_X5_settle
set_option maxRecDepth 20000 in
theorem ggX5_down_X5_addSmall : GoodIn wsX5_down wsX5_addSmall := goodIn_r _ [16, 17, 18, 19, 7, 20, 3, 21, 22, 23, 24, 25, 1, 9, 10, 11, 12, 26, 27, 28, 29, 30, 31, 32, 33, 2, 34, 35, 36, 37, 38, 39, 40, 41, 4, 5, 6, 8, 42, 43, 44, 45, 46, 47, 48] rfl (by decide +kernel)
set_option maxRecDepth 20000 in
theorem gX5_down_X5_addSmall : GoodIn wsX5_down (wsV RX5 85 RX5 yX5_addSmall wsX5_addSmall) := goodIn_app (goodIn_of _ (by decide +kernel)) ggX5_down_X5_addSmall
theorem dX5_down_0 : decode cX5_down 0 = .ok (.iload_n 3, 1) := by decide +kernel
theorem dX5_down_1 : decode cX5_down 1 = .ok (.bipush 24, 2) := by decide +kernel
theorem dX5_down_3 : decode cX5_down 3 = .ok (.idiv, 1) := by decide +kernel
theorem dX5_down_4 : decode cX5_down 4 = .ok (.istore 4, 2) := by decide +kernel
theorem dX5_down_6 : decode cX5_down 6 = .ok (.iload_n 3, 1) := by decide +kernel
theorem dX5_down_7 : decode cX5_down 7 = .ok (.bipush 24, 2) := by decide +kernel
theorem dX5_down_9 : decode cX5_down 9 = .ok (.irem, 1) := by decide +kernel
theorem dX5_down_10 : decode cX5_down 10 = .ok (.istore 5, 2) := by decide +kernel
theorem dX5_down_12 : decode cX5_down 12 = .ok (.aload_n 0, 1) := by decide +kernel
theorem dX5_down_13 : decode cX5_down 13 = .ok (.getfield 13, 3) := by decide +kernel
theorem dX5_down_16 : decode cX5_down 16 = .ok (.iload_n 2, 1) := by decide +kernel
theorem dX5_down_17 : decode cX5_down 17 = .ok (.iaload, 1) := by decide +kernel
theorem dX5_down_18 : decode cX5_down 18 = .ok (.istore 6, 2) := by decide +kernel
theorem dX5_down_20 : decode cX5_down 20 = .ok (.iconst 0, 1) := by decide +kernel
theorem dX5_down_21 : decode cX5_down 21 = .ok (.istore 7, 2) := by decide +kernel
theorem dX5_down_23 : decode cX5_down 23 = .ok (.iconst 0, 1) := by decide +kernel
theorem dX5_down_24 : decode cX5_down 24 = .ok (.istore 8, 2) := by decide +kernel
theorem dX5_down_26 : decode cX5_down 26 = .ok (.iload 8, 2) := by decide +kernel
theorem dX5_down_28 : decode cX5_down 28 = .ok (.iload 4, 2) := by decide +kernel
theorem dX5_down_30 : decode cX5_down 30 = .ok (.if_icmp .ge 38, 3) := by decide +kernel
theorem dX5_down_33 : decode cX5_down 33 = .ok (.iload 8, 2) := by decide +kernel
theorem dX5_down_35 : decode cX5_down 35 = .ok (.bipush 34, 2) := by decide +kernel
theorem dX5_down_37 : decode cX5_down 37 = .ok (.if_icmp .ge 31, 3) := by decide +kernel
theorem dX5_down_40 : decode cX5_down 40 = .ok (.iload 7, 2) := by decide +kernel
theorem dX5_down_42 : decode cX5_down 42 = .ok (.ifCond .ne 13, 3) := by decide +kernel
theorem dX5_down_45 : decode cX5_down 45 = .ok (.aload_n 0, 1) := by decide +kernel
theorem dX5_down_46 : decode cX5_down 46 = .ok (.iload_n 2, 1) := by decide +kernel
theorem dX5_down_47 : decode cX5_down 47 = .ok (.iload 8, 2) := by decide +kernel
theorem dX5_down_49 : decode cX5_down 49 = .ok (.invokevirtual 60, 3) := by decide +kernel
theorem dX5_down_52 : decode cX5_down 52 = .ok (.ifCond .eq 7, 3) := by decide +kernel
theorem dX5_down_55 : decode cX5_down 55 = .ok (.iconst 1, 1) := by decide +kernel
theorem dX5_down_56 : decode cX5_down 56 = .ok (.goto 4, 3) := by decide +kernel
theorem dX5_down_59 : decode cX5_down 59 = .ok (.iconst 0, 1) := by decide +kernel
theorem dX5_down_60 : decode cX5_down 60 = .ok (.istore 7, 2) := by decide +kernel
theorem dX5_down_62 : decode cX5_down 62 = .ok (.iinc 8 1, 3) := by decide +kernel
theorem dX5_down_65 : decode cX5_down 65 = .ok (.goto (-39), 3) := by decide +kernel
theorem dX5_down_68 : decode cX5_down 68 = .ok (.iload 7, 2) := by decide +kernel
theorem dX5_down_70 : decode cX5_down 70 = .ok (.ifCond .ne 27, 3) := by decide +kernel
theorem dX5_down_73 : decode cX5_down 73 = .ok (.iload 4, 2) := by decide +kernel
theorem dX5_down_75 : decode cX5_down 75 = .ok (.bipush 34, 2) := by decide +kernel
theorem dX5_down_77 : decode cX5_down 77 = .ok (.if_icmp .ge 24, 3) := by decide +kernel
theorem dX5_down_80 : decode cX5_down 80 = .ok (.aload_n 0, 1) := by decide +kernel
theorem dX5_down_81 : decode cX5_down 81 = .ok (.iload_n 2, 1) := by decide +kernel
theorem dX5_down_82 : decode cX5_down 82 = .ok (.iload 4, 2) := by decide +kernel
theorem dX5_down_84 : decode cX5_down 84 = .ok (.invokevirtual 60, 3) := by decide +kernel
theorem dX5_down_87 : decode cX5_down 87 = .ok (.iconst 1, 1) := by decide +kernel
theorem dX5_down_88 : decode cX5_down 88 = .ok (.iload 5, 2) := by decide +kernel
theorem dX5_down_90 : decode cX5_down 90 = .ok (.ishl, 1) := by decide +kernel
theorem dX5_down_91 : decode cX5_down 91 = .ok (.iconst 1, 1) := by decide +kernel
theorem dX5_down_92 : decode cX5_down 92 = .ok (.isub, 1) := by decide +kernel
theorem dX5_down_93 : decode cX5_down 93 = .ok (.iand, 1) := by decide +kernel
theorem dX5_down_94 : decode cX5_down 94 = .ok (.ifCond .eq 7, 3) := by decide +kernel
theorem dX5_down_97 : decode cX5_down 97 = .ok (.iconst 1, 1) := by decide +kernel
theorem dX5_down_98 : decode cX5_down 98 = .ok (.goto 4, 3) := by decide +kernel
theorem dX5_down_101 : decode cX5_down 101 = .ok (.iconst 0, 1) := by decide +kernel
theorem dX5_down_102 : decode cX5_down 102 = .ok (.istore 7, 2) := by decide +kernel
theorem dX5_down_104 : decode cX5_down 104 = .ok (.iconst 0, 1) := by decide +kernel
theorem dX5_down_105 : decode cX5_down 105 = .ok (.istore 8, 2) := by decide +kernel
theorem dX5_down_107 : decode cX5_down 107 = .ok (.iload 8, 2) := by decide +kernel
theorem dX5_down_109 : decode cX5_down 109 = .ok (.bipush 34, 2) := by decide +kernel
theorem dX5_down_111 : decode cX5_down 111 = .ok (.if_icmp .ge 99, 3) := by decide +kernel
theorem dX5_down_114 : decode cX5_down 114 = .ok (.iload 8, 2) := by decide +kernel
theorem dX5_down_116 : decode cX5_down 116 = .ok (.iload 4, 2) := by decide +kernel
theorem dX5_down_118 : decode cX5_down 118 = .ok (.iadd, 1) := by decide +kernel
theorem dX5_down_119 : decode cX5_down 119 = .ok (.bipush 34, 2) := by decide +kernel
theorem dX5_down_121 : decode cX5_down 121 = .ok (.if_icmp .ge 19, 3) := by decide +kernel
theorem dX5_down_124 : decode cX5_down 124 = .ok (.aload_n 0, 1) := by decide +kernel
theorem dX5_down_125 : decode cX5_down 125 = .ok (.iload_n 2, 1) := by decide +kernel
theorem dX5_down_126 : decode cX5_down 126 = .ok (.iload 8, 2) := by decide +kernel
theorem dX5_down_128 : decode cX5_down 128 = .ok (.iload 4, 2) := by decide +kernel
theorem dX5_down_130 : decode cX5_down 130 = .ok (.iadd, 1) := by decide +kernel
theorem dX5_down_131 : decode cX5_down 131 = .ok (.invokevirtual 60, 3) := by decide +kernel
theorem dX5_down_134 : decode cX5_down 134 = .ok (.iload 5, 2) := by decide +kernel
theorem dX5_down_136 : decode cX5_down 136 = .ok (.ishr, 1) := by decide +kernel
theorem dX5_down_137 : decode cX5_down 137 = .ok (.goto 4, 3) := by decide +kernel
theorem dX5_down_140 : decode cX5_down 140 = .ok (.iconst 0, 1) := by decide +kernel
theorem dX5_down_141 : decode cX5_down 141 = .ok (.istore 9, 2) := by decide +kernel
theorem dX5_down_143 : decode cX5_down 143 = .ok (.iload 8, 2) := by decide +kernel
theorem dX5_down_145 : decode cX5_down 145 = .ok (.iload 4, 2) := by decide +kernel
theorem dX5_down_147 : decode cX5_down 147 = .ok (.iadd, 1) := by decide +kernel
theorem dX5_down_148 : decode cX5_down 148 = .ok (.iconst 1, 1) := by decide +kernel
theorem dX5_down_149 : decode cX5_down 149 = .ok (.iadd, 1) := by decide +kernel
theorem dX5_down_150 : decode cX5_down 150 = .ok (.bipush 34, 2) := by decide +kernel
theorem dX5_down_152 : decode cX5_down 152 = .ok (.if_icmp .ge 32, 3) := by decide +kernel
theorem dX5_down_155 : decode cX5_down 155 = .ok (.iload 5, 2) := by decide +kernel
theorem dX5_down_157 : decode cX5_down 157 = .ok (.ifCond .le 27, 3) := by decide +kernel
theorem dX5_down_160 : decode cX5_down 160 = .ok (.aload_n 0, 1) := by decide +kernel
theorem dX5_down_161 : decode cX5_down 161 = .ok (.iload_n 2, 1) := by decide +kernel
theorem dX5_down_162 : decode cX5_down 162 = .ok (.iload 8, 2) := by decide +kernel
theorem dX5_down_164 : decode cX5_down 164 = .ok (.iload 4, 2) := by decide +kernel
theorem dX5_down_166 : decode cX5_down 166 = .ok (.iadd, 1) := by decide +kernel
theorem dX5_down_167 : decode cX5_down 167 = .ok (.iconst 1, 1) := by decide +kernel
theorem dX5_down_168 : decode cX5_down 168 = .ok (.iadd, 1) := by decide +kernel
theorem dX5_down_169 : decode cX5_down 169 = .ok (.invokevirtual 60, 3) := by decide +kernel
theorem dX5_down_172 : decode cX5_down 172 = .ok (.bipush 24, 2) := by decide +kernel
theorem dX5_down_174 : decode cX5_down 174 = .ok (.iload 5, 2) := by decide +kernel
theorem dX5_down_176 : decode cX5_down 176 = .ok (.isub, 1) := by decide +kernel
theorem dX5_down_177 : decode cX5_down 177 = .ok (.ishl, 1) := by decide +kernel
theorem dX5_down_178 : decode cX5_down 178 = .ok (.ldc 70, 2) := by decide +kernel
theorem dX5_down_180 : decode cX5_down 180 = .ok (.iand, 1) := by decide +kernel
theorem dX5_down_181 : decode cX5_down 181 = .ok (.goto 4, 3) := by decide +kernel
theorem dX5_down_184 : decode cX5_down 184 = .ok (.iconst 0, 1) := by decide +kernel
theorem dX5_down_185 : decode cX5_down 185 = .ok (.istore 10, 2) := by decide +kernel
theorem dX5_down_187 : decode cX5_down 187 = .ok (.aload_n 0, 1) := by decide +kernel
theorem dX5_down_188 : decode cX5_down 188 = .ok (.getfield 7, 3) := by decide +kernel
theorem dX5_down_191 : decode cX5_down 191 = .ok (.bipush 34, 2) := by decide +kernel
theorem dX5_down_193 : decode cX5_down 193 = .ok (.iload_n 1, 1) := by decide +kernel
theorem dX5_down_194 : decode cX5_down 194 = .ok (.imul, 1) := by decide +kernel
theorem dX5_down_195 : decode cX5_down 195 = .ok (.iload 8, 2) := by decide +kernel
theorem dX5_down_197 : decode cX5_down 197 = .ok (.iadd, 1) := by decide +kernel
theorem dX5_down_198 : decode cX5_down 198 = .ok (.iload 9, 2) := by decide +kernel
theorem dX5_down_200 : decode cX5_down 200 = .ok (.iload 10, 2) := by decide +kernel
theorem dX5_down_202 : decode cX5_down 202 = .ok (.ior, 1) := by decide +kernel
theorem dX5_down_203 : decode cX5_down 203 = .ok (.iastore, 1) := by decide +kernel
theorem dX5_down_204 : decode cX5_down 204 = .ok (.iinc 8 1, 3) := by decide +kernel
theorem dX5_down_207 : decode cX5_down 207 = .ok (.goto (-100), 3) := by decide +kernel
theorem dX5_down_210 : decode cX5_down 210 = .ok (.aload_n 0, 1) := by decide +kernel
theorem dX5_down_211 : decode cX5_down 211 = .ok (.iload_n 1, 1) := by decide +kernel
theorem dX5_down_212 : decode cX5_down 212 = .ok (.iload 6, 2) := by decide +kernel
theorem dX5_down_214 : decode cX5_down 214 = .ok (.invokevirtual 57, 3) := by decide +kernel
theorem dX5_down_217 : decode cX5_down 217 = .ok (.iload 6, 2) := by decide +kernel
theorem dX5_down_219 : decode cX5_down 219 = .ok (.ifCond .ge 14, 3) := by decide +kernel
theorem dX5_down_222 : decode cX5_down 222 = .ok (.iload 7, 2) := by decide +kernel
theorem dX5_down_224 : decode cX5_down 224 = .ok (.ifCond .eq 9, 3) := by decide +kernel
theorem dX5_down_227 : decode cX5_down 227 = .ok (.aload_n 0, 1) := by decide +kernel
theorem dX5_down_228 : decode cX5_down 228 = .ok (.iload_n 1, 1) := by decide +kernel
theorem dX5_down_229 : decode cX5_down 229 = .ok (.iconst (-1), 1) := by decide +kernel
theorem dX5_down_230 : decode cX5_down 230 = .ok (.invokevirtual 85, 3) := by decide +kernel
theorem dX5_down_233 : decode cX5_down 233 = .ok (.return_, 1) := by decide +kernel
set_option maxRecDepth 20000 in
theorem ggX5_divideSmall_X5_at : GoodIn wsX5_divideSmall wsX5_at := goodIn_r _ [7, 2, 42, 43, 44, 45, 46, 47, 48] rfl (by decide +kernel)
set_option maxRecDepth 20000 in
theorem gX5_divideSmall_X5_at : GoodIn wsX5_divideSmall (wsV RX5 60 RX5 yX5_at wsX5_at) := goodIn_app (goodIn_of _ (by decide +kernel)) ggX5_divideSmall_X5_at
set_option maxRecDepth 20000 in
theorem ggX5_divideSmall_X5_settle : GoodIn wsX5_divideSmall wsX5_settle := goodIn_r _ [11, 2, 1, 42, 43, 44, 45, 46, 47, 48] rfl (by decide +kernel)
set_option maxRecDepth 20000 in
theorem gX5_divideSmall_X5_settle : GoodIn wsX5_divideSmall (wsV RX5 57 RX5 yX5_settle wsX5_settle) := goodIn_app (goodIn_of _ (by decide +kernel)) ggX5_divideSmall_X5_settle
