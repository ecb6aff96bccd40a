set_option maxRecDepth 20000 in
theorem ggX0_init_X3_init : GoodIn wsX0_init wsX3_init := goodIn_r _ [10, 11, 2, 3, 12, 13, 14, 15, 16] rfl (by decide +kernel)
set_option maxRecDepth 20000 in
theorem gX0_init_X3_init_n9 : GoodIn wsX0_init (wsX3_init) := ggX0_init_X3_init
theorem dX0_init_0 : decode cX0_init 0 = .ok (.aload_n 0, 1) := by decide +kernel
theorem dX0_init_1 : decode cX0_init 1 = .ok (.invokespecial 1, 3) := by decide +kernel
theorem dX0_init_4 : decode cX0_init 4 = .ok (.aload_n 0, 1) := by decide +kernel
theorem dX0_init_5 : decode cX0_init 5 = .ok (.new 7, 3) := by decide +kernel
theorem dX0_init_8 : decode cX0_init 8 = .ok (.dup, 1) := by decide +kernel
theorem dX0_init_9 : decode cX0_init 9 = .ok (.invokespecial 9, 3) := by decide +kernel
theorem dX0_init_12 : decode cX0_init 12 = .ok (.putfield 10, 3) := by decide +kernel
theorem dX0_init_15 : decode cX0_init 15 = .ok (.aload_n 0, 1) := by decide +kernel
theorem dX0_init_16 : decode cX0_init 16 = .ok (.new 7, 3) := by decide +kernel
theorem dX0_init_19 : decode cX0_init 19 = .ok (.dup, 1) := by decide +kernel
theorem dX0_init_20 : decode cX0_init 20 = .ok (.invokespecial 9, 3) := by decide +kernel
theorem dX0_init_23 : decode cX0_init 23 = .ok (.putfield 16, 3) := by decide +kernel
theorem dX0_init_26 : decode cX0_init 26 = .ok (.return_, 1) := by decide +kernel
set_option maxRecDepth 20000 in
theorem ggX0_become_X3_become_ : GoodIn wsX0_become wsX3_become_ := goodIn_r _ [7, 8, 9, 10, 11, 12, 13, 14, 17, 18, 19] rfl (by decide +kernel)
set_option maxRecDepth 20000 in
theorem gX0_become_X3_become_ : GoodIn wsX0_become (wsV RX0 19 RX3 yX3_become_ wsX3_become_) := goodIn_app (goodIn_of _ (by decide +kernel)) ggX0_become_X3_become_
theorem dX0_become_0 : decode cX0_become 0 = .ok (.aload_n 0, 1) := by decide +kernel
theorem dX0_become_1 : decode cX0_become 1 = .ok (.getfield 10, 3) := by decide +kernel
theorem dX0_become_4 : decode cX0_become 4 = .ok (.aload_n 1, 1) := by decide +kernel
theorem dX0_become_5 : decode cX0_become 5 = .ok (.getfield 10, 3) := by decide +kernel
theorem dX0_become_8 : decode cX0_become 8 = .ok (.invokevirtual 19, 3) := by decide +kernel
theorem dX0_become_11 : decode cX0_become 11 = .ok (.aload_n 0, 1) := by decide +kernel
theorem dX0_become_12 : decode cX0_become 12 = .ok (.getfield 16, 3) := by decide +kernel
theorem dX0_become_15 : decode cX0_become 15 = .ok (.aload_n 1, 1) := by decide +kernel
theorem dX0_become_16 : decode cX0_become 16 = .ok (.getfield 16, 3) := by decide +kernel
theorem dX0_become_19 : decode cX0_become 19 = .ok (.invokevirtual 19, 3) := by decide +kernel
theorem dX0_become_22 : decode cX0_become 22 = .ok (.return_, 1) := by decide +kernel
set_option maxRecDepth 20000 in
theorem ggX0_isWithin_X3_orderWithoutSign : GoodIn wsX0_isWithin wsX3_orderWithoutSign := goodIn_r _ [7, 8, 9, 10, 11, 12, 13, 14, 15, 16, 17, 25, 26, 27] rfl (by decide +kernel)
set_option maxRecDepth 20000 in
theorem gX0_isWithin_X3_orderWithoutSign : GoodIn wsX0_isWithin (wsV RX0 23 RX3 yX3_orderWithoutSign wsX3_orderWithoutSign) := goodIn_app (goodIn_of _ (by decide +kernel)) ggX0_isWithin_X3_orderWithoutSign
set_option maxRecDepth 20000 in
theorem ggX0_isWithin_X3_sign : GoodIn wsX0_isWithin wsX3_sign := goodIn_r _ [21, 22, 25, 26, 27] rfl (by decide +kernel)
set_option maxRecDepth 20000 in
theorem gX0_isWithin_X3_sign : GoodIn wsX0_isWithin (wsV RX0 27 RX3 yX3_sign wsX3_sign) := goodIn_app (goodIn_of _ (by decide +kernel)) ggX0_isWithin_X3_sign
theorem dX0_isWithin_0 : decode cX0_isWithin 0 = .ok (.aload_n 0, 1) := by decide +kernel
theorem dX0_isWithin_1 : decode cX0_isWithin 1 = .ok (.getfield 10, 3) := by decide +kernel
theorem dX0_isWithin_4 : decode cX0_isWithin 4 = .ok (.aload_n 1, 1) := by decide +kernel
theorem dX0_isWithin_5 : decode cX0_isWithin 5 = .ok (.invokevirtual 23, 3) := by decide +kernel
theorem dX0_isWithin_8 : decode cX0_isWithin 8 = .ok (.ifCond .gt 28, 3) := by decide +kernel
theorem dX0_isWithin_11 : decode cX0_isWithin 11 = .ok (.aload_n 0, 1) := by decide +kernel
theorem dX0_isWithin_12 : decode cX0_isWithin 12 = .ok (.getfield 16, 3) := by decide +kernel
theorem dX0_isWithin_15 : decode cX0_isWithin 15 = .ok (.invokevirtual 27, 3) := by decide +kernel
theorem dX0_isWithin_18 : decode cX0_isWithin 18 = .ok (.ifCond .lt 18, 3) := by decide +kernel
theorem dX0_isWithin_21 : decode cX0_isWithin 21 = .ok (.aload_n 0, 1) := by decide +kernel
theorem dX0_isWithin_22 : decode cX0_isWithin 22 = .ok (.getfield 16, 3) := by decide +kernel
theorem dX0_isWithin_25 : decode cX0_isWithin 25 = .ok (.aload_n 1, 1) := by decide +kernel
theorem dX0_isWithin_26 : decode cX0_isWithin 26 = .ok (.invokevirtual 23, 3) := by decide +kernel
theorem dX0_isWithin_29 : decode cX0_isWithin 29 = .ok (.ifCond .gt 7, 3) := by decide +kernel
theorem dX0_isWithin_32 : decode cX0_isWithin 32 = .ok (.iconst 1, 1) := by decide +kernel
theorem dX0_isWithin_33 : decode cX0_isWithin 33 = .ok (.goto 4, 3) := by decide +kernel
theorem dX0_isWithin_36 : decode cX0_isWithin 36 = .ok (.iconst 0, 1) := by decide +kernel
theorem dX0_isWithin_37 : decode cX0_isWithin 37 = .ok (.ireturn, 1) := by decide +kernel
