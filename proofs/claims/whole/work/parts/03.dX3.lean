theorem dX3_init_0 : decode cX3_init 0 = .ok (.aload_n 0, 1) := by decide +kernel
theorem dX3_init_1 : decode cX3_init 1 = .ok (.invokespecial 1, 3) := by decide +kernel
theorem dX3_init_4 : decode cX3_init 4 = .ok (.aload_n 0, 1) := by decide +kernel
theorem dX3_init_5 : decode cX3_init 5 = .ok (.bipush 24, 2) := by decide +kernel
theorem dX3_init_7 : decode cX3_init 7 = .ok (.newarray .long, 2) := by decide +kernel
theorem dX3_init_9 : decode cX3_init 9 = .ok (.putfield 9, 3) := by decide +kernel
theorem dX3_init_12 : decode cX3_init 12 = .ok (.return_, 1) := by decide +kernel
theorem dX3_sign_0 : decode cX3_sign 0 = .ok (.aload_n 0, 1) := by decide +kernel
theorem dX3_sign_1 : decode cX3_sign 1 = .ok (.getfield 13, 3) := by decide +kernel
theorem dX3_sign_4 : decode cX3_sign 4 = .ok (.ireturn, 1) := by decide +kernel
theorem dX3_size_0 : decode cX3_size 0 = .ok (.aload_n 0, 1) := by decide +kernel
theorem dX3_size_1 : decode cX3_size 1 = .ok (.getfield 17, 3) := by decide +kernel
theorem dX3_size_4 : decode cX3_size 4 = .ok (.ireturn, 1) := by decide +kernel
theorem dX3_at_0 : decode cX3_at 0 = .ok (.iload_n 1, 1) := by decide +kernel
theorem dX3_at_1 : decode cX3_at 1 = .ok (.ifCond .lt 20, 3) := by decide +kernel
theorem dX3_at_4 : decode cX3_at 4 = .ok (.iload_n 1, 1) := by decide +kernel
theorem dX3_at_5 : decode cX3_at 5 = .ok (.aload_n 0, 1) := by decide +kernel
theorem dX3_at_6 : decode cX3_at 6 = .ok (.getfield 17, 3) := by decide +kernel
theorem dX3_at_9 : decode cX3_at 9 = .ok (.if_icmp .ge 12, 3) := by decide +kernel
theorem dX3_at_12 : decode cX3_at 12 = .ok (.aload_n 0, 1) := by decide +kernel
theorem dX3_at_13 : decode cX3_at 13 = .ok (.getfield 9, 3) := by decide +kernel
theorem dX3_at_16 : decode cX3_at 16 = .ok (.iload_n 1, 1) := by decide +kernel
theorem dX3_at_17 : decode cX3_at 17 = .ok (.laload, 1) := by decide +kernel
theorem dX3_at_18 : decode cX3_at 18 = .ok (.goto 4, 3) := by decide +kernel
theorem dX3_at_21 : decode cX3_at 21 = .ok (.lconst 0, 1) := by decide +kernel
theorem dX3_at_22 : decode cX3_at 22 = .ok (.lreturn, 1) := by decide +kernel
set_option maxRecDepth 20000 in
theorem ggX3_bits_J13_numberOfLeadingZeros_95d88 : GoodIn wsX3_bits wsJ13_numberOfLeadingZeros_95d88 := goodIn_r _ [6, 7, 8, 9, 10, 11] (by decide +kernel) (by decide +kernel)
set_option maxRecDepth 20000 in
theorem gX3_bits_J13_numberOfLeadingZeros_95d88 : GoodIn wsX3_bits (va_wsS RX3 20 yJ13_numberOfLeadingZeros_95d88 wsJ13_numberOfLeadingZeros_95d88) := goodIn_app (goodIn_of _ (by decide +kernel)) ggX3_bits_J13_numberOfLeadingZeros_95d88
theorem dX3_bits_0 : decode cX3_bits 0 = .ok (.aload_n 0, 1) := by decide +kernel
theorem dX3_bits_1 : decode cX3_bits 1 = .ok (.getfield 17, 3) := by decide +kernel
theorem dX3_bits_4 : decode cX3_bits 4 = .ok (.ifCond .ne 7, 3) := by decide +kernel
theorem dX3_bits_7 : decode cX3_bits 7 = .ok (.iconst 0, 1) := by decide +kernel
theorem dX3_bits_8 : decode cX3_bits 8 = .ok (.goto 28, 3) := by decide +kernel
theorem dX3_bits_11 : decode cX3_bits 11 = .ok (.aload_n 0, 1) := by decide +kernel
theorem dX3_bits_12 : decode cX3_bits 12 = .ok (.getfield 17, 3) := by decide +kernel
theorem dX3_bits_15 : decode cX3_bits 15 = .ok (.bipush 32, 2) := by decide +kernel
theorem dX3_bits_17 : decode cX3_bits 17 = .ok (.imul, 1) := by decide +kernel
theorem dX3_bits_18 : decode cX3_bits 18 = .ok (.bipush 32, 2) := by decide +kernel
theorem dX3_bits_20 : decode cX3_bits 20 = .ok (.iadd, 1) := by decide +kernel
theorem dX3_bits_21 : decode cX3_bits 21 = .ok (.aload_n 0, 1) := by decide +kernel
theorem dX3_bits_22 : decode cX3_bits 22 = .ok (.getfield 9, 3) := by decide +kernel
theorem dX3_bits_25 : decode cX3_bits 25 = .ok (.aload_n 0, 1) := by decide +kernel
theorem dX3_bits_26 : decode cX3_bits 26 = .ok (.getfield 17, 3) := by decide +kernel
theorem dX3_bits_29 : decode cX3_bits 29 = .ok (.iconst 1, 1) := by decide +kernel
theorem dX3_bits_30 : decode cX3_bits 30 = .ok (.isub, 1) := by decide +kernel
theorem dX3_bits_31 : decode cX3_bits 31 = .ok (.laload, 1) := by decide +kernel
theorem dX3_bits_32 : decode cX3_bits 32 = .ok (.invokestatic 20, 3) := by decide +kernel
theorem dX3_bits_35 : decode cX3_bits 35 = .ok (.isub, 1) := by decide +kernel
theorem dX3_bits_36 : decode cX3_bits 36 = .ok (.ireturn, 1) := by decide +kernel
set_option maxRecDepth 20000 in
theorem ggX3_isOdd_X3_at : GoodIn wsX3_isOdd wsX3_at := goodIn_r _ [5, 6, 7, 8, 9, 10] (by decide +kernel) (by decide +kernel)
set_option maxRecDepth 20000 in
theorem gX3_isOdd_X3_at : GoodIn wsX3_isOdd (wsV RX3 26 RX3 yX3_at wsX3_at) := goodIn_app (goodIn_of _ (by decide +kernel)) ggX3_isOdd_X3_at
theorem dX3_isOdd_0 : decode cX3_isOdd 0 = .ok (.aload_n 0, 1) := by decide +kernel
theorem dX3_isOdd_1 : decode cX3_isOdd 1 = .ok (.iconst 0, 1) := by decide +kernel
theorem dX3_isOdd_2 : decode cX3_isOdd 2 = .ok (.invokevirtual 26, 3) := by decide +kernel
theorem dX3_isOdd_5 : decode cX3_isOdd 5 = .ok (.lconst 1, 1) := by decide +kernel
theorem dX3_isOdd_6 : decode cX3_isOdd 6 = .ok (.land, 1) := by decide +kernel
theorem dX3_isOdd_7 : decode cX3_isOdd 7 = .ok (.lconst 0, 1) := by decide +kernel
theorem dX3_isOdd_8 : decode cX3_isOdd 8 = .ok (.lcmp, 1) := by decide +kernel
theorem dX3_isOdd_9 : decode cX3_isOdd 9 = .ok (.ifCond .eq 7, 3) := by decide +kernel
theorem dX3_isOdd_12 : decode cX3_isOdd 12 = .ok (.iconst 1, 1) := by decide +kernel
theorem dX3_isOdd_13 : decode cX3_isOdd 13 = .ok (.goto 4, 3) := by decide +kernel
theorem dX3_isOdd_16 : decode cX3_isOdd 16 = .ok (.iconst 0, 1) := by decide +kernel
theorem dX3_isOdd_17 : decode cX3_isOdd 17 = .ok (.ireturn, 1) := by decide +kernel
theorem dX3_isSpent_0 : decode cX3_isSpent 0 = .ok (.aload_n 0, 1) := by decide +kernel
theorem dX3_isSpent_1 : decode cX3_isSpent 1 = .ok (.getfield 13, 3) := by decide +kernel
theorem dX3_isSpent_4 : decode cX3_isSpent 4 = .ok (.ifCond .eq 29, 3) := by decide +kernel
theorem dX3_isSpent_7 : decode cX3_isSpent 7 = .ok (.aload_n 0, 1) := by decide +kernel
theorem dX3_isSpent_8 : decode cX3_isSpent 8 = .ok (.getfield 13, 3) := by decide +kernel
theorem dX3_isSpent_11 : decode cX3_isSpent 11 = .ok (.ifCond .ge 26, 3) := by decide +kernel
theorem dX3_isSpent_14 : decode cX3_isSpent 14 = .ok (.aload_n 0, 1) := by decide +kernel
theorem dX3_isSpent_15 : decode cX3_isSpent 15 = .ok (.getfield 17, 3) := by decide +kernel
theorem dX3_isSpent_18 : decode cX3_isSpent 18 = .ok (.iconst 1, 1) := by decide +kernel
theorem dX3_isSpent_19 : decode cX3_isSpent 19 = .ok (.if_icmp .ne 18, 3) := by decide +kernel
theorem dX3_isSpent_22 : decode cX3_isSpent 22 = .ok (.aload_n 0, 1) := by decide +kernel
theorem dX3_isSpent_23 : decode cX3_isSpent 23 = .ok (.getfield 9, 3) := by decide +kernel
theorem dX3_isSpent_26 : decode cX3_isSpent 26 = .ok (.iconst 0, 1) := by decide +kernel
theorem dX3_isSpent_27 : decode cX3_isSpent 27 = .ok (.laload, 1) := by decide +kernel
theorem dX3_isSpent_28 : decode cX3_isSpent 28 = .ok (.lconst 1, 1) := by decide +kernel
theorem dX3_isSpent_29 : decode cX3_isSpent 29 = .ok (.lcmp, 1) := by decide +kernel
theorem dX3_isSpent_30 : decode cX3_isSpent 30 = .ok (.ifCond .ne 7, 3) := by decide +kernel
theorem dX3_isSpent_33 : decode cX3_isSpent 33 = .ok (.iconst 1, 1) := by decide +kernel
theorem dX3_isSpent_34 : decode cX3_isSpent 34 = .ok (.goto 4, 3) := by decide +kernel
theorem dX3_isSpent_37 : decode cX3_isSpent 37 = .ok (.iconst 0, 1) := by decide +kernel
theorem dX3_isSpent_38 : decode cX3_isSpent 38 = .ok (.ireturn, 1) := by decide +kernel
theorem dX3_clear_0 : decode cX3_clear 0 = .ok (.aload_n 0, 1) := by decide +kernel
theorem dX3_clear_1 : decode cX3_clear 1 = .ok (.iconst 0, 1) := by decide +kernel
theorem dX3_clear_2 : decode cX3_clear 2 = .ok (.putfield 17, 3) := by decide +kernel
theorem dX3_clear_5 : decode cX3_clear 5 = .ok (.aload_n 0, 1) := by decide +kernel
theorem dX3_clear_6 : decode cX3_clear 6 = .ok (.iconst 0, 1) := by decide +kernel
theorem dX3_clear_7 : decode cX3_clear 7 = .ok (.putfield 13, 3) := by decide +kernel
theorem dX3_clear_10 : decode cX3_clear 10 = .ok (.return_, 1) := by decide +kernel
set_option maxRecDepth 20000 in
theorem ggX3_become_J13_signum_95d88 : GoodIn wsX3_become wsJ13_signum_95d88 := goodIn_r _ [7] (by decide +kernel) (by decide +kernel)
set_option maxRecDepth 20000 in
theorem gX3_become_J13_signum_95d88 : GoodIn wsX3_become (va_wsS RX3 32 yJ13_signum_95d88 wsJ13_signum_95d88) := goodIn_app (goodIn_of _ (by decide +kernel)) ggX3_become_J13_signum_95d88
set_option maxRecDepth 20000 in
theorem ggX3_become_X3_trim : GoodIn wsX3_become wsX3_trim := goodIn_r _ [12, 13, 1, 3, 14, 15, 16] (by decide +kernel) (by decide +kernel)
set_option maxRecDepth 20000 in
theorem gX3_become_X3_trim : GoodIn wsX3_become (wsV RX3 35 RX3 yX3_trim wsX3_trim) := goodIn_app (goodIn_of _ (by decide +kernel)) ggX3_become_X3_trim
theorem dX3_become_0 : decode cX3_become 0 = .ok (.lload_n 1, 1) := by decide +kernel
theorem dX3_become_1 : decode cX3_become 1 = .ok (.lconst 0, 1) := by decide +kernel
theorem dX3_become_2 : decode cX3_become 2 = .ok (.lcmp, 1) := by decide +kernel
theorem dX3_become_3 : decode cX3_become 3 = .ok (.ifCond .ge 8, 3) := by decide +kernel
theorem dX3_become_6 : decode cX3_become 6 = .ok (.lload_n 1, 1) := by decide +kernel
theorem dX3_become_7 : decode cX3_become 7 = .ok (.lneg, 1) := by decide +kernel
theorem dX3_become_8 : decode cX3_become 8 = .ok (.goto 4, 3) := by decide +kernel
theorem dX3_become_11 : decode cX3_become 11 = .ok (.lload_n 1, 1) := by decide +kernel
theorem dX3_become_12 : decode cX3_become 12 = .ok (.lstore_n 3, 1) := by decide +kernel
theorem dX3_become_13 : decode cX3_become 13 = .ok (.aload_n 0, 1) := by decide +kernel
theorem dX3_become_14 : decode cX3_become 14 = .ok (.getfield 9, 3) := by decide +kernel
theorem dX3_become_17 : decode cX3_become 17 = .ok (.iconst 0, 1) := by decide +kernel
theorem dX3_become_18 : decode cX3_become 18 = .ok (.lload_n 3, 1) := by decide +kernel
theorem dX3_become_19 : decode cX3_become 19 = .ok (.ldc2_w 30, 3) := by decide +kernel
theorem dX3_become_22 : decode cX3_become 22 = .ok (.land, 1) := by decide +kernel
theorem dX3_become_23 : decode cX3_become 23 = .ok (.lastore, 1) := by decide +kernel
theorem dX3_become_24 : decode cX3_become 24 = .ok (.aload_n 0, 1) := by decide +kernel
theorem dX3_become_25 : decode cX3_become 25 = .ok (.getfield 9, 3) := by decide +kernel
theorem dX3_become_28 : decode cX3_become 28 = .ok (.iconst 1, 1) := by decide +kernel
theorem dX3_become_29 : decode cX3_become 29 = .ok (.lload_n 3, 1) := by decide +kernel
theorem dX3_become_30 : decode cX3_become 30 = .ok (.bipush 32, 2) := by decide +kernel
theorem dX3_become_32 : decode cX3_become 32 = .ok (.lushr, 1) := by decide +kernel
theorem dX3_become_33 : decode cX3_become 33 = .ok (.lastore, 1) := by decide +kernel
theorem dX3_become_34 : decode cX3_become 34 = .ok (.aload_n 0, 1) := by decide +kernel
theorem dX3_become_35 : decode cX3_become 35 = .ok (.lload_n 1, 1) := by decide +kernel
theorem dX3_become_36 : decode cX3_become 36 = .ok (.invokestatic 32, 3) := by decide +kernel
theorem dX3_become_39 : decode cX3_become 39 = .ok (.putfield 13, 3) := by decide +kernel
theorem dX3_become_42 : decode cX3_become 42 = .ok (.aload_n 0, 1) := by decide +kernel
theorem dX3_become_43 : decode cX3_become 43 = .ok (.iconst 2, 1) := by decide +kernel
theorem dX3_become_44 : decode cX3_become 44 = .ok (.invokevirtual 35, 3) := by decide +kernel
theorem dX3_become_47 : decode cX3_become 47 = .ok (.return_, 1) := by decide +kernel
theorem dX3_become__0 : decode cX3_become_ 0 = .ok (.aload_n 1, 1) := by decide +kernel
theorem dX3_become__1 : decode cX3_become_ 1 = .ok (.getfield 9, 3) := by decide +kernel
theorem dX3_become__4 : decode cX3_become_ 4 = .ok (.iconst 0, 1) := by decide +kernel
theorem dX3_become__5 : decode cX3_become_ 5 = .ok (.aload_n 0, 1) := by decide +kernel
theorem dX3_become__6 : decode cX3_become_ 6 = .ok (.getfield 9, 3) := by decide +kernel
theorem dX3_become__9 : decode cX3_become_ 9 = .ok (.iconst 0, 1) := by decide +kernel
theorem dX3_become__10 : decode cX3_become_ 10 = .ok (.aload_n 1, 1) := by decide +kernel
theorem dX3_become__11 : decode cX3_become_ 11 = .ok (.getfield 17, 3) := by decide +kernel
theorem dX3_become__14 : decode cX3_become_ 14 = .ok (.invokestatic 39, 3) := by decide +kernel
theorem dX3_become__17 : decode cX3_become_ 17 = .ok (.aload_n 0, 1) := by decide +kernel
theorem dX3_become__18 : decode cX3_become_ 18 = .ok (.aload_n 1, 1) := by decide +kernel
theorem dX3_become__19 : decode cX3_become_ 19 = .ok (.getfield 17, 3) := by decide +kernel
theorem dX3_become__22 : decode cX3_become_ 22 = .ok (.putfield 17, 3) := by decide +kernel
theorem dX3_become__25 : decode cX3_become_ 25 = .ok (.aload_n 0, 1) := by decide +kernel
theorem dX3_become__26 : decode cX3_become_ 26 = .ok (.aload_n 1, 1) := by decide +kernel
theorem dX3_become__27 : decode cX3_become_ 27 = .ok (.getfield 13, 3) := by decide +kernel
theorem dX3_become__30 : decode cX3_become_ 30 = .ok (.putfield 13, 3) := by decide +kernel
theorem dX3_become__33 : decode cX3_become_ 33 = .ok (.return_, 1) := by decide +kernel
set_option maxRecDepth 20000 in
theorem ggX3_becomePower_X3_clear : GoodIn wsX3_becomePower wsX3_clear := goodIn_r _ [8, 2, 3, 9, 10, 11] (by decide +kernel) (by decide +kernel)
set_option maxRecDepth 20000 in
theorem gX3_becomePower_X3_clear : GoodIn wsX3_becomePower (wsV RX3 45 RX3 yX3_clear wsX3_clear) := goodIn_app (goodIn_of _ (by decide +kernel)) ggX3_becomePower_X3_clear
theorem dX3_becomePower_0 : decode cX3_becomePower 0 = .ok (.iload_n 1, 1) := by decide +kernel
theorem dX3_becomePower_1 : decode cX3_becomePower 1 = .ok (.bipush 32, 2) := by decide +kernel
theorem dX3_becomePower_3 : decode cX3_becomePower 3 = .ok (.idiv, 1) := by decide +kernel
theorem dX3_becomePower_4 : decode cX3_becomePower 4 = .ok (.istore_n 2, 1) := by decide +kernel
theorem dX3_becomePower_5 : decode cX3_becomePower 5 = .ok (.iload_n 1, 1) := by decide +kernel
theorem dX3_becomePower_6 : decode cX3_becomePower 6 = .ok (.ifCond .lt 9, 3) := by decide +kernel
theorem dX3_becomePower_9 : decode cX3_becomePower 9 = .ok (.iload_n 2, 1) := by decide +kernel
theorem dX3_becomePower_10 : decode cX3_becomePower 10 = .ok (.bipush 24, 2) := by decide +kernel
theorem dX3_becomePower_12 : decode cX3_becomePower 12 = .ok (.if_icmp .lt 8, 3) := by decide +kernel
theorem dX3_becomePower_15 : decode cX3_becomePower 15 = .ok (.aload_n 0, 1) := by decide +kernel
theorem dX3_becomePower_16 : decode cX3_becomePower 16 = .ok (.invokevirtual 45, 3) := by decide +kernel
theorem dX3_becomePower_19 : decode cX3_becomePower 19 = .ok (.return_, 1) := by decide +kernel
theorem dX3_becomePower_20 : decode cX3_becomePower 20 = .ok (.iconst 0, 1) := by decide +kernel
theorem dX3_becomePower_21 : decode cX3_becomePower 21 = .ok (.istore_n 3, 1) := by decide +kernel
theorem dX3_becomePower_22 : decode cX3_becomePower 22 = .ok (.iload_n 3, 1) := by decide +kernel
theorem dX3_becomePower_23 : decode cX3_becomePower 23 = .ok (.iload_n 2, 1) := by decide +kernel
theorem dX3_becomePower_24 : decode cX3_becomePower 24 = .ok (.if_icmp .ge 16, 3) := by decide +kernel
theorem dX3_becomePower_27 : decode cX3_becomePower 27 = .ok (.aload_n 0, 1) := by decide +kernel
theorem dX3_becomePower_28 : decode cX3_becomePower 28 = .ok (.getfield 9, 3) := by decide +kernel
theorem dX3_becomePower_31 : decode cX3_becomePower 31 = .ok (.iload_n 3, 1) := by decide +kernel
theorem dX3_becomePower_32 : decode cX3_becomePower 32 = .ok (.lconst 0, 1) := by decide +kernel
theorem dX3_becomePower_33 : decode cX3_becomePower 33 = .ok (.lastore, 1) := by decide +kernel
theorem dX3_becomePower_34 : decode cX3_becomePower 34 = .ok (.iinc 3 1, 3) := by decide +kernel
theorem dX3_becomePower_37 : decode cX3_becomePower 37 = .ok (.goto (-15), 3) := by decide +kernel
theorem dX3_becomePower_40 : decode cX3_becomePower 40 = .ok (.aload_n 0, 1) := by decide +kernel
theorem dX3_becomePower_41 : decode cX3_becomePower 41 = .ok (.getfield 9, 3) := by decide +kernel
theorem dX3_becomePower_44 : decode cX3_becomePower 44 = .ok (.iload_n 2, 1) := by decide +kernel
theorem dX3_becomePower_45 : decode cX3_becomePower 45 = .ok (.lconst 1, 1) := by decide +kernel
theorem dX3_becomePower_46 : decode cX3_becomePower 46 = .ok (.iload_n 1, 1) := by decide +kernel
theorem dX3_becomePower_47 : decode cX3_becomePower 47 = .ok (.bipush 32, 2) := by decide +kernel
theorem dX3_becomePower_49 : decode cX3_becomePower 49 = .ok (.irem, 1) := by decide +kernel
theorem dX3_becomePower_50 : decode cX3_becomePower 50 = .ok (.lshl, 1) := by decide +kernel
theorem dX3_becomePower_51 : decode cX3_becomePower 51 = .ok (.lastore, 1) := by decide +kernel
theorem dX3_becomePower_52 : decode cX3_becomePower 52 = .ok (.aload_n 0, 1) := by decide +kernel
theorem dX3_becomePower_53 : decode cX3_becomePower 53 = .ok (.iload_n 2, 1) := by decide +kernel
theorem dX3_becomePower_54 : decode cX3_becomePower 54 = .ok (.iconst 1, 1) := by decide +kernel
theorem dX3_becomePower_55 : decode cX3_becomePower 55 = .ok (.iadd, 1) := by decide +kernel
theorem dX3_becomePower_56 : decode cX3_becomePower 56 = .ok (.putfield 17, 3) := by decide +kernel
theorem dX3_becomePower_59 : decode cX3_becomePower 59 = .ok (.aload_n 0, 1) := by decide +kernel
theorem dX3_becomePower_60 : decode cX3_becomePower 60 = .ok (.iconst 1, 1) := by decide +kernel
theorem dX3_becomePower_61 : decode cX3_becomePower 61 = .ok (.putfield 13, 3) := by decide +kernel
theorem dX3_becomePower_64 : decode cX3_becomePower 64 = .ok (.return_, 1) := by decide +kernel
theorem dX3_turn_0 : decode cX3_turn 0 = .ok (.aload_n 0, 1) := by decide +kernel
theorem dX3_turn_1 : decode cX3_turn 1 = .ok (.aload_n 0, 1) := by decide +kernel
theorem dX3_turn_2 : decode cX3_turn 2 = .ok (.getfield 13, 3) := by decide +kernel
theorem dX3_turn_5 : decode cX3_turn 5 = .ok (.ineg, 1) := by decide +kernel
theorem dX3_turn_6 : decode cX3_turn 6 = .ok (.putfield 13, 3) := by decide +kernel
theorem dX3_turn_9 : decode cX3_turn 9 = .ok (.return_, 1) := by decide +kernel
theorem dX3_dropSign_0 : decode cX3_dropSign 0 = .ok (.aload_n 0, 1) := by decide +kernel
theorem dX3_dropSign_1 : decode cX3_dropSign 1 = .ok (.aload_n 0, 1) := by decide +kernel
theorem dX3_dropSign_2 : decode cX3_dropSign 2 = .ok (.getfield 13, 3) := by decide +kernel
theorem dX3_dropSign_5 : decode cX3_dropSign 5 = .ok (.invokestatic 48, 3) := by decide +kernel
theorem dX3_dropSign_8 : decode cX3_dropSign 8 = .ok (.putfield 13, 3) := by decide +kernel
theorem dX3_dropSign_11 : decode cX3_dropSign 11 = .ok (.return_, 1) := by decide +kernel
set_option maxRecDepth 20000 in
theorem ggX3_order_J6_compare_7cf53 : GoodIn wsX3_order wsJ6_compare_7cf53 := goodIn_r _ [5] (by decide +kernel) (by decide +kernel)
set_option maxRecDepth 20000 in
theorem gX3_order_J6_compare_7cf53 : GoodIn wsX3_order (va_wsS RX3 54 yJ6_compare_7cf53 wsJ6_compare_7cf53) := goodIn_app (goodIn_of _ (by decide +kernel)) ggX3_order_J6_compare_7cf53
set_option maxRecDepth 20000 in
theorem ggX3_order_X3_orderWithoutSign : GoodIn wsX3_order wsX3_orderWithoutSign := goodIn_r _ [10, 11, 12, 2, 3, 4, 5, 13, 14, 15, 16, 17, 18, 19] (by decide +kernel) (by decide +kernel)
set_option maxRecDepth 20000 in
theorem gX3_order_X3_orderWithoutSign : GoodIn wsX3_order (wsV RX3 60 RX3 yX3_orderWithoutSign wsX3_orderWithoutSign) := goodIn_app (goodIn_of _ (by decide +kernel)) ggX3_order_X3_orderWithoutSign
theorem dX3_order_0 : decode cX3_order 0 = .ok (.aload_n 0, 1) := by decide +kernel
theorem dX3_order_1 : decode cX3_order 1 = .ok (.getfield 13, 3) := by decide +kernel
theorem dX3_order_4 : decode cX3_order 4 = .ok (.aload_n 1, 1) := by decide +kernel
theorem dX3_order_5 : decode cX3_order 5 = .ok (.getfield 13, 3) := by decide +kernel
theorem dX3_order_8 : decode cX3_order 8 = .ok (.if_icmp .eq 15, 3) := by decide +kernel
theorem dX3_order_11 : decode cX3_order 11 = .ok (.aload_n 0, 1) := by decide +kernel
theorem dX3_order_12 : decode cX3_order 12 = .ok (.getfield 13, 3) := by decide +kernel
theorem dX3_order_15 : decode cX3_order 15 = .ok (.aload_n 1, 1) := by decide +kernel
theorem dX3_order_16 : decode cX3_order 16 = .ok (.getfield 13, 3) := by decide +kernel
theorem dX3_order_19 : decode cX3_order 19 = .ok (.invokestatic 54, 3) := by decide +kernel
theorem dX3_order_22 : decode cX3_order 22 = .ok (.ireturn, 1) := by decide +kernel
theorem dX3_order_23 : decode cX3_order 23 = .ok (.aload_n 0, 1) := by decide +kernel
theorem dX3_order_24 : decode cX3_order 24 = .ok (.getfield 13, 3) := by decide +kernel
theorem dX3_order_27 : decode cX3_order 27 = .ok (.ifCond .ge 11, 3) := by decide +kernel
theorem dX3_order_30 : decode cX3_order 30 = .ok (.aload_n 1, 1) := by decide +kernel
theorem dX3_order_31 : decode cX3_order 31 = .ok (.aload_n 0, 1) := by decide +kernel
theorem dX3_order_32 : decode cX3_order 32 = .ok (.invokevirtual 60, 3) := by decide +kernel
theorem dX3_order_35 : decode cX3_order 35 = .ok (.goto 8, 3) := by decide +kernel
theorem dX3_order_38 : decode cX3_order 38 = .ok (.aload_n 0, 1) := by decide +kernel
theorem dX3_order_39 : decode cX3_order 39 = .ok (.aload_n 1, 1) := by decide +kernel
theorem dX3_order_40 : decode cX3_order 40 = .ok (.invokevirtual 60, 3) := by decide +kernel
theorem dX3_order_43 : decode cX3_order 43 = .ok (.ireturn, 1) := by decide +kernel
set_option maxRecDepth 20000 in
theorem ggX3_orderWithoutSign_J6_compare_7cf53 : GoodIn wsX3_orderWithoutSign wsJ6_compare_7cf53 := goodIn_r _ [6] (by decide +kernel) (by decide +kernel)
set_option maxRecDepth 20000 in
theorem gX3_orderWithoutSign_J6_compare_7cf53 : GoodIn wsX3_orderWithoutSign (va_wsS RX3 54 yJ6_compare_7cf53 wsJ6_compare_7cf53) := goodIn_app (goodIn_of _ (by decide +kernel)) ggX3_orderWithoutSign_J6_compare_7cf53
set_option maxRecDepth 20000 in
theorem ggX3_orderWithoutSign_J13_compare_74951 : GoodIn wsX3_orderWithoutSign wsJ13_compare_74951 := goodIn_r _ [10] (by decide +kernel) (by decide +kernel)
set_option maxRecDepth 20000 in
theorem gX3_orderWithoutSign_J13_compare_74951 : GoodIn wsX3_orderWithoutSign (va_wsS RX3 64 yJ13_compare_74951 wsJ13_compare_74951) := goodIn_app (goodIn_of _ (by decide +kernel)) ggX3_orderWithoutSign_J13_compare_74951
theorem dX3_orderWithoutSign_0 : decode cX3_orderWithoutSign 0 = .ok (.aload_n 0, 1) := by decide +kernel
theorem dX3_orderWithoutSign_1 : decode cX3_orderWithoutSign 1 = .ok (.getfield 17, 3) := by decide +kernel
theorem dX3_orderWithoutSign_4 : decode cX3_orderWithoutSign 4 = .ok (.aload_n 1, 1) := by decide +kernel
theorem dX3_orderWithoutSign_5 : decode cX3_orderWithoutSign 5 = .ok (.getfield 17, 3) := by decide +kernel
theorem dX3_orderWithoutSign_8 : decode cX3_orderWithoutSign 8 = .ok (.if_icmp .eq 15, 3) := by decide +kernel
theorem dX3_orderWithoutSign_11 : decode cX3_orderWithoutSign 11 = .ok (.aload_n 0, 1) := by decide +kernel
theorem dX3_orderWithoutSign_12 : decode cX3_orderWithoutSign 12 = .ok (.getfield 17, 3) := by decide +kernel
theorem dX3_orderWithoutSign_15 : decode cX3_orderWithoutSign 15 = .ok (.aload_n 1, 1) := by decide +kernel
theorem dX3_orderWithoutSign_16 : decode cX3_orderWithoutSign 16 = .ok (.getfield 17, 3) := by decide +kernel
theorem dX3_orderWithoutSign_19 : decode cX3_orderWithoutSign 19 = .ok (.invokestatic 54, 3) := by decide +kernel
theorem dX3_orderWithoutSign_22 : decode cX3_orderWithoutSign 22 = .ok (.ireturn, 1) := by decide +kernel
theorem dX3_orderWithoutSign_23 : decode cX3_orderWithoutSign 23 = .ok (.aload_n 0, 1) := by decide +kernel
theorem dX3_orderWithoutSign_24 : decode cX3_orderWithoutSign 24 = .ok (.getfield 17, 3) := by decide +kernel
theorem dX3_orderWithoutSign_27 : decode cX3_orderWithoutSign 27 = .ok (.iconst 1, 1) := by decide +kernel
theorem dX3_orderWithoutSign_28 : decode cX3_orderWithoutSign 28 = .ok (.isub, 1) := by decide +kernel
theorem dX3_orderWithoutSign_29 : decode cX3_orderWithoutSign 29 = .ok (.istore_n 2, 1) := by decide +kernel
theorem dX3_orderWithoutSign_30 : decode cX3_orderWithoutSign 30 = .ok (.iload_n 2, 1) := by decide +kernel
theorem dX3_orderWithoutSign_31 : decode cX3_orderWithoutSign 31 = .ok (.ifCond .lt 41, 3) := by decide +kernel
theorem dX3_orderWithoutSign_34 : decode cX3_orderWithoutSign 34 = .ok (.aload_n 0, 1) := by decide +kernel
theorem dX3_orderWithoutSign_35 : decode cX3_orderWithoutSign 35 = .ok (.getfield 9, 3) := by decide +kernel
theorem dX3_orderWithoutSign_38 : decode cX3_orderWithoutSign 38 = .ok (.iload_n 2, 1) := by decide +kernel
theorem dX3_orderWithoutSign_39 : decode cX3_orderWithoutSign 39 = .ok (.laload, 1) := by decide +kernel
theorem dX3_orderWithoutSign_40 : decode cX3_orderWithoutSign 40 = .ok (.aload_n 1, 1) := by decide +kernel
theorem dX3_orderWithoutSign_41 : decode cX3_orderWithoutSign 41 = .ok (.getfield 9, 3) := by decide +kernel
theorem dX3_orderWithoutSign_44 : decode cX3_orderWithoutSign 44 = .ok (.iload_n 2, 1) := by decide +kernel
theorem dX3_orderWithoutSign_45 : decode cX3_orderWithoutSign 45 = .ok (.laload, 1) := by decide +kernel
theorem dX3_orderWithoutSign_46 : decode cX3_orderWithoutSign 46 = .ok (.lcmp, 1) := by decide +kernel
theorem dX3_orderWithoutSign_47 : decode cX3_orderWithoutSign 47 = .ok (.ifCond .eq 19, 3) := by decide +kernel
theorem dX3_orderWithoutSign_50 : decode cX3_orderWithoutSign 50 = .ok (.aload_n 0, 1) := by decide +kernel
theorem dX3_orderWithoutSign_51 : decode cX3_orderWithoutSign 51 = .ok (.getfield 9, 3) := by decide +kernel
theorem dX3_orderWithoutSign_54 : decode cX3_orderWithoutSign 54 = .ok (.iload_n 2, 1) := by decide +kernel
theorem dX3_orderWithoutSign_55 : decode cX3_orderWithoutSign 55 = .ok (.laload, 1) := by decide +kernel
theorem dX3_orderWithoutSign_56 : decode cX3_orderWithoutSign 56 = .ok (.aload_n 1, 1) := by decide +kernel
theorem dX3_orderWithoutSign_57 : decode cX3_orderWithoutSign 57 = .ok (.getfield 9, 3) := by decide +kernel
theorem dX3_orderWithoutSign_60 : decode cX3_orderWithoutSign 60 = .ok (.iload_n 2, 1) := by decide +kernel
theorem dX3_orderWithoutSign_61 : decode cX3_orderWithoutSign 61 = .ok (.laload, 1) := by decide +kernel
theorem dX3_orderWithoutSign_62 : decode cX3_orderWithoutSign 62 = .ok (.invokestatic 64, 3) := by decide +kernel
theorem dX3_orderWithoutSign_65 : decode cX3_orderWithoutSign 65 = .ok (.ireturn, 1) := by decide +kernel
theorem dX3_orderWithoutSign_66 : decode cX3_orderWithoutSign 66 = .ok (.iinc 2 (-1), 3) := by decide +kernel
theorem dX3_orderWithoutSign_69 : decode cX3_orderWithoutSign 69 = .ok (.goto (-39), 3) := by decide +kernel
theorem dX3_orderWithoutSign_72 : decode cX3_orderWithoutSign 72 = .ok (.iconst 0, 1) := by decide +kernel
theorem dX3_orderWithoutSign_73 : decode cX3_orderWithoutSign 73 = .ok (.ireturn, 1) := by decide +kernel
set_option maxRecDepth 20000 in
theorem ggX3_sum_X3_unite : GoodIn wsX3_sum wsX3_unite := goodIn_r _ [6, 1, 7, 8, 9, 5, 10, 11, 12, 13, 14, 15, 16, 17, 18, 19, 20, 21, 22, 23, 24, 25, 26, 27, 28, 29, 30, 31, 32, 33, 34, 35, 36, 37, 38, 39, 40] (by decide +kernel) (by decide +kernel)
set_option maxRecDepth 20000 in
theorem gX3_sum_X3_unite : GoodIn wsX3_sum (wsV RX3 67 RX3 yX3_unite wsX3_unite) := goodIn_app (goodIn_of _ (by decide +kernel)) ggX3_sum_X3_unite
theorem dX3_sum_0 : decode cX3_sum 0 = .ok (.aload_n 0, 1) := by decide +kernel
theorem dX3_sum_1 : decode cX3_sum 1 = .ok (.aload_n 1, 1) := by decide +kernel
theorem dX3_sum_2 : decode cX3_sum 2 = .ok (.aload_n 2, 1) := by decide +kernel
theorem dX3_sum_3 : decode cX3_sum 3 = .ok (.aload_n 2, 1) := by decide +kernel
theorem dX3_sum_4 : decode cX3_sum 4 = .ok (.getfield 13, 3) := by decide +kernel
theorem dX3_sum_7 : decode cX3_sum 7 = .ok (.invokevirtual 67, 3) := by decide +kernel
theorem dX3_sum_10 : decode cX3_sum 10 = .ok (.return_, 1) := by decide +kernel
set_option maxRecDepth 20000 in
theorem ggX3_difference_X3_unite : GoodIn wsX3_difference wsX3_unite := goodIn_r _ [6, 1, 7, 8, 9, 5, 10, 11, 12, 13, 14, 15, 16, 17, 18, 19, 20, 21, 22, 23, 24, 25, 26, 27, 28, 29, 30, 31, 32, 33, 34, 35, 36, 37, 38, 39, 40] (by decide +kernel) (by decide +kernel)
set_option maxRecDepth 20000 in
theorem gX3_difference_X3_unite : GoodIn wsX3_difference (wsV RX3 67 RX3 yX3_unite wsX3_unite) := goodIn_app (goodIn_of _ (by decide +kernel)) ggX3_difference_X3_unite
theorem dX3_difference_0 : decode cX3_difference 0 = .ok (.aload_n 0, 1) := by decide +kernel
theorem dX3_difference_1 : decode cX3_difference 1 = .ok (.aload_n 1, 1) := by decide +kernel
theorem dX3_difference_2 : decode cX3_difference 2 = .ok (.aload_n 2, 1) := by decide +kernel
theorem dX3_difference_3 : decode cX3_difference 3 = .ok (.aload_n 2, 1) := by decide +kernel
theorem dX3_difference_4 : decode cX3_difference 4 = .ok (.getfield 13, 3) := by decide +kernel
theorem dX3_difference_7 : decode cX3_difference 7 = .ok (.ineg, 1) := by decide +kernel
theorem dX3_difference_8 : decode cX3_difference 8 = .ok (.invokevirtual 67, 3) := by decide +kernel
theorem dX3_difference_11 : decode cX3_difference 11 = .ok (.return_, 1) := by decide +kernel
set_option maxRecDepth 20000 in
theorem ggX3_unite_X3_gather : GoodIn wsX3_unite wsX3_gather := goodIn_r _ [6, 7, 8, 9, 10, 11, 12, 13, 34, 35, 36] (by decide +kernel) (by decide +kernel)
set_option maxRecDepth 20000 in
theorem gX3_unite_X3_gather : GoodIn wsX3_unite (wsV RX3 71 RX3 yX3_gather wsX3_gather) := goodIn_app (goodIn_of _ (by decide +kernel)) ggX3_unite_X3_gather
set_option maxRecDepth 20000 in
theorem ggX3_unite_X3_orderWithoutSign : GoodIn wsX3_unite wsX3_orderWithoutSign := goodIn_r _ [17, 7, 12, 18, 19, 20, 21, 22, 23, 24, 25, 34, 35, 36] (by decide +kernel) (by decide +kernel)
set_option maxRecDepth 20000 in
theorem gX3_unite_X3_orderWithoutSign : GoodIn wsX3_unite (wsV RX3 60 RX3 yX3_orderWithoutSign wsX3_orderWithoutSign) := goodIn_app (goodIn_of _ (by decide +kernel)) ggX3_unite_X3_orderWithoutSign
set_option maxRecDepth 20000 in
theorem ggX3_unite_X3_subtract : GoodIn wsX3_unite wsX3_subtract := goodIn_r _ [29, 7, 12, 13, 34, 35, 36] (by decide +kernel) (by decide +kernel)
set_option maxRecDepth 20000 in
theorem gX3_unite_X3_subtract : GoodIn wsX3_unite (wsV RX3 75 RX3 yX3_subtract wsX3_subtract) := goodIn_app (goodIn_of _ (by decide +kernel)) ggX3_unite_X3_subtract
set_option maxRecDepth 20000 in
theorem ggX3_unite_X3_trim : GoodIn wsX3_unite wsX3_trim := goodIn_r _ [33, 7, 12, 1, 34, 35, 36] (by decide +kernel) (by decide +kernel)
set_option maxRecDepth 20000 in
theorem gX3_unite_X3_trim : GoodIn wsX3_unite (wsV RX3 35 RX3 yX3_trim wsX3_trim) := goodIn_app (goodIn_of _ (by decide +kernel)) ggX3_unite_X3_trim
theorem dX3_unite_0 : decode cX3_unite 0 = .ok (.aload_n 1, 1) := by decide +kernel
theorem dX3_unite_1 : decode cX3_unite 1 = .ok (.getfield 13, 3) := by decide +kernel
theorem dX3_unite_4 : decode cX3_unite 4 = .ok (.istore 4, 2) := by decide +kernel
theorem dX3_unite_6 : decode cX3_unite 6 = .ok (.iload 4, 2) := by decide +kernel
theorem dX3_unite_8 : decode cX3_unite 8 = .ok (.iload_n 3, 1) := by decide +kernel
theorem dX3_unite_9 : decode cX3_unite 9 = .ok (.imul, 1) := by decide +kernel
theorem dX3_unite_10 : decode cX3_unite 10 = .ok (.ifCond .lt 29, 3) := by decide +kernel
theorem dX3_unite_13 : decode cX3_unite 13 = .ok (.aload_n 0, 1) := by decide +kernel
theorem dX3_unite_14 : decode cX3_unite 14 = .ok (.aload_n 1, 1) := by decide +kernel
theorem dX3_unite_15 : decode cX3_unite 15 = .ok (.aload_n 2, 1) := by decide +kernel
theorem dX3_unite_16 : decode cX3_unite 16 = .ok (.invokevirtual 71, 3) := by decide +kernel
theorem dX3_unite_19 : decode cX3_unite 19 = .ok (.istore 5, 2) := by decide +kernel
theorem dX3_unite_21 : decode cX3_unite 21 = .ok (.aload_n 0, 1) := by decide +kernel
theorem dX3_unite_22 : decode cX3_unite 22 = .ok (.iload 4, 2) := by decide +kernel
theorem dX3_unite_24 : decode cX3_unite 24 = .ok (.ifCond .ne 7, 3) := by decide +kernel
theorem dX3_unite_27 : decode cX3_unite 27 = .ok (.iload_n 3, 1) := by decide +kernel
theorem dX3_unite_28 : decode cX3_unite 28 = .ok (.goto 5, 3) := by decide +kernel
theorem dX3_unite_31 : decode cX3_unite 31 = .ok (.iload 4, 2) := by decide +kernel
theorem dX3_unite_33 : decode cX3_unite 33 = .ok (.putfield 13, 3) := by decide +kernel
theorem dX3_unite_36 : decode cX3_unite 36 = .ok (.goto 41, 3) := by decide +kernel
theorem dX3_unite_39 : decode cX3_unite 39 = .ok (.aload_n 1, 1) := by decide +kernel
theorem dX3_unite_40 : decode cX3_unite 40 = .ok (.aload_n 2, 1) := by decide +kernel
theorem dX3_unite_41 : decode cX3_unite 41 = .ok (.invokevirtual 60, 3) := by decide +kernel
theorem dX3_unite_44 : decode cX3_unite 44 = .ok (.ifCond .lt 20, 3) := by decide +kernel
theorem dX3_unite_47 : decode cX3_unite 47 = .ok (.aload_n 0, 1) := by decide +kernel
theorem dX3_unite_48 : decode cX3_unite 48 = .ok (.aload_n 1, 1) := by decide +kernel
theorem dX3_unite_49 : decode cX3_unite 49 = .ok (.aload_n 2, 1) := by decide +kernel
theorem dX3_unite_50 : decode cX3_unite 50 = .ok (.invokevirtual 75, 3) := by decide +kernel
theorem dX3_unite_53 : decode cX3_unite 53 = .ok (.istore 5, 2) := by decide +kernel
theorem dX3_unite_55 : decode cX3_unite 55 = .ok (.aload_n 0, 1) := by decide +kernel
theorem dX3_unite_56 : decode cX3_unite 56 = .ok (.iload 4, 2) := by decide +kernel
theorem dX3_unite_58 : decode cX3_unite 58 = .ok (.putfield 13, 3) := by decide +kernel
theorem dX3_unite_61 : decode cX3_unite 61 = .ok (.goto 16, 3) := by decide +kernel
theorem dX3_unite_64 : decode cX3_unite 64 = .ok (.aload_n 0, 1) := by decide +kernel
theorem dX3_unite_65 : decode cX3_unite 65 = .ok (.aload_n 2, 1) := by decide +kernel
theorem dX3_unite_66 : decode cX3_unite 66 = .ok (.aload_n 1, 1) := by decide +kernel
theorem dX3_unite_67 : decode cX3_unite 67 = .ok (.invokevirtual 75, 3) := by decide +kernel
theorem dX3_unite_70 : decode cX3_unite 70 = .ok (.istore 5, 2) := by decide +kernel
theorem dX3_unite_72 : decode cX3_unite 72 = .ok (.aload_n 0, 1) := by decide +kernel
theorem dX3_unite_73 : decode cX3_unite 73 = .ok (.iload_n 3, 1) := by decide +kernel
theorem dX3_unite_74 : decode cX3_unite 74 = .ok (.putfield 13, 3) := by decide +kernel
theorem dX3_unite_77 : decode cX3_unite 77 = .ok (.aload_n 0, 1) := by decide +kernel
theorem dX3_unite_78 : decode cX3_unite 78 = .ok (.iload 5, 2) := by decide +kernel
theorem dX3_unite_80 : decode cX3_unite 80 = .ok (.invokevirtual 35, 3) := by decide +kernel
theorem dX3_unite_83 : decode cX3_unite 83 = .ok (.return_, 1) := by decide +kernel
theorem dX3_gather_0 : decode cX3_gather 0 = .ok (.aload_n 1, 1) := by decide +kernel
theorem dX3_gather_1 : decode cX3_gather 1 = .ok (.getfield 17, 3) := by decide +kernel
theorem dX3_gather_4 : decode cX3_gather 4 = .ok (.aload_n 2, 1) := by decide +kernel
theorem dX3_gather_5 : decode cX3_gather 5 = .ok (.getfield 17, 3) := by decide +kernel
theorem dX3_gather_8 : decode cX3_gather 8 = .ok (.invokestatic 78, 3) := by decide +kernel
theorem dX3_gather_11 : decode cX3_gather 11 = .ok (.istore_n 3, 1) := by decide +kernel
theorem dX3_gather_12 : decode cX3_gather 12 = .ok (.lconst 0, 1) := by decide +kernel
theorem dX3_gather_13 : decode cX3_gather 13 = .ok (.lstore 4, 2) := by decide +kernel
theorem dX3_gather_15 : decode cX3_gather 15 = .ok (.iconst 0, 1) := by decide +kernel
theorem dX3_gather_16 : decode cX3_gather 16 = .ok (.istore 6, 2) := by decide +kernel
theorem dX3_gather_18 : decode cX3_gather 18 = .ok (.iload 6, 2) := by decide +kernel
theorem dX3_gather_20 : decode cX3_gather 20 = .ok (.iload_n 3, 1) := by decide +kernel
theorem dX3_gather_21 : decode cX3_gather 21 = .ok (.if_icmp .ge 75, 3) := by decide +kernel
theorem dX3_gather_24 : decode cX3_gather 24 = .ok (.iload 6, 2) := by decide +kernel
theorem dX3_gather_26 : decode cX3_gather 26 = .ok (.aload_n 1, 1) := by decide +kernel
theorem dX3_gather_27 : decode cX3_gather 27 = .ok (.getfield 17, 3) := by decide +kernel
theorem dX3_gather_30 : decode cX3_gather 30 = .ok (.if_icmp .ge 13, 3) := by decide +kernel
theorem dX3_gather_33 : decode cX3_gather 33 = .ok (.aload_n 1, 1) := by decide +kernel
theorem dX3_gather_34 : decode cX3_gather 34 = .ok (.getfield 9, 3) := by decide +kernel
theorem dX3_gather_37 : decode cX3_gather 37 = .ok (.iload 6, 2) := by decide +kernel
theorem dX3_gather_39 : decode cX3_gather 39 = .ok (.laload, 1) := by decide +kernel
theorem dX3_gather_40 : decode cX3_gather 40 = .ok (.goto 4, 3) := by decide +kernel
theorem dX3_gather_43 : decode cX3_gather 43 = .ok (.lconst 0, 1) := by decide +kernel
theorem dX3_gather_44 : decode cX3_gather 44 = .ok (.iload 6, 2) := by decide +kernel
theorem dX3_gather_46 : decode cX3_gather 46 = .ok (.aload_n 2, 1) := by decide +kernel
theorem dX3_gather_47 : decode cX3_gather 47 = .ok (.getfield 17, 3) := by decide +kernel
theorem dX3_gather_50 : decode cX3_gather 50 = .ok (.if_icmp .ge 13, 3) := by decide +kernel
theorem dX3_gather_53 : decode cX3_gather 53 = .ok (.aload_n 2, 1) := by decide +kernel
theorem dX3_gather_54 : decode cX3_gather 54 = .ok (.getfield 9, 3) := by decide +kernel
theorem dX3_gather_57 : decode cX3_gather 57 = .ok (.iload 6, 2) := by decide +kernel
theorem dX3_gather_59 : decode cX3_gather 59 = .ok (.laload, 1) := by decide +kernel
theorem dX3_gather_60 : decode cX3_gather 60 = .ok (.goto 4, 3) := by decide +kernel
theorem dX3_gather_63 : decode cX3_gather 63 = .ok (.lconst 0, 1) := by decide +kernel
theorem dX3_gather_64 : decode cX3_gather 64 = .ok (.ladd, 1) := by decide +kernel
theorem dX3_gather_65 : decode cX3_gather 65 = .ok (.lload 4, 2) := by decide +kernel
theorem dX3_gather_67 : decode cX3_gather 67 = .ok (.ladd, 1) := by decide +kernel
theorem dX3_gather_68 : decode cX3_gather 68 = .ok (.lstore 7, 2) := by decide +kernel
theorem dX3_gather_70 : decode cX3_gather 70 = .ok (.aload_n 0, 1) := by decide +kernel
theorem dX3_gather_71 : decode cX3_gather 71 = .ok (.getfield 9, 3) := by decide +kernel
theorem dX3_gather_74 : decode cX3_gather 74 = .ok (.iload 6, 2) := by decide +kernel
theorem dX3_gather_76 : decode cX3_gather 76 = .ok (.lload 7, 2) := by decide +kernel
theorem dX3_gather_78 : decode cX3_gather 78 = .ok (.ldc2_w 30, 3) := by decide +kernel
theorem dX3_gather_81 : decode cX3_gather 81 = .ok (.land, 1) := by decide +kernel
theorem dX3_gather_82 : decode cX3_gather 82 = .ok (.lastore, 1) := by decide +kernel
theorem dX3_gather_83 : decode cX3_gather 83 = .ok (.lload 7, 2) := by decide +kernel
theorem dX3_gather_85 : decode cX3_gather 85 = .ok (.bipush 32, 2) := by decide +kernel
theorem dX3_gather_87 : decode cX3_gather 87 = .ok (.lushr, 1) := by decide +kernel
theorem dX3_gather_88 : decode cX3_gather 88 = .ok (.lstore 4, 2) := by decide +kernel
theorem dX3_gather_90 : decode cX3_gather 90 = .ok (.iinc 6 1, 3) := by decide +kernel
theorem dX3_gather_93 : decode cX3_gather 93 = .ok (.goto (-75), 3) := by decide +kernel
theorem dX3_gather_96 : decode cX3_gather 96 = .ok (.iload_n 3, 1) := by decide +kernel
theorem dX3_gather_97 : decode cX3_gather 97 = .ok (.bipush 24, 2) := by decide +kernel
theorem dX3_gather_99 : decode cX3_gather 99 = .ok (.if_icmp .ge 14, 3) := by decide +kernel
theorem dX3_gather_102 : decode cX3_gather 102 = .ok (.aload_n 0, 1) := by decide +kernel
theorem dX3_gather_103 : decode cX3_gather 103 = .ok (.getfield 9, 3) := by decide +kernel
theorem dX3_gather_106 : decode cX3_gather 106 = .ok (.iload_n 3, 1) := by decide +kernel
theorem dX3_gather_107 : decode cX3_gather 107 = .ok (.lload 4, 2) := by decide +kernel
theorem dX3_gather_109 : decode cX3_gather 109 = .ok (.lastore, 1) := by decide +kernel
theorem dX3_gather_110 : decode cX3_gather 110 = .ok (.iinc 3 1, 3) := by decide +kernel
theorem dX3_gather_113 : decode cX3_gather 113 = .ok (.iload_n 3, 1) := by decide +kernel
theorem dX3_gather_114 : decode cX3_gather 114 = .ok (.ireturn, 1) := by decide +kernel
theorem dX3_subtract_0 : decode cX3_subtract 0 = .ok (.aload_n 1, 1) := by decide +kernel
theorem dX3_subtract_1 : decode cX3_subtract 1 = .ok (.getfield 17, 3) := by decide +kernel
theorem dX3_subtract_4 : decode cX3_subtract 4 = .ok (.istore_n 3, 1) := by decide +kernel
theorem dX3_subtract_5 : decode cX3_subtract 5 = .ok (.lconst 0, 1) := by decide +kernel
theorem dX3_subtract_6 : decode cX3_subtract 6 = .ok (.lstore 4, 2) := by decide +kernel
theorem dX3_subtract_8 : decode cX3_subtract 8 = .ok (.iconst 0, 1) := by decide +kernel
theorem dX3_subtract_9 : decode cX3_subtract 9 = .ok (.istore 6, 2) := by decide +kernel
theorem dX3_subtract_11 : decode cX3_subtract 11 = .ok (.iload 6, 2) := by decide +kernel
theorem dX3_subtract_13 : decode cX3_subtract 13 = .ok (.iload_n 3, 1) := by decide +kernel
theorem dX3_subtract_14 : decode cX3_subtract 14 = .ok (.if_icmp .ge 69, 3) := by decide +kernel
theorem dX3_subtract_17 : decode cX3_subtract 17 = .ok (.aload_n 1, 1) := by decide +kernel
theorem dX3_subtract_18 : decode cX3_subtract 18 = .ok (.getfield 9, 3) := by decide +kernel
theorem dX3_subtract_21 : decode cX3_subtract 21 = .ok (.iload 6, 2) := by decide +kernel
theorem dX3_subtract_23 : decode cX3_subtract 23 = .ok (.laload, 1) := by decide +kernel
theorem dX3_subtract_24 : decode cX3_subtract 24 = .ok (.iload 6, 2) := by decide +kernel
theorem dX3_subtract_26 : decode cX3_subtract 26 = .ok (.aload_n 2, 1) := by decide +kernel
theorem dX3_subtract_27 : decode cX3_subtract 27 = .ok (.getfield 17, 3) := by decide +kernel
theorem dX3_subtract_30 : decode cX3_subtract 30 = .ok (.if_icmp .ge 13, 3) := by decide +kernel
theorem dX3_subtract_33 : decode cX3_subtract 33 = .ok (.aload_n 2, 1) := by decide +kernel
theorem dX3_subtract_34 : decode cX3_subtract 34 = .ok (.getfield 9, 3) := by decide +kernel
theorem dX3_subtract_37 : decode cX3_subtract 37 = .ok (.iload 6, 2) := by decide +kernel
theorem dX3_subtract_39 : decode cX3_subtract 39 = .ok (.laload, 1) := by decide +kernel
theorem dX3_subtract_40 : decode cX3_subtract 40 = .ok (.goto 4, 3) := by decide +kernel
theorem dX3_subtract_43 : decode cX3_subtract 43 = .ok (.lconst 0, 1) := by decide +kernel
theorem dX3_subtract_44 : decode cX3_subtract 44 = .ok (.lsub, 1) := by decide +kernel
theorem dX3_subtract_45 : decode cX3_subtract 45 = .ok (.lload 4, 2) := by decide +kernel
theorem dX3_subtract_47 : decode cX3_subtract 47 = .ok (.lsub, 1) := by decide +kernel
theorem dX3_subtract_48 : decode cX3_subtract 48 = .ok (.lstore 7, 2) := by decide +kernel
theorem dX3_subtract_50 : decode cX3_subtract 50 = .ok (.aload_n 0, 1) := by decide +kernel
theorem dX3_subtract_51 : decode cX3_subtract 51 = .ok (.getfield 9, 3) := by decide +kernel
theorem dX3_subtract_54 : decode cX3_subtract 54 = .ok (.iload 6, 2) := by decide +kernel
theorem dX3_subtract_56 : decode cX3_subtract 56 = .ok (.lload 7, 2) := by decide +kernel
theorem dX3_subtract_58 : decode cX3_subtract 58 = .ok (.ldc2_w 30, 3) := by decide +kernel
theorem dX3_subtract_61 : decode cX3_subtract 61 = .ok (.land, 1) := by decide +kernel
theorem dX3_subtract_62 : decode cX3_subtract 62 = .ok (.lastore, 1) := by decide +kernel
theorem dX3_subtract_63 : decode cX3_subtract 63 = .ok (.lload 7, 2) := by decide +kernel
theorem dX3_subtract_65 : decode cX3_subtract 65 = .ok (.lconst 0, 1) := by decide +kernel
theorem dX3_subtract_66 : decode cX3_subtract 66 = .ok (.lcmp, 1) := by decide +kernel
theorem dX3_subtract_67 : decode cX3_subtract 67 = .ok (.ifCond .ge 7, 3) := by decide +kernel
theorem dX3_subtract_70 : decode cX3_subtract 70 = .ok (.lconst 1, 1) := by decide +kernel
theorem dX3_subtract_71 : decode cX3_subtract 71 = .ok (.goto 4, 3) := by decide +kernel
theorem dX3_subtract_74 : decode cX3_subtract 74 = .ok (.lconst 0, 1) := by decide +kernel
theorem dX3_subtract_75 : decode cX3_subtract 75 = .ok (.lstore 4, 2) := by decide +kernel
theorem dX3_subtract_77 : decode cX3_subtract 77 = .ok (.iinc 6 1, 3) := by decide +kernel
theorem dX3_subtract_80 : decode cX3_subtract 80 = .ok (.goto (-69), 3) := by decide +kernel
theorem dX3_subtract_83 : decode cX3_subtract 83 = .ok (.iload_n 3, 1) := by decide +kernel
theorem dX3_subtract_84 : decode cX3_subtract 84 = .ok (.ireturn, 1) := by decide +kernel
set_option maxRecDepth 20000 in
theorem ggX3_product_X3_clear : GoodIn wsX3_product wsX3_clear := goodIn_r _ [9, 1, 4, 14, 15, 16] (by decide +kernel) (by decide +kernel)
set_option maxRecDepth 20000 in
theorem gX3_product_X3_clear : GoodIn wsX3_product (wsV RX3 45 RX3 yX3_clear wsX3_clear) := goodIn_app (goodIn_of _ (by decide +kernel)) ggX3_product_X3_clear
set_option maxRecDepth 20000 in
theorem ggX3_product_X3_trim : GoodIn wsX3_product wsX3_trim := goodIn_r _ [13, 1, 2, 4, 14, 15, 16] (by decide +kernel) (by decide +kernel)
set_option maxRecDepth 20000 in
theorem gX3_product_X3_trim : GoodIn wsX3_product (wsV RX3 35 RX3 yX3_trim wsX3_trim) := goodIn_app (goodIn_of _ (by decide +kernel)) ggX3_product_X3_trim
theorem dX3_product_0 : decode cX3_product 0 = .ok (.aload_n 1, 1) := by decide +kernel
theorem dX3_product_1 : decode cX3_product 1 = .ok (.getfield 17, 3) := by decide +kernel
theorem dX3_product_4 : decode cX3_product 4 = .ok (.aload_n 2, 1) := by decide +kernel
theorem dX3_product_5 : decode cX3_product 5 = .ok (.getfield 17, 3) := by decide +kernel
theorem dX3_product_8 : decode cX3_product 8 = .ok (.iadd, 1) := by decide +kernel
theorem dX3_product_9 : decode cX3_product 9 = .ok (.istore_n 3, 1) := by decide +kernel
theorem dX3_product_10 : decode cX3_product 10 = .ok (.iload_n 3, 1) := by decide +kernel
theorem dX3_product_11 : decode cX3_product 11 = .ok (.bipush 24, 2) := by decide +kernel
theorem dX3_product_13 : decode cX3_product 13 = .ok (.if_icmp .le 8, 3) := by decide +kernel
theorem dX3_product_16 : decode cX3_product 16 = .ok (.aload_n 0, 1) := by decide +kernel
theorem dX3_product_17 : decode cX3_product 17 = .ok (.invokevirtual 45, 3) := by decide +kernel
theorem dX3_product_20 : decode cX3_product 20 = .ok (.return_, 1) := by decide +kernel
theorem dX3_product_21 : decode cX3_product 21 = .ok (.iconst 0, 1) := by decide +kernel
theorem dX3_product_22 : decode cX3_product 22 = .ok (.istore 4, 2) := by decide +kernel
theorem dX3_product_24 : decode cX3_product 24 = .ok (.iload 4, 2) := by decide +kernel
theorem dX3_product_26 : decode cX3_product 26 = .ok (.iload_n 3, 1) := by decide +kernel
theorem dX3_product_27 : decode cX3_product 27 = .ok (.if_icmp .ge 17, 3) := by decide +kernel
theorem dX3_product_30 : decode cX3_product 30 = .ok (.aload_n 0, 1) := by decide +kernel
theorem dX3_product_31 : decode cX3_product 31 = .ok (.getfield 9, 3) := by decide +kernel
theorem dX3_product_34 : decode cX3_product 34 = .ok (.iload 4, 2) := by decide +kernel
theorem dX3_product_36 : decode cX3_product 36 = .ok (.lconst 0, 1) := by decide +kernel
theorem dX3_product_37 : decode cX3_product 37 = .ok (.lastore, 1) := by decide +kernel
theorem dX3_product_38 : decode cX3_product 38 = .ok (.iinc 4 1, 3) := by decide +kernel
theorem dX3_product_41 : decode cX3_product 41 = .ok (.goto (-17), 3) := by decide +kernel
theorem dX3_product_44 : decode cX3_product 44 = .ok (.iconst 0, 1) := by decide +kernel
theorem dX3_product_45 : decode cX3_product 45 = .ok (.istore 4, 2) := by decide +kernel
theorem dX3_product_47 : decode cX3_product 47 = .ok (.iload 4, 2) := by decide +kernel
theorem dX3_product_49 : decode cX3_product 49 = .ok (.aload_n 1, 1) := by decide +kernel
theorem dX3_product_50 : decode cX3_product 50 = .ok (.getfield 17, 3) := by decide +kernel
theorem dX3_product_53 : decode cX3_product 53 = .ok (.if_icmp .ge 102, 3) := by decide +kernel
theorem dX3_product_56 : decode cX3_product 56 = .ok (.aload_n 1, 1) := by decide +kernel
theorem dX3_product_57 : decode cX3_product 57 = .ok (.getfield 9, 3) := by decide +kernel
theorem dX3_product_60 : decode cX3_product 60 = .ok (.iload 4, 2) := by decide +kernel
theorem dX3_product_62 : decode cX3_product 62 = .ok (.laload, 1) := by decide +kernel
theorem dX3_product_63 : decode cX3_product 63 = .ok (.lstore 5, 2) := by decide +kernel
theorem dX3_product_65 : decode cX3_product 65 = .ok (.lconst 0, 1) := by decide +kernel
theorem dX3_product_66 : decode cX3_product 66 = .ok (.lstore 7, 2) := by decide +kernel
theorem dX3_product_68 : decode cX3_product 68 = .ok (.iconst 0, 1) := by decide +kernel
theorem dX3_product_69 : decode cX3_product 69 = .ok (.istore 9, 2) := by decide +kernel
theorem dX3_product_71 : decode cX3_product 71 = .ok (.iload 9, 2) := by decide +kernel
theorem dX3_product_73 : decode cX3_product 73 = .ok (.aload_n 2, 1) := by decide +kernel
theorem dX3_product_74 : decode cX3_product 74 = .ok (.getfield 17, 3) := by decide +kernel
theorem dX3_product_77 : decode cX3_product 77 = .ok (.if_icmp .ge 58, 3) := by decide +kernel
theorem dX3_product_80 : decode cX3_product 80 = .ok (.lload 5, 2) := by decide +kernel
theorem dX3_product_82 : decode cX3_product 82 = .ok (.aload_n 2, 1) := by decide +kernel
theorem dX3_product_83 : decode cX3_product 83 = .ok (.getfield 9, 3) := by decide +kernel
theorem dX3_product_86 : decode cX3_product 86 = .ok (.iload 9, 2) := by decide +kernel
theorem dX3_product_88 : decode cX3_product 88 = .ok (.laload, 1) := by decide +kernel
theorem dX3_product_89 : decode cX3_product 89 = .ok (.lmul, 1) := by decide +kernel
theorem dX3_product_90 : decode cX3_product 90 = .ok (.aload_n 0, 1) := by decide +kernel
theorem dX3_product_91 : decode cX3_product 91 = .ok (.getfield 9, 3) := by decide +kernel
theorem dX3_product_94 : decode cX3_product 94 = .ok (.iload 4, 2) := by decide +kernel
theorem dX3_product_96 : decode cX3_product 96 = .ok (.iload 9, 2) := by decide +kernel
theorem dX3_product_98 : decode cX3_product 98 = .ok (.iadd, 1) := by decide +kernel
theorem dX3_product_99 : decode cX3_product 99 = .ok (.laload, 1) := by decide +kernel
theorem dX3_product_100 : decode cX3_product 100 = .ok (.ladd, 1) := by decide +kernel
theorem dX3_product_101 : decode cX3_product 101 = .ok (.lload 7, 2) := by decide +kernel
theorem dX3_product_103 : decode cX3_product 103 = .ok (.ladd, 1) := by decide +kernel
theorem dX3_product_104 : decode cX3_product 104 = .ok (.lstore 10, 2) := by decide +kernel
theorem dX3_product_106 : decode cX3_product 106 = .ok (.aload_n 0, 1) := by decide +kernel
theorem dX3_product_107 : decode cX3_product 107 = .ok (.getfield 9, 3) := by decide +kernel
theorem dX3_product_110 : decode cX3_product 110 = .ok (.iload 4, 2) := by decide +kernel
theorem dX3_product_112 : decode cX3_product 112 = .ok (.iload 9, 2) := by decide +kernel
theorem dX3_product_114 : decode cX3_product 114 = .ok (.iadd, 1) := by decide +kernel
theorem dX3_product_115 : decode cX3_product 115 = .ok (.lload 10, 2) := by decide +kernel
theorem dX3_product_117 : decode cX3_product 117 = .ok (.ldc2_w 30, 3) := by decide +kernel
theorem dX3_product_120 : decode cX3_product 120 = .ok (.land, 1) := by decide +kernel
theorem dX3_product_121 : decode cX3_product 121 = .ok (.lastore, 1) := by decide +kernel
theorem dX3_product_122 : decode cX3_product 122 = .ok (.lload 10, 2) := by decide +kernel
theorem dX3_product_124 : decode cX3_product 124 = .ok (.bipush 32, 2) := by decide +kernel
theorem dX3_product_126 : decode cX3_product 126 = .ok (.lushr, 1) := by decide +kernel
theorem dX3_product_127 : decode cX3_product 127 = .ok (.lstore 7, 2) := by decide +kernel
theorem dX3_product_129 : decode cX3_product 129 = .ok (.iinc 9 1, 3) := by decide +kernel
theorem dX3_product_132 : decode cX3_product 132 = .ok (.goto (-61), 3) := by decide +kernel
theorem dX3_product_135 : decode cX3_product 135 = .ok (.aload_n 0, 1) := by decide +kernel
theorem dX3_product_136 : decode cX3_product 136 = .ok (.getfield 9, 3) := by decide +kernel
theorem dX3_product_139 : decode cX3_product 139 = .ok (.iload 4, 2) := by decide +kernel
theorem dX3_product_141 : decode cX3_product 141 = .ok (.aload_n 2, 1) := by decide +kernel
theorem dX3_product_142 : decode cX3_product 142 = .ok (.getfield 17, 3) := by decide +kernel
theorem dX3_product_145 : decode cX3_product 145 = .ok (.iadd, 1) := by decide +kernel
theorem dX3_product_146 : decode cX3_product 146 = .ok (.lload 7, 2) := by decide +kernel
theorem dX3_product_148 : decode cX3_product 148 = .ok (.lastore, 1) := by decide +kernel
theorem dX3_product_149 : decode cX3_product 149 = .ok (.iinc 4 1, 3) := by decide +kernel
theorem dX3_product_152 : decode cX3_product 152 = .ok (.goto (-105), 3) := by decide +kernel
theorem dX3_product_155 : decode cX3_product 155 = .ok (.aload_n 0, 1) := by decide +kernel
theorem dX3_product_156 : decode cX3_product 156 = .ok (.aload_n 1, 1) := by decide +kernel
theorem dX3_product_157 : decode cX3_product 157 = .ok (.getfield 13, 3) := by decide +kernel
theorem dX3_product_160 : decode cX3_product 160 = .ok (.aload_n 2, 1) := by decide +kernel
theorem dX3_product_161 : decode cX3_product 161 = .ok (.getfield 13, 3) := by decide +kernel
theorem dX3_product_164 : decode cX3_product 164 = .ok (.imul, 1) := by decide +kernel
theorem dX3_product_165 : decode cX3_product 165 = .ok (.putfield 13, 3) := by decide +kernel
theorem dX3_product_168 : decode cX3_product 168 = .ok (.aload_n 0, 1) := by decide +kernel
theorem dX3_product_169 : decode cX3_product 169 = .ok (.iload_n 3, 1) := by decide +kernel
theorem dX3_product_170 : decode cX3_product 170 = .ok (.invokevirtual 35, 3) := by decide +kernel
theorem dX3_product_173 : decode cX3_product 173 = .ok (.return_, 1) := by decide +kernel
set_option maxRecDepth 20000 in
theorem ggX3_multiply_J6_signum_0f7a4 : GoodIn wsX3_multiply wsJ6_signum_0f7a4 := goodIn_r _ [12] (by decide +kernel) (by decide +kernel)
set_option maxRecDepth 20000 in
theorem gX3_multiply_J6_signum_0f7a4 : GoodIn wsX3_multiply (va_wsS RX3 84 yJ6_signum_0f7a4 wsJ6_signum_0f7a4) := goodIn_app (goodIn_of _ (by decide +kernel)) ggX3_multiply_J6_signum_0f7a4
set_option maxRecDepth 20000 in
theorem ggX3_multiply_X3_trim : GoodIn wsX3_multiply wsX3_trim := goodIn_r _ [17, 5, 6, 8, 18, 19, 20] (by decide +kernel) (by decide +kernel)
set_option maxRecDepth 20000 in
theorem gX3_multiply_X3_trim : GoodIn wsX3_multiply (wsV RX3 35 RX3 yX3_trim wsX3_trim) := goodIn_app (goodIn_of _ (by decide +kernel)) ggX3_multiply_X3_trim
theorem dX3_multiply_0 : decode cX3_multiply 0 = .ok (.iload_n 1, 1) := by decide +kernel
theorem dX3_multiply_1 : decode cX3_multiply 1 = .ok (.i2l, 1) := by decide +kernel
theorem dX3_multiply_2 : decode cX3_multiply 2 = .ok (.invokestatic 81, 3) := by decide +kernel
theorem dX3_multiply_5 : decode cX3_multiply 5 = .ok (.lstore_n 2, 1) := by decide +kernel
theorem dX3_multiply_6 : decode cX3_multiply 6 = .ok (.lconst 0, 1) := by decide +kernel
theorem dX3_multiply_7 : decode cX3_multiply 7 = .ok (.lstore 4, 2) := by decide +kernel
theorem dX3_multiply_9 : decode cX3_multiply 9 = .ok (.iconst 0, 1) := by decide +kernel
theorem dX3_multiply_10 : decode cX3_multiply 10 = .ok (.istore 6, 2) := by decide +kernel
theorem dX3_multiply_12 : decode cX3_multiply 12 = .ok (.iload 6, 2) := by decide +kernel
theorem dX3_multiply_14 : decode cX3_multiply 14 = .ok (.aload_n 0, 1) := by decide +kernel
theorem dX3_multiply_15 : decode cX3_multiply 15 = .ok (.getfield 17, 3) := by decide +kernel
theorem dX3_multiply_18 : decode cX3_multiply 18 = .ok (.if_icmp .ge 43, 3) := by decide +kernel
theorem dX3_multiply_21 : decode cX3_multiply 21 = .ok (.aload_n 0, 1) := by decide +kernel
theorem dX3_multiply_22 : decode cX3_multiply 22 = .ok (.getfield 9, 3) := by decide +kernel
theorem dX3_multiply_25 : decode cX3_multiply 25 = .ok (.iload 6, 2) := by decide +kernel
theorem dX3_multiply_27 : decode cX3_multiply 27 = .ok (.laload, 1) := by decide +kernel
theorem dX3_multiply_28 : decode cX3_multiply 28 = .ok (.lload_n 2, 1) := by decide +kernel
theorem dX3_multiply_29 : decode cX3_multiply 29 = .ok (.lmul, 1) := by decide +kernel
theorem dX3_multiply_30 : decode cX3_multiply 30 = .ok (.lload 4, 2) := by decide +kernel
theorem dX3_multiply_32 : decode cX3_multiply 32 = .ok (.ladd, 1) := by decide +kernel
theorem dX3_multiply_33 : decode cX3_multiply 33 = .ok (.lstore 7, 2) := by decide +kernel
theorem dX3_multiply_35 : decode cX3_multiply 35 = .ok (.aload_n 0, 1) := by decide +kernel
theorem dX3_multiply_36 : decode cX3_multiply 36 = .ok (.getfield 9, 3) := by decide +kernel
theorem dX3_multiply_39 : decode cX3_multiply 39 = .ok (.iload 6, 2) := by decide +kernel
theorem dX3_multiply_41 : decode cX3_multiply 41 = .ok (.lload 7, 2) := by decide +kernel
theorem dX3_multiply_43 : decode cX3_multiply 43 = .ok (.ldc2_w 30, 3) := by decide +kernel
theorem dX3_multiply_46 : decode cX3_multiply 46 = .ok (.land, 1) := by decide +kernel
theorem dX3_multiply_47 : decode cX3_multiply 47 = .ok (.lastore, 1) := by decide +kernel
theorem dX3_multiply_48 : decode cX3_multiply 48 = .ok (.lload 7, 2) := by decide +kernel
theorem dX3_multiply_50 : decode cX3_multiply 50 = .ok (.bipush 32, 2) := by decide +kernel
theorem dX3_multiply_52 : decode cX3_multiply 52 = .ok (.lushr, 1) := by decide +kernel
theorem dX3_multiply_53 : decode cX3_multiply 53 = .ok (.lstore 4, 2) := by decide +kernel
theorem dX3_multiply_55 : decode cX3_multiply 55 = .ok (.iinc 6 1, 3) := by decide +kernel
theorem dX3_multiply_58 : decode cX3_multiply 58 = .ok (.goto (-46), 3) := by decide +kernel
theorem dX3_multiply_61 : decode cX3_multiply 61 = .ok (.aload_n 0, 1) := by decide +kernel
theorem dX3_multiply_62 : decode cX3_multiply 62 = .ok (.dup, 1) := by decide +kernel
theorem dX3_multiply_63 : decode cX3_multiply 63 = .ok (.getfield 13, 3) := by decide +kernel
theorem dX3_multiply_66 : decode cX3_multiply 66 = .ok (.iload_n 1, 1) := by decide +kernel
theorem dX3_multiply_67 : decode cX3_multiply 67 = .ok (.invokestatic 84, 3) := by decide +kernel
theorem dX3_multiply_70 : decode cX3_multiply 70 = .ok (.imul, 1) := by decide +kernel
theorem dX3_multiply_71 : decode cX3_multiply 71 = .ok (.putfield 13, 3) := by decide +kernel
theorem dX3_multiply_74 : decode cX3_multiply 74 = .ok (.aload_n 0, 1) := by decide +kernel
theorem dX3_multiply_75 : decode cX3_multiply 75 = .ok (.getfield 17, 3) := by decide +kernel
theorem dX3_multiply_78 : decode cX3_multiply 78 = .ok (.istore 6, 2) := by decide +kernel
theorem dX3_multiply_80 : decode cX3_multiply 80 = .ok (.iload 6, 2) := by decide +kernel
theorem dX3_multiply_82 : decode cX3_multiply 82 = .ok (.bipush 24, 2) := by decide +kernel
theorem dX3_multiply_84 : decode cX3_multiply 84 = .ok (.if_icmp .ge 15, 3) := by decide +kernel
theorem dX3_multiply_87 : decode cX3_multiply 87 = .ok (.aload_n 0, 1) := by decide +kernel
theorem dX3_multiply_88 : decode cX3_multiply 88 = .ok (.getfield 9, 3) := by decide +kernel
theorem dX3_multiply_91 : decode cX3_multiply 91 = .ok (.iload 6, 2) := by decide +kernel
theorem dX3_multiply_93 : decode cX3_multiply 93 = .ok (.lload 4, 2) := by decide +kernel
theorem dX3_multiply_95 : decode cX3_multiply 95 = .ok (.lastore, 1) := by decide +kernel
theorem dX3_multiply_96 : decode cX3_multiply 96 = .ok (.iinc 6 1, 3) := by decide +kernel
theorem dX3_multiply_99 : decode cX3_multiply 99 = .ok (.aload_n 0, 1) := by decide +kernel
theorem dX3_multiply_100 : decode cX3_multiply 100 = .ok (.iload 6, 2) := by decide +kernel
theorem dX3_multiply_102 : decode cX3_multiply 102 = .ok (.invokevirtual 35, 3) := by decide +kernel
theorem dX3_multiply_105 : decode cX3_multiply 105 = .ok (.return_, 1) := by decide +kernel
set_option maxRecDepth 20000 in
theorem ggX3_divide_X3_trim : GoodIn wsX3_divide wsX3_trim := goodIn_r _ [8, 2, 3, 1, 14, 15, 16] (by decide +kernel) (by decide +kernel)
set_option maxRecDepth 20000 in
theorem gX3_divide_X3_trim : GoodIn wsX3_divide (wsV RX3 35 RX3 yX3_trim wsX3_trim) := goodIn_app (goodIn_of _ (by decide +kernel)) ggX3_divide_X3_trim
set_option maxRecDepth 20000 in
theorem ggX3_divide_X3_stepDown : GoodIn wsX3_divide wsX3_stepDown := goodIn_r _ [12, 2, 3, 13, 1, 14, 15, 16] (by decide +kernel) (by decide +kernel)
set_option maxRecDepth 20000 in
theorem gX3_divide_X3_stepDown : GoodIn wsX3_divide (wsV RX3 86 RX3 yX3_stepDown wsX3_stepDown) := goodIn_app (goodIn_of _ (by decide +kernel)) ggX3_divide_X3_stepDown
theorem dX3_divide_0 : decode cX3_divide 0 = .ok (.iload_n 1, 1) := by decide +kernel
theorem dX3_divide_1 : decode cX3_divide 1 = .ok (.ifCond .gt 5, 3) := by decide +kernel
theorem dX3_divide_4 : decode cX3_divide 4 = .ok (.iconst 0, 1) := by decide +kernel
theorem dX3_divide_5 : decode cX3_divide 5 = .ok (.ireturn, 1) := by decide +kernel
theorem dX3_divide_6 : decode cX3_divide 6 = .ok (.aload_n 0, 1) := by decide +kernel
theorem dX3_divide_7 : decode cX3_divide 7 = .ok (.getfield 13, 3) := by decide +kernel
theorem dX3_divide_10 : decode cX3_divide 10 = .ok (.ifCond .ge 7, 3) := by decide +kernel
theorem dX3_divide_13 : decode cX3_divide 13 = .ok (.iconst 1, 1) := by decide +kernel
theorem dX3_divide_14 : decode cX3_divide 14 = .ok (.goto 4, 3) := by decide +kernel
theorem dX3_divide_17 : decode cX3_divide 17 = .ok (.iconst 0, 1) := by decide +kernel
theorem dX3_divide_18 : decode cX3_divide 18 = .ok (.istore_n 2, 1) := by decide +kernel
theorem dX3_divide_19 : decode cX3_divide 19 = .ok (.lconst 0, 1) := by decide +kernel
theorem dX3_divide_20 : decode cX3_divide 20 = .ok (.lstore_n 3, 1) := by decide +kernel
theorem dX3_divide_21 : decode cX3_divide 21 = .ok (.aload_n 0, 1) := by decide +kernel
theorem dX3_divide_22 : decode cX3_divide 22 = .ok (.getfield 17, 3) := by decide +kernel
theorem dX3_divide_25 : decode cX3_divide 25 = .ok (.iconst 1, 1) := by decide +kernel
theorem dX3_divide_26 : decode cX3_divide 26 = .ok (.isub, 1) := by decide +kernel
theorem dX3_divide_27 : decode cX3_divide 27 = .ok (.istore 5, 2) := by decide +kernel
theorem dX3_divide_29 : decode cX3_divide 29 = .ok (.iload 5, 2) := by decide +kernel
theorem dX3_divide_31 : decode cX3_divide 31 = .ok (.ifCond .lt 41, 3) := by decide +kernel
theorem dX3_divide_34 : decode cX3_divide 34 = .ok (.lload_n 3, 1) := by decide +kernel
theorem dX3_divide_35 : decode cX3_divide 35 = .ok (.bipush 32, 2) := by decide +kernel
theorem dX3_divide_37 : decode cX3_divide 37 = .ok (.lshl, 1) := by decide +kernel
theorem dX3_divide_38 : decode cX3_divide 38 = .ok (.aload_n 0, 1) := by decide +kernel
theorem dX3_divide_39 : decode cX3_divide 39 = .ok (.getfield 9, 3) := by decide +kernel
theorem dX3_divide_42 : decode cX3_divide 42 = .ok (.iload 5, 2) := by decide +kernel
theorem dX3_divide_44 : decode cX3_divide 44 = .ok (.laload, 1) := by decide +kernel
theorem dX3_divide_45 : decode cX3_divide 45 = .ok (.lor, 1) := by decide +kernel
theorem dX3_divide_46 : decode cX3_divide 46 = .ok (.lstore 6, 2) := by decide +kernel
theorem dX3_divide_48 : decode cX3_divide 48 = .ok (.aload_n 0, 1) := by decide +kernel
theorem dX3_divide_49 : decode cX3_divide 49 = .ok (.getfield 9, 3) := by decide +kernel
theorem dX3_divide_52 : decode cX3_divide 52 = .ok (.iload 5, 2) := by decide +kernel
theorem dX3_divide_54 : decode cX3_divide 54 = .ok (.lload 6, 2) := by decide +kernel
theorem dX3_divide_56 : decode cX3_divide 56 = .ok (.iload_n 1, 1) := by decide +kernel
theorem dX3_divide_57 : decode cX3_divide 57 = .ok (.i2l, 1) := by decide +kernel
theorem dX3_divide_58 : decode cX3_divide 58 = .ok (.ldiv, 1) := by decide +kernel
theorem dX3_divide_59 : decode cX3_divide 59 = .ok (.lastore, 1) := by decide +kernel
theorem dX3_divide_60 : decode cX3_divide 60 = .ok (.lload 6, 2) := by decide +kernel
theorem dX3_divide_62 : decode cX3_divide 62 = .ok (.iload_n 1, 1) := by decide +kernel
theorem dX3_divide_63 : decode cX3_divide 63 = .ok (.i2l, 1) := by decide +kernel
theorem dX3_divide_64 : decode cX3_divide 64 = .ok (.lrem, 1) := by decide +kernel
theorem dX3_divide_65 : decode cX3_divide 65 = .ok (.lstore_n 3, 1) := by decide +kernel
theorem dX3_divide_66 : decode cX3_divide 66 = .ok (.iinc 5 (-1), 3) := by decide +kernel
theorem dX3_divide_69 : decode cX3_divide 69 = .ok (.goto (-40), 3) := by decide +kernel
theorem dX3_divide_72 : decode cX3_divide 72 = .ok (.aload_n 0, 1) := by decide +kernel
theorem dX3_divide_73 : decode cX3_divide 73 = .ok (.aload_n 0, 1) := by decide +kernel
theorem dX3_divide_74 : decode cX3_divide 74 = .ok (.getfield 17, 3) := by decide +kernel
theorem dX3_divide_77 : decode cX3_divide 77 = .ok (.invokevirtual 35, 3) := by decide +kernel
theorem dX3_divide_80 : decode cX3_divide 80 = .ok (.iload_n 2, 1) := by decide +kernel
theorem dX3_divide_81 : decode cX3_divide 81 = .ok (.ifCond .eq 13, 3) := by decide +kernel
theorem dX3_divide_84 : decode cX3_divide 84 = .ok (.lload_n 3, 1) := by decide +kernel
theorem dX3_divide_85 : decode cX3_divide 85 = .ok (.lconst 0, 1) := by decide +kernel
theorem dX3_divide_86 : decode cX3_divide 86 = .ok (.lcmp, 1) := by decide +kernel
theorem dX3_divide_87 : decode cX3_divide 87 = .ok (.ifCond .eq 7, 3) := by decide +kernel
theorem dX3_divide_90 : decode cX3_divide 90 = .ok (.aload_n 0, 1) := by decide +kernel
theorem dX3_divide_91 : decode cX3_divide 91 = .ok (.invokevirtual 86, 3) := by decide +kernel
theorem dX3_divide_94 : decode cX3_divide 94 = .ok (.lload_n 3, 1) := by decide +kernel
theorem dX3_divide_95 : decode cX3_divide 95 = .ok (.l2i, 1) := by decide +kernel
theorem dX3_divide_96 : decode cX3_divide 96 = .ok (.ireturn, 1) := by decide +kernel
set_option maxRecDepth 20000 in
theorem ggX3_raise_X3_raisedLimb : GoodIn wsX3_raise wsX3_raisedLimb := goodIn_r _ [7, 8, 9, 10, 11, 6, 12, 1, 2, 18, 19, 20] (by decide +kernel) (by decide +kernel)
set_option maxRecDepth 20000 in
theorem gX3_raise_X3_raisedLimb : GoodIn wsX3_raise (wsV RX3 89 RX3 yX3_raisedLimb wsX3_raisedLimb) := goodIn_app (goodIn_of _ (by decide +kernel)) ggX3_raise_X3_raisedLimb
set_option maxRecDepth 20000 in
theorem ggX3_raise_X3_trim : GoodIn wsX3_raise wsX3_trim := goodIn_r _ [16, 1, 2, 17, 18, 19, 20] (by decide +kernel) (by decide +kernel)
set_option maxRecDepth 20000 in
theorem gX3_raise_X3_trim : GoodIn wsX3_raise (wsV RX3 35 RX3 yX3_trim wsX3_trim) := goodIn_app (goodIn_of _ (by decide +kernel)) ggX3_raise_X3_trim
theorem dX3_raise_0 : decode cX3_raise 0 = .ok (.iload_n 1, 1) := by decide +kernel
theorem dX3_raise_1 : decode cX3_raise 1 = .ok (.bipush 32, 2) := by decide +kernel
theorem dX3_raise_3 : decode cX3_raise 3 = .ok (.idiv, 1) := by decide +kernel
theorem dX3_raise_4 : decode cX3_raise 4 = .ok (.istore_n 2, 1) := by decide +kernel
theorem dX3_raise_5 : decode cX3_raise 5 = .ok (.iload_n 1, 1) := by decide +kernel
theorem dX3_raise_6 : decode cX3_raise 6 = .ok (.bipush 32, 2) := by decide +kernel
theorem dX3_raise_8 : decode cX3_raise 8 = .ok (.irem, 1) := by decide +kernel
theorem dX3_raise_9 : decode cX3_raise 9 = .ok (.istore_n 3, 1) := by decide +kernel
theorem dX3_raise_10 : decode cX3_raise 10 = .ok (.aload_n 0, 1) := by decide +kernel
theorem dX3_raise_11 : decode cX3_raise 11 = .ok (.getfield 17, 3) := by decide +kernel
theorem dX3_raise_14 : decode cX3_raise 14 = .ok (.iload_n 2, 1) := by decide +kernel
theorem dX3_raise_15 : decode cX3_raise 15 = .ok (.iadd, 1) := by decide +kernel
theorem dX3_raise_16 : decode cX3_raise 16 = .ok (.iconst 1, 1) := by decide +kernel
theorem dX3_raise_17 : decode cX3_raise 17 = .ok (.iadd, 1) := by decide +kernel
theorem dX3_raise_18 : decode cX3_raise 18 = .ok (.istore 4, 2) := by decide +kernel
theorem dX3_raise_20 : decode cX3_raise 20 = .ok (.aload_n 0, 1) := by decide +kernel
theorem dX3_raise_21 : decode cX3_raise 21 = .ok (.getfield 17, 3) := by decide +kernel
theorem dX3_raise_24 : decode cX3_raise 24 = .ok (.ifCond .eq 14, 3) := by decide +kernel
theorem dX3_raise_27 : decode cX3_raise 27 = .ok (.iload_n 1, 1) := by decide +kernel
theorem dX3_raise_28 : decode cX3_raise 28 = .ok (.ifCond .le 10, 3) := by decide +kernel
theorem dX3_raise_31 : decode cX3_raise 31 = .ok (.iload 4, 2) := by decide +kernel
theorem dX3_raise_33 : decode cX3_raise 33 = .ok (.bipush 24, 2) := by decide +kernel
theorem dX3_raise_35 : decode cX3_raise 35 = .ok (.if_icmp .le 4, 3) := by decide +kernel
theorem dX3_raise_38 : decode cX3_raise 38 = .ok (.return_, 1) := by decide +kernel
theorem dX3_raise_39 : decode cX3_raise 39 = .ok (.iload 4, 2) := by decide +kernel
theorem dX3_raise_41 : decode cX3_raise 41 = .ok (.iconst 1, 1) := by decide +kernel
theorem dX3_raise_42 : decode cX3_raise 42 = .ok (.isub, 1) := by decide +kernel
theorem dX3_raise_43 : decode cX3_raise 43 = .ok (.istore 5, 2) := by decide +kernel
theorem dX3_raise_45 : decode cX3_raise 45 = .ok (.iload 5, 2) := by decide +kernel
theorem dX3_raise_47 : decode cX3_raise 47 = .ok (.ifCond .lt 25, 3) := by decide +kernel
theorem dX3_raise_50 : decode cX3_raise 50 = .ok (.aload_n 0, 1) := by decide +kernel
theorem dX3_raise_51 : decode cX3_raise 51 = .ok (.getfield 9, 3) := by decide +kernel
theorem dX3_raise_54 : decode cX3_raise 54 = .ok (.iload 5, 2) := by decide +kernel
theorem dX3_raise_56 : decode cX3_raise 56 = .ok (.aload_n 0, 1) := by decide +kernel
theorem dX3_raise_57 : decode cX3_raise 57 = .ok (.iload 5, 2) := by decide +kernel
theorem dX3_raise_59 : decode cX3_raise 59 = .ok (.iload_n 2, 1) := by decide +kernel
theorem dX3_raise_60 : decode cX3_raise 60 = .ok (.isub, 1) := by decide +kernel
theorem dX3_raise_61 : decode cX3_raise 61 = .ok (.iload_n 3, 1) := by decide +kernel
theorem dX3_raise_62 : decode cX3_raise 62 = .ok (.invokevirtual 89, 3) := by decide +kernel
theorem dX3_raise_65 : decode cX3_raise 65 = .ok (.lastore, 1) := by decide +kernel
theorem dX3_raise_66 : decode cX3_raise 66 = .ok (.iinc 5 (-1), 3) := by decide +kernel
theorem dX3_raise_69 : decode cX3_raise 69 = .ok (.goto (-24), 3) := by decide +kernel
theorem dX3_raise_72 : decode cX3_raise 72 = .ok (.aload_n 0, 1) := by decide +kernel
theorem dX3_raise_73 : decode cX3_raise 73 = .ok (.iload 4, 2) := by decide +kernel
theorem dX3_raise_75 : decode cX3_raise 75 = .ok (.invokevirtual 35, 3) := by decide +kernel
theorem dX3_raise_78 : decode cX3_raise 78 = .ok (.return_, 1) := by decide +kernel
set_option maxRecDepth 20000 in
theorem ggX3_raisedLimb_X3_at : GoodIn wsX3_raisedLimb wsX3_at := goodIn_r _ [6, 7, 8, 9, 10, 11] (by decide +kernel) (by decide +kernel)
set_option maxRecDepth 20000 in
theorem gX3_raisedLimb_X3_at : GoodIn wsX3_raisedLimb (wsV RX3 26 RX3 yX3_at wsX3_at) := goodIn_app (goodIn_of _ (by decide +kernel)) ggX3_raisedLimb_X3_at
theorem dX3_raisedLimb_0 : decode cX3_raisedLimb 0 = .ok (.aload_n 0, 1) := by decide +kernel
theorem dX3_raisedLimb_1 : decode cX3_raisedLimb 1 = .ok (.iload_n 1, 1) := by decide +kernel
theorem dX3_raisedLimb_2 : decode cX3_raisedLimb 2 = .ok (.invokevirtual 26, 3) := by decide +kernel
theorem dX3_raisedLimb_5 : decode cX3_raisedLimb 5 = .ok (.iload_n 2, 1) := by decide +kernel
theorem dX3_raisedLimb_6 : decode cX3_raisedLimb 6 = .ok (.lshl, 1) := by decide +kernel
theorem dX3_raisedLimb_7 : decode cX3_raisedLimb 7 = .ok (.aload_n 0, 1) := by decide +kernel
theorem dX3_raisedLimb_8 : decode cX3_raisedLimb 8 = .ok (.iload_n 1, 1) := by decide +kernel
theorem dX3_raisedLimb_9 : decode cX3_raisedLimb 9 = .ok (.iconst 1, 1) := by decide +kernel
theorem dX3_raisedLimb_10 : decode cX3_raisedLimb 10 = .ok (.isub, 1) := by decide +kernel
theorem dX3_raisedLimb_11 : decode cX3_raisedLimb 11 = .ok (.invokevirtual 26, 3) := by decide +kernel
theorem dX3_raisedLimb_14 : decode cX3_raisedLimb 14 = .ok (.bipush 32, 2) := by decide +kernel
theorem dX3_raisedLimb_16 : decode cX3_raisedLimb 16 = .ok (.iload_n 2, 1) := by decide +kernel
theorem dX3_raisedLimb_17 : decode cX3_raisedLimb 17 = .ok (.isub, 1) := by decide +kernel
theorem dX3_raisedLimb_18 : decode cX3_raisedLimb 18 = .ok (.lushr, 1) := by decide +kernel
theorem dX3_raisedLimb_19 : decode cX3_raisedLimb 19 = .ok (.lor, 1) := by decide +kernel
theorem dX3_raisedLimb_20 : decode cX3_raisedLimb 20 = .ok (.ldc2_w 30, 3) := by decide +kernel
theorem dX3_raisedLimb_23 : decode cX3_raisedLimb 23 = .ok (.land, 1) := by decide +kernel
theorem dX3_raisedLimb_24 : decode cX3_raisedLimb 24 = .ok (.lreturn, 1) := by decide +kernel
set_option maxRecDepth 20000 in
theorem ggX3_lower_X3_hasBitsBelow : GoodIn wsX3_lower wsX3_hasBitsBelow := goodIn_r _ [13, 2, 7, 22, 23, 24] (by decide +kernel) (by decide +kernel)
set_option maxRecDepth 20000 in
theorem gX3_lower_X3_hasBitsBelow : GoodIn wsX3_lower (wsV RX3 93 RX3 yX3_hasBitsBelow wsX3_hasBitsBelow) := goodIn_app (goodIn_of _ (by decide +kernel)) ggX3_lower_X3_hasBitsBelow
set_option maxRecDepth 20000 in
theorem ggX3_lower_X3_trim : GoodIn wsX3_lower wsX3_trim := goodIn_r _ [17, 2, 7, 1, 22, 23, 24] (by decide +kernel) (by decide +kernel)
set_option maxRecDepth 20000 in
theorem gX3_lower_X3_trim : GoodIn wsX3_lower (wsV RX3 35 RX3 yX3_trim wsX3_trim) := goodIn_app (goodIn_of _ (by decide +kernel)) ggX3_lower_X3_trim
set_option maxRecDepth 20000 in
theorem ggX3_lower_X3_stepDown : GoodIn wsX3_lower wsX3_stepDown := goodIn_r _ [21, 2, 7, 8, 1, 22, 23, 24] (by decide +kernel) (by decide +kernel)
set_option maxRecDepth 20000 in
theorem gX3_lower_X3_stepDown : GoodIn wsX3_lower (wsV RX3 86 RX3 yX3_stepDown wsX3_stepDown) := goodIn_app (goodIn_of _ (by decide +kernel)) ggX3_lower_X3_stepDown
theorem dX3_lower_0 : decode cX3_lower 0 = .ok (.iload_n 1, 1) := by decide +kernel
theorem dX3_lower_1 : decode cX3_lower 1 = .ok (.ifCond .gt 4, 3) := by decide +kernel
theorem dX3_lower_4 : decode cX3_lower 4 = .ok (.return_, 1) := by decide +kernel
theorem dX3_lower_5 : decode cX3_lower 5 = .ok (.iload_n 1, 1) := by decide +kernel
theorem dX3_lower_6 : decode cX3_lower 6 = .ok (.bipush 32, 2) := by decide +kernel
theorem dX3_lower_8 : decode cX3_lower 8 = .ok (.idiv, 1) := by decide +kernel
theorem dX3_lower_9 : decode cX3_lower 9 = .ok (.istore_n 2, 1) := by decide +kernel
theorem dX3_lower_10 : decode cX3_lower 10 = .ok (.iload_n 1, 1) := by decide +kernel
theorem dX3_lower_11 : decode cX3_lower 11 = .ok (.bipush 32, 2) := by decide +kernel
theorem dX3_lower_13 : decode cX3_lower 13 = .ok (.irem, 1) := by decide +kernel
theorem dX3_lower_14 : decode cX3_lower 14 = .ok (.istore_n 3, 1) := by decide +kernel
theorem dX3_lower_15 : decode cX3_lower 15 = .ok (.aload_n 0, 1) := by decide +kernel
theorem dX3_lower_16 : decode cX3_lower 16 = .ok (.getfield 13, 3) := by decide +kernel
theorem dX3_lower_19 : decode cX3_lower 19 = .ok (.ifCond .ge 15, 3) := by decide +kernel
theorem dX3_lower_22 : decode cX3_lower 22 = .ok (.aload_n 0, 1) := by decide +kernel
theorem dX3_lower_23 : decode cX3_lower 23 = .ok (.iload_n 1, 1) := by decide +kernel
theorem dX3_lower_24 : decode cX3_lower 24 = .ok (.invokevirtual 93, 3) := by decide +kernel
theorem dX3_lower_27 : decode cX3_lower 27 = .ok (.ifCond .eq 7, 3) := by decide +kernel
theorem dX3_lower_30 : decode cX3_lower 30 = .ok (.iconst 1, 1) := by decide +kernel
theorem dX3_lower_31 : decode cX3_lower 31 = .ok (.goto 4, 3) := by decide +kernel
theorem dX3_lower_34 : decode cX3_lower 34 = .ok (.iconst 0, 1) := by decide +kernel
theorem dX3_lower_35 : decode cX3_lower 35 = .ok (.istore 4, 2) := by decide +kernel
theorem dX3_lower_37 : decode cX3_lower 37 = .ok (.iconst 0, 1) := by decide +kernel
theorem dX3_lower_38 : decode cX3_lower 38 = .ok (.aload_n 0, 1) := by decide +kernel
theorem dX3_lower_39 : decode cX3_lower 39 = .ok (.getfield 17, 3) := by decide +kernel
theorem dX3_lower_42 : decode cX3_lower 42 = .ok (.iload_n 2, 1) := by decide +kernel
theorem dX3_lower_43 : decode cX3_lower 43 = .ok (.isub, 1) := by decide +kernel
theorem dX3_lower_44 : decode cX3_lower 44 = .ok (.invokestatic 78, 3) := by decide +kernel
theorem dX3_lower_47 : decode cX3_lower 47 = .ok (.istore 5, 2) := by decide +kernel
theorem dX3_lower_49 : decode cX3_lower 49 = .ok (.iconst 0, 1) := by decide +kernel
theorem dX3_lower_50 : decode cX3_lower 50 = .ok (.istore 6, 2) := by decide +kernel
theorem dX3_lower_52 : decode cX3_lower 52 = .ok (.iload 6, 2) := by decide +kernel
theorem dX3_lower_54 : decode cX3_lower 54 = .ok (.iload 5, 2) := by decide +kernel
theorem dX3_lower_56 : decode cX3_lower 56 = .ok (.if_icmp .ge 65, 3) := by decide +kernel
theorem dX3_lower_59 : decode cX3_lower 59 = .ok (.iload 6, 2) := by decide +kernel
theorem dX3_lower_61 : decode cX3_lower 61 = .ok (.iconst 1, 1) := by decide +kernel
theorem dX3_lower_62 : decode cX3_lower 62 = .ok (.iadd, 1) := by decide +kernel
theorem dX3_lower_63 : decode cX3_lower 63 = .ok (.iload 5, 2) := by decide +kernel
theorem dX3_lower_65 : decode cX3_lower 65 = .ok (.if_icmp .ge 17, 3) := by decide +kernel
theorem dX3_lower_68 : decode cX3_lower 68 = .ok (.aload_n 0, 1) := by decide +kernel
theorem dX3_lower_69 : decode cX3_lower 69 = .ok (.getfield 9, 3) := by decide +kernel
theorem dX3_lower_72 : decode cX3_lower 72 = .ok (.iload 6, 2) := by decide +kernel
theorem dX3_lower_74 : decode cX3_lower 74 = .ok (.iload_n 2, 1) := by decide +kernel
theorem dX3_lower_75 : decode cX3_lower 75 = .ok (.iadd, 1) := by decide +kernel
theorem dX3_lower_76 : decode cX3_lower 76 = .ok (.iconst 1, 1) := by decide +kernel
theorem dX3_lower_77 : decode cX3_lower 77 = .ok (.iadd, 1) := by decide +kernel
theorem dX3_lower_78 : decode cX3_lower 78 = .ok (.laload, 1) := by decide +kernel
theorem dX3_lower_79 : decode cX3_lower 79 = .ok (.goto 4, 3) := by decide +kernel
theorem dX3_lower_82 : decode cX3_lower 82 = .ok (.lconst 0, 1) := by decide +kernel
theorem dX3_lower_83 : decode cX3_lower 83 = .ok (.lstore 7, 2) := by decide +kernel
theorem dX3_lower_85 : decode cX3_lower 85 = .ok (.aload_n 0, 1) := by decide +kernel
theorem dX3_lower_86 : decode cX3_lower 86 = .ok (.getfield 9, 3) := by decide +kernel
theorem dX3_lower_89 : decode cX3_lower 89 = .ok (.iload 6, 2) := by decide +kernel
theorem dX3_lower_91 : decode cX3_lower 91 = .ok (.aload_n 0, 1) := by decide +kernel
theorem dX3_lower_92 : decode cX3_lower 92 = .ok (.getfield 9, 3) := by decide +kernel
theorem dX3_lower_95 : decode cX3_lower 95 = .ok (.iload 6, 2) := by decide +kernel
theorem dX3_lower_97 : decode cX3_lower 97 = .ok (.iload_n 2, 1) := by decide +kernel
theorem dX3_lower_98 : decode cX3_lower 98 = .ok (.iadd, 1) := by decide +kernel
theorem dX3_lower_99 : decode cX3_lower 99 = .ok (.laload, 1) := by decide +kernel
theorem dX3_lower_100 : decode cX3_lower 100 = .ok (.iload_n 3, 1) := by decide +kernel
theorem dX3_lower_101 : decode cX3_lower 101 = .ok (.lushr, 1) := by decide +kernel
theorem dX3_lower_102 : decode cX3_lower 102 = .ok (.lload 7, 2) := by decide +kernel
theorem dX3_lower_104 : decode cX3_lower 104 = .ok (.bipush 32, 2) := by decide +kernel
theorem dX3_lower_106 : decode cX3_lower 106 = .ok (.iload_n 3, 1) := by decide +kernel
theorem dX3_lower_107 : decode cX3_lower 107 = .ok (.isub, 1) := by decide +kernel
theorem dX3_lower_108 : decode cX3_lower 108 = .ok (.lshl, 1) := by decide +kernel
theorem dX3_lower_109 : decode cX3_lower 109 = .ok (.lor, 1) := by decide +kernel
theorem dX3_lower_110 : decode cX3_lower 110 = .ok (.ldc2_w 30, 3) := by decide +kernel
theorem dX3_lower_113 : decode cX3_lower 113 = .ok (.land, 1) := by decide +kernel
theorem dX3_lower_114 : decode cX3_lower 114 = .ok (.lastore, 1) := by decide +kernel
theorem dX3_lower_115 : decode cX3_lower 115 = .ok (.iinc 6 1, 3) := by decide +kernel
theorem dX3_lower_118 : decode cX3_lower 118 = .ok (.goto (-66), 3) := by decide +kernel
theorem dX3_lower_121 : decode cX3_lower 121 = .ok (.aload_n 0, 1) := by decide +kernel
theorem dX3_lower_122 : decode cX3_lower 122 = .ok (.iload 5, 2) := by decide +kernel
theorem dX3_lower_124 : decode cX3_lower 124 = .ok (.invokevirtual 35, 3) := by decide +kernel
theorem dX3_lower_127 : decode cX3_lower 127 = .ok (.iload 4, 2) := by decide +kernel
theorem dX3_lower_129 : decode cX3_lower 129 = .ok (.ifCond .eq 7, 3) := by decide +kernel
theorem dX3_lower_132 : decode cX3_lower 132 = .ok (.aload_n 0, 1) := by decide +kernel
theorem dX3_lower_133 : decode cX3_lower 133 = .ok (.invokevirtual 86, 3) := by decide +kernel
theorem dX3_lower_136 : decode cX3_lower 136 = .ok (.return_, 1) := by decide +kernel
theorem dX3_hasBitsBelow_0 : decode cX3_hasBitsBelow 0 = .ok (.iload_n 1, 1) := by decide +kernel
theorem dX3_hasBitsBelow_1 : decode cX3_hasBitsBelow 1 = .ok (.bipush 32, 2) := by decide +kernel
theorem dX3_hasBitsBelow_3 : decode cX3_hasBitsBelow 3 = .ok (.idiv, 1) := by decide +kernel
theorem dX3_hasBitsBelow_4 : decode cX3_hasBitsBelow 4 = .ok (.istore_n 2, 1) := by decide +kernel
theorem dX3_hasBitsBelow_5 : decode cX3_hasBitsBelow 5 = .ok (.iconst 0, 1) := by decide +kernel
theorem dX3_hasBitsBelow_6 : decode cX3_hasBitsBelow 6 = .ok (.istore_n 3, 1) := by decide +kernel
theorem dX3_hasBitsBelow_7 : decode cX3_hasBitsBelow 7 = .ok (.iload_n 3, 1) := by decide +kernel
theorem dX3_hasBitsBelow_8 : decode cX3_hasBitsBelow 8 = .ok (.iload_n 2, 1) := by decide +kernel
theorem dX3_hasBitsBelow_9 : decode cX3_hasBitsBelow 9 = .ok (.if_icmp .ge 30, 3) := by decide +kernel
theorem dX3_hasBitsBelow_12 : decode cX3_hasBitsBelow 12 = .ok (.iload_n 3, 1) := by decide +kernel
theorem dX3_hasBitsBelow_13 : decode cX3_hasBitsBelow 13 = .ok (.aload_n 0, 1) := by decide +kernel
theorem dX3_hasBitsBelow_14 : decode cX3_hasBitsBelow 14 = .ok (.getfield 17, 3) := by decide +kernel
theorem dX3_hasBitsBelow_17 : decode cX3_hasBitsBelow 17 = .ok (.if_icmp .ge 22, 3) := by decide +kernel
theorem dX3_hasBitsBelow_20 : decode cX3_hasBitsBelow 20 = .ok (.aload_n 0, 1) := by decide +kernel
theorem dX3_hasBitsBelow_21 : decode cX3_hasBitsBelow 21 = .ok (.getfield 9, 3) := by decide +kernel
theorem dX3_hasBitsBelow_24 : decode cX3_hasBitsBelow 24 = .ok (.iload_n 3, 1) := by decide +kernel
theorem dX3_hasBitsBelow_25 : decode cX3_hasBitsBelow 25 = .ok (.laload, 1) := by decide +kernel
theorem dX3_hasBitsBelow_26 : decode cX3_hasBitsBelow 26 = .ok (.lconst 0, 1) := by decide +kernel
theorem dX3_hasBitsBelow_27 : decode cX3_hasBitsBelow 27 = .ok (.lcmp, 1) := by decide +kernel
theorem dX3_hasBitsBelow_28 : decode cX3_hasBitsBelow 28 = .ok (.ifCond .eq 5, 3) := by decide +kernel
theorem dX3_hasBitsBelow_31 : decode cX3_hasBitsBelow 31 = .ok (.iconst 1, 1) := by decide +kernel
theorem dX3_hasBitsBelow_32 : decode cX3_hasBitsBelow 32 = .ok (.ireturn, 1) := by decide +kernel
theorem dX3_hasBitsBelow_33 : decode cX3_hasBitsBelow 33 = .ok (.iinc 3 1, 3) := by decide +kernel
theorem dX3_hasBitsBelow_36 : decode cX3_hasBitsBelow 36 = .ok (.goto (-29), 3) := by decide +kernel
theorem dX3_hasBitsBelow_39 : decode cX3_hasBitsBelow 39 = .ok (.iload_n 2, 1) := by decide +kernel
theorem dX3_hasBitsBelow_40 : decode cX3_hasBitsBelow 40 = .ok (.aload_n 0, 1) := by decide +kernel
theorem dX3_hasBitsBelow_41 : decode cX3_hasBitsBelow 41 = .ok (.getfield 17, 3) := by decide +kernel
theorem dX3_hasBitsBelow_44 : decode cX3_hasBitsBelow 44 = .ok (.if_icmp .ge 27, 3) := by decide +kernel
theorem dX3_hasBitsBelow_47 : decode cX3_hasBitsBelow 47 = .ok (.aload_n 0, 1) := by decide +kernel
theorem dX3_hasBitsBelow_48 : decode cX3_hasBitsBelow 48 = .ok (.getfield 9, 3) := by decide +kernel
theorem dX3_hasBitsBelow_51 : decode cX3_hasBitsBelow 51 = .ok (.iload_n 2, 1) := by decide +kernel
theorem dX3_hasBitsBelow_52 : decode cX3_hasBitsBelow 52 = .ok (.laload, 1) := by decide +kernel
theorem dX3_hasBitsBelow_53 : decode cX3_hasBitsBelow 53 = .ok (.lconst 1, 1) := by decide +kernel
theorem dX3_hasBitsBelow_54 : decode cX3_hasBitsBelow 54 = .ok (.iload_n 1, 1) := by decide +kernel
theorem dX3_hasBitsBelow_55 : decode cX3_hasBitsBelow 55 = .ok (.bipush 32, 2) := by decide +kernel
theorem dX3_hasBitsBelow_57 : decode cX3_hasBitsBelow 57 = .ok (.irem, 1) := by decide +kernel
theorem dX3_hasBitsBelow_58 : decode cX3_hasBitsBelow 58 = .ok (.lshl, 1) := by decide +kernel
theorem dX3_hasBitsBelow_59 : decode cX3_hasBitsBelow 59 = .ok (.lconst 1, 1) := by decide +kernel
theorem dX3_hasBitsBelow_60 : decode cX3_hasBitsBelow 60 = .ok (.lsub, 1) := by decide +kernel
theorem dX3_hasBitsBelow_61 : decode cX3_hasBitsBelow 61 = .ok (.land, 1) := by decide +kernel
theorem dX3_hasBitsBelow_62 : decode cX3_hasBitsBelow 62 = .ok (.lconst 0, 1) := by decide +kernel
theorem dX3_hasBitsBelow_63 : decode cX3_hasBitsBelow 63 = .ok (.lcmp, 1) := by decide +kernel
theorem dX3_hasBitsBelow_64 : decode cX3_hasBitsBelow 64 = .ok (.ifCond .eq 7, 3) := by decide +kernel
theorem dX3_hasBitsBelow_67 : decode cX3_hasBitsBelow 67 = .ok (.iconst 1, 1) := by decide +kernel
theorem dX3_hasBitsBelow_68 : decode cX3_hasBitsBelow 68 = .ok (.goto 4, 3) := by decide +kernel
theorem dX3_hasBitsBelow_71 : decode cX3_hasBitsBelow 71 = .ok (.iconst 0, 1) := by decide +kernel
theorem dX3_hasBitsBelow_72 : decode cX3_hasBitsBelow 72 = .ok (.ireturn, 1) := by decide +kernel
theorem dX3_stepDown_0 : decode cX3_stepDown 0 = .ok (.iconst 0, 1) := by decide +kernel
theorem dX3_stepDown_1 : decode cX3_stepDown 1 = .ok (.istore_n 1, 1) := by decide +kernel
theorem dX3_stepDown_2 : decode cX3_stepDown 2 = .ok (.iload_n 1, 1) := by decide +kernel
theorem dX3_stepDown_3 : decode cX3_stepDown 3 = .ok (.aload_n 0, 1) := by decide +kernel
theorem dX3_stepDown_4 : decode cX3_stepDown 4 = .ok (.getfield 17, 3) := by decide +kernel
theorem dX3_stepDown_7 : decode cX3_stepDown 7 = .ok (.if_icmp .ge 29, 3) := by decide +kernel
theorem dX3_stepDown_10 : decode cX3_stepDown 10 = .ok (.aload_n 0, 1) := by decide +kernel
theorem dX3_stepDown_11 : decode cX3_stepDown 11 = .ok (.getfield 9, 3) := by decide +kernel
theorem dX3_stepDown_14 : decode cX3_stepDown 14 = .ok (.iload_n 1, 1) := by decide +kernel
theorem dX3_stepDown_15 : decode cX3_stepDown 15 = .ok (.laload, 1) := by decide +kernel
theorem dX3_stepDown_16 : decode cX3_stepDown 16 = .ok (.ldc2_w 30, 3) := by decide +kernel
theorem dX3_stepDown_19 : decode cX3_stepDown 19 = .ok (.lcmp, 1) := by decide +kernel
theorem dX3_stepDown_20 : decode cX3_stepDown 20 = .ok (.ifCond .ne 16, 3) := by decide +kernel
theorem dX3_stepDown_23 : decode cX3_stepDown 23 = .ok (.aload_n 0, 1) := by decide +kernel
theorem dX3_stepDown_24 : decode cX3_stepDown 24 = .ok (.getfield 9, 3) := by decide +kernel
theorem dX3_stepDown_27 : decode cX3_stepDown 27 = .ok (.iload_n 1, 1) := by decide +kernel
theorem dX3_stepDown_28 : decode cX3_stepDown 28 = .ok (.lconst 0, 1) := by decide +kernel
theorem dX3_stepDown_29 : decode cX3_stepDown 29 = .ok (.lastore, 1) := by decide +kernel
theorem dX3_stepDown_30 : decode cX3_stepDown 30 = .ok (.iinc 1 1, 3) := by decide +kernel
theorem dX3_stepDown_33 : decode cX3_stepDown 33 = .ok (.goto (-31), 3) := by decide +kernel
theorem dX3_stepDown_36 : decode cX3_stepDown 36 = .ok (.iload_n 1, 1) := by decide +kernel
theorem dX3_stepDown_37 : decode cX3_stepDown 37 = .ok (.aload_n 0, 1) := by decide +kernel
theorem dX3_stepDown_38 : decode cX3_stepDown 38 = .ok (.getfield 17, 3) := by decide +kernel
theorem dX3_stepDown_41 : decode cX3_stepDown 41 = .ok (.if_icmp .ne 32, 3) := by decide +kernel
theorem dX3_stepDown_44 : decode cX3_stepDown 44 = .ok (.aload_n 0, 1) := by decide +kernel
theorem dX3_stepDown_45 : decode cX3_stepDown 45 = .ok (.getfield 17, 3) := by decide +kernel
theorem dX3_stepDown_48 : decode cX3_stepDown 48 = .ok (.bipush 24, 2) := by decide +kernel
theorem dX3_stepDown_50 : decode cX3_stepDown 50 = .ok (.if_icmp .ge 23, 3) := by decide +kernel
theorem dX3_stepDown_53 : decode cX3_stepDown 53 = .ok (.aload_n 0, 1) := by decide +kernel
theorem dX3_stepDown_54 : decode cX3_stepDown 54 = .ok (.getfield 9, 3) := by decide +kernel
theorem dX3_stepDown_57 : decode cX3_stepDown 57 = .ok (.aload_n 0, 1) := by decide +kernel
theorem dX3_stepDown_58 : decode cX3_stepDown 58 = .ok (.getfield 17, 3) := by decide +kernel
theorem dX3_stepDown_61 : decode cX3_stepDown 61 = .ok (.lconst 0, 1) := by decide +kernel
theorem dX3_stepDown_62 : decode cX3_stepDown 62 = .ok (.lastore, 1) := by decide +kernel
theorem dX3_stepDown_63 : decode cX3_stepDown 63 = .ok (.aload_n 0, 1) := by decide +kernel
theorem dX3_stepDown_64 : decode cX3_stepDown 64 = .ok (.dup, 1) := by decide +kernel
theorem dX3_stepDown_65 : decode cX3_stepDown 65 = .ok (.getfield 17, 3) := by decide +kernel
theorem dX3_stepDown_68 : decode cX3_stepDown 68 = .ok (.iconst 1, 1) := by decide +kernel
theorem dX3_stepDown_69 : decode cX3_stepDown 69 = .ok (.iadd, 1) := by decide +kernel
theorem dX3_stepDown_70 : decode cX3_stepDown 70 = .ok (.putfield 17, 3) := by decide +kernel
theorem dX3_stepDown_73 : decode cX3_stepDown 73 = .ok (.iload_n 1, 1) := by decide +kernel
theorem dX3_stepDown_74 : decode cX3_stepDown 74 = .ok (.aload_n 0, 1) := by decide +kernel
theorem dX3_stepDown_75 : decode cX3_stepDown 75 = .ok (.getfield 17, 3) := by decide +kernel
theorem dX3_stepDown_78 : decode cX3_stepDown 78 = .ok (.if_icmp .ge 13, 3) := by decide +kernel
theorem dX3_stepDown_81 : decode cX3_stepDown 81 = .ok (.aload_n 0, 1) := by decide +kernel
theorem dX3_stepDown_82 : decode cX3_stepDown 82 = .ok (.getfield 9, 3) := by decide +kernel
theorem dX3_stepDown_85 : decode cX3_stepDown 85 = .ok (.iload_n 1, 1) := by decide +kernel
theorem dX3_stepDown_86 : decode cX3_stepDown 86 = .ok (.dup2, 1) := by decide +kernel
theorem dX3_stepDown_87 : decode cX3_stepDown 87 = .ok (.laload, 1) := by decide +kernel
theorem dX3_stepDown_88 : decode cX3_stepDown 88 = .ok (.lconst 1, 1) := by decide +kernel
theorem dX3_stepDown_89 : decode cX3_stepDown 89 = .ok (.ladd, 1) := by decide +kernel
theorem dX3_stepDown_90 : decode cX3_stepDown 90 = .ok (.lastore, 1) := by decide +kernel
theorem dX3_stepDown_91 : decode cX3_stepDown 91 = .ok (.aload_n 0, 1) := by decide +kernel
theorem dX3_stepDown_92 : decode cX3_stepDown 92 = .ok (.iconst (-1), 1) := by decide +kernel
theorem dX3_stepDown_93 : decode cX3_stepDown 93 = .ok (.putfield 13, 3) := by decide +kernel
theorem dX3_stepDown_96 : decode cX3_stepDown 96 = .ok (.return_, 1) := by decide +kernel
theorem dX3_trim_0 : decode cX3_trim 0 = .ok (.aload_n 0, 1) := by decide +kernel
theorem dX3_trim_1 : decode cX3_trim 1 = .ok (.iload_n 1, 1) := by decide +kernel
theorem dX3_trim_2 : decode cX3_trim 2 = .ok (.putfield 17, 3) := by decide +kernel
theorem dX3_trim_5 : decode cX3_trim 5 = .ok (.aload_n 0, 1) := by decide +kernel
theorem dX3_trim_6 : decode cX3_trim 6 = .ok (.getfield 17, 3) := by decide +kernel
theorem dX3_trim_9 : decode cX3_trim 9 = .ok (.ifCond .le 32, 3) := by decide +kernel
theorem dX3_trim_12 : decode cX3_trim 12 = .ok (.aload_n 0, 1) := by decide +kernel
theorem dX3_trim_13 : decode cX3_trim 13 = .ok (.getfield 9, 3) := by decide +kernel
theorem dX3_trim_16 : decode cX3_trim 16 = .ok (.aload_n 0, 1) := by decide +kernel
theorem dX3_trim_17 : decode cX3_trim 17 = .ok (.getfield 17, 3) := by decide +kernel
theorem dX3_trim_20 : decode cX3_trim 20 = .ok (.iconst 1, 1) := by decide +kernel
theorem dX3_trim_21 : decode cX3_trim 21 = .ok (.isub, 1) := by decide +kernel
theorem dX3_trim_22 : decode cX3_trim 22 = .ok (.laload, 1) := by decide +kernel
theorem dX3_trim_23 : decode cX3_trim 23 = .ok (.lconst 0, 1) := by decide +kernel
theorem dX3_trim_24 : decode cX3_trim 24 = .ok (.lcmp, 1) := by decide +kernel
theorem dX3_trim_25 : decode cX3_trim 25 = .ok (.ifCond .ne 16, 3) := by decide +kernel
theorem dX3_trim_28 : decode cX3_trim 28 = .ok (.aload_n 0, 1) := by decide +kernel
theorem dX3_trim_29 : decode cX3_trim 29 = .ok (.dup, 1) := by decide +kernel
theorem dX3_trim_30 : decode cX3_trim 30 = .ok (.getfield 17, 3) := by decide +kernel
theorem dX3_trim_33 : decode cX3_trim 33 = .ok (.iconst 1, 1) := by decide +kernel
theorem dX3_trim_34 : decode cX3_trim 34 = .ok (.isub, 1) := by decide +kernel
theorem dX3_trim_35 : decode cX3_trim 35 = .ok (.putfield 17, 3) := by decide +kernel
theorem dX3_trim_38 : decode cX3_trim 38 = .ok (.goto (-33), 3) := by decide +kernel
theorem dX3_trim_41 : decode cX3_trim 41 = .ok (.aload_n 0, 1) := by decide +kernel
theorem dX3_trim_42 : decode cX3_trim 42 = .ok (.getfield 17, 3) := by decide +kernel
theorem dX3_trim_45 : decode cX3_trim 45 = .ok (.ifCond .ne 8, 3) := by decide +kernel
theorem dX3_trim_48 : decode cX3_trim 48 = .ok (.aload_n 0, 1) := by decide +kernel
theorem dX3_trim_49 : decode cX3_trim 49 = .ok (.iconst 0, 1) := by decide +kernel
theorem dX3_trim_50 : decode cX3_trim 50 = .ok (.putfield 13, 3) := by decide +kernel
theorem dX3_trim_53 : decode cX3_trim 53 = .ok (.return_, 1) := by decide +kernel
