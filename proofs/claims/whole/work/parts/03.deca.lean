theorem inJ10 : ∀ w ∈ wsJ100, w ∈ lw_tbl := by decide +kernel
theorem dX0_bit_0 : decode cX0_bit 0 = .ok (.iload_n 0, 1) := by decide +kernel
theorem dX0_bit_1 : decode cX0_bit 1 = .ok (.ifCond .lt 9, 3) := by decide +kernel
theorem dX0_bit_4 : decode cX0_bit 4 = .ok (.iload_n 0, 1) := by decide +kernel
theorem dX0_bit_5 : decode cX0_bit 5 = .ok (.bipush 40, 2) := by decide +kernel
theorem dX0_bit_7 : decode cX0_bit 7 = .ok (.if_icmp .lt 7, 3) := by decide +kernel
theorem dX0_bit_10 : decode cX0_bit 10 = .ok (.lconst 0, 1) := by decide +kernel
theorem dX0_bit_11 : decode cX0_bit 11 = .ok (.goto 6, 3) := by decide +kernel
theorem dX0_bit_14 : decode cX0_bit 14 = .ok (.lconst 1, 1) := by decide +kernel
theorem dX0_bit_15 : decode cX0_bit 15 = .ok (.iload_n 0, 1) := by decide +kernel
theorem dX0_bit_16 : decode cX0_bit 16 = .ok (.lshl, 1) := by decide +kernel
theorem dX0_bit_17 : decode cX0_bit 17 = .ok (.lreturn, 1) := by decide +kernel
set_option maxRecDepth 20000 in
theorem ggX0_has_X0_bit : GoodIn wsX0_has wsX0_bit := goodIn_r _ [4] (by decide +kernel) (by decide +kernel)
set_option maxRecDepth 20000 in
theorem gX0_has_X0_bit : GoodIn wsX0_has (va_wsS RX0 9 yX0_bit wsX0_bit) := goodIn_app (goodIn_of _ (by decide +kernel)) ggX0_has_X0_bit
theorem dX0_has_0 : decode cX0_has 0 = .ok (.lload_n 0, 1) := by decide +kernel
theorem dX0_has_1 : decode cX0_has 1 = .ok (.iload_n 2, 1) := by decide +kernel
theorem dX0_has_2 : decode cX0_has 2 = .ok (.invokestatic 9, 3) := by decide +kernel
theorem dX0_has_5 : decode cX0_has 5 = .ok (.land, 1) := by decide +kernel
theorem dX0_has_6 : decode cX0_has 6 = .ok (.lconst 0, 1) := by decide +kernel
theorem dX0_has_7 : decode cX0_has 7 = .ok (.lcmp, 1) := by decide +kernel
theorem dX0_has_8 : decode cX0_has 8 = .ok (.ifCond .eq 7, 3) := by decide +kernel
theorem dX0_has_11 : decode cX0_has 11 = .ok (.iconst 1, 1) := by decide +kernel
theorem dX0_has_12 : decode cX0_has 12 = .ok (.goto 4, 3) := by decide +kernel
theorem dX0_has_15 : decode cX0_has 15 = .ok (.iconst 0, 1) := by decide +kernel
theorem dX0_has_16 : decode cX0_has 16 = .ok (.ireturn, 1) := by decide +kernel
set_option maxRecDepth 20000 in
theorem ggX0_numberOf_X0_has : GoodIn wsX0_numberOf wsX0_has := goodIn_r _ [4, 5, 6, 3, 7] (by decide +kernel) (by decide +kernel)
set_option maxRecDepth 20000 in
theorem gX0_numberOf_X0_has : GoodIn wsX0_numberOf (va_wsS RX0 15 yX0_has wsX0_has) := goodIn_app (goodIn_of _ (by decide +kernel)) ggX0_numberOf_X0_has
theorem dX0_numberOf_0 : decode cX0_numberOf 0 = .ok (.iconst 0, 1) := by decide +kernel
theorem dX0_numberOf_1 : decode cX0_numberOf 1 = .ok (.istore_n 3, 1) := by decide +kernel
theorem dX0_numberOf_2 : decode cX0_numberOf 2 = .ok (.iconst 0, 1) := by decide +kernel
theorem dX0_numberOf_3 : decode cX0_numberOf 3 = .ok (.istore 4, 2) := by decide +kernel
theorem dX0_numberOf_5 : decode cX0_numberOf 5 = .ok (.iload 4, 2) := by decide +kernel
theorem dX0_numberOf_7 : decode cX0_numberOf 7 = .ok (.bipush 40, 2) := by decide +kernel
theorem dX0_numberOf_9 : decode cX0_numberOf 9 = .ok (.if_icmp .ge 29, 3) := by decide +kernel
theorem dX0_numberOf_12 : decode cX0_numberOf 12 = .ok (.lload_n 0, 1) := by decide +kernel
theorem dX0_numberOf_13 : decode cX0_numberOf 13 = .ok (.iload 4, 2) := by decide +kernel
theorem dX0_numberOf_15 : decode cX0_numberOf 15 = .ok (.invokestatic 15, 3) := by decide +kernel
theorem dX0_numberOf_18 : decode cX0_numberOf 18 = .ok (.ifCond .eq 14, 3) := by decide +kernel
theorem dX0_numberOf_21 : decode cX0_numberOf 21 = .ok (.iload_n 3, 1) := by decide +kernel
theorem dX0_numberOf_22 : decode cX0_numberOf 22 = .ok (.iload_n 2, 1) := by decide +kernel
theorem dX0_numberOf_23 : decode cX0_numberOf 23 = .ok (.if_icmp .ne 6, 3) := by decide +kernel
theorem dX0_numberOf_26 : decode cX0_numberOf 26 = .ok (.iload 4, 2) := by decide +kernel
theorem dX0_numberOf_28 : decode cX0_numberOf 28 = .ok (.ireturn, 1) := by decide +kernel
theorem dX0_numberOf_29 : decode cX0_numberOf 29 = .ok (.iinc 3 1, 3) := by decide +kernel
theorem dX0_numberOf_32 : decode cX0_numberOf 32 = .ok (.iinc 4 1, 3) := by decide +kernel
theorem dX0_numberOf_35 : decode cX0_numberOf 35 = .ok (.goto (-30), 3) := by decide +kernel
theorem dX0_numberOf_38 : decode cX0_numberOf 38 = .ok (.iconst (-1), 1) := by decide +kernel
theorem dX0_numberOf_39 : decode cX0_numberOf 39 = .ok (.ireturn, 1) := by decide +kernel
theorem dX1_init_0 : decode cX1_init 0 = .ok (.aload_n 0, 1) := by decide +kernel
theorem dX1_init_1 : decode cX1_init 1 = .ok (.invokespecial 3, 3) := by decide +kernel
theorem dX1_init_4 : decode cX1_init 4 = .ok (.aload_n 0, 1) := by decide +kernel
theorem dX1_init_5 : decode cX1_init 5 = .ok (.bipush 13, 2) := by decide +kernel
theorem dX1_init_7 : decode cX1_init 7 = .ok (.newarray .int, 2) := by decide +kernel
theorem dX1_init_9 : decode cX1_init 9 = .ok (.putfield 9, 3) := by decide +kernel
theorem dX1_init_12 : decode cX1_init 12 = .ok (.aload_n 0, 1) := by decide +kernel
theorem dX1_init_13 : decode cX1_init 13 = .ok (.bipush 13, 2) := by decide +kernel
theorem dX1_init_15 : decode cX1_init 15 = .ok (.newarray .int, 2) := by decide +kernel
theorem dX1_init_17 : decode cX1_init 17 = .ok (.putfield 15, 3) := by decide +kernel
theorem dX1_init_20 : decode cX1_init 20 = .ok (.aload_n 0, 1) := by decide +kernel
theorem dX1_init_21 : decode cX1_init 21 = .ok (.bipush 13, 2) := by decide +kernel
theorem dX1_init_23 : decode cX1_init 23 = .ok (.newarray .int, 2) := by decide +kernel
theorem dX1_init_25 : decode cX1_init 25 = .ok (.putfield 18, 3) := by decide +kernel
theorem dX1_init_28 : decode cX1_init 28 = .ok (.aload_n 0, 1) := by decide +kernel
theorem dX1_init_29 : decode cX1_init 29 = .ok (.bipush 13, 2) := by decide +kernel
theorem dX1_init_31 : decode cX1_init 31 = .ok (.newarray .int, 2) := by decide +kernel
theorem dX1_init_33 : decode cX1_init 33 = .ok (.putfield 21, 3) := by decide +kernel
theorem dX1_init_36 : decode cX1_init 36 = .ok (.aload_n 0, 1) := by decide +kernel
theorem dX1_init_37 : decode cX1_init 37 = .ok (.bipush 13, 2) := by decide +kernel
theorem dX1_init_39 : decode cX1_init 39 = .ok (.newarray .long, 2) := by decide +kernel
theorem dX1_init_41 : decode cX1_init 41 = .ok (.putfield 24, 3) := by decide +kernel
theorem dX1_init_44 : decode cX1_init 44 = .ok (.return_, 1) := by decide +kernel
set_option maxRecDepth 20000 in
theorem ggX1_lay_X1_firstStar : GoodIn wsX1_lay wsX1_firstStar := goodIn_r _ [7, 8, 9, 10, 11, 12, 13, 14, 15, 16, 17, 18, 19, 20, 21, 22, 74, 75] (by decide +kernel) (by decide +kernel)
set_option maxRecDepth 20000 in
theorem gX1_lay_X1_firstStar : GoodIn wsX1_lay (va_wsS RX1 38 yX1_firstStar wsX1_firstStar) := goodIn_app (goodIn_of _ (by decide +kernel)) ggX1_lay_X1_firstStar
set_option maxRecDepth 20000 in
theorem ggX1_lay_X1_lastStar : GoodIn wsX1_lay wsX1_lastStar := goodIn_r _ [25, 8, 9, 10, 11, 12, 13, 14, 15, 16, 17, 18, 19, 20, 21, 22, 74, 75] (by decide +kernel) (by decide +kernel)
set_option maxRecDepth 20000 in
theorem gX1_lay_X1_lastStar : GoodIn wsX1_lay (va_wsS RX1 42 yX1_lastStar wsX1_lastStar) := goodIn_app (goodIn_of _ (by decide +kernel)) ggX1_lay_X1_lastStar
set_option maxRecDepth 20000 in
theorem ggX1_lay_X1_beginPiece : GoodIn wsX1_lay wsX1_beginPiece := goodIn_r _ [29, 3, 30, 65, 66, 67, 68, 69, 70, 71, 72, 73] (by decide +kernel) (by decide +kernel)
set_option maxRecDepth 20000 in
theorem gX1_lay_X1_beginPiece : GoodIn wsX1_lay (wsV RX1 45 RX1 yX1_beginPiece wsX1_beginPiece) := goodIn_app (goodIn_of _ (by decide +kernel)) ggX1_lay_X1_beginPiece
set_option maxRecDepth 20000 in
theorem ggX1_lay_X5_size : GoodIn wsX1_lay wsX5_size := goodIn_r _ [12, 13, 74, 75] (by decide +kernel) (by decide +kernel)
set_option maxRecDepth 20000 in
theorem gX1_lay_X5_size : GoodIn wsX1_lay (wsV RX1 48 RX5 yX5_size wsX5_size) := goodIn_app (goodIn_of _ (by decide +kernel)) ggX1_lay_X5_size
set_option maxRecDepth 20000 in
theorem ggX1_lay_X1_layPart : GoodIn wsX1_lay wsX1_layPart := goodIn_r _ [34, 14, 15, 16, 11, 17, 18, 19, 20, 21, 22, 13, 35, 36, 37, 6, 38, 30, 1, 2, 39, 40, 41, 42, 43, 44, 45, 46, 47, 3, 48, 49, 50, 51, 52, 53, 54, 55, 56, 57, 58, 59, 60, 74, 75, 65, 66, 67, 68, 69, 70, 71, 72, 73] (by decide +kernel) (by decide +kernel)
set_option maxRecDepth 20000 in
theorem gX1_lay_X1_layPart : GoodIn wsX1_lay (wsV RX1 53 RX1 yX1_layPart wsX1_layPart) := goodIn_app (goodIn_of _ (by decide +kernel)) ggX1_lay_X1_layPart
set_option maxRecDepth 20000 in
theorem ggX1_lay_X1_laySign : GoodIn wsX1_lay wsX1_laySign := goodIn_r _ [38, 30, 1, 2, 39, 40, 41, 42, 43, 44, 6, 45, 46, 47, 3, 48, 49, 50, 51, 52, 53, 54, 55, 56, 57, 58, 59, 60, 65, 66, 67, 68, 69, 70, 71, 72, 73] (by decide +kernel) (by decide +kernel)
set_option maxRecDepth 20000 in
theorem gX1_lay_X1_laySign : GoodIn wsX1_lay (wsV RX1 57 RX1 yX1_laySign wsX1_laySign) := goodIn_app (goodIn_of _ (by decide +kernel)) ggX1_lay_X1_laySign
set_option maxRecDepth 20000 in
theorem ggX1_lay_X1_layBetween : GoodIn wsX1_lay wsX1_layBetween := goodIn_r _ [64, 14, 15, 16, 11, 17, 18, 19, 20, 21, 22, 13, 26, 27, 28, 6, 29, 3, 30, 35, 36, 37, 38, 1, 2, 39, 40, 41, 42, 43, 44, 45, 46, 47, 48, 49, 50, 51, 52, 53, 54, 55, 56, 57, 58, 59, 60, 74, 75, 65, 66, 67, 68, 69, 70, 71, 72, 73] (by decide +kernel) (by decide +kernel)
set_option maxRecDepth 20000 in
theorem gX1_lay_X1_layBetween : GoodIn wsX1_lay (wsV RX1 61 RX1 yX1_layBetween wsX1_layBetween) := goodIn_app (goodIn_of _ (by decide +kernel)) ggX1_lay_X1_layBetween
theorem dX1_lay_0 : decode cX1_lay 0 = .ok (.aload_n 0, 1) := by decide +kernel
theorem dX1_lay_1 : decode cX1_lay 1 = .ok (.iconst 0, 1) := by decide +kernel
theorem dX1_lay_2 : decode cX1_lay 2 = .ok (.putfield 28, 3) := by decide +kernel
theorem dX1_lay_5 : decode cX1_lay 5 = .ok (.aload_n 0, 1) := by decide +kernel
theorem dX1_lay_6 : decode cX1_lay 6 = .ok (.iconst 0, 1) := by decide +kernel
theorem dX1_lay_7 : decode cX1_lay 7 = .ok (.putfield 32, 3) := by decide +kernel
theorem dX1_lay_10 : decode cX1_lay 10 = .ok (.aload_n 0, 1) := by decide +kernel
theorem dX1_lay_11 : decode cX1_lay 11 = .ok (.iconst 0, 1) := by decide +kernel
theorem dX1_lay_12 : decode cX1_lay 12 = .ok (.putfield 35, 3) := by decide +kernel
theorem dX1_lay_15 : decode cX1_lay 15 = .ok (.aload_n 1, 1) := by decide +kernel
theorem dX1_lay_16 : decode cX1_lay 16 = .ok (.invokestatic 38, 3) := by decide +kernel
theorem dX1_lay_19 : decode cX1_lay 19 = .ok (.istore_n 2, 1) := by decide +kernel
theorem dX1_lay_20 : decode cX1_lay 20 = .ok (.aload_n 1, 1) := by decide +kernel
theorem dX1_lay_21 : decode cX1_lay 21 = .ok (.invokestatic 42, 3) := by decide +kernel
theorem dX1_lay_24 : decode cX1_lay 24 = .ok (.istore_n 3, 1) := by decide +kernel
theorem dX1_lay_25 : decode cX1_lay 25 = .ok (.aload_n 0, 1) := by decide +kernel
theorem dX1_lay_26 : decode cX1_lay 26 = .ok (.invokevirtual 45, 3) := by decide +kernel
theorem dX1_lay_29 : decode cX1_lay 29 = .ok (.aload_n 0, 1) := by decide +kernel
theorem dX1_lay_30 : decode cX1_lay 30 = .ok (.aload_n 1, 1) := by decide +kernel
theorem dX1_lay_31 : decode cX1_lay 31 = .ok (.iload_n 3, 1) := by decide +kernel
theorem dX1_lay_32 : decode cX1_lay 32 = .ok (.iconst 1, 1) := by decide +kernel
theorem dX1_lay_33 : decode cX1_lay 33 = .ok (.iadd, 1) := by decide +kernel
theorem dX1_lay_34 : decode cX1_lay 34 = .ok (.aload_n 1, 1) := by decide +kernel
theorem dX1_lay_35 : decode cX1_lay 35 = .ok (.invokevirtual 48, 3) := by decide +kernel
theorem dX1_lay_38 : decode cX1_lay 38 = .ok (.invokevirtual 53, 3) := by decide +kernel
theorem dX1_lay_41 : decode cX1_lay 41 = .ok (.aload_n 0, 1) := by decide +kernel
theorem dX1_lay_42 : decode cX1_lay 42 = .ok (.bipush 36, 2) := by decide +kernel
theorem dX1_lay_44 : decode cX1_lay 44 = .ok (.invokevirtual 57, 3) := by decide +kernel
theorem dX1_lay_47 : decode cX1_lay 47 = .ok (.aload_n 0, 1) := by decide +kernel
theorem dX1_lay_48 : decode cX1_lay 48 = .ok (.aload_n 1, 1) := by decide +kernel
theorem dX1_lay_49 : decode cX1_lay 49 = .ok (.iconst 0, 1) := by decide +kernel
theorem dX1_lay_50 : decode cX1_lay 50 = .ok (.iload_n 2, 1) := by decide +kernel
theorem dX1_lay_51 : decode cX1_lay 51 = .ok (.invokevirtual 53, 3) := by decide +kernel
theorem dX1_lay_54 : decode cX1_lay 54 = .ok (.aload_n 0, 1) := by decide +kernel
theorem dX1_lay_55 : decode cX1_lay 55 = .ok (.aload_n 1, 1) := by decide +kernel
theorem dX1_lay_56 : decode cX1_lay 56 = .ok (.iload_n 2, 1) := by decide +kernel
theorem dX1_lay_57 : decode cX1_lay 57 = .ok (.iload_n 3, 1) := by decide +kernel
theorem dX1_lay_58 : decode cX1_lay 58 = .ok (.invokevirtual 61, 3) := by decide +kernel
theorem dX1_lay_61 : decode cX1_lay 61 = .ok (.return_, 1) := by decide +kernel
set_option maxRecDepth 20000 in
theorem ggX1_firstStar_X5_size : GoodIn wsX1_firstStar wsX5_size := goodIn_r _ [5, 6, 16, 17] (by decide +kernel) (by decide +kernel)
set_option maxRecDepth 20000 in
theorem gX1_firstStar_X5_size : GoodIn wsX1_firstStar (wsV RX1 48 RX5 yX5_size wsX5_size) := goodIn_app (goodIn_of _ (by decide +kernel)) ggX1_firstStar_X5_size
set_option maxRecDepth 20000 in
theorem ggX1_firstStar_X5_at : GoodIn wsX1_firstStar wsX5_at := goodIn_r _ [10, 11, 12, 13, 14, 4, 15, 6, 16, 17] (by decide +kernel) (by decide +kernel)
set_option maxRecDepth 20000 in
theorem gX1_firstStar_X5_at : GoodIn wsX1_firstStar (wsV RX1 64 RX5 yX5_at wsX5_at) := goodIn_app (goodIn_of _ (by decide +kernel)) ggX1_firstStar_X5_at
theorem dX1_firstStar_0 : decode cX1_firstStar 0 = .ok (.iconst 0, 1) := by decide +kernel
theorem dX1_firstStar_1 : decode cX1_firstStar 1 = .ok (.istore_n 1, 1) := by decide +kernel
theorem dX1_firstStar_2 : decode cX1_firstStar 2 = .ok (.iload_n 1, 1) := by decide +kernel
theorem dX1_firstStar_3 : decode cX1_firstStar 3 = .ok (.aload_n 0, 1) := by decide +kernel
theorem dX1_firstStar_4 : decode cX1_firstStar 4 = .ok (.invokevirtual 48, 3) := by decide +kernel
theorem dX1_firstStar_7 : decode cX1_firstStar 7 = .ok (.if_icmp .ge 21, 3) := by decide +kernel
theorem dX1_firstStar_10 : decode cX1_firstStar 10 = .ok (.aload_n 0, 1) := by decide +kernel
theorem dX1_firstStar_11 : decode cX1_firstStar 11 = .ok (.iload_n 1, 1) := by decide +kernel
theorem dX1_firstStar_12 : decode cX1_firstStar 12 = .ok (.invokevirtual 64, 3) := by decide +kernel
theorem dX1_firstStar_15 : decode cX1_firstStar 15 = .ok (.bipush 42, 2) := by decide +kernel
theorem dX1_firstStar_17 : decode cX1_firstStar 17 = .ok (.if_icmp .ne 5, 3) := by decide +kernel
theorem dX1_firstStar_20 : decode cX1_firstStar 20 = .ok (.iload_n 1, 1) := by decide +kernel
theorem dX1_firstStar_21 : decode cX1_firstStar 21 = .ok (.ireturn, 1) := by decide +kernel
theorem dX1_firstStar_22 : decode cX1_firstStar 22 = .ok (.iinc 1 1, 3) := by decide +kernel
theorem dX1_firstStar_25 : decode cX1_firstStar 25 = .ok (.goto (-23), 3) := by decide +kernel
theorem dX1_firstStar_28 : decode cX1_firstStar 28 = .ok (.iconst (-1), 1) := by decide +kernel
theorem dX1_firstStar_29 : decode cX1_firstStar 29 = .ok (.ireturn, 1) := by decide +kernel
set_option maxRecDepth 20000 in
theorem ggX1_lastStar_X5_size : GoodIn wsX1_lastStar wsX5_size := goodIn_r _ [5, 6, 16, 17] (by decide +kernel) (by decide +kernel)
set_option maxRecDepth 20000 in
theorem gX1_lastStar_X5_size : GoodIn wsX1_lastStar (wsV RX1 48 RX5 yX5_size wsX5_size) := goodIn_app (goodIn_of _ (by decide +kernel)) ggX1_lastStar_X5_size
set_option maxRecDepth 20000 in
theorem ggX1_lastStar_X5_at : GoodIn wsX1_lastStar wsX5_at := goodIn_r _ [10, 11, 12, 13, 14, 4, 15, 6, 16, 17] (by decide +kernel) (by decide +kernel)
set_option maxRecDepth 20000 in
theorem gX1_lastStar_X5_at : GoodIn wsX1_lastStar (wsV RX1 64 RX5 yX5_at wsX5_at) := goodIn_app (goodIn_of _ (by decide +kernel)) ggX1_lastStar_X5_at
theorem dX1_lastStar_0 : decode cX1_lastStar 0 = .ok (.aload_n 0, 1) := by decide +kernel
theorem dX1_lastStar_1 : decode cX1_lastStar 1 = .ok (.invokevirtual 48, 3) := by decide +kernel
theorem dX1_lastStar_4 : decode cX1_lastStar 4 = .ok (.iconst 1, 1) := by decide +kernel
theorem dX1_lastStar_5 : decode cX1_lastStar 5 = .ok (.isub, 1) := by decide +kernel
theorem dX1_lastStar_6 : decode cX1_lastStar 6 = .ok (.istore_n 1, 1) := by decide +kernel
theorem dX1_lastStar_7 : decode cX1_lastStar 7 = .ok (.iload_n 1, 1) := by decide +kernel
theorem dX1_lastStar_8 : decode cX1_lastStar 8 = .ok (.ifCond .lt 21, 3) := by decide +kernel
theorem dX1_lastStar_11 : decode cX1_lastStar 11 = .ok (.aload_n 0, 1) := by decide +kernel
theorem dX1_lastStar_12 : decode cX1_lastStar 12 = .ok (.iload_n 1, 1) := by decide +kernel
theorem dX1_lastStar_13 : decode cX1_lastStar 13 = .ok (.invokevirtual 64, 3) := by decide +kernel
theorem dX1_lastStar_16 : decode cX1_lastStar 16 = .ok (.bipush 42, 2) := by decide +kernel
theorem dX1_lastStar_18 : decode cX1_lastStar 18 = .ok (.if_icmp .ne 5, 3) := by decide +kernel
theorem dX1_lastStar_21 : decode cX1_lastStar 21 = .ok (.iload_n 1, 1) := by decide +kernel
theorem dX1_lastStar_22 : decode cX1_lastStar 22 = .ok (.ireturn, 1) := by decide +kernel
theorem dX1_lastStar_23 : decode cX1_lastStar 23 = .ok (.iinc 1 (-1), 3) := by decide +kernel
theorem dX1_lastStar_26 : decode cX1_lastStar 26 = .ok (.goto (-19), 3) := by decide +kernel
theorem dX1_lastStar_29 : decode cX1_lastStar 29 = .ok (.iconst (-1), 1) := by decide +kernel
theorem dX1_lastStar_30 : decode cX1_lastStar 30 = .ok (.ireturn, 1) := by decide +kernel
set_option maxRecDepth 20000 in
theorem ggX1_layPart_X5_at : GoodIn wsX1_layPart wsX5_at := goodIn_r _ [5, 6, 7, 8, 9, 4, 10, 11, 43, 44] (by decide +kernel) (by decide +kernel)
set_option maxRecDepth 20000 in
theorem gX1_layPart_X5_at : GoodIn wsX1_layPart (wsV RX1 64 RX5 yX5_at wsX5_at) := goodIn_app (goodIn_of _ (by decide +kernel)) ggX1_layPart_X5_at
set_option maxRecDepth 20000 in
theorem ggX1_layPart_X1_laySign : GoodIn wsX1_layPart wsX1_laySign := goodIn_r _ [16, 17, 18, 19, 20, 21, 22, 23, 24, 25, 15, 26, 27, 28, 29, 30, 31, 32, 33, 34, 35, 36, 37, 38, 39, 40, 41, 42, 45, 46, 47, 48, 49, 50, 51, 52, 53] (by decide +kernel) (by decide +kernel)
set_option maxRecDepth 20000 in
theorem gX1_layPart_X1_laySign : GoodIn wsX1_layPart (wsV RX1 57 RX1 yX1_laySign wsX1_laySign) := goodIn_app (goodIn_of _ (by decide +kernel)) ggX1_layPart_X1_laySign
theorem dX1_layPart_0 : decode cX1_layPart 0 = .ok (.iload_n 2, 1) := by decide +kernel
theorem dX1_layPart_1 : decode cX1_layPart 1 = .ok (.istore 4, 2) := by decide +kernel
theorem dX1_layPart_3 : decode cX1_layPart 3 = .ok (.iload 4, 2) := by decide +kernel
theorem dX1_layPart_5 : decode cX1_layPart 5 = .ok (.iload_n 3, 1) := by decide +kernel
theorem dX1_layPart_6 : decode cX1_layPart 6 = .ok (.if_icmp .ge 19, 3) := by decide +kernel
theorem dX1_layPart_9 : decode cX1_layPart 9 = .ok (.aload_n 0, 1) := by decide +kernel
theorem dX1_layPart_10 : decode cX1_layPart 10 = .ok (.aload_n 1, 1) := by decide +kernel
theorem dX1_layPart_11 : decode cX1_layPart 11 = .ok (.iload 4, 2) := by decide +kernel
theorem dX1_layPart_13 : decode cX1_layPart 13 = .ok (.invokevirtual 64, 3) := by decide +kernel
theorem dX1_layPart_16 : decode cX1_layPart 16 = .ok (.invokevirtual 57, 3) := by decide +kernel
theorem dX1_layPart_19 : decode cX1_layPart 19 = .ok (.iinc 4 1, 3) := by decide +kernel
theorem dX1_layPart_22 : decode cX1_layPart 22 = .ok (.goto (-19), 3) := by decide +kernel
theorem dX1_layPart_25 : decode cX1_layPart 25 = .ok (.return_, 1) := by decide +kernel
set_option maxRecDepth 20000 in
theorem ggX1_layBetween_X5_at : GoodIn wsX1_layBetween wsX5_at := goodIn_r _ [5, 6, 7, 8, 9, 4, 10, 11, 47, 48] (by decide +kernel) (by decide +kernel)
set_option maxRecDepth 20000 in
theorem gX1_layBetween_X5_at : GoodIn wsX1_layBetween (wsV RX1 64 RX5 yX5_at wsX5_at) := goodIn_app (goodIn_of _ (by decide +kernel)) ggX1_layBetween_X5_at
set_option maxRecDepth 20000 in
theorem ggX1_layBetween_X1_beginPiece : GoodIn wsX1_layBetween wsX1_beginPiece := goodIn_r _ [16, 17, 18, 49, 50, 51, 52, 53, 54, 55, 56, 57] (by decide +kernel) (by decide +kernel)
set_option maxRecDepth 20000 in
theorem gX1_layBetween_X1_beginPiece : GoodIn wsX1_layBetween (wsV RX1 45 RX1 yX1_beginPiece wsX1_beginPiece) := goodIn_app (goodIn_of _ (by decide +kernel)) ggX1_layBetween_X1_beginPiece
set_option maxRecDepth 20000 in
theorem ggX1_layBetween_X1_laySign : GoodIn wsX1_layBetween wsX1_laySign := goodIn_r _ [22, 18, 23, 24, 25, 26, 27, 28, 29, 30, 15, 31, 32, 33, 17, 34, 35, 36, 37, 38, 39, 40, 41, 42, 43, 44, 45, 46, 49, 50, 51, 52, 53, 54, 55, 56, 57] (by decide +kernel) (by decide +kernel)
set_option maxRecDepth 20000 in
theorem gX1_layBetween_X1_laySign : GoodIn wsX1_layBetween (wsV RX1 57 RX1 yX1_laySign wsX1_laySign) := goodIn_app (goodIn_of _ (by decide +kernel)) ggX1_layBetween_X1_laySign
theorem dX1_layBetween_0 : decode cX1_layBetween 0 = .ok (.iload_n 2, 1) := by decide +kernel
theorem dX1_layBetween_1 : decode cX1_layBetween 1 = .ok (.iconst 1, 1) := by decide +kernel
theorem dX1_layBetween_2 : decode cX1_layBetween 2 = .ok (.iadd, 1) := by decide +kernel
theorem dX1_layBetween_3 : decode cX1_layBetween 3 = .ok (.istore 4, 2) := by decide +kernel
theorem dX1_layBetween_5 : decode cX1_layBetween 5 = .ok (.iload 4, 2) := by decide +kernel
theorem dX1_layBetween_7 : decode cX1_layBetween 7 = .ok (.iload_n 3, 1) := by decide +kernel
theorem dX1_layBetween_8 : decode cX1_layBetween 8 = .ok (.if_icmp .ge 47, 3) := by decide +kernel
theorem dX1_layBetween_11 : decode cX1_layBetween 11 = .ok (.aload_n 1, 1) := by decide +kernel
theorem dX1_layBetween_12 : decode cX1_layBetween 12 = .ok (.iload 4, 2) := by decide +kernel
theorem dX1_layBetween_14 : decode cX1_layBetween 14 = .ok (.invokevirtual 64, 3) := by decide +kernel
theorem dX1_layBetween_17 : decode cX1_layBetween 17 = .ok (.istore 5, 2) := by decide +kernel
theorem dX1_layBetween_19 : decode cX1_layBetween 19 = .ok (.iload 5, 2) := by decide +kernel
theorem dX1_layBetween_21 : decode cX1_layBetween 21 = .ok (.bipush 42, 2) := by decide +kernel
theorem dX1_layBetween_23 : decode cX1_layBetween 23 = .ok (.if_icmp .eq 26, 3) := by decide +kernel
theorem dX1_layBetween_26 : decode cX1_layBetween 26 = .ok (.aload_n 1, 1) := by decide +kernel
theorem dX1_layBetween_27 : decode cX1_layBetween 27 = .ok (.iload 4, 2) := by decide +kernel
theorem dX1_layBetween_29 : decode cX1_layBetween 29 = .ok (.iconst 1, 1) := by decide +kernel
theorem dX1_layBetween_30 : decode cX1_layBetween 30 = .ok (.isub, 1) := by decide +kernel
theorem dX1_layBetween_31 : decode cX1_layBetween 31 = .ok (.invokevirtual 64, 3) := by decide +kernel
theorem dX1_layBetween_34 : decode cX1_layBetween 34 = .ok (.bipush 42, 2) := by decide +kernel
theorem dX1_layBetween_36 : decode cX1_layBetween 36 = .ok (.if_icmp .ne 7, 3) := by decide +kernel
theorem dX1_layBetween_39 : decode cX1_layBetween 39 = .ok (.aload_n 0, 1) := by decide +kernel
theorem dX1_layBetween_40 : decode cX1_layBetween 40 = .ok (.invokevirtual 45, 3) := by decide +kernel
theorem dX1_layBetween_43 : decode cX1_layBetween 43 = .ok (.aload_n 0, 1) := by decide +kernel
theorem dX1_layBetween_44 : decode cX1_layBetween 44 = .ok (.iload 5, 2) := by decide +kernel
theorem dX1_layBetween_46 : decode cX1_layBetween 46 = .ok (.invokevirtual 57, 3) := by decide +kernel
theorem dX1_layBetween_49 : decode cX1_layBetween 49 = .ok (.iinc 4 1, 3) := by decide +kernel
theorem dX1_layBetween_52 : decode cX1_layBetween 52 = .ok (.goto (-47), 3) := by decide +kernel
theorem dX1_layBetween_55 : decode cX1_layBetween 55 = .ok (.return_, 1) := by decide +kernel
theorem dX1_beginPiece_0 : decode cX1_beginPiece 0 = .ok (.aload_n 0, 1) := by decide +kernel
theorem dX1_beginPiece_1 : decode cX1_beginPiece 1 = .ok (.dup, 1) := by decide +kernel
theorem dX1_beginPiece_2 : decode cX1_beginPiece 2 = .ok (.getfield 35, 3) := by decide +kernel
theorem dX1_beginPiece_5 : decode cX1_beginPiece 5 = .ok (.iconst 1, 1) := by decide +kernel
theorem dX1_beginPiece_6 : decode cX1_beginPiece 6 = .ok (.iadd, 1) := by decide +kernel
theorem dX1_beginPiece_7 : decode cX1_beginPiece 7 = .ok (.putfield 35, 3) := by decide +kernel
theorem dX1_beginPiece_10 : decode cX1_beginPiece 10 = .ok (.aload_n 0, 1) := by decide +kernel
theorem dX1_beginPiece_11 : decode cX1_beginPiece 11 = .ok (.iconst 0, 1) := by decide +kernel
theorem dX1_beginPiece_12 : decode cX1_beginPiece 12 = .ok (.putfield 68, 3) := by decide +kernel
theorem dX1_beginPiece_15 : decode cX1_beginPiece 15 = .ok (.return_, 1) := by decide +kernel
set_option maxRecDepth 20000 in
theorem ggX1_laySign_X1_beginRun : GoodIn wsX1_laySign wsX1_beginRun := goodIn_r _ [11, 12, 3, 2, 6, 13, 14, 5, 1, 28, 29, 30, 31, 32, 33, 34, 35, 36] (by decide +kernel) (by decide +kernel)
set_option maxRecDepth 20000 in
theorem gX1_laySign_X1_beginRun : GoodIn wsX1_laySign (wsV RX1 72 RX1 yX1_beginRun wsX1_beginRun) := goodIn_app (goodIn_of _ (by decide +kernel)) ggX1_laySign_X1_beginRun
set_option maxRecDepth 20000 in
theorem ggX1_laySign_X8_put : GoodIn wsX1_laySign wsX8_put := goodIn_r _ [18, 19, 20, 17, 21, 22, 23, 24, 25, 26, 27] (by decide +kernel) (by decide +kernel)
set_option maxRecDepth 20000 in
theorem gX1_laySign_X8_put : GoodIn wsX1_laySign (va_wsS RX1 75 yX8_put wsX8_put) := goodIn_app (goodIn_of _ (by decide +kernel)) ggX1_laySign_X8_put
theorem dX1_laySign_0 : decode cX1_laySign 0 = .ok (.iload_n 1, 1) := by decide +kernel
theorem dX1_laySign_1 : decode cX1_laySign 1 = .ok (.bipush 63, 2) := by decide +kernel
theorem dX1_laySign_3 : decode cX1_laySign 3 = .ok (.if_icmp .ne 9, 3) := by decide +kernel
theorem dX1_laySign_6 : decode cX1_laySign 6 = .ok (.aload_n 0, 1) := by decide +kernel
theorem dX1_laySign_7 : decode cX1_laySign 7 = .ok (.iconst 0, 1) := by decide +kernel
theorem dX1_laySign_8 : decode cX1_laySign 8 = .ok (.putfield 68, 3) := by decide +kernel
theorem dX1_laySign_11 : decode cX1_laySign 11 = .ok (.return_, 1) := by decide +kernel
theorem dX1_laySign_12 : decode cX1_laySign 12 = .ok (.aload_n 0, 1) := by decide +kernel
theorem dX1_laySign_13 : decode cX1_laySign 13 = .ok (.getfield 28, 3) := by decide +kernel
theorem dX1_laySign_16 : decode cX1_laySign 16 = .ok (.bipush 13, 2) := by decide +kernel
theorem dX1_laySign_18 : decode cX1_laySign 18 = .ok (.if_icmp .lt 4, 3) := by decide +kernel
theorem dX1_laySign_21 : decode cX1_laySign 21 = .ok (.return_, 1) := by decide +kernel
theorem dX1_laySign_22 : decode cX1_laySign 22 = .ok (.aload_n 0, 1) := by decide +kernel
theorem dX1_laySign_23 : decode cX1_laySign 23 = .ok (.getfield 68, 3) := by decide +kernel
theorem dX1_laySign_26 : decode cX1_laySign 26 = .ok (.ifCond .ne 7, 3) := by decide +kernel
theorem dX1_laySign_29 : decode cX1_laySign 29 = .ok (.aload_n 0, 1) := by decide +kernel
theorem dX1_laySign_30 : decode cX1_laySign 30 = .ok (.invokevirtual 72, 3) := by decide +kernel
theorem dX1_laySign_33 : decode cX1_laySign 33 = .ok (.aload_n 0, 1) := by decide +kernel
theorem dX1_laySign_34 : decode cX1_laySign 34 = .ok (.getfield 32, 3) := by decide +kernel
theorem dX1_laySign_37 : decode cX1_laySign 37 = .ok (.iconst 1, 1) := by decide +kernel
theorem dX1_laySign_38 : decode cX1_laySign 38 = .ok (.isub, 1) := by decide +kernel
theorem dX1_laySign_39 : decode cX1_laySign 39 = .ok (.istore_n 2, 1) := by decide +kernel
theorem dX1_laySign_40 : decode cX1_laySign 40 = .ok (.aload_n 0, 1) := by decide +kernel
theorem dX1_laySign_41 : decode cX1_laySign 41 = .ok (.getfield 9, 3) := by decide +kernel
theorem dX1_laySign_44 : decode cX1_laySign 44 = .ok (.aload_n 0, 1) := by decide +kernel
theorem dX1_laySign_45 : decode cX1_laySign 45 = .ok (.getfield 28, 3) := by decide +kernel
theorem dX1_laySign_48 : decode cX1_laySign 48 = .ok (.iload_n 1, 1) := by decide +kernel
theorem dX1_laySign_49 : decode cX1_laySign 49 = .ok (.iastore, 1) := by decide +kernel
theorem dX1_laySign_50 : decode cX1_laySign 50 = .ok (.aload_n 0, 1) := by decide +kernel
theorem dX1_laySign_51 : decode cX1_laySign 51 = .ok (.dup, 1) := by decide +kernel
theorem dX1_laySign_52 : decode cX1_laySign 52 = .ok (.getfield 28, 3) := by decide +kernel
theorem dX1_laySign_55 : decode cX1_laySign 55 = .ok (.iconst 1, 1) := by decide +kernel
theorem dX1_laySign_56 : decode cX1_laySign 56 = .ok (.iadd, 1) := by decide +kernel
theorem dX1_laySign_57 : decode cX1_laySign 57 = .ok (.putfield 28, 3) := by decide +kernel
theorem dX1_laySign_60 : decode cX1_laySign 60 = .ok (.aload_n 0, 1) := by decide +kernel
theorem dX1_laySign_61 : decode cX1_laySign 61 = .ok (.getfield 24, 3) := by decide +kernel
theorem dX1_laySign_64 : decode cX1_laySign 64 = .ok (.iload_n 2, 1) := by decide +kernel
theorem dX1_laySign_65 : decode cX1_laySign 65 = .ok (.aload_n 0, 1) := by decide +kernel
theorem dX1_laySign_66 : decode cX1_laySign 66 = .ok (.getfield 24, 3) := by decide +kernel
theorem dX1_laySign_69 : decode cX1_laySign 69 = .ok (.iload_n 2, 1) := by decide +kernel
theorem dX1_laySign_70 : decode cX1_laySign 70 = .ok (.laload, 1) := by decide +kernel
theorem dX1_laySign_71 : decode cX1_laySign 71 = .ok (.aload_n 0, 1) := by decide +kernel
theorem dX1_laySign_72 : decode cX1_laySign 72 = .ok (.getfield 18, 3) := by decide +kernel
theorem dX1_laySign_75 : decode cX1_laySign 75 = .ok (.iload_n 2, 1) := by decide +kernel
theorem dX1_laySign_76 : decode cX1_laySign 76 = .ok (.iaload, 1) := by decide +kernel
theorem dX1_laySign_77 : decode cX1_laySign 77 = .ok (.iload_n 1, 1) := by decide +kernel
theorem dX1_laySign_78 : decode cX1_laySign 78 = .ok (.invokestatic 75, 3) := by decide +kernel
theorem dX1_laySign_81 : decode cX1_laySign 81 = .ok (.lastore, 1) := by decide +kernel
theorem dX1_laySign_82 : decode cX1_laySign 82 = .ok (.aload_n 0, 1) := by decide +kernel
theorem dX1_laySign_83 : decode cX1_laySign 83 = .ok (.getfield 18, 3) := by decide +kernel
theorem dX1_laySign_86 : decode cX1_laySign 86 = .ok (.iload_n 2, 1) := by decide +kernel
theorem dX1_laySign_87 : decode cX1_laySign 87 = .ok (.dup2, 1) := by decide +kernel
theorem dX1_laySign_88 : decode cX1_laySign 88 = .ok (.iaload, 1) := by decide +kernel
theorem dX1_laySign_89 : decode cX1_laySign 89 = .ok (.iconst 1, 1) := by decide +kernel
theorem dX1_laySign_90 : decode cX1_laySign 90 = .ok (.iadd, 1) := by decide +kernel
theorem dX1_laySign_91 : decode cX1_laySign 91 = .ok (.iastore, 1) := by decide +kernel
theorem dX1_laySign_92 : decode cX1_laySign 92 = .ok (.return_, 1) := by decide +kernel
theorem dX1_beginRun_0 : decode cX1_beginRun 0 = .ok (.aload_n 0, 1) := by decide +kernel
theorem dX1_beginRun_1 : decode cX1_beginRun 1 = .ok (.getfield 15, 3) := by decide +kernel
theorem dX1_beginRun_4 : decode cX1_beginRun 4 = .ok (.aload_n 0, 1) := by decide +kernel
theorem dX1_beginRun_5 : decode cX1_beginRun 5 = .ok (.getfield 32, 3) := by decide +kernel
theorem dX1_beginRun_8 : decode cX1_beginRun 8 = .ok (.aload_n 0, 1) := by decide +kernel
theorem dX1_beginRun_9 : decode cX1_beginRun 9 = .ok (.getfield 28, 3) := by decide +kernel
theorem dX1_beginRun_12 : decode cX1_beginRun 12 = .ok (.iastore, 1) := by decide +kernel
theorem dX1_beginRun_13 : decode cX1_beginRun 13 = .ok (.aload_n 0, 1) := by decide +kernel
theorem dX1_beginRun_14 : decode cX1_beginRun 14 = .ok (.getfield 18, 3) := by decide +kernel
theorem dX1_beginRun_17 : decode cX1_beginRun 17 = .ok (.aload_n 0, 1) := by decide +kernel
theorem dX1_beginRun_18 : decode cX1_beginRun 18 = .ok (.getfield 32, 3) := by decide +kernel
theorem dX1_beginRun_21 : decode cX1_beginRun 21 = .ok (.iconst 0, 1) := by decide +kernel
theorem dX1_beginRun_22 : decode cX1_beginRun 22 = .ok (.iastore, 1) := by decide +kernel
theorem dX1_beginRun_23 : decode cX1_beginRun 23 = .ok (.aload_n 0, 1) := by decide +kernel
theorem dX1_beginRun_24 : decode cX1_beginRun 24 = .ok (.getfield 21, 3) := by decide +kernel
theorem dX1_beginRun_27 : decode cX1_beginRun 27 = .ok (.aload_n 0, 1) := by decide +kernel
theorem dX1_beginRun_28 : decode cX1_beginRun 28 = .ok (.getfield 32, 3) := by decide +kernel
theorem dX1_beginRun_31 : decode cX1_beginRun 31 = .ok (.aload_n 0, 1) := by decide +kernel
theorem dX1_beginRun_32 : decode cX1_beginRun 32 = .ok (.getfield 35, 3) := by decide +kernel
theorem dX1_beginRun_35 : decode cX1_beginRun 35 = .ok (.iconst 1, 1) := by decide +kernel
theorem dX1_beginRun_36 : decode cX1_beginRun 36 = .ok (.isub, 1) := by decide +kernel
theorem dX1_beginRun_37 : decode cX1_beginRun 37 = .ok (.iastore, 1) := by decide +kernel
theorem dX1_beginRun_38 : decode cX1_beginRun 38 = .ok (.aload_n 0, 1) := by decide +kernel
theorem dX1_beginRun_39 : decode cX1_beginRun 39 = .ok (.getfield 24, 3) := by decide +kernel
theorem dX1_beginRun_42 : decode cX1_beginRun 42 = .ok (.aload_n 0, 1) := by decide +kernel
theorem dX1_beginRun_43 : decode cX1_beginRun 43 = .ok (.getfield 32, 3) := by decide +kernel
theorem dX1_beginRun_46 : decode cX1_beginRun 46 = .ok (.lconst 0, 1) := by decide +kernel
theorem dX1_beginRun_47 : decode cX1_beginRun 47 = .ok (.lastore, 1) := by decide +kernel
theorem dX1_beginRun_48 : decode cX1_beginRun 48 = .ok (.aload_n 0, 1) := by decide +kernel
theorem dX1_beginRun_49 : decode cX1_beginRun 49 = .ok (.dup, 1) := by decide +kernel
theorem dX1_beginRun_50 : decode cX1_beginRun 50 = .ok (.getfield 32, 3) := by decide +kernel
theorem dX1_beginRun_53 : decode cX1_beginRun 53 = .ok (.iconst 1, 1) := by decide +kernel
theorem dX1_beginRun_54 : decode cX1_beginRun 54 = .ok (.iadd, 1) := by decide +kernel
theorem dX1_beginRun_55 : decode cX1_beginRun 55 = .ok (.putfield 32, 3) := by decide +kernel
theorem dX1_beginRun_58 : decode cX1_beginRun 58 = .ok (.aload_n 0, 1) := by decide +kernel
theorem dX1_beginRun_59 : decode cX1_beginRun 59 = .ok (.iconst 1, 1) := by decide +kernel
theorem dX1_beginRun_60 : decode cX1_beginRun 60 = .ok (.putfield 68, 3) := by decide +kernel
theorem dX1_beginRun_63 : decode cX1_beginRun 63 = .ok (.return_, 1) := by decide +kernel
theorem dX1_pieces_0 : decode cX1_pieces 0 = .ok (.aload_n 0, 1) := by decide +kernel
theorem dX1_pieces_1 : decode cX1_pieces 1 = .ok (.getfield 35, 3) := by decide +kernel
theorem dX1_pieces_4 : decode cX1_pieces 4 = .ok (.ireturn, 1) := by decide +kernel
theorem dX1_runs_0 : decode cX1_runs 0 = .ok (.aload_n 0, 1) := by decide +kernel
theorem dX1_runs_1 : decode cX1_runs 1 = .ok (.getfield 32, 3) := by decide +kernel
theorem dX1_runs_4 : decode cX1_runs 4 = .ok (.ireturn, 1) := by decide +kernel
theorem dX1_hasRun_0 : decode cX1_hasRun 0 = .ok (.iload_n 1, 1) := by decide +kernel
theorem dX1_hasRun_1 : decode cX1_hasRun 1 = .ok (.ifCond .lt 15, 3) := by decide +kernel
theorem dX1_hasRun_4 : decode cX1_hasRun 4 = .ok (.iload_n 1, 1) := by decide +kernel
theorem dX1_hasRun_5 : decode cX1_hasRun 5 = .ok (.aload_n 0, 1) := by decide +kernel
theorem dX1_hasRun_6 : decode cX1_hasRun 6 = .ok (.getfield 32, 3) := by decide +kernel
theorem dX1_hasRun_9 : decode cX1_hasRun 9 = .ok (.if_icmp .ge 7, 3) := by decide +kernel
theorem dX1_hasRun_12 : decode cX1_hasRun 12 = .ok (.iconst 1, 1) := by decide +kernel
theorem dX1_hasRun_13 : decode cX1_hasRun 13 = .ok (.goto 4, 3) := by decide +kernel
theorem dX1_hasRun_16 : decode cX1_hasRun 16 = .ok (.iconst 0, 1) := by decide +kernel
theorem dX1_hasRun_17 : decode cX1_hasRun 17 = .ok (.ireturn, 1) := by decide +kernel
set_option maxRecDepth 20000 in
theorem ggX1_lengthOf_X1_hasRun : GoodIn wsX1_lengthOf wsX1_hasRun := goodIn_r _ [6, 7, 8, 9, 10, 11, 12, 13, 14, 15, 16] (by decide +kernel) (by decide +kernel)
set_option maxRecDepth 20000 in
theorem gX1_lengthOf_X1_hasRun : GoodIn wsX1_lengthOf (wsV RX1 81 RX1 yX1_hasRun wsX1_hasRun) := goodIn_app (goodIn_of _ (by decide +kernel)) ggX1_lengthOf_X1_hasRun
theorem dX1_lengthOf_0 : decode cX1_lengthOf 0 = .ok (.aload_n 0, 1) := by decide +kernel
theorem dX1_lengthOf_1 : decode cX1_lengthOf 1 = .ok (.iload_n 1, 1) := by decide +kernel
theorem dX1_lengthOf_2 : decode cX1_lengthOf 2 = .ok (.invokevirtual 81, 3) := by decide +kernel
theorem dX1_lengthOf_5 : decode cX1_lengthOf 5 = .ok (.ifCond .eq 12, 3) := by decide +kernel
theorem dX1_lengthOf_8 : decode cX1_lengthOf 8 = .ok (.aload_n 0, 1) := by decide +kernel
theorem dX1_lengthOf_9 : decode cX1_lengthOf 9 = .ok (.getfield 18, 3) := by decide +kernel
theorem dX1_lengthOf_12 : decode cX1_lengthOf 12 = .ok (.iload_n 1, 1) := by decide +kernel
theorem dX1_lengthOf_13 : decode cX1_lengthOf 13 = .ok (.iaload, 1) := by decide +kernel
theorem dX1_lengthOf_14 : decode cX1_lengthOf 14 = .ok (.goto 4, 3) := by decide +kernel
theorem dX1_lengthOf_17 : decode cX1_lengthOf 17 = .ok (.iconst 0, 1) := by decide +kernel
theorem dX1_lengthOf_18 : decode cX1_lengthOf 18 = .ok (.ireturn, 1) := by decide +kernel
set_option maxRecDepth 20000 in
theorem ggX1_pieceOf_X1_hasRun : GoodIn wsX1_pieceOf wsX1_hasRun := goodIn_r _ [6, 7, 8, 9, 10, 11, 12, 13, 14, 15, 16] (by decide +kernel) (by decide +kernel)
set_option maxRecDepth 20000 in
theorem gX1_pieceOf_X1_hasRun : GoodIn wsX1_pieceOf (wsV RX1 81 RX1 yX1_hasRun wsX1_hasRun) := goodIn_app (goodIn_of _ (by decide +kernel)) ggX1_pieceOf_X1_hasRun
theorem dX1_pieceOf_0 : decode cX1_pieceOf 0 = .ok (.aload_n 0, 1) := by decide +kernel
theorem dX1_pieceOf_1 : decode cX1_pieceOf 1 = .ok (.iload_n 1, 1) := by decide +kernel
theorem dX1_pieceOf_2 : decode cX1_pieceOf 2 = .ok (.invokevirtual 81, 3) := by decide +kernel
theorem dX1_pieceOf_5 : decode cX1_pieceOf 5 = .ok (.ifCond .eq 12, 3) := by decide +kernel
theorem dX1_pieceOf_8 : decode cX1_pieceOf 8 = .ok (.aload_n 0, 1) := by decide +kernel
theorem dX1_pieceOf_9 : decode cX1_pieceOf 9 = .ok (.getfield 21, 3) := by decide +kernel
theorem dX1_pieceOf_12 : decode cX1_pieceOf 12 = .ok (.iload_n 1, 1) := by decide +kernel
theorem dX1_pieceOf_13 : decode cX1_pieceOf 13 = .ok (.iaload, 1) := by decide +kernel
theorem dX1_pieceOf_14 : decode cX1_pieceOf 14 = .ok (.goto 4, 3) := by decide +kernel
theorem dX1_pieceOf_17 : decode cX1_pieceOf 17 = .ok (.iconst (-1), 1) := by decide +kernel
theorem dX1_pieceOf_18 : decode cX1_pieceOf 18 = .ok (.ireturn, 1) := by decide +kernel
set_option maxRecDepth 20000 in
theorem ggX1_headOf_X1_hasRun : GoodIn wsX1_headOf wsX1_hasRun := goodIn_r _ [6, 7, 8, 9, 10, 11, 12, 13, 14, 15, 16] (by decide +kernel) (by decide +kernel)
set_option maxRecDepth 20000 in
theorem gX1_headOf_X1_hasRun : GoodIn wsX1_headOf (wsV RX1 81 RX1 yX1_hasRun wsX1_hasRun) := goodIn_app (goodIn_of _ (by decide +kernel)) ggX1_headOf_X1_hasRun
theorem dX1_headOf_0 : decode cX1_headOf 0 = .ok (.aload_n 0, 1) := by decide +kernel
theorem dX1_headOf_1 : decode cX1_headOf 1 = .ok (.iload_n 1, 1) := by decide +kernel
theorem dX1_headOf_2 : decode cX1_headOf 2 = .ok (.invokevirtual 81, 3) := by decide +kernel
theorem dX1_headOf_5 : decode cX1_headOf 5 = .ok (.ifCond .eq 12, 3) := by decide +kernel
theorem dX1_headOf_8 : decode cX1_headOf 8 = .ok (.aload_n 0, 1) := by decide +kernel
theorem dX1_headOf_9 : decode cX1_headOf 9 = .ok (.getfield 24, 3) := by decide +kernel
theorem dX1_headOf_12 : decode cX1_headOf 12 = .ok (.iload_n 1, 1) := by decide +kernel
theorem dX1_headOf_13 : decode cX1_headOf 13 = .ok (.laload, 1) := by decide +kernel
theorem dX1_headOf_14 : decode cX1_headOf 14 = .ok (.goto 4, 3) := by decide +kernel
theorem dX1_headOf_17 : decode cX1_headOf 17 = .ok (.lconst 0, 1) := by decide +kernel
theorem dX1_headOf_18 : decode cX1_headOf 18 = .ok (.lreturn, 1) := by decide +kernel
set_option maxRecDepth 20000 in
theorem ggX1_signOf_X1_lengthOf : GoodIn wsX1_signOf wsX1_lengthOf := goodIn_r _ [7, 8, 9, 10, 11, 6, 12, 13, 14, 15, 16, 17, 18, 19, 20, 21, 22] (by decide +kernel) (by decide +kernel)
set_option maxRecDepth 20000 in
theorem gX1_signOf_X1_lengthOf : GoodIn wsX1_signOf (wsV RX1 85 RX1 yX1_lengthOf wsX1_lengthOf) := goodIn_app (goodIn_of _ (by decide +kernel)) ggX1_signOf_X1_lengthOf
theorem dX1_signOf_0 : decode cX1_signOf 0 = .ok (.iload_n 2, 1) := by decide +kernel
theorem dX1_signOf_1 : decode cX1_signOf 1 = .ok (.ifCond .lt 12, 3) := by decide +kernel
theorem dX1_signOf_4 : decode cX1_signOf 4 = .ok (.iload_n 2, 1) := by decide +kernel
theorem dX1_signOf_5 : decode cX1_signOf 5 = .ok (.aload_n 0, 1) := by decide +kernel
theorem dX1_signOf_6 : decode cX1_signOf 6 = .ok (.iload_n 1, 1) := by decide +kernel
theorem dX1_signOf_7 : decode cX1_signOf 7 = .ok (.invokevirtual 85, 3) := by decide +kernel
theorem dX1_signOf_10 : decode cX1_signOf 10 = .ok (.if_icmp .lt 7, 3) := by decide +kernel
theorem dX1_signOf_13 : decode cX1_signOf 13 = .ok (.iconst (-1), 1) := by decide +kernel
theorem dX1_signOf_14 : decode cX1_signOf 14 = .ok (.goto 16, 3) := by decide +kernel
theorem dX1_signOf_17 : decode cX1_signOf 17 = .ok (.aload_n 0, 1) := by decide +kernel
theorem dX1_signOf_18 : decode cX1_signOf 18 = .ok (.getfield 9, 3) := by decide +kernel
theorem dX1_signOf_21 : decode cX1_signOf 21 = .ok (.aload_n 0, 1) := by decide +kernel
theorem dX1_signOf_22 : decode cX1_signOf 22 = .ok (.getfield 15, 3) := by decide +kernel
theorem dX1_signOf_25 : decode cX1_signOf 25 = .ok (.iload_n 1, 1) := by decide +kernel
theorem dX1_signOf_26 : decode cX1_signOf 26 = .ok (.iaload, 1) := by decide +kernel
theorem dX1_signOf_27 : decode cX1_signOf 27 = .ok (.iload_n 2, 1) := by decide +kernel
theorem dX1_signOf_28 : decode cX1_signOf 28 = .ok (.iadd, 1) := by decide +kernel
theorem dX1_signOf_29 : decode cX1_signOf 29 = .ok (.iaload, 1) := by decide +kernel
theorem dX1_signOf_30 : decode cX1_signOf 30 = .ok (.ireturn, 1) := by decide +kernel
theorem dX2_init_0 : decode cX2_init 0 = .ok (.aload_n 0, 1) := by decide +kernel
theorem dX2_init_1 : decode cX2_init 1 = .ok (.invokespecial 3, 3) := by decide +kernel
theorem dX2_init_4 : decode cX2_init 4 = .ok (.aload_n 0, 1) := by decide +kernel
theorem dX2_init_5 : decode cX2_init 5 = .ok (.iconst 0, 1) := by decide +kernel
theorem dX2_init_6 : decode cX2_init 6 = .ok (.putfield 11, 3) := by decide +kernel
theorem dX2_init_9 : decode cX2_init 9 = .ok (.aload_n 0, 1) := by decide +kernel
theorem dX2_init_10 : decode cX2_init 10 = .ok (.iconst (-1), 1) := by decide +kernel
theorem dX2_init_11 : decode cX2_init 11 = .ok (.putfield 15, 3) := by decide +kernel
theorem dX2_init_14 : decode cX2_init 14 = .ok (.return_, 1) := by decide +kernel
theorem dX2_isThere_0 : decode cX2_isThere 0 = .ok (.aload_n 0, 1) := by decide +kernel
theorem dX2_isThere_1 : decode cX2_isThere 1 = .ok (.getfield 11, 3) := by decide +kernel
theorem dX2_isThere_4 : decode cX2_isThere 4 = .ok (.ifCond .eq 7, 3) := by decide +kernel
theorem dX2_isThere_7 : decode cX2_isThere 7 = .ok (.iconst 1, 1) := by decide +kernel
theorem dX2_isThere_8 : decode cX2_isThere 8 = .ok (.goto 4, 3) := by decide +kernel
theorem dX2_isThere_11 : decode cX2_isThere 11 = .ok (.iconst 0, 1) := by decide +kernel
theorem dX2_isThere_12 : decode cX2_isThere 12 = .ok (.ireturn, 1) := by decide +kernel
theorem dX2_set_0 : decode cX2_set 0 = .ok (.aload_n 0, 1) := by decide +kernel
theorem dX2_set_1 : decode cX2_set 1 = .ok (.iload_n 1, 1) := by decide +kernel
theorem dX2_set_2 : decode cX2_set 2 = .ok (.putfield 11, 3) := by decide +kernel
theorem dX2_set_5 : decode cX2_set 5 = .ok (.aload_n 0, 1) := by decide +kernel
theorem dX2_set_6 : decode cX2_set 6 = .ok (.iload_n 1, 1) := by decide +kernel
theorem dX2_set_7 : decode cX2_set 7 = .ok (.ifCond .ne 7, 3) := by decide +kernel
theorem dX2_set_10 : decode cX2_set 10 = .ok (.iconst (-1), 1) := by decide +kernel
theorem dX2_set_11 : decode cX2_set 11 = .ok (.goto 4, 3) := by decide +kernel
theorem dX2_set_14 : decode cX2_set 14 = .ok (.iload_n 2, 1) := by decide +kernel
theorem dX2_set_15 : decode cX2_set 15 = .ok (.putfield 15, 3) := by decide +kernel
theorem dX2_set_18 : decode cX2_set 18 = .ok (.return_, 1) := by decide +kernel
set_option maxRecDepth 20000 in
theorem ggX3_init_X7_init : GoodIn wsX3_init wsX7_init := goodIn_r _ [10, 11, 2, 3, 12, 13, 14, 15, 16, 17, 18, 19, 20, 21, 22] (by decide +kernel) (by decide +kernel)
set_option maxRecDepth 20000 in
theorem gX3_init_X7_init : GoodIn wsX3_init (wsX7_init) := ggX3_init_X7_init
theorem dX3_init_0 : decode cX3_init 0 = .ok (.aload_n 0, 1) := by decide +kernel
theorem dX3_init_1 : decode cX3_init 1 = .ok (.invokespecial 3, 3) := by decide +kernel
theorem dX3_init_4 : decode cX3_init 4 = .ok (.aload_n 0, 1) := by decide +kernel
theorem dX3_init_5 : decode cX3_init 5 = .ok (.new 9, 3) := by decide +kernel
theorem dX3_init_8 : decode cX3_init 8 = .ok (.dup, 1) := by decide +kernel
theorem dX3_init_9 : decode cX3_init 9 = .ok (.sipush 320, 3) := by decide +kernel
theorem dX3_init_12 : decode cX3_init 12 = .ok (.invokespecial 11, 3) := by decide +kernel
theorem dX3_init_15 : decode cX3_init 15 = .ok (.putfield 14, 3) := by decide +kernel
theorem dX3_init_18 : decode cX3_init 18 = .ok (.return_, 1) := by decide +kernel
set_option maxRecDepth 20000 in
theorem ggX3_lay_X7_clear : GoodIn wsX3_lay wsX7_clear := goodIn_r _ [6, 7, 76, 77] (by decide +kernel) (by decide +kernel)
set_option maxRecDepth 20000 in
theorem gX3_lay_X7_clear : GoodIn wsX3_lay (wsV RX3 20 RX7 yX7_clear wsX7_clear) := goodIn_app (goodIn_of _ (by decide +kernel)) ggX3_lay_X7_clear
set_option maxRecDepth 20000 in
theorem ggX3_lay_X7_size : GoodIn wsX3_lay wsX7_size := goodIn_r _ [11, 7, 76, 77] (by decide +kernel) (by decide +kernel)
set_option maxRecDepth 20000 in
theorem gX3_lay_X7_size : GoodIn wsX3_lay (wsV RX3 23 RX7 yX7_size wsX7_size) := goodIn_app (goodIn_of _ (by decide +kernel)) ggX3_lay_X7_size
set_option maxRecDepth 20000 in
theorem ggX3_lay_X7_at : GoodIn wsX3_lay wsX7_at := goodIn_r _ [15, 16, 17, 18, 19, 5, 20, 7, 76, 77] (by decide +kernel) (by decide +kernel)
set_option maxRecDepth 20000 in
theorem gX3_lay_X7_at : GoodIn wsX3_lay (wsV RX3 27 RX7 yX7_at wsX7_at) := goodIn_app (goodIn_of _ (by decide +kernel)) ggX3_lay_X7_at
set_option maxRecDepth 20000 in
theorem ggX3_lay_X8_length : GoodIn wsX3_lay wsX8_length := goodIn_r _ [24, 25, 26, 23, 27] (by decide +kernel) (by decide +kernel)
set_option maxRecDepth 20000 in
theorem gX3_lay_X8_length : GoodIn wsX3_lay (va_wsS RX3 31 yX8_length wsX8_length) := goodIn_app (goodIn_of _ (by decide +kernel)) ggX3_lay_X8_length
set_option maxRecDepth 20000 in
theorem ggX3_lay_X8_turned : GoodIn wsX3_lay wsX8_turned := goodIn_r _ [30, 31, 32, 22, 23, 24, 25, 26, 27, 33, 34, 35, 36, 37, 38, 39, 40, 41, 42, 43, 44, 45, 46, 47, 48, 49, 50, 51, 52, 53, 54] (by decide +kernel) (by decide +kernel)
set_option maxRecDepth 20000 in
theorem gX3_lay_X8_turned : GoodIn wsX3_lay (va_wsS RX3 37 yX8_turned wsX8_turned) := goodIn_app (goodIn_of _ (by decide +kernel)) ggX3_lay_X8_turned
set_option maxRecDepth 20000 in
theorem ggX3_lay_X3_keyOf : GoodIn wsX3_lay wsX3_keyOf := goodIn_r _ [58] (by decide +kernel) (by decide +kernel)
set_option maxRecDepth 20000 in
theorem gX3_lay_X3_keyOf : GoodIn wsX3_lay (va_wsS RX3 41 yX3_keyOf wsX3_keyOf) := goodIn_app (goodIn_of _ (by decide +kernel)) ggX3_lay_X3_keyOf
set_option maxRecDepth 20000 in
theorem ggX3_lay_X7_add : GoodIn wsX3_lay wsX7_add := goodIn_r _ [62, 7, 16, 63, 64, 65, 66, 67, 68, 69, 5, 70, 71, 72, 73, 74, 76, 77] (by decide +kernel) (by decide +kernel)
set_option maxRecDepth 20000 in
theorem gX3_lay_X7_add : GoodIn wsX3_lay (wsV RX3 45 RX7 yX7_add wsX7_add) := goodIn_app (goodIn_of _ (by decide +kernel)) ggX3_lay_X7_add
theorem dX3_lay_0 : decode cX3_lay 0 = .ok (.aload_n 0, 1) := by decide +kernel
theorem dX3_lay_1 : decode cX3_lay 1 = .ok (.getfield 14, 3) := by decide +kernel
theorem dX3_lay_4 : decode cX3_lay 4 = .ok (.invokevirtual 20, 3) := by decide +kernel
theorem dX3_lay_7 : decode cX3_lay 7 = .ok (.iconst 0, 1) := by decide +kernel
theorem dX3_lay_8 : decode cX3_lay 8 = .ok (.istore_n 2, 1) := by decide +kernel
theorem dX3_lay_9 : decode cX3_lay 9 = .ok (.iload_n 2, 1) := by decide +kernel
theorem dX3_lay_10 : decode cX3_lay 10 = .ok (.aload_n 1, 1) := by decide +kernel
theorem dX3_lay_11 : decode cX3_lay 11 = .ok (.invokevirtual 23, 3) := by decide +kernel
theorem dX3_lay_14 : decode cX3_lay 14 = .ok (.if_icmp .ge 57, 3) := by decide +kernel
theorem dX3_lay_17 : decode cX3_lay 17 = .ok (.aload_n 1, 1) := by decide +kernel
theorem dX3_lay_18 : decode cX3_lay 18 = .ok (.iload_n 2, 1) := by decide +kernel
theorem dX3_lay_19 : decode cX3_lay 19 = .ok (.invokevirtual 27, 3) := by decide +kernel
theorem dX3_lay_22 : decode cX3_lay 22 = .ok (.lstore_n 3, 1) := by decide +kernel
theorem dX3_lay_23 : decode cX3_lay 23 = .ok (.lload_n 3, 1) := by decide +kernel
theorem dX3_lay_24 : decode cX3_lay 24 = .ok (.invokestatic 31, 3) := by decide +kernel
theorem dX3_lay_27 : decode cX3_lay 27 = .ok (.istore 5, 2) := by decide +kernel
theorem dX3_lay_29 : decode cX3_lay 29 = .ok (.iconst 0, 1) := by decide +kernel
theorem dX3_lay_30 : decode cX3_lay 30 = .ok (.istore 6, 2) := by decide +kernel
theorem dX3_lay_32 : decode cX3_lay 32 = .ok (.iload 6, 2) := by decide +kernel
theorem dX3_lay_34 : decode cX3_lay 34 = .ok (.iload 5, 2) := by decide +kernel
theorem dX3_lay_36 : decode cX3_lay 36 = .ok (.if_icmp .gt 29, 3) := by decide +kernel
theorem dX3_lay_39 : decode cX3_lay 39 = .ok (.aload_n 0, 1) := by decide +kernel
theorem dX3_lay_40 : decode cX3_lay 40 = .ok (.getfield 14, 3) := by decide +kernel
theorem dX3_lay_43 : decode cX3_lay 43 = .ok (.lload_n 3, 1) := by decide +kernel
theorem dX3_lay_44 : decode cX3_lay 44 = .ok (.iload 6, 2) := by decide +kernel
theorem dX3_lay_46 : decode cX3_lay 46 = .ok (.invokestatic 37, 3) := by decide +kernel
theorem dX3_lay_49 : decode cX3_lay 49 = .ok (.iload_n 2, 1) := by decide +kernel
theorem dX3_lay_50 : decode cX3_lay 50 = .ok (.iload 6, 2) := by decide +kernel
theorem dX3_lay_52 : decode cX3_lay 52 = .ok (.invokestatic 41, 3) := by decide +kernel
theorem dX3_lay_55 : decode cX3_lay 55 = .ok (.invokevirtual 45, 3) := by decide +kernel
theorem dX3_lay_58 : decode cX3_lay 58 = .ok (.pop, 1) := by decide +kernel
theorem dX3_lay_59 : decode cX3_lay 59 = .ok (.iinc 6 1, 3) := by decide +kernel
theorem dX3_lay_62 : decode cX3_lay 62 = .ok (.goto (-30), 3) := by decide +kernel
theorem dX3_lay_65 : decode cX3_lay 65 = .ok (.iinc 2 1, 3) := by decide +kernel
theorem dX3_lay_68 : decode cX3_lay 68 = .ok (.goto (-59), 3) := by decide +kernel
theorem dX3_lay_71 : decode cX3_lay 71 = .ok (.return_, 1) := by decide +kernel
theorem dX3_keyOf_0 : decode cX3_keyOf 0 = .ok (.lload_n 0, 1) := by decide +kernel
theorem dX3_keyOf_1 : decode cX3_keyOf 1 = .ok (.bipush 9, 2) := by decide +kernel
theorem dX3_keyOf_3 : decode cX3_keyOf 3 = .ok (.lshl, 1) := by decide +kernel
theorem dX3_keyOf_4 : decode cX3_keyOf 4 = .ok (.iload_n 2, 1) := by decide +kernel
theorem dX3_keyOf_5 : decode cX3_keyOf 5 = .ok (.i2l, 1) := by decide +kernel
theorem dX3_keyOf_6 : decode cX3_keyOf 6 = .ok (.iconst 3, 1) := by decide +kernel
theorem dX3_keyOf_7 : decode cX3_keyOf 7 = .ok (.lshl, 1) := by decide +kernel
theorem dX3_keyOf_8 : decode cX3_keyOf 8 = .ok (.lor, 1) := by decide +kernel
theorem dX3_keyOf_9 : decode cX3_keyOf 9 = .ok (.iload_n 3, 1) := by decide +kernel
theorem dX3_keyOf_10 : decode cX3_keyOf 10 = .ok (.i2l, 1) := by decide +kernel
theorem dX3_keyOf_11 : decode cX3_keyOf 11 = .ok (.lor, 1) := by decide +kernel
theorem dX3_keyOf_12 : decode cX3_keyOf 12 = .ok (.lreturn, 1) := by decide +kernel
set_option maxRecDepth 20000 in
theorem ggX3_size_X7_size : GoodIn wsX3_size wsX7_size := goodIn_r _ [6, 7, 9, 10] (by decide +kernel) (by decide +kernel)
set_option maxRecDepth 20000 in
theorem gX3_size_X7_size : GoodIn wsX3_size (wsV RX3 23 RX7 yX7_size wsX7_size) := goodIn_app (goodIn_of _ (by decide +kernel)) ggX3_size_X7_size
theorem dX3_size_0 : decode cX3_size 0 = .ok (.aload_n 0, 1) := by decide +kernel
theorem dX3_size_1 : decode cX3_size 1 = .ok (.getfield 14, 3) := by decide +kernel
theorem dX3_size_4 : decode cX3_size 4 = .ok (.invokevirtual 23, 3) := by decide +kernel
theorem dX3_size_7 : decode cX3_size 7 = .ok (.ireturn, 1) := by decide +kernel
set_option maxRecDepth 20000 in
theorem ggX3_signsAt_X7_at : GoodIn wsX3_signsAt wsX7_at := goodIn_r _ [6, 7, 8, 9, 10, 5, 11, 12, 14, 15] (by decide +kernel) (by decide +kernel)
set_option maxRecDepth 20000 in
theorem gX3_signsAt_X7_at : GoodIn wsX3_signsAt (wsV RX3 27 RX7 yX7_at wsX7_at) := goodIn_app (goodIn_of _ (by decide +kernel)) ggX3_signsAt_X7_at
theorem dX3_signsAt_0 : decode cX3_signsAt 0 = .ok (.aload_n 0, 1) := by decide +kernel
theorem dX3_signsAt_1 : decode cX3_signsAt 1 = .ok (.getfield 14, 3) := by decide +kernel
theorem dX3_signsAt_4 : decode cX3_signsAt 4 = .ok (.iload_n 1, 1) := by decide +kernel
theorem dX3_signsAt_5 : decode cX3_signsAt 5 = .ok (.invokevirtual 27, 3) := by decide +kernel
theorem dX3_signsAt_8 : decode cX3_signsAt 8 = .ok (.bipush 9, 2) := by decide +kernel
theorem dX3_signsAt_10 : decode cX3_signsAt 10 = .ok (.lshr, 1) := by decide +kernel
theorem dX3_signsAt_11 : decode cX3_signsAt 11 = .ok (.lreturn, 1) := by decide +kernel
set_option maxRecDepth 20000 in
theorem ggX3_wordAt_X7_at : GoodIn wsX3_wordAt wsX7_at := goodIn_r _ [6, 7, 8, 9, 10, 5, 11, 12, 14, 15] (by decide +kernel) (by decide +kernel)
set_option maxRecDepth 20000 in
theorem gX3_wordAt_X7_at : GoodIn wsX3_wordAt (wsV RX3 27 RX7 yX7_at wsX7_at) := goodIn_app (goodIn_of _ (by decide +kernel)) ggX3_wordAt_X7_at
theorem dX3_wordAt_0 : decode cX3_wordAt 0 = .ok (.aload_n 0, 1) := by decide +kernel
theorem dX3_wordAt_1 : decode cX3_wordAt 1 = .ok (.getfield 14, 3) := by decide +kernel
theorem dX3_wordAt_4 : decode cX3_wordAt 4 = .ok (.iload_n 1, 1) := by decide +kernel
theorem dX3_wordAt_5 : decode cX3_wordAt 5 = .ok (.invokevirtual 27, 3) := by decide +kernel
theorem dX3_wordAt_8 : decode cX3_wordAt 8 = .ok (.iconst 3, 1) := by decide +kernel
theorem dX3_wordAt_9 : decode cX3_wordAt 9 = .ok (.lshr, 1) := by decide +kernel
theorem dX3_wordAt_10 : decode cX3_wordAt 10 = .ok (.l2i, 1) := by decide +kernel
theorem dX3_wordAt_11 : decode cX3_wordAt 11 = .ok (.bipush 63, 2) := by decide +kernel
theorem dX3_wordAt_13 : decode cX3_wordAt 13 = .ok (.iand, 1) := by decide +kernel
theorem dX3_wordAt_14 : decode cX3_wordAt 14 = .ok (.ireturn, 1) := by decide +kernel
set_option maxRecDepth 20000 in
theorem ggX3_numberAt_X7_at : GoodIn wsX3_numberAt wsX7_at := goodIn_r _ [6, 7, 8, 9, 10, 5, 11, 12, 14, 15] (by decide +kernel) (by decide +kernel)
set_option maxRecDepth 20000 in
theorem gX3_numberAt_X7_at : GoodIn wsX3_numberAt (wsV RX3 27 RX7 yX7_at wsX7_at) := goodIn_app (goodIn_of _ (by decide +kernel)) ggX3_numberAt_X7_at
theorem dX3_numberAt_0 : decode cX3_numberAt 0 = .ok (.aload_n 0, 1) := by decide +kernel
theorem dX3_numberAt_1 : decode cX3_numberAt 1 = .ok (.getfield 14, 3) := by decide +kernel
theorem dX3_numberAt_4 : decode cX3_numberAt 4 = .ok (.iload_n 1, 1) := by decide +kernel
theorem dX3_numberAt_5 : decode cX3_numberAt 5 = .ok (.invokevirtual 27, 3) := by decide +kernel
theorem dX3_numberAt_8 : decode cX3_numberAt 8 = .ok (.l2i, 1) := by decide +kernel
theorem dX3_numberAt_9 : decode cX3_numberAt 9 = .ok (.bipush 7, 2) := by decide +kernel
theorem dX3_numberAt_11 : decode cX3_numberAt 11 = .ok (.iand, 1) := by decide +kernel
theorem dX3_numberAt_12 : decode cX3_numberAt 12 = .ok (.ireturn, 1) := by decide +kernel
set_option maxRecDepth 20000 in
theorem ggX3_from_X7_below : GoodIn wsX3_from wsX7_below := goodIn_r _ [6, 7, 8, 10, 11] (by decide +kernel) (by decide +kernel)
set_option maxRecDepth 20000 in
theorem gX3_from_X7_below : GoodIn wsX3_from (wsV RX3 49 RX7 yX7_below wsX7_below) := goodIn_app (goodIn_of _ (by decide +kernel)) ggX3_from_X7_below
theorem dX3_from_0 : decode cX3_from 0 = .ok (.aload_n 0, 1) := by decide +kernel
theorem dX3_from_1 : decode cX3_from 1 = .ok (.getfield 14, 3) := by decide +kernel
theorem dX3_from_4 : decode cX3_from 4 = .ok (.lload_n 1, 1) := by decide +kernel
theorem dX3_from_5 : decode cX3_from 5 = .ok (.bipush 9, 2) := by decide +kernel
theorem dX3_from_7 : decode cX3_from 7 = .ok (.lshl, 1) := by decide +kernel
theorem dX3_from_8 : decode cX3_from 8 = .ok (.invokevirtual 49, 3) := by decide +kernel
theorem dX3_from_11 : decode cX3_from 11 = .ok (.ireturn, 1) := by decide +kernel
set_option maxRecDepth 20000 in
theorem ggX3_to_X8_above : GoodIn wsX3_to wsX8_above := goodIn_r _ [4, 5, 6, 3, 7, 8, 9, 10] (by decide +kernel) (by decide +kernel)
set_option maxRecDepth 20000 in
theorem gX3_to_X8_above : GoodIn wsX3_to (va_wsS RX3 52 yX8_above wsX8_above) := goodIn_app (goodIn_of _ (by decide +kernel)) ggX3_to_X8_above
set_option maxRecDepth 20000 in
theorem ggX3_to_X3_from : GoodIn wsX3_to wsX3_from := goodIn_r _ [15, 16, 17, 18, 19, 20, 21, 22, 23, 24, 25, 26] (by decide +kernel) (by decide +kernel)
set_option maxRecDepth 20000 in
theorem gX3_to_X3_from : GoodIn wsX3_to (wsV RX3 55 RX3 yX3_from wsX3_from) := goodIn_app (goodIn_of _ (by decide +kernel)) ggX3_to_X3_from
theorem dX3_to_0 : decode cX3_to 0 = .ok (.aload_n 0, 1) := by decide +kernel
theorem dX3_to_1 : decode cX3_to 1 = .ok (.lload_n 1, 1) := by decide +kernel
theorem dX3_to_2 : decode cX3_to 2 = .ok (.iload_n 3, 1) := by decide +kernel
theorem dX3_to_3 : decode cX3_to 3 = .ok (.invokestatic 52, 3) := by decide +kernel
theorem dX3_to_6 : decode cX3_to 6 = .ok (.invokevirtual 55, 3) := by decide +kernel
theorem dX3_to_9 : decode cX3_to 9 = .ok (.ireturn, 1) := by decide +kernel
set_option maxRecDepth 20000 in
theorem ggX3_wordsThatTurnTo_X3_to : GoodIn wsX3_wordsThatTurnTo wsX3_to := goodIn_r _ [5, 6, 7, 8, 9, 10, 11, 12, 13, 14, 15, 16, 17, 18, 4, 19, 20, 21, 22, 23, 24, 25, 26, 27, 44, 45, 46] (by decide +kernel) (by decide +kernel)
set_option maxRecDepth 20000 in
theorem gX3_wordsThatTurnTo_X3_to : GoodIn wsX3_wordsThatTurnTo (wsV RX3 58 RX3 yX3_to wsX3_to) := goodIn_app (goodIn_of _ (by decide +kernel)) ggX3_wordsThatTurnTo_X3_to
set_option maxRecDepth 20000 in
theorem ggX3_wordsThatTurnTo_X3_from : GoodIn wsX3_wordsThatTurnTo wsX3_from := goodIn_r _ [19, 20, 21, 22, 23, 24, 25, 26, 27, 44, 45, 46] (by decide +kernel) (by decide +kernel)
set_option maxRecDepth 20000 in
theorem gX3_wordsThatTurnTo_X3_from : GoodIn wsX3_wordsThatTurnTo (wsV RX3 55 RX3 yX3_from wsX3_from) := goodIn_app (goodIn_of _ (by decide +kernel)) ggX3_wordsThatTurnTo_X3_from
set_option maxRecDepth 20000 in
theorem ggX3_wordsThatTurnTo_X3_wordAt : GoodIn wsX3_wordsThatTurnTo wsX3_wordAt := goodIn_r _ [31, 20, 32, 33, 34, 24, 35, 27, 36, 37, 38, 39, 26, 44, 45, 46] (by decide +kernel) (by decide +kernel)
set_option maxRecDepth 20000 in
theorem gX3_wordsThatTurnTo_X3_wordAt : GoodIn wsX3_wordsThatTurnTo (wsV RX3 62 RX3 yX3_wordAt wsX3_wordAt) := goodIn_app (goodIn_of _ (by decide +kernel)) ggX3_wordsThatTurnTo_X3_wordAt
set_option maxRecDepth 20000 in
theorem ggX3_wordsThatTurnTo_X0_bit : GoodIn wsX3_wordsThatTurnTo wsX0_bit := goodIn_r _ [43] (by decide +kernel) (by decide +kernel)
set_option maxRecDepth 20000 in
theorem gX3_wordsThatTurnTo_X0_bit : GoodIn wsX3_wordsThatTurnTo (va_wsS RX3 66 yX0_bit wsX0_bit) := goodIn_app (goodIn_of _ (by decide +kernel)) ggX3_wordsThatTurnTo_X0_bit
theorem dX3_wordsThatTurnTo_0 : decode cX3_wordsThatTurnTo 0 = .ok (.lconst 0, 1) := by decide +kernel
theorem dX3_wordsThatTurnTo_1 : decode cX3_wordsThatTurnTo 1 = .ok (.lstore 4, 2) := by decide +kernel
theorem dX3_wordsThatTurnTo_3 : decode cX3_wordsThatTurnTo 3 = .ok (.aload_n 0, 1) := by decide +kernel
theorem dX3_wordsThatTurnTo_4 : decode cX3_wordsThatTurnTo 4 = .ok (.lload_n 1, 1) := by decide +kernel
theorem dX3_wordsThatTurnTo_5 : decode cX3_wordsThatTurnTo 5 = .ok (.iload_n 3, 1) := by decide +kernel
theorem dX3_wordsThatTurnTo_6 : decode cX3_wordsThatTurnTo 6 = .ok (.invokevirtual 58, 3) := by decide +kernel
theorem dX3_wordsThatTurnTo_9 : decode cX3_wordsThatTurnTo 9 = .ok (.istore 6, 2) := by decide +kernel
theorem dX3_wordsThatTurnTo_11 : decode cX3_wordsThatTurnTo 11 = .ok (.aload_n 0, 1) := by decide +kernel
theorem dX3_wordsThatTurnTo_12 : decode cX3_wordsThatTurnTo 12 = .ok (.lload_n 1, 1) := by decide +kernel
theorem dX3_wordsThatTurnTo_13 : decode cX3_wordsThatTurnTo 13 = .ok (.invokevirtual 55, 3) := by decide +kernel
theorem dX3_wordsThatTurnTo_16 : decode cX3_wordsThatTurnTo 16 = .ok (.istore 7, 2) := by decide +kernel
theorem dX3_wordsThatTurnTo_18 : decode cX3_wordsThatTurnTo 18 = .ok (.iload 7, 2) := by decide +kernel
theorem dX3_wordsThatTurnTo_20 : decode cX3_wordsThatTurnTo 20 = .ok (.iload 6, 2) := by decide +kernel
theorem dX3_wordsThatTurnTo_22 : decode cX3_wordsThatTurnTo 22 = .ok (.if_icmp .ge 23, 3) := by decide +kernel
theorem dX3_wordsThatTurnTo_25 : decode cX3_wordsThatTurnTo 25 = .ok (.lload 4, 2) := by decide +kernel
theorem dX3_wordsThatTurnTo_27 : decode cX3_wordsThatTurnTo 27 = .ok (.aload_n 0, 1) := by decide +kernel
theorem dX3_wordsThatTurnTo_28 : decode cX3_wordsThatTurnTo 28 = .ok (.iload 7, 2) := by decide +kernel
theorem dX3_wordsThatTurnTo_30 : decode cX3_wordsThatTurnTo 30 = .ok (.invokevirtual 62, 3) := by decide +kernel
theorem dX3_wordsThatTurnTo_33 : decode cX3_wordsThatTurnTo 33 = .ok (.invokestatic 66, 3) := by decide +kernel
theorem dX3_wordsThatTurnTo_36 : decode cX3_wordsThatTurnTo 36 = .ok (.lor, 1) := by decide +kernel
theorem dX3_wordsThatTurnTo_37 : decode cX3_wordsThatTurnTo 37 = .ok (.lstore 4, 2) := by decide +kernel
theorem dX3_wordsThatTurnTo_39 : decode cX3_wordsThatTurnTo 39 = .ok (.iinc 7 1, 3) := by decide +kernel
theorem dX3_wordsThatTurnTo_42 : decode cX3_wordsThatTurnTo 42 = .ok (.goto (-24), 3) := by decide +kernel
theorem dX3_wordsThatTurnTo_45 : decode cX3_wordsThatTurnTo 45 = .ok (.lload 4, 2) := by decide +kernel
theorem dX3_wordsThatTurnTo_47 : decode cX3_wordsThatTurnTo 47 = .ok (.lreturn, 1) := by decide +kernel
set_option maxRecDepth 20000 in
theorem ggX3_placeOf_X8_turned : GoodIn wsX3_placeOf wsX8_turned := goodIn_r _ [4, 5, 6, 7, 3, 8, 9, 10, 11, 12, 13, 14, 15, 16, 17, 18, 19, 20, 21, 22, 23, 24, 25, 26, 27, 28, 29, 30, 31, 32, 33] (by decide +kernel) (by decide +kernel)
set_option maxRecDepth 20000 in
theorem gX3_placeOf_X8_turned : GoodIn wsX3_placeOf (va_wsS RX3 37 yX8_turned wsX8_turned) := goodIn_app (goodIn_of _ (by decide +kernel)) ggX3_placeOf_X8_turned
set_option maxRecDepth 20000 in
theorem ggX3_placeOf_X3_from : GoodIn wsX3_placeOf wsX3_from := goodIn_r _ [38, 39, 40, 41, 42, 43, 44, 45, 46, 47, 48, 49] (by decide +kernel) (by decide +kernel)
set_option maxRecDepth 20000 in
theorem gX3_placeOf_X3_from : GoodIn wsX3_placeOf (wsV RX3 55 RX3 yX3_from wsX3_from) := goodIn_app (goodIn_of _ (by decide +kernel)) ggX3_placeOf_X3_from
theorem dX3_placeOf_0 : decode cX3_placeOf 0 = .ok (.aload_n 0, 1) := by decide +kernel
theorem dX3_placeOf_1 : decode cX3_placeOf 1 = .ok (.lload_n 1, 1) := by decide +kernel
theorem dX3_placeOf_2 : decode cX3_placeOf 2 = .ok (.iload_n 3, 1) := by decide +kernel
theorem dX3_placeOf_3 : decode cX3_placeOf 3 = .ok (.invokestatic 37, 3) := by decide +kernel
theorem dX3_placeOf_6 : decode cX3_placeOf 6 = .ok (.invokevirtual 55, 3) := by decide +kernel
theorem dX3_placeOf_9 : decode cX3_placeOf 9 = .ok (.ireturn, 1) := by decide +kernel
set_option maxRecDepth 20000 in
theorem ggX3_firstAlone_X8_length : GoodIn wsX3_firstAlone wsX8_length := goodIn_r _ [4, 5, 6, 3, 7] (by decide +kernel) (by decide +kernel)
set_option maxRecDepth 20000 in
theorem gX3_firstAlone_X8_length : GoodIn wsX3_firstAlone (va_wsS RX3 31 yX8_length wsX8_length) := goodIn_app (goodIn_of _ (by decide +kernel)) ggX3_firstAlone_X8_length
set_option maxRecDepth 20000 in
theorem ggX3_firstAlone_X8_turned : GoodIn wsX3_firstAlone wsX8_turned := goodIn_r _ [10, 11, 12, 2, 3, 4, 5, 6, 7, 13, 14, 15, 16, 17, 18, 19, 20, 21, 22, 23, 24, 25, 26, 27, 28, 29, 30, 31, 32, 33, 34] (by decide +kernel) (by decide +kernel)
set_option maxRecDepth 20000 in
theorem gX3_firstAlone_X8_turned : GoodIn wsX3_firstAlone (va_wsS RX3 37 yX8_turned wsX8_turned) := goodIn_app (goodIn_of _ (by decide +kernel)) ggX3_firstAlone_X8_turned
set_option maxRecDepth 20000 in
theorem ggX3_firstAlone_X8_head : GoodIn wsX3_firstAlone wsX8_head := goodIn_r _ [27, 28, 29, 30, 31, 32, 33, 34] (by decide +kernel) (by decide +kernel)
set_option maxRecDepth 20000 in
theorem gX3_firstAlone_X8_head : GoodIn wsX3_firstAlone (va_wsS RX3 71 yX8_head wsX8_head) := goodIn_app (goodIn_of _ (by decide +kernel)) ggX3_firstAlone_X8_head
set_option maxRecDepth 20000 in
theorem ggX3_firstAlone_X3_wordsThatTurnTo : GoodIn wsX3_firstAlone wsX3_wordsThatTurnTo := goodIn_r _ [40, 41, 42, 43, 39, 44, 45, 46, 3, 47, 16, 17, 18, 22, 23, 24, 48, 49, 50, 51, 52, 53, 54, 55, 56, 57, 58, 59, 60, 61, 62, 63, 64, 65, 66, 67, 68, 69, 70, 71, 72, 73, 74, 75, 83, 84, 85] (by decide +kernel) (by decide +kernel)
set_option maxRecDepth 20000 in
theorem gX3_firstAlone_X3_wordsThatTurnTo : GoodIn wsX3_firstAlone (wsV RX3 74 RX3 yX3_wordsThatTurnTo wsX3_wordsThatTurnTo) := goodIn_app (goodIn_of _ (by decide +kernel)) ggX3_firstAlone_X3_wordsThatTurnTo
set_option maxRecDepth 20000 in
theorem ggX3_firstAlone_J13_bitCount_95d88 : GoodIn wsX3_firstAlone wsJ13_bitCount_95d88 := goodIn_r _ [79, 80, 81, 82] (by decide +kernel) (by decide +kernel)
set_option maxRecDepth 20000 in
theorem gX3_firstAlone_J13_bitCount_95d88 : GoodIn wsX3_firstAlone (va_wsS RX3 77 yJ13_bitCount_95d88 wsJ13_bitCount_95d88) := goodIn_app (goodIn_of _ (by decide +kernel)) ggX3_firstAlone_J13_bitCount_95d88
theorem dX3_firstAlone_0 : decode cX3_firstAlone 0 = .ok (.lload_n 1, 1) := by decide +kernel
theorem dX3_firstAlone_1 : decode cX3_firstAlone 1 = .ok (.invokestatic 31, 3) := by decide +kernel
theorem dX3_firstAlone_4 : decode cX3_firstAlone 4 = .ok (.istore 4, 2) := by decide +kernel
theorem dX3_firstAlone_6 : decode cX3_firstAlone 6 = .ok (.iload_n 3, 1) := by decide +kernel
theorem dX3_firstAlone_7 : decode cX3_firstAlone 7 = .ok (.iload 4, 2) := by decide +kernel
theorem dX3_firstAlone_9 : decode cX3_firstAlone 9 = .ok (.iconst 1, 1) := by decide +kernel
theorem dX3_firstAlone_10 : decode cX3_firstAlone 10 = .ok (.iadd, 1) := by decide +kernel
theorem dX3_firstAlone_11 : decode cX3_firstAlone 11 = .ok (.if_icmp .le 5, 3) := by decide +kernel
theorem dX3_firstAlone_14 : decode cX3_firstAlone 14 = .ok (.iconst (-1), 1) := by decide +kernel
theorem dX3_firstAlone_15 : decode cX3_firstAlone 15 = .ok (.ireturn, 1) := by decide +kernel
theorem dX3_firstAlone_16 : decode cX3_firstAlone 16 = .ok (.iconst 0, 1) := by decide +kernel
theorem dX3_firstAlone_17 : decode cX3_firstAlone 17 = .ok (.istore 5, 2) := by decide +kernel
theorem dX3_firstAlone_19 : decode cX3_firstAlone 19 = .ok (.iload 5, 2) := by decide +kernel
theorem dX3_firstAlone_21 : decode cX3_firstAlone 21 = .ok (.iload 4, 2) := by decide +kernel
theorem dX3_firstAlone_23 : decode cX3_firstAlone 23 = .ok (.if_icmp .gt 38, 3) := by decide +kernel
theorem dX3_firstAlone_26 : decode cX3_firstAlone 26 = .ok (.lload_n 1, 1) := by decide +kernel
theorem dX3_firstAlone_27 : decode cX3_firstAlone 27 = .ok (.iload 5, 2) := by decide +kernel
theorem dX3_firstAlone_29 : decode cX3_firstAlone 29 = .ok (.invokestatic 37, 3) := by decide +kernel
theorem dX3_firstAlone_32 : decode cX3_firstAlone 32 = .ok (.iload_n 3, 1) := by decide +kernel
theorem dX3_firstAlone_33 : decode cX3_firstAlone 33 = .ok (.invokestatic 71, 3) := by decide +kernel
theorem dX3_firstAlone_36 : decode cX3_firstAlone 36 = .ok (.lstore 6, 2) := by decide +kernel
theorem dX3_firstAlone_38 : decode cX3_firstAlone 38 = .ok (.aload_n 0, 1) := by decide +kernel
theorem dX3_firstAlone_39 : decode cX3_firstAlone 39 = .ok (.lload 6, 2) := by decide +kernel
theorem dX3_firstAlone_41 : decode cX3_firstAlone 41 = .ok (.iload_n 3, 1) := by decide +kernel
theorem dX3_firstAlone_42 : decode cX3_firstAlone 42 = .ok (.invokevirtual 74, 3) := by decide +kernel
theorem dX3_firstAlone_45 : decode cX3_firstAlone 45 = .ok (.invokestatic 77, 3) := by decide +kernel
theorem dX3_firstAlone_48 : decode cX3_firstAlone 48 = .ok (.iconst 1, 1) := by decide +kernel
theorem dX3_firstAlone_49 : decode cX3_firstAlone 49 = .ok (.if_icmp .ne 6, 3) := by decide +kernel
theorem dX3_firstAlone_52 : decode cX3_firstAlone 52 = .ok (.iload 5, 2) := by decide +kernel
theorem dX3_firstAlone_54 : decode cX3_firstAlone 54 = .ok (.ireturn, 1) := by decide +kernel
theorem dX3_firstAlone_55 : decode cX3_firstAlone 55 = .ok (.iinc 5 1, 3) := by decide +kernel
theorem dX3_firstAlone_58 : decode cX3_firstAlone 58 = .ok (.goto (-39), 3) := by decide +kernel
theorem dX3_firstAlone_61 : decode cX3_firstAlone 61 = .ok (.iconst (-1), 1) := by decide +kernel
theorem dX3_firstAlone_62 : decode cX3_firstAlone 62 = .ok (.ireturn, 1) := by decide +kernel
set_option maxRecDepth 20000 in
theorem ggX3_moved_X3_size : GoodIn wsX3_moved wsX3_size := goodIn_r _ [5, 6, 7, 8, 9, 10, 11, 12, 26, 27, 28] (by decide +kernel) (by decide +kernel)
set_option maxRecDepth 20000 in
theorem gX3_moved_X3_size : GoodIn wsX3_moved (wsV RX3 82 RX3 yX3_size wsX3_size) := goodIn_app (goodIn_of _ (by decide +kernel)) ggX3_moved_X3_size
set_option maxRecDepth 20000 in
theorem ggX3_moved_X3_signsAt : GoodIn wsX3_moved wsX3_signsAt := goodIn_r _ [16, 6, 17, 18, 19, 10, 20, 21, 22, 23, 24, 25, 12, 26, 27, 28] (by decide +kernel) (by decide +kernel)
set_option maxRecDepth 20000 in
theorem gX3_moved_X3_signsAt : GoodIn wsX3_moved (wsV RX3 83 RX3 yX3_signsAt wsX3_signsAt) := goodIn_app (goodIn_of _ (by decide +kernel)) ggX3_moved_X3_signsAt
theorem dX3_moved_0 : decode cX3_moved 0 = .ok (.iconst 0, 1) := by decide +kernel
theorem dX3_moved_1 : decode cX3_moved 1 = .ok (.istore_n 2, 1) := by decide +kernel
theorem dX3_moved_2 : decode cX3_moved 2 = .ok (.iconst 0, 1) := by decide +kernel
theorem dX3_moved_3 : decode cX3_moved 3 = .ok (.istore_n 3, 1) := by decide +kernel
theorem dX3_moved_4 : decode cX3_moved 4 = .ok (.iconst 0, 1) := by decide +kernel
theorem dX3_moved_5 : decode cX3_moved 5 = .ok (.istore 4, 2) := by decide +kernel
theorem dX3_moved_7 : decode cX3_moved 7 = .ok (.iload 4, 2) := by decide +kernel
theorem dX3_moved_9 : decode cX3_moved 9 = .ok (.aload_n 0, 1) := by decide +kernel
theorem dX3_moved_10 : decode cX3_moved 10 = .ok (.invokevirtual 82, 3) := by decide +kernel
theorem dX3_moved_13 : decode cX3_moved 13 = .ok (.if_icmp .ge 70, 3) := by decide +kernel
theorem dX3_moved_16 : decode cX3_moved 16 = .ok (.aload_n 0, 1) := by decide +kernel
theorem dX3_moved_17 : decode cX3_moved 17 = .ok (.iload 4, 2) := by decide +kernel
theorem dX3_moved_19 : decode cX3_moved 19 = .ok (.invokevirtual 83, 3) := by decide +kernel
theorem dX3_moved_22 : decode cX3_moved 22 = .ok (.lstore 5, 2) := by decide +kernel
theorem dX3_moved_24 : decode cX3_moved 24 = .ok (.iload_n 3, 1) := by decide +kernel
theorem dX3_moved_25 : decode cX3_moved 25 = .ok (.aload_n 1, 1) := by decide +kernel
theorem dX3_moved_26 : decode cX3_moved 26 = .ok (.invokevirtual 82, 3) := by decide +kernel
theorem dX3_moved_29 : decode cX3_moved 29 = .ok (.if_icmp .ge 20, 3) := by decide +kernel
theorem dX3_moved_32 : decode cX3_moved 32 = .ok (.aload_n 1, 1) := by decide +kernel
theorem dX3_moved_33 : decode cX3_moved 33 = .ok (.iload_n 3, 1) := by decide +kernel
theorem dX3_moved_34 : decode cX3_moved 34 = .ok (.invokevirtual 83, 3) := by decide +kernel
theorem dX3_moved_37 : decode cX3_moved 37 = .ok (.lload 5, 2) := by decide +kernel
theorem dX3_moved_39 : decode cX3_moved 39 = .ok (.lcmp, 1) := by decide +kernel
theorem dX3_moved_40 : decode cX3_moved 40 = .ok (.ifCond .ge 9, 3) := by decide +kernel
theorem dX3_moved_43 : decode cX3_moved 43 = .ok (.iinc 3 1, 3) := by decide +kernel
theorem dX3_moved_46 : decode cX3_moved 46 = .ok (.goto (-22), 3) := by decide +kernel
theorem dX3_moved_49 : decode cX3_moved 49 = .ok (.iload_n 3, 1) := by decide +kernel
theorem dX3_moved_50 : decode cX3_moved 50 = .ok (.aload_n 1, 1) := by decide +kernel
theorem dX3_moved_51 : decode cX3_moved 51 = .ok (.invokevirtual 82, 3) := by decide +kernel
theorem dX3_moved_54 : decode cX3_moved 54 = .ok (.if_icmp .ge 23, 3) := by decide +kernel
theorem dX3_moved_57 : decode cX3_moved 57 = .ok (.aload_n 1, 1) := by decide +kernel
theorem dX3_moved_58 : decode cX3_moved 58 = .ok (.iload_n 3, 1) := by decide +kernel
theorem dX3_moved_59 : decode cX3_moved 59 = .ok (.invokevirtual 83, 3) := by decide +kernel
theorem dX3_moved_62 : decode cX3_moved 62 = .ok (.lload 5, 2) := by decide +kernel
theorem dX3_moved_64 : decode cX3_moved 64 = .ok (.lcmp, 1) := by decide +kernel
theorem dX3_moved_65 : decode cX3_moved 65 = .ok (.ifCond .ne 12, 3) := by decide +kernel
theorem dX3_moved_68 : decode cX3_moved 68 = .ok (.iload_n 3, 1) := by decide +kernel
theorem dX3_moved_69 : decode cX3_moved 69 = .ok (.iload 4, 2) := by decide +kernel
theorem dX3_moved_71 : decode cX3_moved 71 = .ok (.if_icmp .eq 6, 3) := by decide +kernel
theorem dX3_moved_74 : decode cX3_moved 74 = .ok (.iinc 2 1, 3) := by decide +kernel
theorem dX3_moved_77 : decode cX3_moved 77 = .ok (.iinc 4 1, 3) := by decide +kernel
theorem dX3_moved_80 : decode cX3_moved 80 = .ok (.goto (-73), 3) := by decide +kernel
theorem dX3_moved_83 : decode cX3_moved 83 = .ok (.iload_n 2, 1) := by decide +kernel
theorem dX3_moved_84 : decode cX3_moved 84 = .ok (.ireturn, 1) := by decide +kernel
set_option maxRecDepth 20000 in
theorem ggX4_init_X7_init : GoodIn wsX4_init wsX7_init := goodIn_r _ [10, 11, 2, 3, 12, 13, 14, 15, 16, 17, 18, 19, 20, 23, 24] (by decide +kernel) (by decide +kernel)
set_option maxRecDepth 20000 in
theorem gX4_init_X7_init : GoodIn wsX4_init (wsX7_init) := ggX4_init_X7_init
theorem dX4_init_0 : decode cX4_init 0 = .ok (.aload_n 0, 1) := by decide +kernel
theorem dX4_init_1 : decode cX4_init 1 = .ok (.invokespecial 3, 3) := by decide +kernel
theorem dX4_init_4 : decode cX4_init 4 = .ok (.aload_n 0, 1) := by decide +kernel
theorem dX4_init_5 : decode cX4_init 5 = .ok (.iconst 4, 1) := by decide +kernel
theorem dX4_init_6 : decode cX4_init 6 = .ok (.anewarray 9, 3) := by decide +kernel
theorem dX4_init_9 : decode cX4_init 9 = .ok (.putfield 11, 3) := by decide +kernel
theorem dX4_init_12 : decode cX4_init 12 = .ok (.iconst 0, 1) := by decide +kernel
theorem dX4_init_13 : decode cX4_init 13 = .ok (.istore_n 1, 1) := by decide +kernel
theorem dX4_init_14 : decode cX4_init 14 = .ok (.iload_n 1, 1) := by decide +kernel
theorem dX4_init_15 : decode cX4_init 15 = .ok (.iconst 4, 1) := by decide +kernel
theorem dX4_init_16 : decode cX4_init 16 = .ok (.if_icmp .ge 24, 3) := by decide +kernel
theorem dX4_init_19 : decode cX4_init 19 = .ok (.aload_n 0, 1) := by decide +kernel
theorem dX4_init_20 : decode cX4_init 20 = .ok (.getfield 11, 3) := by decide +kernel
theorem dX4_init_23 : decode cX4_init 23 = .ok (.iload_n 1, 1) := by decide +kernel
theorem dX4_init_24 : decode cX4_init 24 = .ok (.new 9, 3) := by decide +kernel
theorem dX4_init_27 : decode cX4_init 27 = .ok (.dup, 1) := by decide +kernel
theorem dX4_init_28 : decode cX4_init 28 = .ok (.bipush 40, 2) := by decide +kernel
theorem dX4_init_30 : decode cX4_init 30 = .ok (.invokespecial 17, 3) := by decide +kernel
theorem dX4_init_33 : decode cX4_init 33 = .ok (.aastore, 1) := by decide +kernel
theorem dX4_init_34 : decode cX4_init 34 = .ok (.iinc 1 1, 3) := by decide +kernel
theorem dX4_init_37 : decode cX4_init 37 = .ok (.goto (-23), 3) := by decide +kernel
theorem dX4_init_40 : decode cX4_init 40 = .ok (.return_, 1) := by decide +kernel
theorem dX4_size_0 : decode cX4_size 0 = .ok (.aload_n 0, 1) := by decide +kernel
theorem dX4_size_1 : decode cX4_size 1 = .ok (.getfield 20, 3) := by decide +kernel
theorem dX4_size_4 : decode cX4_size 4 = .ok (.ireturn, 1) := by decide +kernel
theorem dX4_clear_0 : decode cX4_clear 0 = .ok (.aload_n 0, 1) := by decide +kernel
theorem dX4_clear_1 : decode cX4_clear 1 = .ok (.iconst 0, 1) := by decide +kernel
theorem dX4_clear_2 : decode cX4_clear 2 = .ok (.putfield 20, 3) := by decide +kernel
theorem dX4_clear_5 : decode cX4_clear 5 = .ok (.return_, 1) := by decide +kernel
set_option maxRecDepth 20000 in
theorem ggX4_keep_X4_forgetOldest : GoodIn wsX4_keep wsX4_forgetOldest := goodIn_r _ [7, 2, 1, 23, 24] (by decide +kernel) (by decide +kernel)
set_option maxRecDepth 20000 in
theorem gX4_keep_X4_forgetOldest : GoodIn wsX4_keep (wsV RX4 24 RX4 yX4_forgetOldest wsX4_forgetOldest) := goodIn_app (goodIn_of _ (by decide +kernel)) ggX4_keep_X4_forgetOldest
set_option maxRecDepth 20000 in
theorem ggX4_keep_X7_copy : GoodIn wsX4_keep wsX7_copy := goodIn_r _ [12, 13, 14, 15, 16, 17, 18, 19, 20, 21, 22, 25, 26] (by decide +kernel) (by decide +kernel)
set_option maxRecDepth 20000 in
theorem gX4_keep_X7_copy : GoodIn wsX4_keep (wsV RX4 27 RX7 yX7_copy wsX7_copy) := goodIn_app (goodIn_of _ (by decide +kernel)) ggX4_keep_X7_copy
theorem dX4_keep_0 : decode cX4_keep 0 = .ok (.aload_n 0, 1) := by decide +kernel
theorem dX4_keep_1 : decode cX4_keep 1 = .ok (.getfield 20, 3) := by decide +kernel
theorem dX4_keep_4 : decode cX4_keep 4 = .ok (.iconst 4, 1) := by decide +kernel
theorem dX4_keep_5 : decode cX4_keep 5 = .ok (.if_icmp .lt 7, 3) := by decide +kernel
theorem dX4_keep_8 : decode cX4_keep 8 = .ok (.aload_n 0, 1) := by decide +kernel
theorem dX4_keep_9 : decode cX4_keep 9 = .ok (.invokevirtual 24, 3) := by decide +kernel
theorem dX4_keep_12 : decode cX4_keep 12 = .ok (.aload_n 0, 1) := by decide +kernel
theorem dX4_keep_13 : decode cX4_keep 13 = .ok (.getfield 11, 3) := by decide +kernel
theorem dX4_keep_16 : decode cX4_keep 16 = .ok (.aload_n 0, 1) := by decide +kernel
theorem dX4_keep_17 : decode cX4_keep 17 = .ok (.getfield 20, 3) := by decide +kernel
theorem dX4_keep_20 : decode cX4_keep 20 = .ok (.aaload, 1) := by decide +kernel
theorem dX4_keep_21 : decode cX4_keep 21 = .ok (.aload_n 1, 1) := by decide +kernel
theorem dX4_keep_22 : decode cX4_keep 22 = .ok (.invokevirtual 27, 3) := by decide +kernel
theorem dX4_keep_25 : decode cX4_keep 25 = .ok (.aload_n 0, 1) := by decide +kernel
theorem dX4_keep_26 : decode cX4_keep 26 = .ok (.dup, 1) := by decide +kernel
theorem dX4_keep_27 : decode cX4_keep 27 = .ok (.getfield 20, 3) := by decide +kernel
theorem dX4_keep_30 : decode cX4_keep 30 = .ok (.iconst 1, 1) := by decide +kernel
theorem dX4_keep_31 : decode cX4_keep 31 = .ok (.iadd, 1) := by decide +kernel
theorem dX4_keep_32 : decode cX4_keep 32 = .ok (.putfield 20, 3) := by decide +kernel
theorem dX4_keep_35 : decode cX4_keep 35 = .ok (.return_, 1) := by decide +kernel
theorem dX4_forgetOldest_0 : decode cX4_forgetOldest 0 = .ok (.aload_n 0, 1) := by decide +kernel
theorem dX4_forgetOldest_1 : decode cX4_forgetOldest 1 = .ok (.getfield 11, 3) := by decide +kernel
theorem dX4_forgetOldest_4 : decode cX4_forgetOldest 4 = .ok (.iconst 0, 1) := by decide +kernel
theorem dX4_forgetOldest_5 : decode cX4_forgetOldest 5 = .ok (.aaload, 1) := by decide +kernel
theorem dX4_forgetOldest_6 : decode cX4_forgetOldest 6 = .ok (.astore_n 1, 1) := by decide +kernel
theorem dX4_forgetOldest_7 : decode cX4_forgetOldest 7 = .ok (.iconst 1, 1) := by decide +kernel
theorem dX4_forgetOldest_8 : decode cX4_forgetOldest 8 = .ok (.istore_n 2, 1) := by decide +kernel
theorem dX4_forgetOldest_9 : decode cX4_forgetOldest 9 = .ok (.iload_n 2, 1) := by decide +kernel
theorem dX4_forgetOldest_10 : decode cX4_forgetOldest 10 = .ok (.iconst 4, 1) := by decide +kernel
theorem dX4_forgetOldest_11 : decode cX4_forgetOldest 11 = .ok (.if_icmp .ge 23, 3) := by decide +kernel
theorem dX4_forgetOldest_14 : decode cX4_forgetOldest 14 = .ok (.aload_n 0, 1) := by decide +kernel
theorem dX4_forgetOldest_15 : decode cX4_forgetOldest 15 = .ok (.getfield 11, 3) := by decide +kernel
theorem dX4_forgetOldest_18 : decode cX4_forgetOldest 18 = .ok (.iload_n 2, 1) := by decide +kernel
theorem dX4_forgetOldest_19 : decode cX4_forgetOldest 19 = .ok (.iconst 1, 1) := by decide +kernel
theorem dX4_forgetOldest_20 : decode cX4_forgetOldest 20 = .ok (.isub, 1) := by decide +kernel
theorem dX4_forgetOldest_21 : decode cX4_forgetOldest 21 = .ok (.aload_n 0, 1) := by decide +kernel
theorem dX4_forgetOldest_22 : decode cX4_forgetOldest 22 = .ok (.getfield 11, 3) := by decide +kernel
theorem dX4_forgetOldest_25 : decode cX4_forgetOldest 25 = .ok (.iload_n 2, 1) := by decide +kernel
theorem dX4_forgetOldest_26 : decode cX4_forgetOldest 26 = .ok (.aaload, 1) := by decide +kernel
theorem dX4_forgetOldest_27 : decode cX4_forgetOldest 27 = .ok (.aastore, 1) := by decide +kernel
theorem dX4_forgetOldest_28 : decode cX4_forgetOldest 28 = .ok (.iinc 2 1, 3) := by decide +kernel
theorem dX4_forgetOldest_31 : decode cX4_forgetOldest 31 = .ok (.goto (-22), 3) := by decide +kernel
theorem dX4_forgetOldest_34 : decode cX4_forgetOldest 34 = .ok (.aload_n 0, 1) := by decide +kernel
theorem dX4_forgetOldest_35 : decode cX4_forgetOldest 35 = .ok (.getfield 11, 3) := by decide +kernel
theorem dX4_forgetOldest_38 : decode cX4_forgetOldest 38 = .ok (.iconst 3, 1) := by decide +kernel
theorem dX4_forgetOldest_39 : decode cX4_forgetOldest 39 = .ok (.aload_n 1, 1) := by decide +kernel
theorem dX4_forgetOldest_40 : decode cX4_forgetOldest 40 = .ok (.aastore, 1) := by decide +kernel
theorem dX4_forgetOldest_41 : decode cX4_forgetOldest 41 = .ok (.aload_n 0, 1) := by decide +kernel
theorem dX4_forgetOldest_42 : decode cX4_forgetOldest 42 = .ok (.iconst 3, 1) := by decide +kernel
theorem dX4_forgetOldest_43 : decode cX4_forgetOldest 43 = .ok (.putfield 20, 3) := by decide +kernel
theorem dX4_forgetOldest_46 : decode cX4_forgetOldest 46 = .ok (.return_, 1) := by decide +kernel
theorem dX4_takeLatest_0 : decode cX4_takeLatest 0 = .ok (.aload_n 0, 1) := by decide +kernel
theorem dX4_takeLatest_1 : decode cX4_takeLatest 1 = .ok (.aload_n 0, 1) := by decide +kernel
theorem dX4_takeLatest_2 : decode cX4_takeLatest 2 = .ok (.getfield 20, 3) := by decide +kernel
theorem dX4_takeLatest_5 : decode cX4_takeLatest 5 = .ok (.iconst 1, 1) := by decide +kernel
theorem dX4_takeLatest_6 : decode cX4_takeLatest 6 = .ok (.isub, 1) := by decide +kernel
theorem dX4_takeLatest_7 : decode cX4_takeLatest 7 = .ok (.iconst 0, 1) := by decide +kernel
theorem dX4_takeLatest_8 : decode cX4_takeLatest 8 = .ok (.invokestatic 31, 3) := by decide +kernel
theorem dX4_takeLatest_11 : decode cX4_takeLatest 11 = .ok (.putfield 20, 3) := by decide +kernel
theorem dX4_takeLatest_14 : decode cX4_takeLatest 14 = .ok (.aload_n 0, 1) := by decide +kernel
theorem dX4_takeLatest_15 : decode cX4_takeLatest 15 = .ok (.getfield 11, 3) := by decide +kernel
theorem dX4_takeLatest_18 : decode cX4_takeLatest 18 = .ok (.aload_n 0, 1) := by decide +kernel
theorem dX4_takeLatest_19 : decode cX4_takeLatest 19 = .ok (.getfield 20, 3) := by decide +kernel
theorem dX4_takeLatest_22 : decode cX4_takeLatest 22 = .ok (.aaload, 1) := by decide +kernel
theorem dX4_takeLatest_23 : decode cX4_takeLatest 23 = .ok (.areturn, 1) := by decide +kernel
theorem dX5_init_0 : decode cX5_init 0 = .ok (.aload_n 0, 1) := by decide +kernel
theorem dX5_init_1 : decode cX5_init 1 = .ok (.invokespecial 3, 3) := by decide +kernel
theorem dX5_init_4 : decode cX5_init 4 = .ok (.aload_n 0, 1) := by decide +kernel
theorem dX5_init_5 : decode cX5_init 5 = .ok (.bipush 12, 2) := by decide +kernel
theorem dX5_init_7 : decode cX5_init 7 = .ok (.newarray .int, 2) := by decide +kernel
theorem dX5_init_9 : decode cX5_init 9 = .ok (.putfield 9, 3) := by decide +kernel
theorem dX5_init_12 : decode cX5_init 12 = .ok (.aload_n 0, 1) := by decide +kernel
theorem dX5_init_13 : decode cX5_init 13 = .ok (.getfield 9, 3) := by decide +kernel
theorem dX5_init_16 : decode cX5_init 16 = .ok (.iconst 0, 1) := by decide +kernel
theorem dX5_init_17 : decode cX5_init 17 = .ok (.bipush 42, 2) := by decide +kernel
theorem dX5_init_19 : decode cX5_init 19 = .ok (.iastore, 1) := by decide +kernel
theorem dX5_init_20 : decode cX5_init 20 = .ok (.aload_n 0, 1) := by decide +kernel
theorem dX5_init_21 : decode cX5_init 21 = .ok (.iconst 1, 1) := by decide +kernel
theorem dX5_init_22 : decode cX5_init 22 = .ok (.putfield 15, 3) := by decide +kernel
theorem dX5_init_25 : decode cX5_init 25 = .ok (.return_, 1) := by decide +kernel
set_option maxRecDepth 20000 in
theorem ggX5_isSign_X11_isLetter : GoodIn wsX5_isSign wsX11_isLetter := goodIn_r _ [3] (by decide +kernel) (by decide +kernel)
set_option maxRecDepth 20000 in
theorem gX5_isSign_X11_isLetter_n19 : GoodIn wsX5_isSign (wsX11_isLetter) := ggX5_isSign_X11_isLetter
theorem dX5_isSign_0 : decode cX5_isSign 0 = .ok (.iload_n 0, 1) := by decide +kernel
theorem dX5_isSign_1 : decode cX5_isSign 1 = .ok (.invokestatic 19, 3) := by decide +kernel
theorem dX5_isSign_4 : decode cX5_isSign 4 = .ok (.ifCond .ne 15, 3) := by decide +kernel
theorem dX5_isSign_7 : decode cX5_isSign 7 = .ok (.iload_n 0, 1) := by decide +kernel
theorem dX5_isSign_8 : decode cX5_isSign 8 = .ok (.bipush 63, 2) := by decide +kernel
theorem dX5_isSign_10 : decode cX5_isSign 10 = .ok (.if_icmp .eq 9, 3) := by decide +kernel
theorem dX5_isSign_13 : decode cX5_isSign 13 = .ok (.iload_n 0, 1) := by decide +kernel
theorem dX5_isSign_14 : decode cX5_isSign 14 = .ok (.bipush 42, 2) := by decide +kernel
theorem dX5_isSign_16 : decode cX5_isSign 16 = .ok (.if_icmp .ne 7, 3) := by decide +kernel
theorem dX5_isSign_19 : decode cX5_isSign 19 = .ok (.iconst 1, 1) := by decide +kernel
theorem dX5_isSign_20 : decode cX5_isSign 20 = .ok (.goto 4, 3) := by decide +kernel
theorem dX5_isSign_23 : decode cX5_isSign 23 = .ok (.iconst 0, 1) := by decide +kernel
theorem dX5_isSign_24 : decode cX5_isSign 24 = .ok (.ireturn, 1) := by decide +kernel
theorem dX5_size_0 : decode cX5_size 0 = .ok (.aload_n 0, 1) := by decide +kernel
theorem dX5_size_1 : decode cX5_size 1 = .ok (.getfield 15, 3) := by decide +kernel
theorem dX5_size_4 : decode cX5_size 4 = .ok (.ireturn, 1) := by decide +kernel
theorem dX5_hasPlace_0 : decode cX5_hasPlace 0 = .ok (.iload_n 1, 1) := by decide +kernel
theorem dX5_hasPlace_1 : decode cX5_hasPlace 1 = .ok (.ifCond .lt 15, 3) := by decide +kernel
theorem dX5_hasPlace_4 : decode cX5_hasPlace 4 = .ok (.iload_n 1, 1) := by decide +kernel
theorem dX5_hasPlace_5 : decode cX5_hasPlace 5 = .ok (.aload_n 0, 1) := by decide +kernel
theorem dX5_hasPlace_6 : decode cX5_hasPlace 6 = .ok (.getfield 15, 3) := by decide +kernel
theorem dX5_hasPlace_9 : decode cX5_hasPlace 9 = .ok (.if_icmp .ge 7, 3) := by decide +kernel
theorem dX5_hasPlace_12 : decode cX5_hasPlace 12 = .ok (.iconst 1, 1) := by decide +kernel
theorem dX5_hasPlace_13 : decode cX5_hasPlace 13 = .ok (.goto 4, 3) := by decide +kernel
theorem dX5_hasPlace_16 : decode cX5_hasPlace 16 = .ok (.iconst 0, 1) := by decide +kernel
theorem dX5_hasPlace_17 : decode cX5_hasPlace 17 = .ok (.ireturn, 1) := by decide +kernel
set_option maxRecDepth 20000 in
theorem ggX5_at_X5_hasPlace : GoodIn wsX5_at wsX5_hasPlace := goodIn_r _ [6, 7, 8, 9] (by decide +kernel) (by decide +kernel)
set_option maxRecDepth 20000 in
theorem gX5_at_X5_hasPlace : GoodIn wsX5_at (wsV RX5 23 RX5 yX5_hasPlace wsX5_hasPlace) := goodIn_app (goodIn_of _ (by decide +kernel)) ggX5_at_X5_hasPlace
theorem dX5_at_0 : decode cX5_at 0 = .ok (.aload_n 0, 1) := by decide +kernel
theorem dX5_at_1 : decode cX5_at 1 = .ok (.iload_n 1, 1) := by decide +kernel
theorem dX5_at_2 : decode cX5_at 2 = .ok (.invokevirtual 23, 3) := by decide +kernel
theorem dX5_at_5 : decode cX5_at 5 = .ok (.ifCond .eq 12, 3) := by decide +kernel
theorem dX5_at_8 : decode cX5_at 8 = .ok (.aload_n 0, 1) := by decide +kernel
theorem dX5_at_9 : decode cX5_at 9 = .ok (.getfield 9, 3) := by decide +kernel
theorem dX5_at_12 : decode cX5_at 12 = .ok (.iload_n 1, 1) := by decide +kernel
theorem dX5_at_13 : decode cX5_at 13 = .ok (.iaload, 1) := by decide +kernel
theorem dX5_at_14 : decode cX5_at 14 = .ok (.goto 4, 3) := by decide +kernel
theorem dX5_at_17 : decode cX5_at 17 = .ok (.iconst (-1), 1) := by decide +kernel
theorem dX5_at_18 : decode cX5_at 18 = .ok (.ireturn, 1) := by decide +kernel
set_option maxRecDepth 20000 in
theorem ggX5_put_X5_hasPlace : GoodIn wsX5_put wsX5_hasPlace := goodIn_r _ [6, 7, 8, 9] (by decide +kernel) (by decide +kernel)
set_option maxRecDepth 20000 in
theorem gX5_put_X5_hasPlace : GoodIn wsX5_put (wsV RX5 23 RX5 yX5_hasPlace wsX5_hasPlace) := goodIn_app (goodIn_of _ (by decide +kernel)) ggX5_put_X5_hasPlace
theorem dX5_put_0 : decode cX5_put 0 = .ok (.aload_n 0, 1) := by decide +kernel
theorem dX5_put_1 : decode cX5_put 1 = .ok (.iload_n 1, 1) := by decide +kernel
theorem dX5_put_2 : decode cX5_put 2 = .ok (.invokevirtual 23, 3) := by decide +kernel
theorem dX5_put_5 : decode cX5_put 5 = .ok (.ifCond .eq 10, 3) := by decide +kernel
theorem dX5_put_8 : decode cX5_put 8 = .ok (.aload_n 0, 1) := by decide +kernel
theorem dX5_put_9 : decode cX5_put 9 = .ok (.getfield 9, 3) := by decide +kernel
theorem dX5_put_12 : decode cX5_put 12 = .ok (.iload_n 1, 1) := by decide +kernel
theorem dX5_put_13 : decode cX5_put 13 = .ok (.iload_n 2, 1) := by decide +kernel
theorem dX5_put_14 : decode cX5_put 14 = .ok (.iastore, 1) := by decide +kernel
theorem dX5_put_15 : decode cX5_put 15 = .ok (.return_, 1) := by decide +kernel
set_option maxRecDepth 20000 in
theorem ggX5_take_X10_size : GoodIn wsX5_take wsX10_size := goodIn_r _ [11, 12, 20, 21] (by decide +kernel) (by decide +kernel)
set_option maxRecDepth 20000 in
theorem gX5_take_X10_size : GoodIn wsX5_take (wsV RX5 26 RX10 yX10_size wsX10_size) := goodIn_app (goodIn_of _ (by decide +kernel)) ggX5_take_X10_size
set_option maxRecDepth 20000 in
theorem ggX5_take_X10_at : GoodIn wsX5_take wsX10_at := goodIn_r _ [16, 12, 17, 20, 21] (by decide +kernel) (by decide +kernel)
set_option maxRecDepth 20000 in
theorem gX5_take_X10_at : GoodIn wsX5_take (wsV RX5 37 RX10 yX10_at wsX10_at) := goodIn_app (goodIn_of _ (by decide +kernel)) ggX5_take_X10_at
theorem dX5_take_0 : decode cX5_take 0 = .ok (.aload_n 0, 1) := by decide +kernel
theorem dX5_take_1 : decode cX5_take 1 = .ok (.aload_n 1, 1) := by decide +kernel
theorem dX5_take_2 : decode cX5_take 2 = .ok (.invokevirtual 26, 3) := by decide +kernel
theorem dX5_take_5 : decode cX5_take 5 = .ok (.bipush 12, 2) := by decide +kernel
theorem dX5_take_7 : decode cX5_take 7 = .ok (.invokestatic 31, 3) := by decide +kernel
theorem dX5_take_10 : decode cX5_take 10 = .ok (.putfield 15, 3) := by decide +kernel
theorem dX5_take_13 : decode cX5_take 13 = .ok (.iconst 0, 1) := by decide +kernel
theorem dX5_take_14 : decode cX5_take 14 = .ok (.istore_n 2, 1) := by decide +kernel
theorem dX5_take_15 : decode cX5_take 15 = .ok (.iload_n 2, 1) := by decide +kernel
theorem dX5_take_16 : decode cX5_take 16 = .ok (.aload_n 0, 1) := by decide +kernel
theorem dX5_take_17 : decode cX5_take 17 = .ok (.getfield 15, 3) := by decide +kernel
theorem dX5_take_20 : decode cX5_take 20 = .ok (.if_icmp .ge 20, 3) := by decide +kernel
theorem dX5_take_23 : decode cX5_take 23 = .ok (.aload_n 0, 1) := by decide +kernel
theorem dX5_take_24 : decode cX5_take 24 = .ok (.getfield 9, 3) := by decide +kernel
theorem dX5_take_27 : decode cX5_take 27 = .ok (.iload_n 2, 1) := by decide +kernel
theorem dX5_take_28 : decode cX5_take 28 = .ok (.aload_n 1, 1) := by decide +kernel
theorem dX5_take_29 : decode cX5_take 29 = .ok (.iload_n 2, 1) := by decide +kernel
theorem dX5_take_30 : decode cX5_take 30 = .ok (.invokevirtual 37, 3) := by decide +kernel
theorem dX5_take_33 : decode cX5_take 33 = .ok (.iastore, 1) := by decide +kernel
theorem dX5_take_34 : decode cX5_take 34 = .ok (.iinc 2 1, 3) := by decide +kernel
theorem dX5_take_37 : decode cX5_take 37 = .ok (.goto (-22), 3) := by decide +kernel
theorem dX5_take_40 : decode cX5_take 40 = .ok (.return_, 1) := by decide +kernel
theorem dX5_copy_0 : decode cX5_copy 0 = .ok (.aload_n 0, 1) := by decide +kernel
theorem dX5_copy_1 : decode cX5_copy 1 = .ok (.aload_n 1, 1) := by decide +kernel
theorem dX5_copy_2 : decode cX5_copy 2 = .ok (.getfield 15, 3) := by decide +kernel
theorem dX5_copy_5 : decode cX5_copy 5 = .ok (.putfield 15, 3) := by decide +kernel
theorem dX5_copy_8 : decode cX5_copy 8 = .ok (.aload_n 1, 1) := by decide +kernel
theorem dX5_copy_9 : decode cX5_copy 9 = .ok (.getfield 9, 3) := by decide +kernel
theorem dX5_copy_12 : decode cX5_copy 12 = .ok (.iconst 0, 1) := by decide +kernel
theorem dX5_copy_13 : decode cX5_copy 13 = .ok (.aload_n 0, 1) := by decide +kernel
theorem dX5_copy_14 : decode cX5_copy 14 = .ok (.getfield 9, 3) := by decide +kernel
theorem dX5_copy_17 : decode cX5_copy 17 = .ok (.iconst 0, 1) := by decide +kernel
theorem dX5_copy_18 : decode cX5_copy 18 = .ok (.aload_n 0, 1) := by decide +kernel
theorem dX5_copy_19 : decode cX5_copy 19 = .ok (.getfield 15, 3) := by decide +kernel
theorem dX5_copy_22 : decode cX5_copy 22 = .ok (.invokestatic 41, 3) := by decide +kernel
theorem dX5_copy_25 : decode cX5_copy 25 = .ok (.return_, 1) := by decide +kernel
set_option maxRecDepth 20000 in
theorem ggX5_isMetBy_X8_length : GoodIn wsX5_isMetBy wsX8_length := goodIn_r _ [6, 7, 8, 5, 9] (by decide +kernel) (by decide +kernel)
set_option maxRecDepth 20000 in
theorem gX5_isMetBy_X8_length : GoodIn wsX5_isMetBy (va_wsS RX5 47 yX8_length wsX8_length) := goodIn_app (goodIn_of _ (by decide +kernel)) ggX5_isMetBy_X8_length
set_option maxRecDepth 20000 in
theorem ggX5_isMetBy_X5_madeWith : GoodIn wsX5_isMetBy wsX5_madeWith := goodIn_r _ [13, 14, 15, 5, 16, 17, 18, 19, 7, 8, 9] (by decide +kernel) (by decide +kernel)
set_option maxRecDepth 20000 in
theorem gX5_isMetBy_X5_madeWith : GoodIn wsX5_isMetBy (va_wsS RX5 53 yX5_madeWith wsX5_madeWith) := goodIn_app (goodIn_of _ (by decide +kernel)) ggX5_isMetBy_X5_madeWith
theorem dX5_isMetBy_0 : decode cX5_isMetBy 0 = .ok (.iconst 1, 1) := by decide +kernel
theorem dX5_isMetBy_1 : decode cX5_isMetBy 1 = .ok (.lload_n 1, 1) := by decide +kernel
theorem dX5_isMetBy_2 : decode cX5_isMetBy 2 = .ok (.invokestatic 47, 3) := by decide +kernel
theorem dX5_isMetBy_5 : decode cX5_isMetBy 5 = .ok (.ishl, 1) := by decide +kernel
theorem dX5_isMetBy_6 : decode cX5_isMetBy 6 = .ok (.istore_n 3, 1) := by decide +kernel
theorem dX5_isMetBy_7 : decode cX5_isMetBy 7 = .ok (.iconst 1, 1) := by decide +kernel
theorem dX5_isMetBy_8 : decode cX5_isMetBy 8 = .ok (.istore 4, 2) := by decide +kernel
theorem dX5_isMetBy_10 : decode cX5_isMetBy 10 = .ok (.iconst 0, 1) := by decide +kernel
theorem dX5_isMetBy_11 : decode cX5_isMetBy 11 = .ok (.istore 5, 2) := by decide +kernel
theorem dX5_isMetBy_13 : decode cX5_isMetBy 13 = .ok (.iload 5, 2) := by decide +kernel
theorem dX5_isMetBy_15 : decode cX5_isMetBy 15 = .ok (.aload_n 0, 1) := by decide +kernel
theorem dX5_isMetBy_16 : decode cX5_isMetBy 16 = .ok (.getfield 15, 3) := by decide +kernel
theorem dX5_isMetBy_19 : decode cX5_isMetBy 19 = .ok (.if_icmp .ge 35, 3) := by decide +kernel
theorem dX5_isMetBy_22 : decode cX5_isMetBy 22 = .ok (.iload 4, 2) := by decide +kernel
theorem dX5_isMetBy_24 : decode cX5_isMetBy 24 = .ok (.ifCond .eq 30, 3) := by decide +kernel
theorem dX5_isMetBy_27 : decode cX5_isMetBy 27 = .ok (.iload 4, 2) := by decide +kernel
theorem dX5_isMetBy_29 : decode cX5_isMetBy 29 = .ok (.aload_n 0, 1) := by decide +kernel
theorem dX5_isMetBy_30 : decode cX5_isMetBy 30 = .ok (.getfield 9, 3) := by decide +kernel
theorem dX5_isMetBy_33 : decode cX5_isMetBy 33 = .ok (.iload 5, 2) := by decide +kernel
theorem dX5_isMetBy_35 : decode cX5_isMetBy 35 = .ok (.iaload, 1) := by decide +kernel
theorem dX5_isMetBy_36 : decode cX5_isMetBy 36 = .ok (.lload_n 1, 1) := by decide +kernel
theorem dX5_isMetBy_37 : decode cX5_isMetBy 37 = .ok (.invokestatic 53, 3) := by decide +kernel
theorem dX5_isMetBy_40 : decode cX5_isMetBy 40 = .ok (.iconst 2, 1) := by decide +kernel
theorem dX5_isMetBy_41 : decode cX5_isMetBy 41 = .ok (.iload_n 3, 1) := by decide +kernel
theorem dX5_isMetBy_42 : decode cX5_isMetBy 42 = .ok (.imul, 1) := by decide +kernel
theorem dX5_isMetBy_43 : decode cX5_isMetBy 43 = .ok (.iconst 1, 1) := by decide +kernel
theorem dX5_isMetBy_44 : decode cX5_isMetBy 44 = .ok (.isub, 1) := by decide +kernel
theorem dX5_isMetBy_45 : decode cX5_isMetBy 45 = .ok (.iand, 1) := by decide +kernel
theorem dX5_isMetBy_46 : decode cX5_isMetBy 46 = .ok (.istore 4, 2) := by decide +kernel
theorem dX5_isMetBy_48 : decode cX5_isMetBy 48 = .ok (.iinc 5 1, 3) := by decide +kernel
theorem dX5_isMetBy_51 : decode cX5_isMetBy 51 = .ok (.goto (-38), 3) := by decide +kernel
theorem dX5_isMetBy_54 : decode cX5_isMetBy 54 = .ok (.iload 4, 2) := by decide +kernel
theorem dX5_isMetBy_56 : decode cX5_isMetBy 56 = .ok (.iload_n 3, 1) := by decide +kernel
theorem dX5_isMetBy_57 : decode cX5_isMetBy 57 = .ok (.iand, 1) := by decide +kernel
theorem dX5_isMetBy_58 : decode cX5_isMetBy 58 = .ok (.ifCond .eq 7, 3) := by decide +kernel
theorem dX5_isMetBy_61 : decode cX5_isMetBy 61 = .ok (.iconst 1, 1) := by decide +kernel
theorem dX5_isMetBy_62 : decode cX5_isMetBy 62 = .ok (.goto 4, 3) := by decide +kernel
theorem dX5_isMetBy_65 : decode cX5_isMetBy 65 = .ok (.iconst 0, 1) := by decide +kernel
theorem dX5_isMetBy_66 : decode cX5_isMetBy 66 = .ok (.ireturn, 1) := by decide +kernel
set_option maxRecDepth 20000 in
theorem ggX5_madeWith_X8_placesOf : GoodIn wsX5_madeWith wsX8_placesOf := goodIn_r _ [4, 5, 6, 3, 7, 8, 9, 10] (by decide +kernel) (by decide +kernel)
set_option maxRecDepth 20000 in
theorem gX5_madeWith_X8_placesOf : GoodIn wsX5_madeWith (va_wsS RX5 57 yX8_placesOf wsX8_placesOf) := goodIn_app (goodIn_of _ (by decide +kernel)) ggX5_madeWith_X8_placesOf
theorem dX5_madeWith_0 : decode cX5_madeWith 0 = .ok (.iload_n 1, 1) := by decide +kernel
theorem dX5_madeWith_1 : decode cX5_madeWith 1 = .ok (.bipush 42, 2) := by decide +kernel
theorem dX5_madeWith_3 : decode cX5_madeWith 3 = .ok (.if_icmp .ne 8, 3) := by decide +kernel
theorem dX5_madeWith_6 : decode cX5_madeWith 6 = .ok (.iload_n 0, 1) := by decide +kernel
theorem dX5_madeWith_7 : decode cX5_madeWith 7 = .ok (.iload_n 0, 1) := by decide +kernel
theorem dX5_madeWith_8 : decode cX5_madeWith 8 = .ok (.ineg, 1) := by decide +kernel
theorem dX5_madeWith_9 : decode cX5_madeWith 9 = .ok (.ior, 1) := by decide +kernel
theorem dX5_madeWith_10 : decode cX5_madeWith 10 = .ok (.ireturn, 1) := by decide +kernel
theorem dX5_madeWith_11 : decode cX5_madeWith 11 = .ok (.iload_n 1, 1) := by decide +kernel
theorem dX5_madeWith_12 : decode cX5_madeWith 12 = .ok (.bipush 63, 2) := by decide +kernel
theorem dX5_madeWith_14 : decode cX5_madeWith 14 = .ok (.if_icmp .ne 7, 3) := by decide +kernel
theorem dX5_madeWith_17 : decode cX5_madeWith 17 = .ok (.iload_n 0, 1) := by decide +kernel
theorem dX5_madeWith_18 : decode cX5_madeWith 18 = .ok (.goto 10, 3) := by decide +kernel
theorem dX5_madeWith_21 : decode cX5_madeWith 21 = .ok (.iload_n 0, 1) := by decide +kernel
theorem dX5_madeWith_22 : decode cX5_madeWith 22 = .ok (.lload_n 2, 1) := by decide +kernel
theorem dX5_madeWith_23 : decode cX5_madeWith 23 = .ok (.iload_n 1, 1) := by decide +kernel
theorem dX5_madeWith_24 : decode cX5_madeWith 24 = .ok (.invokestatic 57, 3) := by decide +kernel
theorem dX5_madeWith_27 : decode cX5_madeWith 27 = .ok (.iand, 1) := by decide +kernel
theorem dX5_madeWith_28 : decode cX5_madeWith 28 = .ok (.iconst 1, 1) := by decide +kernel
theorem dX5_madeWith_29 : decode cX5_madeWith 29 = .ok (.ishl, 1) := by decide +kernel
theorem dX5_madeWith_30 : decode cX5_madeWith 30 = .ok (.ireturn, 1) := by decide +kernel
set_option maxRecDepth 20000 in
theorem ggX6_readWords_X7_clear : GoodIn wsX6_readWords wsX7_clear := goodIn_r _ [9, 10, 83, 84] (by decide +kernel) (by decide +kernel)
set_option maxRecDepth 20000 in
theorem gX6_readWords_X7_clear : GoodIn wsX6_readWords (wsV RX6 9 RX7 yX7_clear wsX7_clear) := goodIn_app (goodIn_of _ (by decide +kernel)) ggX6_readWords_X7_clear
set_option maxRecDepth 20000 in
theorem ggX6_readWords_X2_set : GoodIn wsX6_readWords wsX2_set := goodIn_r _ [15, 16, 17, 85, 86] (by decide +kernel) (by decide +kernel)
set_option maxRecDepth 20000 in
theorem gX6_readWords_X2_set : GoodIn wsX6_readWords (wsV RX6 16 RX2 yX2_set wsX2_set) := goodIn_app (goodIn_of _ (by decide +kernel)) ggX6_readWords_X2_set
set_option maxRecDepth 20000 in
theorem ggX6_readWords_X10_size : GoodIn wsX6_readWords wsX10_size := goodIn_r _ [22, 23, 87, 88] (by decide +kernel) (by decide +kernel)
set_option maxRecDepth 20000 in
theorem gX6_readWords_X10_size : GoodIn wsX6_readWords (wsV RX6 20 RX10 yX10_size wsX10_size) := goodIn_app (goodIn_of _ (by decide +kernel)) ggX6_readWords_X10_size
set_option maxRecDepth 20000 in
theorem ggX6_readWords_X2_isThere : GoodIn wsX6_readWords wsX2_isThere := goodIn_r _ [27, 16, 85, 86] (by decide +kernel) (by decide +kernel)
set_option maxRecDepth 20000 in
theorem gX6_readWords_X2_isThere : GoodIn wsX6_readWords (wsV RX6 26 RX2 yX2_isThere wsX2_isThere) := goodIn_app (goodIn_of _ (by decide +kernel)) ggX6_readWords_X2_isThere
set_option maxRecDepth 20000 in
theorem ggX6_readWords_X6_lettersFrom : GoodIn wsX6_readWords wsX6_lettersFrom := goodIn_r _ [31, 18, 19, 20, 21, 22, 23, 32, 33, 34, 35, 36, 37, 38, 39, 87, 88] (by decide +kernel) (by decide +kernel)
set_option maxRecDepth 20000 in
theorem gX6_readWords_X6_lettersFrom : GoodIn wsX6_readWords (va_wsS RX6 30 yX6_lettersFrom wsX6_lettersFrom) := goodIn_app (goodIn_of _ (by decide +kernel)) ggX6_readWords_X6_lettersFrom
set_option maxRecDepth 20000 in
theorem ggX6_readWords_X6_takeRow : GoodIn wsX6_readWords wsX6_takeRow := goodIn_r _ [42, 32, 33, 34, 21, 35, 23, 36, 43, 44, 30, 45, 46, 47, 48, 8, 49, 10, 50, 51, 52, 53, 54, 55, 56, 57, 58, 59, 60, 61, 62, 63, 64, 65, 66, 67, 68, 69, 70, 71, 72, 73, 74, 75, 76, 77, 78, 79, 80, 81, 82, 87, 88, 83, 84] (by decide +kernel) (by decide +kernel)
set_option maxRecDepth 20000 in
theorem gX6_readWords_X6_takeRow : GoodIn wsX6_readWords (va_wsS RX6 36 yX6_takeRow wsX6_takeRow) := goodIn_app (goodIn_of _ (by decide +kernel)) ggX6_readWords_X6_takeRow
theorem dX6_readWords_0 : decode cX6_readWords 0 = .ok (.aload_n 1, 1) := by decide +kernel
theorem dX6_readWords_1 : decode cX6_readWords 1 = .ok (.invokevirtual 9, 3) := by decide +kernel
theorem dX6_readWords_4 : decode cX6_readWords 4 = .ok (.aload_n 2, 1) := by decide +kernel
theorem dX6_readWords_5 : decode cX6_readWords 5 = .ok (.iconst 0, 1) := by decide +kernel
theorem dX6_readWords_6 : decode cX6_readWords 6 = .ok (.iconst (-1), 1) := by decide +kernel
theorem dX6_readWords_7 : decode cX6_readWords 7 = .ok (.invokevirtual 16, 3) := by decide +kernel
theorem dX6_readWords_10 : decode cX6_readWords 10 = .ok (.iconst 0, 1) := by decide +kernel
theorem dX6_readWords_11 : decode cX6_readWords 11 = .ok (.istore_n 3, 1) := by decide +kernel
theorem dX6_readWords_12 : decode cX6_readWords 12 = .ok (.iload_n 3, 1) := by decide +kernel
theorem dX6_readWords_13 : decode cX6_readWords 13 = .ok (.aload_n 0, 1) := by decide +kernel
theorem dX6_readWords_14 : decode cX6_readWords 14 = .ok (.invokevirtual 20, 3) := by decide +kernel
theorem dX6_readWords_17 : decode cX6_readWords 17 = .ok (.if_icmp .ge 59, 3) := by decide +kernel
theorem dX6_readWords_20 : decode cX6_readWords 20 = .ok (.aload_n 2, 1) := by decide +kernel
theorem dX6_readWords_21 : decode cX6_readWords 21 = .ok (.invokevirtual 26, 3) := by decide +kernel
theorem dX6_readWords_24 : decode cX6_readWords 24 = .ok (.ifCond .ne 52, 3) := by decide +kernel
theorem dX6_readWords_27 : decode cX6_readWords 27 = .ok (.aload_n 0, 1) := by decide +kernel
theorem dX6_readWords_28 : decode cX6_readWords 28 = .ok (.iload_n 3, 1) := by decide +kernel
theorem dX6_readWords_29 : decode cX6_readWords 29 = .ok (.invokestatic 30, 3) := by decide +kernel
theorem dX6_readWords_32 : decode cX6_readWords 32 = .ok (.istore 4, 2) := by decide +kernel
theorem dX6_readWords_34 : decode cX6_readWords 34 = .ok (.aload_n 0, 1) := by decide +kernel
theorem dX6_readWords_35 : decode cX6_readWords 35 = .ok (.iload_n 3, 1) := by decide +kernel
theorem dX6_readWords_36 : decode cX6_readWords 36 = .ok (.iload 4, 2) := by decide +kernel
theorem dX6_readWords_38 : decode cX6_readWords 38 = .ok (.aload_n 1, 1) := by decide +kernel
theorem dX6_readWords_39 : decode cX6_readWords 39 = .ok (.invokestatic 36, 3) := by decide +kernel
theorem dX6_readWords_42 : decode cX6_readWords 42 = .ok (.istore 5, 2) := by decide +kernel
theorem dX6_readWords_44 : decode cX6_readWords 44 = .ok (.aload_n 2, 1) := by decide +kernel
theorem dX6_readWords_45 : decode cX6_readWords 45 = .ok (.iload 5, 2) := by decide +kernel
theorem dX6_readWords_47 : decode cX6_readWords 47 = .ok (.iload 5, 2) := by decide +kernel
theorem dX6_readWords_49 : decode cX6_readWords 49 = .ok (.iconst 2, 1) := by decide +kernel
theorem dX6_readWords_50 : decode cX6_readWords 50 = .ok (.if_icmp .ne 10, 3) := by decide +kernel
theorem dX6_readWords_53 : decode cX6_readWords 53 = .ok (.iload_n 3, 1) := by decide +kernel
theorem dX6_readWords_54 : decode cX6_readWords 54 = .ok (.bipush 7, 2) := by decide +kernel
theorem dX6_readWords_56 : decode cX6_readWords 56 = .ok (.iadd, 1) := by decide +kernel
theorem dX6_readWords_57 : decode cX6_readWords 57 = .ok (.goto 4, 3) := by decide +kernel
theorem dX6_readWords_60 : decode cX6_readWords 60 = .ok (.iload_n 3, 1) := by decide +kernel
theorem dX6_readWords_61 : decode cX6_readWords 61 = .ok (.invokevirtual 16, 3) := by decide +kernel
theorem dX6_readWords_64 : decode cX6_readWords 64 = .ok (.iload_n 3, 1) := by decide +kernel
theorem dX6_readWords_65 : decode cX6_readWords 65 = .ok (.iload 4, 2) := by decide +kernel
theorem dX6_readWords_67 : decode cX6_readWords 67 = .ok (.iconst 1, 1) := by decide +kernel
theorem dX6_readWords_68 : decode cX6_readWords 68 = .ok (.invokestatic 40, 3) := by decide +kernel
theorem dX6_readWords_71 : decode cX6_readWords 71 = .ok (.iadd, 1) := by decide +kernel
theorem dX6_readWords_72 : decode cX6_readWords 72 = .ok (.istore_n 3, 1) := by decide +kernel
theorem dX6_readWords_73 : decode cX6_readWords 73 = .ok (.goto (-61), 3) := by decide +kernel
theorem dX6_readWords_76 : decode cX6_readWords 76 = .ok (.return_, 1) := by decide +kernel
set_option maxRecDepth 20000 in
theorem ggX6_checkPattern_X10_size : GoodIn wsX6_checkPattern wsX10_size := goodIn_r _ [5, 6, 30, 31] (by decide +kernel) (by decide +kernel)
set_option maxRecDepth 20000 in
theorem gX6_checkPattern_X10_size : GoodIn wsX6_checkPattern (wsV RX6 20 RX10 yX10_size wsX10_size) := goodIn_app (goodIn_of _ (by decide +kernel)) ggX6_checkPattern_X10_size
set_option maxRecDepth 20000 in
theorem ggX6_checkPattern_X2_set : GoodIn wsX6_checkPattern wsX2_set := goodIn_r _ [11, 12, 13, 32, 33] (by decide +kernel) (by decide +kernel)
set_option maxRecDepth 20000 in
theorem gX6_checkPattern_X2_set : GoodIn wsX6_checkPattern (wsV RX6 16 RX2 yX2_set wsX2_set) := goodIn_app (goodIn_of _ (by decide +kernel)) ggX6_checkPattern_X2_set
set_option maxRecDepth 20000 in
theorem ggX6_checkPattern_X2_isThere : GoodIn wsX6_checkPattern wsX2_isThere := goodIn_r _ [17, 12, 32, 33] (by decide +kernel) (by decide +kernel)
set_option maxRecDepth 20000 in
theorem gX6_checkPattern_X2_isThere : GoodIn wsX6_checkPattern (wsV RX6 26 RX2 yX2_isThere wsX2_isThere) := goodIn_app (goodIn_of _ (by decide +kernel)) ggX6_checkPattern_X2_isThere
set_option maxRecDepth 20000 in
theorem ggX6_checkPattern_X10_at : GoodIn wsX6_checkPattern wsX10_at := goodIn_r _ [21, 6, 22, 30, 31] (by decide +kernel) (by decide +kernel)
set_option maxRecDepth 20000 in
theorem gX6_checkPattern_X10_at : GoodIn wsX6_checkPattern (wsV RX6 46 RX10 yX10_at wsX10_at) := goodIn_app (goodIn_of _ (by decide +kernel)) ggX6_checkPattern_X10_at
set_option maxRecDepth 20000 in
theorem ggX6_checkPattern_X5_isSign : GoodIn wsX6_checkPattern wsX5_isSign := goodIn_r _ [26, 27, 28, 29] (by decide +kernel) (by decide +kernel)
set_option maxRecDepth 20000 in
theorem gX6_checkPattern_X5_isSign : GoodIn wsX6_checkPattern (va_wsS RX6 50 yX5_isSign wsX5_isSign) := goodIn_app (goodIn_of _ (by decide +kernel)) ggX6_checkPattern_X5_isSign
theorem dX6_checkPattern_0 : decode cX6_checkPattern 0 = .ok (.aload_n 1, 1) := by decide +kernel
theorem dX6_checkPattern_1 : decode cX6_checkPattern 1 = .ok (.aload_n 0, 1) := by decide +kernel
theorem dX6_checkPattern_2 : decode cX6_checkPattern 2 = .ok (.invokevirtual 20, 3) := by decide +kernel
theorem dX6_checkPattern_5 : decode cX6_checkPattern 5 = .ok (.ifCond .ne 8, 3) := by decide +kernel
theorem dX6_checkPattern_8 : decode cX6_checkPattern 8 = .ok (.bipush 6, 2) := by decide +kernel
theorem dX6_checkPattern_10 : decode cX6_checkPattern 10 = .ok (.goto 4, 3) := by decide +kernel
theorem dX6_checkPattern_13 : decode cX6_checkPattern 13 = .ok (.iconst 0, 1) := by decide +kernel
theorem dX6_checkPattern_14 : decode cX6_checkPattern 14 = .ok (.iconst 0, 1) := by decide +kernel
theorem dX6_checkPattern_15 : decode cX6_checkPattern 15 = .ok (.invokevirtual 16, 3) := by decide +kernel
theorem dX6_checkPattern_18 : decode cX6_checkPattern 18 = .ok (.iconst 0, 1) := by decide +kernel
theorem dX6_checkPattern_19 : decode cX6_checkPattern 19 = .ok (.istore_n 2, 1) := by decide +kernel
theorem dX6_checkPattern_20 : decode cX6_checkPattern 20 = .ok (.iload_n 2, 1) := by decide +kernel
theorem dX6_checkPattern_21 : decode cX6_checkPattern 21 = .ok (.aload_n 0, 1) := by decide +kernel
theorem dX6_checkPattern_22 : decode cX6_checkPattern 22 = .ok (.invokevirtual 20, 3) := by decide +kernel
theorem dX6_checkPattern_25 : decode cX6_checkPattern 25 = .ok (.if_icmp .ge 48, 3) := by decide +kernel
theorem dX6_checkPattern_28 : decode cX6_checkPattern 28 = .ok (.aload_n 1, 1) := by decide +kernel
theorem dX6_checkPattern_29 : decode cX6_checkPattern 29 = .ok (.invokevirtual 26, 3) := by decide +kernel
theorem dX6_checkPattern_32 : decode cX6_checkPattern 32 = .ok (.ifCond .ne 41, 3) := by decide +kernel
theorem dX6_checkPattern_35 : decode cX6_checkPattern 35 = .ok (.iload_n 2, 1) := by decide +kernel
theorem dX6_checkPattern_36 : decode cX6_checkPattern 36 = .ok (.bipush 12, 2) := by decide +kernel
theorem dX6_checkPattern_38 : decode cX6_checkPattern 38 = .ok (.if_icmp .lt 12, 3) := by decide +kernel
theorem dX6_checkPattern_41 : decode cX6_checkPattern 41 = .ok (.aload_n 1, 1) := by decide +kernel
theorem dX6_checkPattern_42 : decode cX6_checkPattern 42 = .ok (.iconst 5, 1) := by decide +kernel
theorem dX6_checkPattern_43 : decode cX6_checkPattern 43 = .ok (.iload_n 2, 1) := by decide +kernel
theorem dX6_checkPattern_44 : decode cX6_checkPattern 44 = .ok (.invokevirtual 16, 3) := by decide +kernel
theorem dX6_checkPattern_47 : decode cX6_checkPattern 47 = .ok (.goto 20, 3) := by decide +kernel
theorem dX6_checkPattern_50 : decode cX6_checkPattern 50 = .ok (.aload_n 0, 1) := by decide +kernel
theorem dX6_checkPattern_51 : decode cX6_checkPattern 51 = .ok (.iload_n 2, 1) := by decide +kernel
theorem dX6_checkPattern_52 : decode cX6_checkPattern 52 = .ok (.invokevirtual 46, 3) := by decide +kernel
theorem dX6_checkPattern_55 : decode cX6_checkPattern 55 = .ok (.invokestatic 50, 3) := by decide +kernel
theorem dX6_checkPattern_58 : decode cX6_checkPattern 58 = .ok (.ifCond .ne 9, 3) := by decide +kernel
theorem dX6_checkPattern_61 : decode cX6_checkPattern 61 = .ok (.aload_n 1, 1) := by decide +kernel
theorem dX6_checkPattern_62 : decode cX6_checkPattern 62 = .ok (.iconst 1, 1) := by decide +kernel
theorem dX6_checkPattern_63 : decode cX6_checkPattern 63 = .ok (.iload_n 2, 1) := by decide +kernel
theorem dX6_checkPattern_64 : decode cX6_checkPattern 64 = .ok (.invokevirtual 16, 3) := by decide +kernel
theorem dX6_checkPattern_67 : decode cX6_checkPattern 67 = .ok (.iinc 2 1, 3) := by decide +kernel
theorem dX6_checkPattern_70 : decode cX6_checkPattern 70 = .ok (.goto (-50), 3) := by decide +kernel
theorem dX6_checkPattern_73 : decode cX6_checkPattern 73 = .ok (.return_, 1) := by decide +kernel
set_option maxRecDepth 20000 in
theorem ggX6_onlyWord_X6_lettersFrom : GoodIn wsX6_onlyWord wsX6_lettersFrom := goodIn_r _ [4, 5, 6, 7, 8, 9, 10, 11, 12, 13, 14, 15, 16, 17, 18, 35, 36] (by decide +kernel) (by decide +kernel)
set_option maxRecDepth 20000 in
theorem gX6_onlyWord_X6_lettersFrom : GoodIn wsX6_onlyWord (va_wsS RX6 30 yX6_lettersFrom wsX6_lettersFrom) := goodIn_app (goodIn_of _ (by decide +kernel)) ggX6_onlyWord_X6_lettersFrom
set_option maxRecDepth 20000 in
theorem ggX6_onlyWord_X10_size : GoodIn wsX6_onlyWord wsX10_size := goodIn_r _ [9, 10, 35, 36] (by decide +kernel) (by decide +kernel)
set_option maxRecDepth 20000 in
theorem gX6_onlyWord_X10_size : GoodIn wsX6_onlyWord (wsV RX6 20 RX10 yX10_size wsX10_size) := goodIn_app (goodIn_of _ (by decide +kernel)) ggX6_onlyWord_X10_size
set_option maxRecDepth 20000 in
theorem ggX6_onlyWord_X6_rowFrom : GoodIn wsX6_onlyWord wsX6_rowFrom := goodIn_r _ [21, 11, 12, 13, 8, 14, 10, 15, 22, 23, 24, 25, 26, 27, 28, 29, 30, 31, 32, 33, 34, 35, 36] (by decide +kernel) (by decide +kernel)
set_option maxRecDepth 20000 in
theorem gX6_onlyWord_X6_rowFrom : GoodIn wsX6_onlyWord (va_wsS RX6 56 yX6_rowFrom wsX6_rowFrom) := goodIn_app (goodIn_of _ (by decide +kernel)) ggX6_onlyWord_X6_rowFrom
theorem dX6_onlyWord_0 : decode cX6_onlyWord 0 = .ok (.aload_n 0, 1) := by decide +kernel
theorem dX6_onlyWord_1 : decode cX6_onlyWord 1 = .ok (.iconst 0, 1) := by decide +kernel
theorem dX6_onlyWord_2 : decode cX6_onlyWord 2 = .ok (.invokestatic 30, 3) := by decide +kernel
theorem dX6_onlyWord_5 : decode cX6_onlyWord 5 = .ok (.istore_n 1, 1) := by decide +kernel
theorem dX6_onlyWord_6 : decode cX6_onlyWord 6 = .ok (.iload_n 1, 1) := by decide +kernel
theorem dX6_onlyWord_7 : decode cX6_onlyWord 7 = .ok (.aload_n 0, 1) := by decide +kernel
theorem dX6_onlyWord_8 : decode cX6_onlyWord 8 = .ok (.invokevirtual 20, 3) := by decide +kernel
theorem dX6_onlyWord_11 : decode cX6_onlyWord 11 = .ok (.if_icmp .ne 13, 3) := by decide +kernel
theorem dX6_onlyWord_14 : decode cX6_onlyWord 14 = .ok (.iload_n 1, 1) := by decide +kernel
theorem dX6_onlyWord_15 : decode cX6_onlyWord 15 = .ok (.bipush 7, 2) := by decide +kernel
theorem dX6_onlyWord_17 : decode cX6_onlyWord 17 = .ok (.if_icmp .gt 7, 3) := by decide +kernel
theorem dX6_onlyWord_20 : decode cX6_onlyWord 20 = .ok (.iconst 1, 1) := by decide +kernel
theorem dX6_onlyWord_21 : decode cX6_onlyWord 21 = .ok (.goto 4, 3) := by decide +kernel
theorem dX6_onlyWord_24 : decode cX6_onlyWord 24 = .ok (.iconst 0, 1) := by decide +kernel
theorem dX6_onlyWord_25 : decode cX6_onlyWord 25 = .ok (.istore_n 2, 1) := by decide +kernel
theorem dX6_onlyWord_26 : decode cX6_onlyWord 26 = .ok (.iload_n 2, 1) := by decide +kernel
theorem dX6_onlyWord_27 : decode cX6_onlyWord 27 = .ok (.ifCond .eq 12, 3) := by decide +kernel
theorem dX6_onlyWord_30 : decode cX6_onlyWord 30 = .ok (.aload_n 0, 1) := by decide +kernel
theorem dX6_onlyWord_31 : decode cX6_onlyWord 31 = .ok (.iconst 0, 1) := by decide +kernel
theorem dX6_onlyWord_32 : decode cX6_onlyWord 32 = .ok (.iload_n 1, 1) := by decide +kernel
theorem dX6_onlyWord_33 : decode cX6_onlyWord 33 = .ok (.invokestatic 56, 3) := by decide +kernel
theorem dX6_onlyWord_36 : decode cX6_onlyWord 36 = .ok (.goto 4, 3) := by decide +kernel
theorem dX6_onlyWord_39 : decode cX6_onlyWord 39 = .ok (.lconst 0, 1) := by decide +kernel
theorem dX6_onlyWord_40 : decode cX6_onlyWord 40 = .ok (.lreturn, 1) := by decide +kernel
set_option maxRecDepth 20000 in
theorem ggX6_takeRow_X10_at : GoodIn wsX6_takeRow wsX10_at := goodIn_r _ [5, 6, 7, 51, 52] (by decide +kernel) (by decide +kernel)
set_option maxRecDepth 20000 in
theorem gX6_takeRow_X10_at : GoodIn wsX6_takeRow (wsV RX6 46 RX10 yX10_at wsX10_at) := goodIn_app (goodIn_of _ (by decide +kernel)) ggX6_takeRow_X10_at
set_option maxRecDepth 20000 in
theorem ggX6_takeRow_X6_isBlank : GoodIn wsX6_takeRow wsX6_isBlank := goodIn_r _ [11] (by decide +kernel) (by decide +kernel)
set_option maxRecDepth 20000 in
theorem gX6_takeRow_X6_isBlank : GoodIn wsX6_takeRow (va_wsS RX6 62 yX6_isBlank wsX6_isBlank) := goodIn_app (goodIn_of _ (by decide +kernel)) ggX6_takeRow_X6_isBlank
set_option maxRecDepth 20000 in
theorem ggX6_takeRow_X7_size : GoodIn wsX6_takeRow wsX7_size := goodIn_r _ [16, 17, 53, 54] (by decide +kernel) (by decide +kernel)
set_option maxRecDepth 20000 in
theorem gX6_takeRow_X7_size : GoodIn wsX6_takeRow (wsV RX6 65 RX7 yX7_size wsX7_size) := goodIn_app (goodIn_of _ (by decide +kernel)) ggX6_takeRow_X7_size
set_option maxRecDepth 20000 in
theorem ggX6_takeRow_X6_rowFrom : GoodIn wsX6_takeRow wsX6_rowFrom := goodIn_r _ [20, 1, 2, 3, 4, 5, 6, 7, 21, 22, 23, 24, 25, 26, 27, 28, 29, 30, 31, 32, 33, 51, 52] (by decide +kernel) (by decide +kernel)
set_option maxRecDepth 20000 in
theorem gX6_takeRow_X6_rowFrom : GoodIn wsX6_takeRow (va_wsS RX6 56 yX6_rowFrom wsX6_rowFrom) := goodIn_app (goodIn_of _ (by decide +kernel)) ggX6_takeRow_X6_rowFrom
set_option maxRecDepth 20000 in
theorem ggX6_takeRow_X7_add : GoodIn wsX6_takeRow wsX7_add := goodIn_r _ [37, 17, 38, 39, 40, 41, 42, 43, 44, 45, 15, 46, 47, 48, 49, 50, 53, 54] (by decide +kernel) (by decide +kernel)
set_option maxRecDepth 20000 in
theorem gX6_takeRow_X7_add : GoodIn wsX6_takeRow (wsV RX6 66 RX7 yX7_add wsX7_add) := goodIn_app (goodIn_of _ (by decide +kernel)) ggX6_takeRow_X7_add
theorem dX6_takeRow_0 : decode cX6_takeRow 0 = .ok (.iload_n 2, 1) := by decide +kernel
theorem dX6_takeRow_1 : decode cX6_takeRow 1 = .ok (.ifCond .ne 20, 3) := by decide +kernel
theorem dX6_takeRow_4 : decode cX6_takeRow 4 = .ok (.aload_n 0, 1) := by decide +kernel
theorem dX6_takeRow_5 : decode cX6_takeRow 5 = .ok (.iload_n 1, 1) := by decide +kernel
theorem dX6_takeRow_6 : decode cX6_takeRow 6 = .ok (.invokevirtual 46, 3) := by decide +kernel
theorem dX6_takeRow_9 : decode cX6_takeRow 9 = .ok (.invokestatic 62, 3) := by decide +kernel
theorem dX6_takeRow_12 : decode cX6_takeRow 12 = .ok (.ifCond .eq 7, 3) := by decide +kernel
theorem dX6_takeRow_15 : decode cX6_takeRow 15 = .ok (.iconst 0, 1) := by decide +kernel
theorem dX6_takeRow_16 : decode cX6_takeRow 16 = .ok (.goto 4, 3) := by decide +kernel
theorem dX6_takeRow_19 : decode cX6_takeRow 19 = .ok (.iconst 1, 1) := by decide +kernel
theorem dX6_takeRow_20 : decode cX6_takeRow 20 = .ok (.ireturn, 1) := by decide +kernel
theorem dX6_takeRow_21 : decode cX6_takeRow 21 = .ok (.iload_n 2, 1) := by decide +kernel
theorem dX6_takeRow_22 : decode cX6_takeRow 22 = .ok (.bipush 7, 2) := by decide +kernel
theorem dX6_takeRow_24 : decode cX6_takeRow 24 = .ok (.if_icmp .le 5, 3) := by decide +kernel
theorem dX6_takeRow_27 : decode cX6_takeRow 27 = .ok (.iconst 2, 1) := by decide +kernel
theorem dX6_takeRow_28 : decode cX6_takeRow 28 = .ok (.ireturn, 1) := by decide +kernel
theorem dX6_takeRow_29 : decode cX6_takeRow 29 = .ok (.aload_n 3, 1) := by decide +kernel
theorem dX6_takeRow_30 : decode cX6_takeRow 30 = .ok (.invokevirtual 65, 3) := by decide +kernel
theorem dX6_takeRow_33 : decode cX6_takeRow 33 = .ok (.bipush 40, 2) := by decide +kernel
theorem dX6_takeRow_35 : decode cX6_takeRow 35 = .ok (.if_icmp .lt 5, 3) := by decide +kernel
theorem dX6_takeRow_38 : decode cX6_takeRow 38 = .ok (.iconst 4, 1) := by decide +kernel
theorem dX6_takeRow_39 : decode cX6_takeRow 39 = .ok (.ireturn, 1) := by decide +kernel
theorem dX6_takeRow_40 : decode cX6_takeRow 40 = .ok (.aload_n 3, 1) := by decide +kernel
theorem dX6_takeRow_41 : decode cX6_takeRow 41 = .ok (.aload_n 0, 1) := by decide +kernel
theorem dX6_takeRow_42 : decode cX6_takeRow 42 = .ok (.iload_n 1, 1) := by decide +kernel
theorem dX6_takeRow_43 : decode cX6_takeRow 43 = .ok (.iload_n 2, 1) := by decide +kernel
theorem dX6_takeRow_44 : decode cX6_takeRow 44 = .ok (.invokestatic 56, 3) := by decide +kernel
theorem dX6_takeRow_47 : decode cX6_takeRow 47 = .ok (.invokevirtual 66, 3) := by decide +kernel
theorem dX6_takeRow_50 : decode cX6_takeRow 50 = .ok (.istore 4, 2) := by decide +kernel
theorem dX6_takeRow_52 : decode cX6_takeRow 52 = .ok (.iload 4, 2) := by decide +kernel
theorem dX6_takeRow_54 : decode cX6_takeRow 54 = .ok (.ifCond .eq 7, 3) := by decide +kernel
theorem dX6_takeRow_57 : decode cX6_takeRow 57 = .ok (.iconst 0, 1) := by decide +kernel
theorem dX6_takeRow_58 : decode cX6_takeRow 58 = .ok (.goto 4, 3) := by decide +kernel
theorem dX6_takeRow_61 : decode cX6_takeRow 61 = .ok (.iconst 3, 1) := by decide +kernel
theorem dX6_takeRow_62 : decode cX6_takeRow 62 = .ok (.ireturn, 1) := by decide +kernel
theorem dX6_isBlank_0 : decode cX6_isBlank 0 = .ok (.iload_n 0, 1) := by decide +kernel
theorem dX6_isBlank_1 : decode cX6_isBlank 1 = .ok (.bipush 10, 2) := by decide +kernel
theorem dX6_isBlank_3 : decode cX6_isBlank 3 = .ok (.if_icmp .eq 9, 3) := by decide +kernel
theorem dX6_isBlank_6 : decode cX6_isBlank 6 = .ok (.iload_n 0, 1) := by decide +kernel
theorem dX6_isBlank_7 : decode cX6_isBlank 7 = .ok (.bipush 32, 2) := by decide +kernel
theorem dX6_isBlank_9 : decode cX6_isBlank 9 = .ok (.if_icmp .ne 7, 3) := by decide +kernel
theorem dX6_isBlank_12 : decode cX6_isBlank 12 = .ok (.iconst 1, 1) := by decide +kernel
theorem dX6_isBlank_13 : decode cX6_isBlank 13 = .ok (.goto 4, 3) := by decide +kernel
theorem dX6_isBlank_16 : decode cX6_isBlank 16 = .ok (.iconst 0, 1) := by decide +kernel
theorem dX6_isBlank_17 : decode cX6_isBlank 17 = .ok (.ireturn, 1) := by decide +kernel
set_option maxRecDepth 20000 in
theorem ggX6_lettersFrom_X10_size : GoodIn wsX6_lettersFrom wsX10_size := goodIn_r _ [5, 6, 15, 16] (by decide +kernel) (by decide +kernel)
set_option maxRecDepth 20000 in
theorem gX6_lettersFrom_X10_size : GoodIn wsX6_lettersFrom (wsV RX6 20 RX10 yX10_size wsX10_size) := goodIn_app (goodIn_of _ (by decide +kernel)) ggX6_lettersFrom_X10_size
set_option maxRecDepth 20000 in
theorem ggX6_lettersFrom_X10_at : GoodIn wsX6_lettersFrom wsX10_at := goodIn_r _ [10, 6, 11, 15, 16] (by decide +kernel) (by decide +kernel)
set_option maxRecDepth 20000 in
theorem gX6_lettersFrom_X10_at : GoodIn wsX6_lettersFrom (wsV RX6 46 RX10 yX10_at wsX10_at) := goodIn_app (goodIn_of _ (by decide +kernel)) ggX6_lettersFrom_X10_at
set_option maxRecDepth 20000 in
theorem ggX6_lettersFrom_X11_isLetter : GoodIn wsX6_lettersFrom wsX11_isLetter := goodIn_r _ [14] (by decide +kernel) (by decide +kernel)
set_option maxRecDepth 20000 in
theorem gX6_lettersFrom_X11_isLetter_n70 : GoodIn wsX6_lettersFrom (wsX11_isLetter) := ggX6_lettersFrom_X11_isLetter
theorem dX6_lettersFrom_0 : decode cX6_lettersFrom 0 = .ok (.iconst 0, 1) := by decide +kernel
theorem dX6_lettersFrom_1 : decode cX6_lettersFrom 1 = .ok (.istore_n 2, 1) := by decide +kernel
theorem dX6_lettersFrom_2 : decode cX6_lettersFrom 2 = .ok (.iload_n 1, 1) := by decide +kernel
theorem dX6_lettersFrom_3 : decode cX6_lettersFrom 3 = .ok (.iload_n 2, 1) := by decide +kernel
theorem dX6_lettersFrom_4 : decode cX6_lettersFrom 4 = .ok (.iadd, 1) := by decide +kernel
theorem dX6_lettersFrom_5 : decode cX6_lettersFrom 5 = .ok (.aload_n 0, 1) := by decide +kernel
theorem dX6_lettersFrom_6 : decode cX6_lettersFrom 6 = .ok (.invokevirtual 20, 3) := by decide +kernel
theorem dX6_lettersFrom_9 : decode cX6_lettersFrom 9 = .ok (.if_icmp .ge 22, 3) := by decide +kernel
theorem dX6_lettersFrom_12 : decode cX6_lettersFrom 12 = .ok (.aload_n 0, 1) := by decide +kernel
theorem dX6_lettersFrom_13 : decode cX6_lettersFrom 13 = .ok (.iload_n 1, 1) := by decide +kernel
theorem dX6_lettersFrom_14 : decode cX6_lettersFrom 14 = .ok (.iload_n 2, 1) := by decide +kernel
theorem dX6_lettersFrom_15 : decode cX6_lettersFrom 15 = .ok (.iadd, 1) := by decide +kernel
theorem dX6_lettersFrom_16 : decode cX6_lettersFrom 16 = .ok (.invokevirtual 46, 3) := by decide +kernel
theorem dX6_lettersFrom_19 : decode cX6_lettersFrom 19 = .ok (.invokestatic 70, 3) := by decide +kernel
theorem dX6_lettersFrom_22 : decode cX6_lettersFrom 22 = .ok (.ifCond .eq 9, 3) := by decide +kernel
theorem dX6_lettersFrom_25 : decode cX6_lettersFrom 25 = .ok (.iinc 2 1, 3) := by decide +kernel
theorem dX6_lettersFrom_28 : decode cX6_lettersFrom 28 = .ok (.goto (-26), 3) := by decide +kernel
theorem dX6_lettersFrom_31 : decode cX6_lettersFrom 31 = .ok (.iload_n 2, 1) := by decide +kernel
theorem dX6_lettersFrom_32 : decode cX6_lettersFrom 32 = .ok (.ireturn, 1) := by decide +kernel
set_option maxRecDepth 20000 in
theorem ggX6_rowFrom_X10_at : GoodIn wsX6_rowFrom wsX10_at := goodIn_r _ [5, 6, 7, 21, 22] (by decide +kernel) (by decide +kernel)
set_option maxRecDepth 20000 in
theorem gX6_rowFrom_X10_at : GoodIn wsX6_rowFrom (wsV RX6 46 RX10 yX10_at wsX10_at) := goodIn_app (goodIn_of _ (by decide +kernel)) ggX6_rowFrom_X10_at
set_option maxRecDepth 20000 in
theorem ggX6_rowFrom_X8_put : GoodIn wsX6_rowFrom wsX8_put := goodIn_r _ [11, 12, 13, 10, 14, 15, 16, 17, 18, 19, 20] (by decide +kernel) (by decide +kernel)
set_option maxRecDepth 20000 in
theorem gX6_rowFrom_X8_put : GoodIn wsX6_rowFrom (va_wsS RX6 73 yX8_put wsX8_put) := goodIn_app (goodIn_of _ (by decide +kernel)) ggX6_rowFrom_X8_put
theorem dX6_rowFrom_0 : decode cX6_rowFrom 0 = .ok (.lconst 0, 1) := by decide +kernel
theorem dX6_rowFrom_1 : decode cX6_rowFrom 1 = .ok (.lstore_n 3, 1) := by decide +kernel
theorem dX6_rowFrom_2 : decode cX6_rowFrom 2 = .ok (.iconst 0, 1) := by decide +kernel
theorem dX6_rowFrom_3 : decode cX6_rowFrom 3 = .ok (.istore 5, 2) := by decide +kernel
theorem dX6_rowFrom_5 : decode cX6_rowFrom 5 = .ok (.iload 5, 2) := by decide +kernel
theorem dX6_rowFrom_7 : decode cX6_rowFrom 7 = .ok (.iload_n 2, 1) := by decide +kernel
theorem dX6_rowFrom_8 : decode cX6_rowFrom 8 = .ok (.if_icmp .ge 24, 3) := by decide +kernel
theorem dX6_rowFrom_11 : decode cX6_rowFrom 11 = .ok (.lload_n 3, 1) := by decide +kernel
theorem dX6_rowFrom_12 : decode cX6_rowFrom 12 = .ok (.iload 5, 2) := by decide +kernel
theorem dX6_rowFrom_14 : decode cX6_rowFrom 14 = .ok (.aload_n 0, 1) := by decide +kernel
theorem dX6_rowFrom_15 : decode cX6_rowFrom 15 = .ok (.iload_n 1, 1) := by decide +kernel
theorem dX6_rowFrom_16 : decode cX6_rowFrom 16 = .ok (.iload 5, 2) := by decide +kernel
theorem dX6_rowFrom_18 : decode cX6_rowFrom 18 = .ok (.iadd, 1) := by decide +kernel
theorem dX6_rowFrom_19 : decode cX6_rowFrom 19 = .ok (.invokevirtual 46, 3) := by decide +kernel
theorem dX6_rowFrom_22 : decode cX6_rowFrom 22 = .ok (.invokestatic 73, 3) := by decide +kernel
theorem dX6_rowFrom_25 : decode cX6_rowFrom 25 = .ok (.lstore_n 3, 1) := by decide +kernel
theorem dX6_rowFrom_26 : decode cX6_rowFrom 26 = .ok (.iinc 5 1, 3) := by decide +kernel
theorem dX6_rowFrom_29 : decode cX6_rowFrom 29 = .ok (.goto (-24), 3) := by decide +kernel
theorem dX6_rowFrom_32 : decode cX6_rowFrom 32 = .ok (.lload_n 3, 1) := by decide +kernel
theorem dX6_rowFrom_33 : decode cX6_rowFrom 33 = .ok (.lreturn, 1) := by decide +kernel
theorem dX7_init_0 : decode cX7_init 0 = .ok (.aload_n 0, 1) := by decide +kernel
theorem dX7_init_1 : decode cX7_init 1 = .ok (.invokespecial 3, 3) := by decide +kernel
theorem dX7_init_4 : decode cX7_init 4 = .ok (.aload_n 0, 1) := by decide +kernel
theorem dX7_init_5 : decode cX7_init 5 = .ok (.iconst 0, 1) := by decide +kernel
theorem dX7_init_6 : decode cX7_init 6 = .ok (.iload_n 1, 1) := by decide +kernel
theorem dX7_init_7 : decode cX7_init 7 = .ok (.sipush 320, 3) := by decide +kernel
theorem dX7_init_10 : decode cX7_init 10 = .ok (.invokestatic 9, 3) := by decide +kernel
theorem dX7_init_13 : decode cX7_init 13 = .ok (.invokestatic 15, 3) := by decide +kernel
theorem dX7_init_16 : decode cX7_init 16 = .ok (.newarray .long, 2) := by decide +kernel
theorem dX7_init_18 : decode cX7_init 18 = .ok (.putfield 18, 3) := by decide +kernel
theorem dX7_init_21 : decode cX7_init 21 = .ok (.return_, 1) := by decide +kernel
theorem dX7_size_0 : decode cX7_size 0 = .ok (.aload_n 0, 1) := by decide +kernel
theorem dX7_size_1 : decode cX7_size 1 = .ok (.getfield 24, 3) := by decide +kernel
theorem dX7_size_4 : decode cX7_size 4 = .ok (.ireturn, 1) := by decide +kernel
theorem dX7_hasNumber_0 : decode cX7_hasNumber 0 = .ok (.iload_n 1, 1) := by decide +kernel
theorem dX7_hasNumber_1 : decode cX7_hasNumber 1 = .ok (.ifCond .lt 15, 3) := by decide +kernel
theorem dX7_hasNumber_4 : decode cX7_hasNumber 4 = .ok (.iload_n 1, 1) := by decide +kernel
theorem dX7_hasNumber_5 : decode cX7_hasNumber 5 = .ok (.aload_n 0, 1) := by decide +kernel
theorem dX7_hasNumber_6 : decode cX7_hasNumber 6 = .ok (.getfield 24, 3) := by decide +kernel
theorem dX7_hasNumber_9 : decode cX7_hasNumber 9 = .ok (.if_icmp .ge 7, 3) := by decide +kernel
theorem dX7_hasNumber_12 : decode cX7_hasNumber 12 = .ok (.iconst 1, 1) := by decide +kernel
theorem dX7_hasNumber_13 : decode cX7_hasNumber 13 = .ok (.goto 4, 3) := by decide +kernel
theorem dX7_hasNumber_16 : decode cX7_hasNumber 16 = .ok (.iconst 0, 1) := by decide +kernel
theorem dX7_hasNumber_17 : decode cX7_hasNumber 17 = .ok (.ireturn, 1) := by decide +kernel
set_option maxRecDepth 20000 in
theorem ggX7_at_X7_hasNumber : GoodIn wsX7_at wsX7_hasNumber := goodIn_r _ [6, 7, 8, 9] (by decide +kernel) (by decide +kernel)
set_option maxRecDepth 20000 in
theorem gX7_at_X7_hasNumber : GoodIn wsX7_at (wsV RX7 28 RX7 yX7_hasNumber wsX7_hasNumber) := goodIn_app (goodIn_of _ (by decide +kernel)) ggX7_at_X7_hasNumber
theorem dX7_at_0 : decode cX7_at 0 = .ok (.aload_n 0, 1) := by decide +kernel
theorem dX7_at_1 : decode cX7_at 1 = .ok (.iload_n 1, 1) := by decide +kernel
theorem dX7_at_2 : decode cX7_at 2 = .ok (.invokevirtual 28, 3) := by decide +kernel
theorem dX7_at_5 : decode cX7_at 5 = .ok (.ifCond .eq 12, 3) := by decide +kernel
theorem dX7_at_8 : decode cX7_at 8 = .ok (.aload_n 0, 1) := by decide +kernel
theorem dX7_at_9 : decode cX7_at 9 = .ok (.getfield 18, 3) := by decide +kernel
theorem dX7_at_12 : decode cX7_at 12 = .ok (.iload_n 1, 1) := by decide +kernel
theorem dX7_at_13 : decode cX7_at 13 = .ok (.laload, 1) := by decide +kernel
theorem dX7_at_14 : decode cX7_at 14 = .ok (.goto 4, 3) := by decide +kernel
theorem dX7_at_17 : decode cX7_at 17 = .ok (.lconst 0, 1) := by decide +kernel
theorem dX7_at_18 : decode cX7_at 18 = .ok (.lreturn, 1) := by decide +kernel
theorem dX7_below_0 : decode cX7_below 0 = .ok (.iconst 0, 1) := by decide +kernel
theorem dX7_below_1 : decode cX7_below 1 = .ok (.istore_n 3, 1) := by decide +kernel
theorem dX7_below_2 : decode cX7_below 2 = .ok (.sipush 256, 3) := by decide +kernel
theorem dX7_below_5 : decode cX7_below 5 = .ok (.istore 4, 2) := by decide +kernel
theorem dX7_below_7 : decode cX7_below 7 = .ok (.iload 4, 2) := by decide +kernel
theorem dX7_below_9 : decode cX7_below 9 = .ok (.ifCond .le 44, 3) := by decide +kernel
theorem dX7_below_12 : decode cX7_below 12 = .ok (.iload_n 3, 1) := by decide +kernel
theorem dX7_below_13 : decode cX7_below 13 = .ok (.iload 4, 2) := by decide +kernel
theorem dX7_below_15 : decode cX7_below 15 = .ok (.iadd, 1) := by decide +kernel
theorem dX7_below_16 : decode cX7_below 16 = .ok (.istore 5, 2) := by decide +kernel
theorem dX7_below_18 : decode cX7_below 18 = .ok (.iload 5, 2) := by decide +kernel
theorem dX7_below_20 : decode cX7_below 20 = .ok (.aload_n 0, 1) := by decide +kernel
theorem dX7_below_21 : decode cX7_below 21 = .ok (.getfield 24, 3) := by decide +kernel
theorem dX7_below_24 : decode cX7_below 24 = .ok (.if_icmp .gt 20, 3) := by decide +kernel
theorem dX7_below_27 : decode cX7_below 27 = .ok (.aload_n 0, 1) := by decide +kernel
theorem dX7_below_28 : decode cX7_below 28 = .ok (.getfield 18, 3) := by decide +kernel
theorem dX7_below_31 : decode cX7_below 31 = .ok (.iload 5, 2) := by decide +kernel
theorem dX7_below_33 : decode cX7_below 33 = .ok (.iconst 1, 1) := by decide +kernel
theorem dX7_below_34 : decode cX7_below 34 = .ok (.isub, 1) := by decide +kernel
theorem dX7_below_35 : decode cX7_below 35 = .ok (.laload, 1) := by decide +kernel
theorem dX7_below_36 : decode cX7_below 36 = .ok (.lload_n 1, 1) := by decide +kernel
theorem dX7_below_37 : decode cX7_below 37 = .ok (.lcmp, 1) := by decide +kernel
theorem dX7_below_38 : decode cX7_below 38 = .ok (.ifCond .ge 6, 3) := by decide +kernel
theorem dX7_below_41 : decode cX7_below 41 = .ok (.iload 5, 2) := by decide +kernel
theorem dX7_below_43 : decode cX7_below 43 = .ok (.istore_n 3, 1) := by decide +kernel
theorem dX7_below_44 : decode cX7_below 44 = .ok (.iload 4, 2) := by decide +kernel
theorem dX7_below_46 : decode cX7_below 46 = .ok (.iconst 1, 1) := by decide +kernel
theorem dX7_below_47 : decode cX7_below 47 = .ok (.ishr, 1) := by decide +kernel
theorem dX7_below_48 : decode cX7_below 48 = .ok (.istore 4, 2) := by decide +kernel
theorem dX7_below_50 : decode cX7_below 50 = .ok (.goto (-43), 3) := by decide +kernel
theorem dX7_below_53 : decode cX7_below 53 = .ok (.iload_n 3, 1) := by decide +kernel
theorem dX7_below_54 : decode cX7_below 54 = .ok (.ireturn, 1) := by decide +kernel
theorem dX7_isAt_0 : decode cX7_isAt 0 = .ok (.iload_n 1, 1) := by decide +kernel
theorem dX7_isAt_1 : decode cX7_isAt 1 = .ok (.aload_n 0, 1) := by decide +kernel
theorem dX7_isAt_2 : decode cX7_isAt 2 = .ok (.getfield 24, 3) := by decide +kernel
theorem dX7_isAt_5 : decode cX7_isAt 5 = .ok (.if_icmp .ge 18, 3) := by decide +kernel
theorem dX7_isAt_8 : decode cX7_isAt 8 = .ok (.aload_n 0, 1) := by decide +kernel
theorem dX7_isAt_9 : decode cX7_isAt 9 = .ok (.getfield 18, 3) := by decide +kernel
theorem dX7_isAt_12 : decode cX7_isAt 12 = .ok (.iload_n 1, 1) := by decide +kernel
theorem dX7_isAt_13 : decode cX7_isAt 13 = .ok (.laload, 1) := by decide +kernel
theorem dX7_isAt_14 : decode cX7_isAt 14 = .ok (.lload_n 2, 1) := by decide +kernel
theorem dX7_isAt_15 : decode cX7_isAt 15 = .ok (.lcmp, 1) := by decide +kernel
theorem dX7_isAt_16 : decode cX7_isAt 16 = .ok (.ifCond .ne 7, 3) := by decide +kernel
theorem dX7_isAt_19 : decode cX7_isAt 19 = .ok (.iconst 1, 1) := by decide +kernel
theorem dX7_isAt_20 : decode cX7_isAt 20 = .ok (.goto 4, 3) := by decide +kernel
theorem dX7_isAt_23 : decode cX7_isAt 23 = .ok (.iconst 0, 1) := by decide +kernel
theorem dX7_isAt_24 : decode cX7_isAt 24 = .ok (.ireturn, 1) := by decide +kernel
set_option maxRecDepth 20000 in
theorem ggX7_add_X7_below : GoodIn wsX7_add wsX7_below := goodIn_r _ [11, 1, 2, 16, 17] (by decide +kernel) (by decide +kernel)
set_option maxRecDepth 20000 in
theorem gX7_add_X7_below : GoodIn wsX7_add (wsV RX7 34 RX7 yX7_below wsX7_below) := goodIn_app (goodIn_of _ (by decide +kernel)) ggX7_add_X7_below
set_option maxRecDepth 20000 in
theorem ggX7_add_X7_isAt : GoodIn wsX7_add wsX7_isAt := goodIn_r _ [15, 1, 2, 16, 17] (by decide +kernel) (by decide +kernel)
set_option maxRecDepth 20000 in
theorem gX7_add_X7_isAt : GoodIn wsX7_add (wsV RX7 38 RX7 yX7_isAt wsX7_isAt) := goodIn_app (goodIn_of _ (by decide +kernel)) ggX7_add_X7_isAt
theorem dX7_add_0 : decode cX7_add 0 = .ok (.aload_n 0, 1) := by decide +kernel
theorem dX7_add_1 : decode cX7_add 1 = .ok (.lload_n 1, 1) := by decide +kernel
theorem dX7_add_2 : decode cX7_add 2 = .ok (.invokevirtual 34, 3) := by decide +kernel
theorem dX7_add_5 : decode cX7_add 5 = .ok (.istore_n 3, 1) := by decide +kernel
theorem dX7_add_6 : decode cX7_add 6 = .ok (.aload_n 0, 1) := by decide +kernel
theorem dX7_add_7 : decode cX7_add 7 = .ok (.getfield 24, 3) := by decide +kernel
theorem dX7_add_10 : decode cX7_add 10 = .ok (.aload_n 0, 1) := by decide +kernel
theorem dX7_add_11 : decode cX7_add 11 = .ok (.getfield 18, 3) := by decide +kernel
theorem dX7_add_14 : decode cX7_add 14 = .ok (.arraylength, 1) := by decide +kernel
theorem dX7_add_15 : decode cX7_add 15 = .ok (.if_icmp .ge 12, 3) := by decide +kernel
theorem dX7_add_18 : decode cX7_add 18 = .ok (.aload_n 0, 1) := by decide +kernel
theorem dX7_add_19 : decode cX7_add 19 = .ok (.iload_n 3, 1) := by decide +kernel
theorem dX7_add_20 : decode cX7_add 20 = .ok (.lload_n 1, 1) := by decide +kernel
theorem dX7_add_21 : decode cX7_add 21 = .ok (.invokevirtual 38, 3) := by decide +kernel
theorem dX7_add_24 : decode cX7_add 24 = .ok (.ifCond .eq 5, 3) := by decide +kernel
theorem dX7_add_27 : decode cX7_add 27 = .ok (.iconst 0, 1) := by decide +kernel
theorem dX7_add_28 : decode cX7_add 28 = .ok (.ireturn, 1) := by decide +kernel
theorem dX7_add_29 : decode cX7_add 29 = .ok (.aload_n 0, 1) := by decide +kernel
theorem dX7_add_30 : decode cX7_add 30 = .ok (.getfield 18, 3) := by decide +kernel
theorem dX7_add_33 : decode cX7_add 33 = .ok (.iload_n 3, 1) := by decide +kernel
theorem dX7_add_34 : decode cX7_add 34 = .ok (.aload_n 0, 1) := by decide +kernel
theorem dX7_add_35 : decode cX7_add 35 = .ok (.getfield 18, 3) := by decide +kernel
theorem dX7_add_38 : decode cX7_add 38 = .ok (.iload_n 3, 1) := by decide +kernel
theorem dX7_add_39 : decode cX7_add 39 = .ok (.iconst 1, 1) := by decide +kernel
theorem dX7_add_40 : decode cX7_add 40 = .ok (.iadd, 1) := by decide +kernel
theorem dX7_add_41 : decode cX7_add 41 = .ok (.aload_n 0, 1) := by decide +kernel
theorem dX7_add_42 : decode cX7_add 42 = .ok (.getfield 24, 3) := by decide +kernel
theorem dX7_add_45 : decode cX7_add 45 = .ok (.iload_n 3, 1) := by decide +kernel
theorem dX7_add_46 : decode cX7_add 46 = .ok (.isub, 1) := by decide +kernel
theorem dX7_add_47 : decode cX7_add 47 = .ok (.invokestatic 42, 3) := by decide +kernel
theorem dX7_add_50 : decode cX7_add 50 = .ok (.aload_n 0, 1) := by decide +kernel
theorem dX7_add_51 : decode cX7_add 51 = .ok (.getfield 18, 3) := by decide +kernel
theorem dX7_add_54 : decode cX7_add 54 = .ok (.iload_n 3, 1) := by decide +kernel
theorem dX7_add_55 : decode cX7_add 55 = .ok (.lload_n 1, 1) := by decide +kernel
theorem dX7_add_56 : decode cX7_add 56 = .ok (.lastore, 1) := by decide +kernel
theorem dX7_add_57 : decode cX7_add 57 = .ok (.aload_n 0, 1) := by decide +kernel
theorem dX7_add_58 : decode cX7_add 58 = .ok (.dup, 1) := by decide +kernel
theorem dX7_add_59 : decode cX7_add 59 = .ok (.getfield 24, 3) := by decide +kernel
theorem dX7_add_62 : decode cX7_add 62 = .ok (.iconst 1, 1) := by decide +kernel
theorem dX7_add_63 : decode cX7_add 63 = .ok (.iadd, 1) := by decide +kernel
theorem dX7_add_64 : decode cX7_add 64 = .ok (.putfield 24, 3) := by decide +kernel
theorem dX7_add_67 : decode cX7_add 67 = .ok (.iconst 1, 1) := by decide +kernel
theorem dX7_add_68 : decode cX7_add 68 = .ok (.ireturn, 1) := by decide +kernel
set_option maxRecDepth 20000 in
theorem ggX7_drop_X7_below : GoodIn wsX7_drop wsX7_below := goodIn_r _ [11, 1, 2, 16, 17] (by decide +kernel) (by decide +kernel)
set_option maxRecDepth 20000 in
theorem gX7_drop_X7_below : GoodIn wsX7_drop (wsV RX7 34 RX7 yX7_below wsX7_below) := goodIn_app (goodIn_of _ (by decide +kernel)) ggX7_drop_X7_below
set_option maxRecDepth 20000 in
theorem ggX7_drop_X7_isAt : GoodIn wsX7_drop wsX7_isAt := goodIn_r _ [15, 1, 2, 16, 17] (by decide +kernel) (by decide +kernel)
set_option maxRecDepth 20000 in
theorem gX7_drop_X7_isAt : GoodIn wsX7_drop (wsV RX7 38 RX7 yX7_isAt wsX7_isAt) := goodIn_app (goodIn_of _ (by decide +kernel)) ggX7_drop_X7_isAt
theorem dX7_drop_0 : decode cX7_drop 0 = .ok (.aload_n 0, 1) := by decide +kernel
theorem dX7_drop_1 : decode cX7_drop 1 = .ok (.lload_n 1, 1) := by decide +kernel
theorem dX7_drop_2 : decode cX7_drop 2 = .ok (.invokevirtual 34, 3) := by decide +kernel
theorem dX7_drop_5 : decode cX7_drop 5 = .ok (.istore_n 3, 1) := by decide +kernel
theorem dX7_drop_6 : decode cX7_drop 6 = .ok (.aload_n 0, 1) := by decide +kernel
theorem dX7_drop_7 : decode cX7_drop 7 = .ok (.iload_n 3, 1) := by decide +kernel
theorem dX7_drop_8 : decode cX7_drop 8 = .ok (.lload_n 1, 1) := by decide +kernel
theorem dX7_drop_9 : decode cX7_drop 9 = .ok (.invokevirtual 38, 3) := by decide +kernel
theorem dX7_drop_12 : decode cX7_drop 12 = .ok (.ifCond .ne 5, 3) := by decide +kernel
theorem dX7_drop_15 : decode cX7_drop 15 = .ok (.iconst 0, 1) := by decide +kernel
theorem dX7_drop_16 : decode cX7_drop 16 = .ok (.ireturn, 1) := by decide +kernel
theorem dX7_drop_17 : decode cX7_drop 17 = .ok (.aload_n 0, 1) := by decide +kernel
theorem dX7_drop_18 : decode cX7_drop 18 = .ok (.dup, 1) := by decide +kernel
theorem dX7_drop_19 : decode cX7_drop 19 = .ok (.getfield 24, 3) := by decide +kernel
theorem dX7_drop_22 : decode cX7_drop 22 = .ok (.iconst 1, 1) := by decide +kernel
theorem dX7_drop_23 : decode cX7_drop 23 = .ok (.isub, 1) := by decide +kernel
theorem dX7_drop_24 : decode cX7_drop 24 = .ok (.putfield 24, 3) := by decide +kernel
theorem dX7_drop_27 : decode cX7_drop 27 = .ok (.aload_n 0, 1) := by decide +kernel
theorem dX7_drop_28 : decode cX7_drop 28 = .ok (.getfield 18, 3) := by decide +kernel
theorem dX7_drop_31 : decode cX7_drop 31 = .ok (.iload_n 3, 1) := by decide +kernel
theorem dX7_drop_32 : decode cX7_drop 32 = .ok (.iconst 1, 1) := by decide +kernel
theorem dX7_drop_33 : decode cX7_drop 33 = .ok (.iadd, 1) := by decide +kernel
theorem dX7_drop_34 : decode cX7_drop 34 = .ok (.aload_n 0, 1) := by decide +kernel
theorem dX7_drop_35 : decode cX7_drop 35 = .ok (.getfield 18, 3) := by decide +kernel
theorem dX7_drop_38 : decode cX7_drop 38 = .ok (.iload_n 3, 1) := by decide +kernel
theorem dX7_drop_39 : decode cX7_drop 39 = .ok (.aload_n 0, 1) := by decide +kernel
theorem dX7_drop_40 : decode cX7_drop 40 = .ok (.getfield 24, 3) := by decide +kernel
theorem dX7_drop_43 : decode cX7_drop 43 = .ok (.iload_n 3, 1) := by decide +kernel
theorem dX7_drop_44 : decode cX7_drop 44 = .ok (.isub, 1) := by decide +kernel
theorem dX7_drop_45 : decode cX7_drop 45 = .ok (.invokestatic 42, 3) := by decide +kernel
theorem dX7_drop_48 : decode cX7_drop 48 = .ok (.iconst 1, 1) := by decide +kernel
theorem dX7_drop_49 : decode cX7_drop 49 = .ok (.ireturn, 1) := by decide +kernel
theorem dX7_clear_0 : decode cX7_clear 0 = .ok (.aload_n 0, 1) := by decide +kernel
theorem dX7_clear_1 : decode cX7_clear 1 = .ok (.iconst 0, 1) := by decide +kernel
theorem dX7_clear_2 : decode cX7_clear 2 = .ok (.putfield 24, 3) := by decide +kernel
theorem dX7_clear_5 : decode cX7_clear 5 = .ok (.return_, 1) := by decide +kernel
theorem dX7_copy_0 : decode cX7_copy 0 = .ok (.aload_n 0, 1) := by decide +kernel
theorem dX7_copy_1 : decode cX7_copy 1 = .ok (.aload_n 1, 1) := by decide +kernel
theorem dX7_copy_2 : decode cX7_copy 2 = .ok (.getfield 24, 3) := by decide +kernel
theorem dX7_copy_5 : decode cX7_copy 5 = .ok (.aload_n 0, 1) := by decide +kernel
theorem dX7_copy_6 : decode cX7_copy 6 = .ok (.getfield 18, 3) := by decide +kernel
theorem dX7_copy_9 : decode cX7_copy 9 = .ok (.arraylength, 1) := by decide +kernel
theorem dX7_copy_10 : decode cX7_copy 10 = .ok (.invokestatic 9, 3) := by decide +kernel
theorem dX7_copy_13 : decode cX7_copy 13 = .ok (.putfield 24, 3) := by decide +kernel
theorem dX7_copy_16 : decode cX7_copy 16 = .ok (.aload_n 1, 1) := by decide +kernel
theorem dX7_copy_17 : decode cX7_copy 17 = .ok (.getfield 18, 3) := by decide +kernel
theorem dX7_copy_20 : decode cX7_copy 20 = .ok (.iconst 0, 1) := by decide +kernel
theorem dX7_copy_21 : decode cX7_copy 21 = .ok (.aload_n 0, 1) := by decide +kernel
theorem dX7_copy_22 : decode cX7_copy 22 = .ok (.getfield 18, 3) := by decide +kernel
theorem dX7_copy_25 : decode cX7_copy 25 = .ok (.iconst 0, 1) := by decide +kernel
theorem dX7_copy_26 : decode cX7_copy 26 = .ok (.aload_n 0, 1) := by decide +kernel
theorem dX7_copy_27 : decode cX7_copy 27 = .ok (.getfield 24, 3) := by decide +kernel
theorem dX7_copy_30 : decode cX7_copy 30 = .ok (.invokestatic 42, 3) := by decide +kernel
