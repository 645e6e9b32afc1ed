theorem dX12_init_0 : decode cX12_init 0 = .ok (.aload_n 0, 1) := by decide +kernel
theorem dX12_init_1 : decode cX12_init 1 = .ok (.invokespecial 1, 3) := by decide +kernel
theorem dX12_init_4 : decode cX12_init 4 = .ok (.aload_n 0, 1) := by decide +kernel
theorem dX12_init_5 : decode cX12_init 5 = .ok (.sipush 5228, 3) := by decide +kernel
theorem dX12_init_8 : decode cX12_init 8 = .ok (.newarray .int, 2) := by decide +kernel
theorem dX12_init_10 : decode cX12_init 10 = .ok (.putfield 7, 3) := by decide +kernel
theorem dX12_init_13 : decode cX12_init 13 = .ok (.aload_n 0, 1) := by decide +kernel
theorem dX12_init_14 : decode cX12_init 14 = .ok (.sipush 400, 3) := by decide +kernel
theorem dX12_init_17 : decode cX12_init 17 = .ok (.newarray .int, 2) := by decide +kernel
theorem dX12_init_19 : decode cX12_init 19 = .ok (.putfield 13, 3) := by decide +kernel
theorem dX12_init_22 : decode cX12_init 22 = .ok (.aload_n 0, 1) := by decide +kernel
theorem dX12_init_23 : decode cX12_init 23 = .ok (.iconst 3, 1) := by decide +kernel
theorem dX12_init_24 : decode cX12_init 24 = .ok (.newarray .boolean, 2) := by decide +kernel
theorem dX12_init_26 : decode cX12_init 26 = .ok (.putfield 16, 3) := by decide +kernel
theorem dX12_init_29 : decode cX12_init 29 = .ok (.aload_n 0, 1) := by decide +kernel
theorem dX12_init_30 : decode cX12_init 30 = .ok (.iconst (-1), 1) := by decide +kernel
theorem dX12_init_31 : decode cX12_init 31 = .ok (.putfield 20, 3) := by decide +kernel
theorem dX12_init_34 : decode cX12_init 34 = .ok (.aload_n 0, 1) := by decide +kernel
theorem dX12_init_35 : decode cX12_init 35 = .ok (.sipush 320, 3) := by decide +kernel
theorem dX12_init_38 : decode cX12_init 38 = .ok (.newarray .int, 2) := by decide +kernel
theorem dX12_init_40 : decode cX12_init 40 = .ok (.putfield 24, 3) := by decide +kernel
theorem dX12_init_43 : decode cX12_init 43 = .ok (.aload_n 0, 1) := by decide +kernel
theorem dX12_init_44 : decode cX12_init 44 = .ok (.sipush 320, 3) := by decide +kernel
theorem dX12_init_47 : decode cX12_init 47 = .ok (.newarray .int, 2) := by decide +kernel
theorem dX12_init_49 : decode cX12_init 49 = .ok (.putfield 27, 3) := by decide +kernel
theorem dX12_init_52 : decode cX12_init 52 = .ok (.aload_n 0, 1) := by decide +kernel
theorem dX12_init_53 : decode cX12_init 53 = .ok (.bipush 40, 2) := by decide +kernel
theorem dX12_init_55 : decode cX12_init 55 = .ok (.newarray .int, 2) := by decide +kernel
theorem dX12_init_57 : decode cX12_init 57 = .ok (.putfield 30, 3) := by decide +kernel
theorem dX12_init_60 : decode cX12_init 60 = .ok (.aload_n 0, 1) := by decide +kernel
theorem dX12_init_61 : decode cX12_init 61 = .ok (.bipush 14, 2) := by decide +kernel
theorem dX12_init_63 : decode cX12_init 63 = .ok (.newarray .int, 2) := by decide +kernel
theorem dX12_init_65 : decode cX12_init 65 = .ok (.putfield 33, 3) := by decide +kernel
theorem dX12_init_68 : decode cX12_init 68 = .ok (.aload_n 0, 1) := by decide +kernel
theorem dX12_init_69 : decode cX12_init 69 = .ok (.bipush 40, 2) := by decide +kernel
theorem dX12_init_71 : decode cX12_init 71 = .ok (.newarray .int, 2) := by decide +kernel
theorem dX12_init_73 : decode cX12_init 73 = .ok (.putfield 36, 3) := by decide +kernel
theorem dX12_init_76 : decode cX12_init 76 = .ok (.aload_n 0, 1) := by decide +kernel
theorem dX12_init_77 : decode cX12_init 77 = .ok (.bipush 40, 2) := by decide +kernel
theorem dX12_init_79 : decode cX12_init 79 = .ok (.newarray .int, 2) := by decide +kernel
theorem dX12_init_81 : decode cX12_init 81 = .ok (.putfield 39, 3) := by decide +kernel
theorem dX12_init_84 : decode cX12_init 84 = .ok (.aload_n 0, 1) := by decide +kernel
theorem dX12_init_85 : decode cX12_init 85 = .ok (.bipush 40, 2) := by decide +kernel
theorem dX12_init_87 : decode cX12_init 87 = .ok (.newarray .int, 2) := by decide +kernel
theorem dX12_init_89 : decode cX12_init 89 = .ok (.putfield 42, 3) := by decide +kernel
theorem dX12_init_92 : decode cX12_init 92 = .ok (.aload_n 0, 1) := by decide +kernel
theorem dX12_init_93 : decode cX12_init 93 = .ok (.sipush 128, 3) := by decide +kernel
theorem dX12_init_96 : decode cX12_init 96 = .ok (.newarray .int, 2) := by decide +kernel
theorem dX12_init_98 : decode cX12_init 98 = .ok (.putfield 45, 3) := by decide +kernel
theorem dX12_init_101 : decode cX12_init 101 = .ok (.aload_n 0, 1) := by decide +kernel
theorem dX12_init_102 : decode cX12_init 102 = .ok (.sipush 320, 3) := by decide +kernel
theorem dX12_init_105 : decode cX12_init 105 = .ok (.newarray .int, 2) := by decide +kernel
theorem dX12_init_107 : decode cX12_init 107 = .ok (.putfield 48, 3) := by decide +kernel
theorem dX12_init_110 : decode cX12_init 110 = .ok (.aload_n 0, 1) := by decide +kernel
theorem dX12_init_111 : decode cX12_init 111 = .ok (.getfield 7, 3) := by decide +kernel
theorem dX12_init_114 : decode cX12_init 114 = .ok (.sipush 430, 3) := by decide +kernel
theorem dX12_init_117 : decode cX12_init 117 = .ok (.iconst 1, 1) := by decide +kernel
theorem dX12_init_118 : decode cX12_init 118 = .ok (.iastore, 1) := by decide +kernel
theorem dX12_init_119 : decode cX12_init 119 = .ok (.aload_n 0, 1) := by decide +kernel
theorem dX12_init_120 : decode cX12_init 120 = .ok (.getfield 7, 3) := by decide +kernel
theorem dX12_init_123 : decode cX12_init 123 = .ok (.sipush 431, 3) := by decide +kernel
theorem dX12_init_126 : decode cX12_init 126 = .ok (.bipush 42, 2) := by decide +kernel
theorem dX12_init_128 : decode cX12_init 128 = .ok (.iastore, 1) := by decide +kernel
theorem dX12_init_129 : decode cX12_init 129 = .ok (.return_, 1) := by decide +kernel
theorem dX12_isIn_0 : decode cX12_isIn 0 = .ok (.iload_n 0, 1) := by decide +kernel
theorem dX12_isIn_1 : decode cX12_isIn 1 = .ok (.iload_n 1, 1) := by decide +kernel
theorem dX12_isIn_2 : decode cX12_isIn 2 = .ok (.if_icmp .lt 12, 3) := by decide +kernel
theorem dX12_isIn_5 : decode cX12_isIn 5 = .ok (.iload_n 0, 1) := by decide +kernel
theorem dX12_isIn_6 : decode cX12_isIn 6 = .ok (.iload_n 2, 1) := by decide +kernel
theorem dX12_isIn_7 : decode cX12_isIn 7 = .ok (.if_icmp .gt 7, 3) := by decide +kernel
theorem dX12_isIn_10 : decode cX12_isIn 10 = .ok (.iconst 1, 1) := by decide +kernel
theorem dX12_isIn_11 : decode cX12_isIn 11 = .ok (.goto 4, 3) := by decide +kernel
theorem dX12_isIn_14 : decode cX12_isIn 14 = .ok (.iconst 0, 1) := by decide +kernel
theorem dX12_isIn_15 : decode cX12_isIn 15 = .ok (.ireturn, 1) := by decide +kernel
set_option maxRecDepth 20000 in
theorem ggX12_isLetter_X12_isIn : GoodIn wsX12_isLetter wsX12_isIn := goodIn_r _ [4] (by decide +kernel) (by decide +kernel)
set_option maxRecDepth 20000 in
theorem gX12_isLetter_X12_isIn : GoodIn wsX12_isLetter (va_wsS RX12 51 yX12_isIn wsX12_isIn) := goodIn_app (goodIn_of _ (by decide +kernel)) ggX12_isLetter_X12_isIn
theorem dX12_isLetter_0 : decode cX12_isLetter 0 = .ok (.iload_n 0, 1) := by decide +kernel
theorem dX12_isLetter_1 : decode cX12_isLetter 1 = .ok (.bipush 97, 2) := by decide +kernel
theorem dX12_isLetter_3 : decode cX12_isLetter 3 = .ok (.bipush 122, 2) := by decide +kernel
theorem dX12_isLetter_5 : decode cX12_isLetter 5 = .ok (.invokestatic 51, 3) := by decide +kernel
theorem dX12_isLetter_8 : decode cX12_isLetter 8 = .ok (.ireturn, 1) := by decide +kernel
theorem dX12_copies_0 : decode cX12_copies 0 = .ok (.iconst 0, 1) := by decide +kernel
theorem dX12_copies_1 : decode cX12_copies 1 = .ok (.istore 4, 2) := by decide +kernel
theorem dX12_copies_3 : decode cX12_copies 3 = .ok (.iload 4, 2) := by decide +kernel
theorem dX12_copies_5 : decode cX12_copies 5 = .ok (.iload_n 3, 1) := by decide +kernel
theorem dX12_copies_6 : decode cX12_copies 6 = .ok (.if_icmp .ge 27, 3) := by decide +kernel
theorem dX12_copies_9 : decode cX12_copies 9 = .ok (.aload_n 0, 1) := by decide +kernel
theorem dX12_copies_10 : decode cX12_copies 10 = .ok (.getfield 7, 3) := by decide +kernel
theorem dX12_copies_13 : decode cX12_copies 13 = .ok (.iload_n 2, 1) := by decide +kernel
theorem dX12_copies_14 : decode cX12_copies 14 = .ok (.iload 4, 2) := by decide +kernel
theorem dX12_copies_16 : decode cX12_copies 16 = .ok (.iadd, 1) := by decide +kernel
theorem dX12_copies_17 : decode cX12_copies 17 = .ok (.aload_n 0, 1) := by decide +kernel
theorem dX12_copies_18 : decode cX12_copies 18 = .ok (.getfield 7, 3) := by decide +kernel
theorem dX12_copies_21 : decode cX12_copies 21 = .ok (.iload_n 1, 1) := by decide +kernel
theorem dX12_copies_22 : decode cX12_copies 22 = .ok (.iload 4, 2) := by decide +kernel
theorem dX12_copies_24 : decode cX12_copies 24 = .ok (.iadd, 1) := by decide +kernel
theorem dX12_copies_25 : decode cX12_copies 25 = .ok (.iaload, 1) := by decide +kernel
theorem dX12_copies_26 : decode cX12_copies 26 = .ok (.iastore, 1) := by decide +kernel
theorem dX12_copies_27 : decode cX12_copies 27 = .ok (.iinc 4 1, 3) := by decide +kernel
theorem dX12_copies_30 : decode cX12_copies 30 = .ok (.goto (-27), 3) := by decide +kernel
theorem dX12_copies_33 : decode cX12_copies 33 = .ok (.return_, 1) := by decide +kernel
theorem dX12_wordAt_0 : decode cX12_wordAt 0 = .ok (.iload_n 0, 1) := by decide +kernel
theorem dX12_wordAt_1 : decode cX12_wordAt 1 = .ok (.iconst 1, 1) := by decide +kernel
theorem dX12_wordAt_2 : decode cX12_wordAt 2 = .ok (.iadd, 1) := by decide +kernel
theorem dX12_wordAt_3 : decode cX12_wordAt 3 = .ok (.bipush 8, 2) := by decide +kernel
theorem dX12_wordAt_5 : decode cX12_wordAt 5 = .ok (.iload_n 1, 1) := by decide +kernel
theorem dX12_wordAt_6 : decode cX12_wordAt 6 = .ok (.imul, 1) := by decide +kernel
theorem dX12_wordAt_7 : decode cX12_wordAt 7 = .ok (.iadd, 1) := by decide +kernel
theorem dX12_wordAt_8 : decode cX12_wordAt 8 = .ok (.ireturn, 1) := by decide +kernel
theorem dX12_order_0 : decode cX12_order 0 = .ok (.iconst 1, 1) := by decide +kernel
theorem dX12_order_1 : decode cX12_order 1 = .ok (.istore_n 3, 1) := by decide +kernel
theorem dX12_order_2 : decode cX12_order 2 = .ok (.iload_n 3, 1) := by decide +kernel
theorem dX12_order_3 : decode cX12_order 3 = .ok (.bipush 7, 2) := by decide +kernel
theorem dX12_order_5 : decode cX12_order 5 = .ok (.if_icmp .gt 77, 3) := by decide +kernel
theorem dX12_order_8 : decode cX12_order 8 = .ok (.iload_n 3, 1) := by decide +kernel
theorem dX12_order_9 : decode cX12_order 9 = .ok (.aload_n 0, 1) := by decide +kernel
theorem dX12_order_10 : decode cX12_order 10 = .ok (.getfield 7, 3) := by decide +kernel
theorem dX12_order_13 : decode cX12_order 13 = .ok (.iload_n 1, 1) := by decide +kernel
theorem dX12_order_14 : decode cX12_order 14 = .ok (.iaload, 1) := by decide +kernel
theorem dX12_order_15 : decode cX12_order 15 = .ok (.if_icmp .gt 14, 3) := by decide +kernel
theorem dX12_order_18 : decode cX12_order 18 = .ok (.aload_n 0, 1) := by decide +kernel
theorem dX12_order_19 : decode cX12_order 19 = .ok (.getfield 7, 3) := by decide +kernel
theorem dX12_order_22 : decode cX12_order 22 = .ok (.iload_n 1, 1) := by decide +kernel
theorem dX12_order_23 : decode cX12_order 23 = .ok (.iload_n 3, 1) := by decide +kernel
theorem dX12_order_24 : decode cX12_order 24 = .ok (.iadd, 1) := by decide +kernel
theorem dX12_order_25 : decode cX12_order 25 = .ok (.iaload, 1) := by decide +kernel
theorem dX12_order_26 : decode cX12_order 26 = .ok (.goto 4, 3) := by decide +kernel
theorem dX12_order_29 : decode cX12_order 29 = .ok (.iconst 0, 1) := by decide +kernel
theorem dX12_order_30 : decode cX12_order 30 = .ok (.istore 4, 2) := by decide +kernel
theorem dX12_order_32 : decode cX12_order 32 = .ok (.iload_n 3, 1) := by decide +kernel
theorem dX12_order_33 : decode cX12_order 33 = .ok (.aload_n 0, 1) := by decide +kernel
theorem dX12_order_34 : decode cX12_order 34 = .ok (.getfield 7, 3) := by decide +kernel
theorem dX12_order_37 : decode cX12_order 37 = .ok (.iload_n 2, 1) := by decide +kernel
theorem dX12_order_38 : decode cX12_order 38 = .ok (.iaload, 1) := by decide +kernel
theorem dX12_order_39 : decode cX12_order 39 = .ok (.if_icmp .gt 14, 3) := by decide +kernel
theorem dX12_order_42 : decode cX12_order 42 = .ok (.aload_n 0, 1) := by decide +kernel
theorem dX12_order_43 : decode cX12_order 43 = .ok (.getfield 7, 3) := by decide +kernel
theorem dX12_order_46 : decode cX12_order 46 = .ok (.iload_n 2, 1) := by decide +kernel
theorem dX12_order_47 : decode cX12_order 47 = .ok (.iload_n 3, 1) := by decide +kernel
theorem dX12_order_48 : decode cX12_order 48 = .ok (.iadd, 1) := by decide +kernel
theorem dX12_order_49 : decode cX12_order 49 = .ok (.iaload, 1) := by decide +kernel
theorem dX12_order_50 : decode cX12_order 50 = .ok (.goto 4, 3) := by decide +kernel
theorem dX12_order_53 : decode cX12_order 53 = .ok (.iconst 0, 1) := by decide +kernel
theorem dX12_order_54 : decode cX12_order 54 = .ok (.istore 5, 2) := by decide +kernel
theorem dX12_order_56 : decode cX12_order 56 = .ok (.iload 4, 2) := by decide +kernel
theorem dX12_order_58 : decode cX12_order 58 = .ok (.iload 5, 2) := by decide +kernel
theorem dX12_order_60 : decode cX12_order 60 = .ok (.if_icmp .eq 16, 3) := by decide +kernel
theorem dX12_order_63 : decode cX12_order 63 = .ok (.iload 4, 2) := by decide +kernel
theorem dX12_order_65 : decode cX12_order 65 = .ok (.iload 5, 2) := by decide +kernel
theorem dX12_order_67 : decode cX12_order 67 = .ok (.if_icmp .ge 7, 3) := by decide +kernel
theorem dX12_order_70 : decode cX12_order 70 = .ok (.iconst (-1), 1) := by decide +kernel
theorem dX12_order_71 : decode cX12_order 71 = .ok (.goto 4, 3) := by decide +kernel
theorem dX12_order_74 : decode cX12_order 74 = .ok (.iconst 1, 1) := by decide +kernel
theorem dX12_order_75 : decode cX12_order 75 = .ok (.ireturn, 1) := by decide +kernel
theorem dX12_order_76 : decode cX12_order 76 = .ok (.iinc 3 1, 3) := by decide +kernel
theorem dX12_order_79 : decode cX12_order 79 = .ok (.goto (-77), 3) := by decide +kernel
theorem dX12_order_82 : decode cX12_order 82 = .ok (.iconst 0, 1) := by decide +kernel
theorem dX12_order_83 : decode cX12_order 83 = .ok (.ireturn, 1) := by decide +kernel
set_option maxRecDepth 20000 in
theorem ggX12_numberOf_X12_wordAt : GoodIn wsX12_numberOf wsX12_wordAt := goodIn_r _ [5] (by decide +kernel) (by decide +kernel)
set_option maxRecDepth 20000 in
theorem gX12_numberOf_X12_wordAt : GoodIn wsX12_numberOf (va_wsS RX12 55 yX12_wordAt wsX12_wordAt) := goodIn_app (goodIn_of _ (by decide +kernel)) ggX12_numberOf_X12_wordAt
set_option maxRecDepth 20000 in
theorem ggX12_numberOf_X12_order : GoodIn wsX12_numberOf wsX12_order := goodIn_r _ [9, 1, 10, 11, 12, 13, 14, 15, 16, 17, 18, 19, 20, 21, 22, 23, 24, 25, 26, 27, 28, 29] (by decide +kernel) (by decide +kernel)
set_option maxRecDepth 20000 in
theorem gX12_numberOf_X12_order : GoodIn wsX12_numberOf (wsV RX12 59 RX12 yX12_order wsX12_order) := goodIn_app (goodIn_of _ (by decide +kernel)) ggX12_numberOf_X12_order
theorem dX12_numberOf_0 : decode cX12_numberOf 0 = .ok (.iconst 0, 1) := by decide +kernel
theorem dX12_numberOf_1 : decode cX12_numberOf 1 = .ok (.istore_n 3, 1) := by decide +kernel
theorem dX12_numberOf_2 : decode cX12_numberOf 2 = .ok (.iload_n 3, 1) := by decide +kernel
theorem dX12_numberOf_3 : decode cX12_numberOf 3 = .ok (.aload_n 0, 1) := by decide +kernel
theorem dX12_numberOf_4 : decode cX12_numberOf 4 = .ok (.getfield 7, 3) := by decide +kernel
theorem dX12_numberOf_7 : decode cX12_numberOf 7 = .ok (.iload_n 1, 1) := by decide +kernel
theorem dX12_numberOf_8 : decode cX12_numberOf 8 = .ok (.iaload, 1) := by decide +kernel
theorem dX12_numberOf_9 : decode cX12_numberOf 9 = .ok (.if_icmp .ge 24, 3) := by decide +kernel
theorem dX12_numberOf_12 : decode cX12_numberOf 12 = .ok (.aload_n 0, 1) := by decide +kernel
theorem dX12_numberOf_13 : decode cX12_numberOf 13 = .ok (.iload_n 1, 1) := by decide +kernel
theorem dX12_numberOf_14 : decode cX12_numberOf 14 = .ok (.iload_n 3, 1) := by decide +kernel
theorem dX12_numberOf_15 : decode cX12_numberOf 15 = .ok (.invokestatic 55, 3) := by decide +kernel
theorem dX12_numberOf_18 : decode cX12_numberOf 18 = .ok (.iload_n 2, 1) := by decide +kernel
theorem dX12_numberOf_19 : decode cX12_numberOf 19 = .ok (.invokevirtual 59, 3) := by decide +kernel
theorem dX12_numberOf_22 : decode cX12_numberOf 22 = .ok (.ifCond .ne 5, 3) := by decide +kernel
theorem dX12_numberOf_25 : decode cX12_numberOf 25 = .ok (.iload_n 3, 1) := by decide +kernel
theorem dX12_numberOf_26 : decode cX12_numberOf 26 = .ok (.ireturn, 1) := by decide +kernel
theorem dX12_numberOf_27 : decode cX12_numberOf 27 = .ok (.iinc 3 1, 3) := by decide +kernel
theorem dX12_numberOf_30 : decode cX12_numberOf 30 = .ok (.goto (-28), 3) := by decide +kernel
theorem dX12_numberOf_33 : decode cX12_numberOf 33 = .ok (.iconst (-1), 1) := by decide +kernel
theorem dX12_numberOf_34 : decode cX12_numberOf 34 = .ok (.ireturn, 1) := by decide +kernel
set_option maxRecDepth 20000 in
theorem ggX12_comes_X12_wordAt : GoodIn wsX12_comes wsX12_wordAt := goodIn_r _ [5] (by decide +kernel) (by decide +kernel)
set_option maxRecDepth 20000 in
theorem gX12_comes_X12_wordAt : GoodIn wsX12_comes (va_wsS RX12 55 yX12_wordAt wsX12_wordAt) := goodIn_app (goodIn_of _ (by decide +kernel)) ggX12_comes_X12_wordAt
set_option maxRecDepth 20000 in
theorem ggX12_comes_X12_order : GoodIn wsX12_comes wsX12_order := goodIn_r _ [9, 1, 14, 15, 16, 17, 18, 19, 20, 21, 22, 23, 24, 25, 26, 27, 28, 29, 30, 31, 32, 33] (by decide +kernel) (by decide +kernel)
set_option maxRecDepth 20000 in
theorem gX12_comes_X12_order : GoodIn wsX12_comes (wsV RX12 59 RX12 yX12_order wsX12_order) := goodIn_app (goodIn_of _ (by decide +kernel)) ggX12_comes_X12_order
set_option maxRecDepth 20000 in
theorem ggX12_comes_X12_copies : GoodIn wsX12_comes wsX12_copies := goodIn_r _ [13, 1, 14, 15, 16, 17, 18, 19, 20, 21, 22, 23, 24, 25, 26, 27, 28, 29, 30, 31, 32, 33] (by decide +kernel) (by decide +kernel)
set_option maxRecDepth 20000 in
theorem gX12_comes_X12_copies : GoodIn wsX12_comes (wsV RX12 62 RX12 yX12_copies wsX12_copies) := goodIn_app (goodIn_of _ (by decide +kernel)) ggX12_comes_X12_copies
theorem dX12_comes_0 : decode cX12_comes 0 = .ok (.aload_n 0, 1) := by decide +kernel
theorem dX12_comes_1 : decode cX12_comes 1 = .ok (.getfield 7, 3) := by decide +kernel
theorem dX12_comes_4 : decode cX12_comes 4 = .ok (.iload_n 1, 1) := by decide +kernel
theorem dX12_comes_5 : decode cX12_comes 5 = .ok (.iaload, 1) := by decide +kernel
theorem dX12_comes_6 : decode cX12_comes 6 = .ok (.istore_n 3, 1) := by decide +kernel
theorem dX12_comes_7 : decode cX12_comes 7 = .ok (.iload_n 3, 1) := by decide +kernel
theorem dX12_comes_8 : decode cX12_comes 8 = .ok (.ifCond .le 42, 3) := by decide +kernel
theorem dX12_comes_11 : decode cX12_comes 11 = .ok (.aload_n 0, 1) := by decide +kernel
theorem dX12_comes_12 : decode cX12_comes 12 = .ok (.iload_n 2, 1) := by decide +kernel
theorem dX12_comes_13 : decode cX12_comes 13 = .ok (.iload_n 1, 1) := by decide +kernel
theorem dX12_comes_14 : decode cX12_comes 14 = .ok (.iload_n 3, 1) := by decide +kernel
theorem dX12_comes_15 : decode cX12_comes 15 = .ok (.iconst 1, 1) := by decide +kernel
theorem dX12_comes_16 : decode cX12_comes 16 = .ok (.isub, 1) := by decide +kernel
theorem dX12_comes_17 : decode cX12_comes 17 = .ok (.invokestatic 55, 3) := by decide +kernel
theorem dX12_comes_20 : decode cX12_comes 20 = .ok (.invokevirtual 59, 3) := by decide +kernel
theorem dX12_comes_23 : decode cX12_comes 23 = .ok (.ifCond .ge 27, 3) := by decide +kernel
theorem dX12_comes_26 : decode cX12_comes 26 = .ok (.aload_n 0, 1) := by decide +kernel
theorem dX12_comes_27 : decode cX12_comes 27 = .ok (.iload_n 1, 1) := by decide +kernel
theorem dX12_comes_28 : decode cX12_comes 28 = .ok (.iload_n 3, 1) := by decide +kernel
theorem dX12_comes_29 : decode cX12_comes 29 = .ok (.iconst 1, 1) := by decide +kernel
theorem dX12_comes_30 : decode cX12_comes 30 = .ok (.isub, 1) := by decide +kernel
theorem dX12_comes_31 : decode cX12_comes 31 = .ok (.invokestatic 55, 3) := by decide +kernel
theorem dX12_comes_34 : decode cX12_comes 34 = .ok (.iload_n 1, 1) := by decide +kernel
theorem dX12_comes_35 : decode cX12_comes 35 = .ok (.iload_n 3, 1) := by decide +kernel
theorem dX12_comes_36 : decode cX12_comes 36 = .ok (.invokestatic 55, 3) := by decide +kernel
theorem dX12_comes_39 : decode cX12_comes 39 = .ok (.bipush 8, 2) := by decide +kernel
theorem dX12_comes_41 : decode cX12_comes 41 = .ok (.invokevirtual 62, 3) := by decide +kernel
theorem dX12_comes_44 : decode cX12_comes 44 = .ok (.iinc 3 (-1), 3) := by decide +kernel
theorem dX12_comes_47 : decode cX12_comes 47 = .ok (.goto (-40), 3) := by decide +kernel
theorem dX12_comes_50 : decode cX12_comes 50 = .ok (.aload_n 0, 1) := by decide +kernel
theorem dX12_comes_51 : decode cX12_comes 51 = .ok (.iload_n 2, 1) := by decide +kernel
theorem dX12_comes_52 : decode cX12_comes 52 = .ok (.iload_n 1, 1) := by decide +kernel
theorem dX12_comes_53 : decode cX12_comes 53 = .ok (.iload_n 3, 1) := by decide +kernel
theorem dX12_comes_54 : decode cX12_comes 54 = .ok (.invokestatic 55, 3) := by decide +kernel
theorem dX12_comes_57 : decode cX12_comes 57 = .ok (.bipush 8, 2) := by decide +kernel
theorem dX12_comes_59 : decode cX12_comes 59 = .ok (.invokevirtual 62, 3) := by decide +kernel
theorem dX12_comes_62 : decode cX12_comes 62 = .ok (.aload_n 0, 1) := by decide +kernel
theorem dX12_comes_63 : decode cX12_comes 63 = .ok (.getfield 7, 3) := by decide +kernel
theorem dX12_comes_66 : decode cX12_comes 66 = .ok (.iload_n 1, 1) := by decide +kernel
theorem dX12_comes_67 : decode cX12_comes 67 = .ok (.dup2, 1) := by decide +kernel
theorem dX12_comes_68 : decode cX12_comes 68 = .ok (.iaload, 1) := by decide +kernel
theorem dX12_comes_69 : decode cX12_comes 69 = .ok (.iconst 1, 1) := by decide +kernel
theorem dX12_comes_70 : decode cX12_comes 70 = .ok (.iadd, 1) := by decide +kernel
theorem dX12_comes_71 : decode cX12_comes 71 = .ok (.iastore, 1) := by decide +kernel
theorem dX12_comes_72 : decode cX12_comes 72 = .ok (.return_, 1) := by decide +kernel
set_option maxRecDepth 20000 in
theorem ggX12_goes_X12_wordAt : GoodIn wsX12_goes wsX12_wordAt := goodIn_r _ [5] (by decide +kernel) (by decide +kernel)
set_option maxRecDepth 20000 in
theorem gX12_goes_X12_wordAt : GoodIn wsX12_goes (va_wsS RX12 55 yX12_wordAt wsX12_wordAt) := goodIn_app (goodIn_of _ (by decide +kernel)) ggX12_goes_X12_wordAt
set_option maxRecDepth 20000 in
theorem ggX12_goes_X12_copies : GoodIn wsX12_goes wsX12_copies := goodIn_r _ [9, 1, 10, 11, 12, 13, 14, 15, 16, 17, 18, 19, 20, 21, 22, 23, 24, 25, 26, 27, 28, 29] (by decide +kernel) (by decide +kernel)
set_option maxRecDepth 20000 in
theorem gX12_goes_X12_copies : GoodIn wsX12_goes (wsV RX12 62 RX12 yX12_copies wsX12_copies) := goodIn_app (goodIn_of _ (by decide +kernel)) ggX12_goes_X12_copies
theorem dX12_goes_0 : decode cX12_goes 0 = .ok (.aload_n 0, 1) := by decide +kernel
theorem dX12_goes_1 : decode cX12_goes 1 = .ok (.getfield 7, 3) := by decide +kernel
theorem dX12_goes_4 : decode cX12_goes 4 = .ok (.iload_n 1, 1) := by decide +kernel
theorem dX12_goes_5 : decode cX12_goes 5 = .ok (.dup2, 1) := by decide +kernel
theorem dX12_goes_6 : decode cX12_goes 6 = .ok (.iaload, 1) := by decide +kernel
theorem dX12_goes_7 : decode cX12_goes 7 = .ok (.iconst 1, 1) := by decide +kernel
theorem dX12_goes_8 : decode cX12_goes 8 = .ok (.isub, 1) := by decide +kernel
theorem dX12_goes_9 : decode cX12_goes 9 = .ok (.iastore, 1) := by decide +kernel
theorem dX12_goes_10 : decode cX12_goes 10 = .ok (.aload_n 0, 1) := by decide +kernel
theorem dX12_goes_11 : decode cX12_goes 11 = .ok (.iload_n 1, 1) := by decide +kernel
theorem dX12_goes_12 : decode cX12_goes 12 = .ok (.iload_n 2, 1) := by decide +kernel
theorem dX12_goes_13 : decode cX12_goes 13 = .ok (.iconst 1, 1) := by decide +kernel
theorem dX12_goes_14 : decode cX12_goes 14 = .ok (.iadd, 1) := by decide +kernel
theorem dX12_goes_15 : decode cX12_goes 15 = .ok (.invokestatic 55, 3) := by decide +kernel
theorem dX12_goes_18 : decode cX12_goes 18 = .ok (.iload_n 1, 1) := by decide +kernel
theorem dX12_goes_19 : decode cX12_goes 19 = .ok (.iload_n 2, 1) := by decide +kernel
theorem dX12_goes_20 : decode cX12_goes 20 = .ok (.invokestatic 55, 3) := by decide +kernel
theorem dX12_goes_23 : decode cX12_goes 23 = .ok (.bipush 8, 2) := by decide +kernel
theorem dX12_goes_25 : decode cX12_goes 25 = .ok (.aload_n 0, 1) := by decide +kernel
theorem dX12_goes_26 : decode cX12_goes 26 = .ok (.getfield 7, 3) := by decide +kernel
theorem dX12_goes_29 : decode cX12_goes 29 = .ok (.iload_n 1, 1) := by decide +kernel
theorem dX12_goes_30 : decode cX12_goes 30 = .ok (.iaload, 1) := by decide +kernel
theorem dX12_goes_31 : decode cX12_goes 31 = .ok (.iload_n 2, 1) := by decide +kernel
theorem dX12_goes_32 : decode cX12_goes 32 = .ok (.isub, 1) := by decide +kernel
theorem dX12_goes_33 : decode cX12_goes 33 = .ok (.imul, 1) := by decide +kernel
theorem dX12_goes_34 : decode cX12_goes 34 = .ok (.invokevirtual 62, 3) := by decide +kernel
theorem dX12_goes_37 : decode cX12_goes 37 = .ok (.return_, 1) := by decide +kernel
theorem dX12_editAt_0 : decode cX12_editAt 0 = .ok (.sipush 322, 3) := by decide +kernel
theorem dX12_editAt_3 : decode cX12_editAt 3 = .ok (.bipush 9, 2) := by decide +kernel
theorem dX12_editAt_5 : decode cX12_editAt 5 = .ok (.iload_n 0, 1) := by decide +kernel
theorem dX12_editAt_6 : decode cX12_editAt 6 = .ok (.imul, 1) := by decide +kernel
theorem dX12_editAt_7 : decode cX12_editAt 7 = .ok (.iadd, 1) := by decide +kernel
theorem dX12_editAt_8 : decode cX12_editAt 8 = .ok (.ireturn, 1) := by decide +kernel
set_option maxRecDepth 20000 in
theorem ggX12_laysComing_X12_copies : GoodIn wsX12_laysComing wsX12_copies := goodIn_r _ [6, 1, 29, 30, 31, 32, 33, 34, 35, 36, 37, 38, 39, 40, 41, 42, 43, 44, 45, 46, 47, 48] (by decide +kernel) (by decide +kernel)
set_option maxRecDepth 20000 in
theorem gX12_laysComing_X12_copies : GoodIn wsX12_laysComing (wsV RX12 62 RX12 yX12_copies wsX12_copies) := goodIn_app (goodIn_of _ (by decide +kernel)) ggX12_laysComing_X12_copies
set_option maxRecDepth 20000 in
theorem ggX12_laysComing_X12_editAt : GoodIn wsX12_laysComing wsX12_editAt := goodIn_r _ [9] (by decide +kernel) (by decide +kernel)
set_option maxRecDepth 20000 in
theorem gX12_laysComing_X12_editAt : GoodIn wsX12_laysComing (va_wsS RX12 66 yX12_editAt wsX12_editAt) := goodIn_app (goodIn_of _ (by decide +kernel)) ggX12_laysComing_X12_editAt
set_option maxRecDepth 20000 in
theorem ggX12_laysComing_X12_numberOf : GoodIn wsX12_laysComing wsX12_numberOf := goodIn_r _ [13, 1, 14, 15, 5, 16, 17, 18, 19, 20, 29, 30, 31, 32, 33, 34, 35, 36, 37, 38, 39, 40, 41, 42, 43, 44, 45, 46, 47, 48] (by decide +kernel) (by decide +kernel)
set_option maxRecDepth 20000 in
theorem gX12_laysComing_X12_numberOf : GoodIn wsX12_laysComing (wsV RX12 70 RX12 yX12_numberOf wsX12_numberOf) := goodIn_app (goodIn_of _ (by decide +kernel)) ggX12_laysComing_X12_numberOf
set_option maxRecDepth 20000 in
theorem ggX12_laysComing_X12_goes : GoodIn wsX12_laysComing wsX12_goes := goodIn_r _ [24, 1, 14, 15, 5, 16, 2, 3, 4, 6, 29, 30, 31, 32, 33, 34, 35, 36, 37, 38, 39, 40, 41, 42, 43, 44, 45, 46, 47, 48] (by decide +kernel) (by decide +kernel)
set_option maxRecDepth 20000 in
theorem gX12_laysComing_X12_goes : GoodIn wsX12_laysComing (wsV RX12 73 RX12 yX12_goes wsX12_goes) := goodIn_app (goodIn_of _ (by decide +kernel)) ggX12_laysComing_X12_goes
set_option maxRecDepth 20000 in
theorem ggX12_laysComing_X12_comes : GoodIn wsX12_laysComing wsX12_comes := goodIn_r _ [28, 1, 14, 15, 5, 16, 17, 18, 19, 20, 2, 3, 4, 6, 29, 30, 31, 32, 33, 34, 35, 36, 37, 38, 39, 40, 41, 42, 43, 44, 45, 46, 47, 48] (by decide +kernel) (by decide +kernel)
set_option maxRecDepth 20000 in
theorem gX12_laysComing_X12_comes : GoodIn wsX12_laysComing (wsV RX12 77 RX12 yX12_comes wsX12_comes) := goodIn_app (goodIn_of _ (by decide +kernel)) ggX12_laysComing_X12_comes
theorem dX12_laysComing_0 : decode cX12_laysComing 0 = .ok (.aload_n 0, 1) := by decide +kernel
theorem dX12_laysComing_1 : decode cX12_laysComing 1 = .ok (.iconst 0, 1) := by decide +kernel
theorem dX12_laysComing_2 : decode cX12_laysComing 2 = .ok (.sipush 443, 3) := by decide +kernel
theorem dX12_laysComing_5 : decode cX12_laysComing 5 = .ok (.sipush 321, 3) := by decide +kernel
theorem dX12_laysComing_8 : decode cX12_laysComing 8 = .ok (.invokevirtual 62, 3) := by decide +kernel
theorem dX12_laysComing_11 : decode cX12_laysComing 11 = .ok (.iconst 0, 1) := by decide +kernel
theorem dX12_laysComing_12 : decode cX12_laysComing 12 = .ok (.istore_n 1, 1) := by decide +kernel
theorem dX12_laysComing_13 : decode cX12_laysComing 13 = .ok (.iload_n 1, 1) := by decide +kernel
theorem dX12_laysComing_14 : decode cX12_laysComing 14 = .ok (.aload_n 0, 1) := by decide +kernel
theorem dX12_laysComing_15 : decode cX12_laysComing 15 = .ok (.getfield 7, 3) := by decide +kernel
theorem dX12_laysComing_18 : decode cX12_laysComing 18 = .ok (.sipush 321, 3) := by decide +kernel
theorem dX12_laysComing_21 : decode cX12_laysComing 21 = .ok (.iaload, 1) := by decide +kernel
theorem dX12_laysComing_22 : decode cX12_laysComing 22 = .ok (.if_icmp .ge 55, 3) := by decide +kernel
theorem dX12_laysComing_25 : decode cX12_laysComing 25 = .ok (.iload_n 1, 1) := by decide +kernel
theorem dX12_laysComing_26 : decode cX12_laysComing 26 = .ok (.invokestatic 66, 3) := by decide +kernel
theorem dX12_laysComing_29 : decode cX12_laysComing 29 = .ok (.iconst 1, 1) := by decide +kernel
theorem dX12_laysComing_30 : decode cX12_laysComing 30 = .ok (.iadd, 1) := by decide +kernel
theorem dX12_laysComing_31 : decode cX12_laysComing 31 = .ok (.istore_n 2, 1) := by decide +kernel
theorem dX12_laysComing_32 : decode cX12_laysComing 32 = .ok (.aload_n 0, 1) := by decide +kernel
theorem dX12_laysComing_33 : decode cX12_laysComing 33 = .ok (.getfield 7, 3) := by decide +kernel
theorem dX12_laysComing_36 : decode cX12_laysComing 36 = .ok (.iload_n 1, 1) := by decide +kernel
theorem dX12_laysComing_37 : decode cX12_laysComing 37 = .ok (.invokestatic 66, 3) := by decide +kernel
theorem dX12_laysComing_40 : decode cX12_laysComing 40 = .ok (.iaload, 1) := by decide +kernel
theorem dX12_laysComing_41 : decode cX12_laysComing 41 = .ok (.iconst 1, 1) := by decide +kernel
theorem dX12_laysComing_42 : decode cX12_laysComing 42 = .ok (.if_icmp .ne 21, 3) := by decide +kernel
theorem dX12_laysComing_45 : decode cX12_laysComing 45 = .ok (.aload_n 0, 1) := by decide +kernel
theorem dX12_laysComing_46 : decode cX12_laysComing 46 = .ok (.sipush 443, 3) := by decide +kernel
theorem dX12_laysComing_49 : decode cX12_laysComing 49 = .ok (.aload_n 0, 1) := by decide +kernel
theorem dX12_laysComing_50 : decode cX12_laysComing 50 = .ok (.sipush 443, 3) := by decide +kernel
theorem dX12_laysComing_53 : decode cX12_laysComing 53 = .ok (.iload_n 2, 1) := by decide +kernel
theorem dX12_laysComing_54 : decode cX12_laysComing 54 = .ok (.invokevirtual 70, 3) := by decide +kernel
theorem dX12_laysComing_57 : decode cX12_laysComing 57 = .ok (.invokevirtual 73, 3) := by decide +kernel
theorem dX12_laysComing_60 : decode cX12_laysComing 60 = .ok (.goto 11, 3) := by decide +kernel
theorem dX12_laysComing_63 : decode cX12_laysComing 63 = .ok (.aload_n 0, 1) := by decide +kernel
theorem dX12_laysComing_64 : decode cX12_laysComing 64 = .ok (.sipush 443, 3) := by decide +kernel
theorem dX12_laysComing_67 : decode cX12_laysComing 67 = .ok (.iload_n 2, 1) := by decide +kernel
theorem dX12_laysComing_68 : decode cX12_laysComing 68 = .ok (.invokevirtual 77, 3) := by decide +kernel
theorem dX12_laysComing_71 : decode cX12_laysComing 71 = .ok (.iinc 1 1, 3) := by decide +kernel
theorem dX12_laysComing_74 : decode cX12_laysComing 74 = .ok (.goto (-61), 3) := by decide +kernel
theorem dX12_laysComing_77 : decode cX12_laysComing 77 = .ok (.return_, 1) := by decide +kernel
set_option maxRecDepth 20000 in
theorem ggX12_from_X12_laysComing : GoodIn wsX12_from wsX12_laysComing := goodIn_r _ [5, 6, 7, 8, 9, 4, 10, 11, 12, 13, 14, 15, 16, 17, 18, 19, 20, 21, 22, 23, 24, 25, 26, 27, 28, 29, 30, 31, 32, 33, 34, 35, 36, 37, 38, 39, 40, 41, 42, 43, 44, 45, 46, 47, 48, 49, 50, 51, 52] (by decide +kernel) (by decide +kernel)
set_option maxRecDepth 20000 in
theorem gX12_from_X12_laysComing : GoodIn wsX12_from (wsV RX12 80 RX12 yX12_laysComing wsX12_laysComing) := goodIn_app (goodIn_of _ (by decide +kernel)) ggX12_from_X12_laysComing
theorem dX12_from_0 : decode cX12_from 0 = .ok (.iload_n 1, 1) := by decide +kernel
theorem dX12_from_1 : decode cX12_from 1 = .ok (.ifCond .eq 7, 3) := by decide +kernel
theorem dX12_from_4 : decode cX12_from 4 = .ok (.aload_n 0, 1) := by decide +kernel
theorem dX12_from_5 : decode cX12_from 5 = .ok (.invokevirtual 80, 3) := by decide +kernel
theorem dX12_from_8 : decode cX12_from 8 = .ok (.iload_n 1, 1) := by decide +kernel
theorem dX12_from_9 : decode cX12_from 9 = .ok (.ifCond .eq 9, 3) := by decide +kernel
theorem dX12_from_12 : decode cX12_from 12 = .ok (.sipush 443, 3) := by decide +kernel
theorem dX12_from_15 : decode cX12_from 15 = .ok (.goto 4, 3) := by decide +kernel
theorem dX12_from_18 : decode cX12_from 18 = .ok (.iconst 0, 1) := by decide +kernel
theorem dX12_from_19 : decode cX12_from 19 = .ok (.ireturn, 1) := by decide +kernel
theorem dX12_signAt_0 : decode cX12_signAt 0 = .ok (.aload_n 0, 1) := by decide +kernel
theorem dX12_signAt_1 : decode cX12_signAt 1 = .ok (.getfield 7, 3) := by decide +kernel
theorem dX12_signAt_4 : decode cX12_signAt 4 = .ok (.iload_n 1, 1) := by decide +kernel
theorem dX12_signAt_5 : decode cX12_signAt 5 = .ok (.iaload, 1) := by decide +kernel
theorem dX12_signAt_6 : decode cX12_signAt 6 = .ok (.istore 4, 2) := by decide +kernel
theorem dX12_signAt_8 : decode cX12_signAt 8 = .ok (.iload_n 3, 1) := by decide +kernel
theorem dX12_signAt_9 : decode cX12_signAt 9 = .ok (.iload 4, 2) := by decide +kernel
theorem dX12_signAt_11 : decode cX12_signAt 11 = .ok (.if_icmp .le 5, 3) := by decide +kernel
theorem dX12_signAt_14 : decode cX12_signAt 14 = .ok (.iconst 0, 1) := by decide +kernel
theorem dX12_signAt_15 : decode cX12_signAt 15 = .ok (.ireturn, 1) := by decide +kernel
theorem dX12_signAt_16 : decode cX12_signAt 16 = .ok (.iload_n 2, 1) := by decide +kernel
theorem dX12_signAt_17 : decode cX12_signAt 17 = .ok (.iload_n 3, 1) := by decide +kernel
theorem dX12_signAt_18 : decode cX12_signAt 18 = .ok (.iadd, 1) := by decide +kernel
theorem dX12_signAt_19 : decode cX12_signAt 19 = .ok (.iload 4, 2) := by decide +kernel
theorem dX12_signAt_21 : decode cX12_signAt 21 = .ok (.if_icmp .ge 18, 3) := by decide +kernel
theorem dX12_signAt_24 : decode cX12_signAt 24 = .ok (.aload_n 0, 1) := by decide +kernel
theorem dX12_signAt_25 : decode cX12_signAt 25 = .ok (.getfield 7, 3) := by decide +kernel
theorem dX12_signAt_28 : decode cX12_signAt 28 = .ok (.iload_n 1, 1) := by decide +kernel
theorem dX12_signAt_29 : decode cX12_signAt 29 = .ok (.iconst 1, 1) := by decide +kernel
theorem dX12_signAt_30 : decode cX12_signAt 30 = .ok (.iadd, 1) := by decide +kernel
theorem dX12_signAt_31 : decode cX12_signAt 31 = .ok (.iload_n 2, 1) := by decide +kernel
theorem dX12_signAt_32 : decode cX12_signAt 32 = .ok (.iadd, 1) := by decide +kernel
theorem dX12_signAt_33 : decode cX12_signAt 33 = .ok (.iload_n 3, 1) := by decide +kernel
theorem dX12_signAt_34 : decode cX12_signAt 34 = .ok (.iadd, 1) := by decide +kernel
theorem dX12_signAt_35 : decode cX12_signAt 35 = .ok (.iaload, 1) := by decide +kernel
theorem dX12_signAt_36 : decode cX12_signAt 36 = .ok (.goto 29, 3) := by decide +kernel
theorem dX12_signAt_39 : decode cX12_signAt 39 = .ok (.iload_n 2, 1) := by decide +kernel
theorem dX12_signAt_40 : decode cX12_signAt 40 = .ok (.iload_n 3, 1) := by decide +kernel
theorem dX12_signAt_41 : decode cX12_signAt 41 = .ok (.iadd, 1) := by decide +kernel
theorem dX12_signAt_42 : decode cX12_signAt 42 = .ok (.iload 4, 2) := by decide +kernel
theorem dX12_signAt_44 : decode cX12_signAt 44 = .ok (.if_icmp .ne 8, 3) := by decide +kernel
theorem dX12_signAt_47 : decode cX12_signAt 47 = .ok (.bipush 36, 2) := by decide +kernel
theorem dX12_signAt_49 : decode cX12_signAt 49 = .ok (.goto 16, 3) := by decide +kernel
theorem dX12_signAt_52 : decode cX12_signAt 52 = .ok (.aload_n 0, 1) := by decide +kernel
theorem dX12_signAt_53 : decode cX12_signAt 53 = .ok (.getfield 7, 3) := by decide +kernel
theorem dX12_signAt_56 : decode cX12_signAt 56 = .ok (.iload_n 1, 1) := by decide +kernel
theorem dX12_signAt_57 : decode cX12_signAt 57 = .ok (.iload_n 2, 1) := by decide +kernel
theorem dX12_signAt_58 : decode cX12_signAt 58 = .ok (.iadd, 1) := by decide +kernel
theorem dX12_signAt_59 : decode cX12_signAt 59 = .ok (.iload_n 3, 1) := by decide +kernel
theorem dX12_signAt_60 : decode cX12_signAt 60 = .ok (.iadd, 1) := by decide +kernel
theorem dX12_signAt_61 : decode cX12_signAt 61 = .ok (.iload 4, 2) := by decide +kernel
theorem dX12_signAt_63 : decode cX12_signAt 63 = .ok (.isub, 1) := by decide +kernel
theorem dX12_signAt_64 : decode cX12_signAt 64 = .ok (.iaload, 1) := by decide +kernel
theorem dX12_signAt_65 : decode cX12_signAt 65 = .ok (.ireturn, 1) := by decide +kernel
set_option maxRecDepth 20000 in
theorem ggX12_isAhead_X12_signAt : GoodIn wsX12_isAhead wsX12_signAt := goodIn_r _ [5, 6, 7, 8, 9, 10, 11, 12, 13, 14, 15, 16, 17, 18, 19, 20, 21, 22, 23, 24, 25, 26] (by decide +kernel) (by decide +kernel)
set_option maxRecDepth 20000 in
theorem gX12_isAhead_X12_signAt : GoodIn wsX12_isAhead (wsV RX12 83 RX12 yX12_signAt wsX12_signAt) := goodIn_app (goodIn_of _ (by decide +kernel)) ggX12_isAhead_X12_signAt
theorem dX12_isAhead_0 : decode cX12_isAhead 0 = .ok (.iconst 0, 1) := by decide +kernel
theorem dX12_isAhead_1 : decode cX12_isAhead 1 = .ok (.istore 5, 2) := by decide +kernel
theorem dX12_isAhead_3 : decode cX12_isAhead 3 = .ok (.iload 5, 2) := by decide +kernel
theorem dX12_isAhead_5 : decode cX12_isAhead 5 = .ok (.bipush 7, 2) := by decide +kernel
theorem dX12_isAhead_7 : decode cX12_isAhead 7 = .ok (.if_icmp .gt 50, 3) := by decide +kernel
theorem dX12_isAhead_10 : decode cX12_isAhead 10 = .ok (.aload_n 0, 1) := by decide +kernel
theorem dX12_isAhead_11 : decode cX12_isAhead 11 = .ok (.iload_n 1, 1) := by decide +kernel
theorem dX12_isAhead_12 : decode cX12_isAhead 12 = .ok (.iload_n 2, 1) := by decide +kernel
theorem dX12_isAhead_13 : decode cX12_isAhead 13 = .ok (.iload 5, 2) := by decide +kernel
theorem dX12_isAhead_15 : decode cX12_isAhead 15 = .ok (.invokevirtual 83, 3) := by decide +kernel
theorem dX12_isAhead_18 : decode cX12_isAhead 18 = .ok (.istore 6, 2) := by decide +kernel
theorem dX12_isAhead_20 : decode cX12_isAhead 20 = .ok (.aload_n 0, 1) := by decide +kernel
theorem dX12_isAhead_21 : decode cX12_isAhead 21 = .ok (.iload_n 3, 1) := by decide +kernel
theorem dX12_isAhead_22 : decode cX12_isAhead 22 = .ok (.iload 4, 2) := by decide +kernel
theorem dX12_isAhead_24 : decode cX12_isAhead 24 = .ok (.iload 5, 2) := by decide +kernel
theorem dX12_isAhead_26 : decode cX12_isAhead 26 = .ok (.invokevirtual 83, 3) := by decide +kernel
theorem dX12_isAhead_29 : decode cX12_isAhead 29 = .ok (.istore 7, 2) := by decide +kernel
theorem dX12_isAhead_31 : decode cX12_isAhead 31 = .ok (.iload 6, 2) := by decide +kernel
theorem dX12_isAhead_33 : decode cX12_isAhead 33 = .ok (.iload 7, 2) := by decide +kernel
theorem dX12_isAhead_35 : decode cX12_isAhead 35 = .ok (.if_icmp .eq 16, 3) := by decide +kernel
theorem dX12_isAhead_38 : decode cX12_isAhead 38 = .ok (.iload 6, 2) := by decide +kernel
theorem dX12_isAhead_40 : decode cX12_isAhead 40 = .ok (.iload 7, 2) := by decide +kernel
theorem dX12_isAhead_42 : decode cX12_isAhead 42 = .ok (.if_icmp .ge 7, 3) := by decide +kernel
theorem dX12_isAhead_45 : decode cX12_isAhead 45 = .ok (.iconst 1, 1) := by decide +kernel
theorem dX12_isAhead_46 : decode cX12_isAhead 46 = .ok (.goto 4, 3) := by decide +kernel
theorem dX12_isAhead_49 : decode cX12_isAhead 49 = .ok (.iconst 0, 1) := by decide +kernel
theorem dX12_isAhead_50 : decode cX12_isAhead 50 = .ok (.ireturn, 1) := by decide +kernel
theorem dX12_isAhead_51 : decode cX12_isAhead 51 = .ok (.iinc 5 1, 3) := by decide +kernel
theorem dX12_isAhead_54 : decode cX12_isAhead 54 = .ok (.goto (-51), 3) := by decide +kernel
theorem dX12_isAhead_57 : decode cX12_isAhead 57 = .ok (.iconst 0, 1) := by decide +kernel
theorem dX12_isAhead_58 : decode cX12_isAhead 58 = .ok (.ireturn, 1) := by decide +kernel
set_option maxRecDepth 20000 in
theorem ggX12_laysTurns_X12_wordAt : GoodIn wsX12_laysTurns wsX12_wordAt := goodIn_r _ [6] (by decide +kernel) (by decide +kernel)
set_option maxRecDepth 20000 in
theorem gX12_laysTurns_X12_wordAt : GoodIn wsX12_laysTurns (va_wsS RX12 55 yX12_wordAt wsX12_wordAt) := goodIn_app (goodIn_of _ (by decide +kernel)) ggX12_laysTurns_X12_wordAt
set_option maxRecDepth 20000 in
theorem ggX12_laysTurns_X12_enters : GoodIn wsX12_laysTurns wsX12_enters := goodIn_r _ [10, 1, 11, 12, 3, 4, 5, 6, 13, 14, 15, 16, 17, 18, 19, 20, 2, 21, 22, 23, 24, 25, 26, 27, 28, 29, 30, 31, 32, 33, 34, 35, 36, 37, 38, 39, 40] (by decide +kernel) (by decide +kernel)
set_option maxRecDepth 20000 in
theorem gX12_laysTurns_X12_enters : GoodIn wsX12_laysTurns (wsV RX12 90 RX12 yX12_enters wsX12_enters) := goodIn_app (goodIn_of _ (by decide +kernel)) ggX12_laysTurns_X12_enters
theorem dX12_laysTurns_0 : decode cX12_laysTurns 0 = .ok (.aload_n 0, 1) := by decide +kernel
theorem dX12_laysTurns_1 : decode cX12_laysTurns 1 = .ok (.iconst 0, 1) := by decide +kernel
theorem dX12_laysTurns_2 : decode cX12_laysTurns 2 = .ok (.putfield 87, 3) := by decide +kernel
theorem dX12_laysTurns_5 : decode cX12_laysTurns 5 = .ok (.iconst 0, 1) := by decide +kernel
theorem dX12_laysTurns_6 : decode cX12_laysTurns 6 = .ok (.istore_n 2, 1) := by decide +kernel
theorem dX12_laysTurns_7 : decode cX12_laysTurns 7 = .ok (.iload_n 2, 1) := by decide +kernel
theorem dX12_laysTurns_8 : decode cX12_laysTurns 8 = .ok (.aload_n 0, 1) := by decide +kernel
theorem dX12_laysTurns_9 : decode cX12_laysTurns 9 = .ok (.getfield 7, 3) := by decide +kernel
theorem dX12_laysTurns_12 : decode cX12_laysTurns 12 = .ok (.iload_n 1, 1) := by decide +kernel
theorem dX12_laysTurns_13 : decode cX12_laysTurns 13 = .ok (.iaload, 1) := by decide +kernel
theorem dX12_laysTurns_14 : decode cX12_laysTurns 14 = .ok (.if_icmp .ge 38, 3) := by decide +kernel
theorem dX12_laysTurns_17 : decode cX12_laysTurns 17 = .ok (.iconst 0, 1) := by decide +kernel
theorem dX12_laysTurns_18 : decode cX12_laysTurns 18 = .ok (.istore_n 3, 1) := by decide +kernel
theorem dX12_laysTurns_19 : decode cX12_laysTurns 19 = .ok (.iload_n 3, 1) := by decide +kernel
theorem dX12_laysTurns_20 : decode cX12_laysTurns 20 = .ok (.aload_n 0, 1) := by decide +kernel
theorem dX12_laysTurns_21 : decode cX12_laysTurns 21 = .ok (.getfield 7, 3) := by decide +kernel
theorem dX12_laysTurns_24 : decode cX12_laysTurns 24 = .ok (.iload_n 1, 1) := by decide +kernel
theorem dX12_laysTurns_25 : decode cX12_laysTurns 25 = .ok (.iload_n 2, 1) := by decide +kernel
theorem dX12_laysTurns_26 : decode cX12_laysTurns 26 = .ok (.invokestatic 55, 3) := by decide +kernel
theorem dX12_laysTurns_29 : decode cX12_laysTurns 29 = .ok (.iaload, 1) := by decide +kernel
theorem dX12_laysTurns_30 : decode cX12_laysTurns 30 = .ok (.if_icmp .gt 16, 3) := by decide +kernel
theorem dX12_laysTurns_33 : decode cX12_laysTurns 33 = .ok (.aload_n 0, 1) := by decide +kernel
theorem dX12_laysTurns_34 : decode cX12_laysTurns 34 = .ok (.iload_n 1, 1) := by decide +kernel
theorem dX12_laysTurns_35 : decode cX12_laysTurns 35 = .ok (.iload_n 2, 1) := by decide +kernel
theorem dX12_laysTurns_36 : decode cX12_laysTurns 36 = .ok (.iload_n 3, 1) := by decide +kernel
theorem dX12_laysTurns_37 : decode cX12_laysTurns 37 = .ok (.invokevirtual 90, 3) := by decide +kernel
theorem dX12_laysTurns_40 : decode cX12_laysTurns 40 = .ok (.iinc 3 1, 3) := by decide +kernel
theorem dX12_laysTurns_43 : decode cX12_laysTurns 43 = .ok (.goto (-24), 3) := by decide +kernel
theorem dX12_laysTurns_46 : decode cX12_laysTurns 46 = .ok (.iinc 2 1, 3) := by decide +kernel
theorem dX12_laysTurns_49 : decode cX12_laysTurns 49 = .ok (.goto (-42), 3) := by decide +kernel
theorem dX12_laysTurns_52 : decode cX12_laysTurns 52 = .ok (.return_, 1) := by decide +kernel
set_option maxRecDepth 20000 in
theorem ggX12_enters_X12_wordAt : GoodIn wsX12_enters wsX12_wordAt := goodIn_r _ [7] (by decide +kernel) (by decide +kernel)
set_option maxRecDepth 20000 in
theorem gX12_enters_X12_wordAt : GoodIn wsX12_enters (va_wsS RX12 55 yX12_wordAt wsX12_wordAt) := goodIn_app (goodIn_of _ (by decide +kernel)) ggX12_enters_X12_wordAt
set_option maxRecDepth 20000 in
theorem ggX12_enters_X12_isAhead : GoodIn wsX12_enters wsX12_isAhead := goodIn_r _ [11, 12, 13, 14, 6, 15, 16, 17, 18, 19, 20, 21, 22, 23, 24, 25, 26, 27, 28, 29, 30, 31, 32, 33, 34, 35, 36] (by decide +kernel) (by decide +kernel)
set_option maxRecDepth 20000 in
theorem gX12_enters_X12_isAhead : GoodIn wsX12_enters (wsV RX12 93 RX12 yX12_isAhead wsX12_isAhead) := goodIn_app (goodIn_of _ (by decide +kernel)) ggX12_enters_X12_isAhead
theorem dX12_enters_0 : decode cX12_enters 0 = .ok (.aload_n 0, 1) := by decide +kernel
theorem dX12_enters_1 : decode cX12_enters 1 = .ok (.getfield 87, 3) := by decide +kernel
theorem dX12_enters_4 : decode cX12_enters 4 = .ok (.istore 4, 2) := by decide +kernel
theorem dX12_enters_6 : decode cX12_enters 6 = .ok (.iload 4, 2) := by decide +kernel
theorem dX12_enters_8 : decode cX12_enters 8 = .ok (.ifCond .le 76, 3) := by decide +kernel
theorem dX12_enters_11 : decode cX12_enters 11 = .ok (.aload_n 0, 1) := by decide +kernel
theorem dX12_enters_12 : decode cX12_enters 12 = .ok (.iload_n 1, 1) := by decide +kernel
theorem dX12_enters_13 : decode cX12_enters 13 = .ok (.iload_n 2, 1) := by decide +kernel
theorem dX12_enters_14 : decode cX12_enters 14 = .ok (.invokestatic 55, 3) := by decide +kernel
theorem dX12_enters_17 : decode cX12_enters 17 = .ok (.iload_n 3, 1) := by decide +kernel
theorem dX12_enters_18 : decode cX12_enters 18 = .ok (.iload_n 1, 1) := by decide +kernel
theorem dX12_enters_19 : decode cX12_enters 19 = .ok (.aload_n 0, 1) := by decide +kernel
theorem dX12_enters_20 : decode cX12_enters 20 = .ok (.getfield 24, 3) := by decide +kernel
theorem dX12_enters_23 : decode cX12_enters 23 = .ok (.iload 4, 2) := by decide +kernel
theorem dX12_enters_25 : decode cX12_enters 25 = .ok (.iconst 1, 1) := by decide +kernel
theorem dX12_enters_26 : decode cX12_enters 26 = .ok (.isub, 1) := by decide +kernel
theorem dX12_enters_27 : decode cX12_enters 27 = .ok (.iaload, 1) := by decide +kernel
theorem dX12_enters_28 : decode cX12_enters 28 = .ok (.invokestatic 55, 3) := by decide +kernel
theorem dX12_enters_31 : decode cX12_enters 31 = .ok (.aload_n 0, 1) := by decide +kernel
theorem dX12_enters_32 : decode cX12_enters 32 = .ok (.getfield 27, 3) := by decide +kernel
theorem dX12_enters_35 : decode cX12_enters 35 = .ok (.iload 4, 2) := by decide +kernel
theorem dX12_enters_37 : decode cX12_enters 37 = .ok (.iconst 1, 1) := by decide +kernel
theorem dX12_enters_38 : decode cX12_enters 38 = .ok (.isub, 1) := by decide +kernel
theorem dX12_enters_39 : decode cX12_enters 39 = .ok (.iaload, 1) := by decide +kernel
theorem dX12_enters_40 : decode cX12_enters 40 = .ok (.invokevirtual 93, 3) := by decide +kernel
theorem dX12_enters_43 : decode cX12_enters 43 = .ok (.ifCond .eq 41, 3) := by decide +kernel
theorem dX12_enters_46 : decode cX12_enters 46 = .ok (.aload_n 0, 1) := by decide +kernel
theorem dX12_enters_47 : decode cX12_enters 47 = .ok (.getfield 24, 3) := by decide +kernel
theorem dX12_enters_50 : decode cX12_enters 50 = .ok (.iload 4, 2) := by decide +kernel
theorem dX12_enters_52 : decode cX12_enters 52 = .ok (.aload_n 0, 1) := by decide +kernel
theorem dX12_enters_53 : decode cX12_enters 53 = .ok (.getfield 24, 3) := by decide +kernel
theorem dX12_enters_56 : decode cX12_enters 56 = .ok (.iload 4, 2) := by decide +kernel
theorem dX12_enters_58 : decode cX12_enters 58 = .ok (.iconst 1, 1) := by decide +kernel
theorem dX12_enters_59 : decode cX12_enters 59 = .ok (.isub, 1) := by decide +kernel
theorem dX12_enters_60 : decode cX12_enters 60 = .ok (.iaload, 1) := by decide +kernel
theorem dX12_enters_61 : decode cX12_enters 61 = .ok (.iastore, 1) := by decide +kernel
theorem dX12_enters_62 : decode cX12_enters 62 = .ok (.aload_n 0, 1) := by decide +kernel
theorem dX12_enters_63 : decode cX12_enters 63 = .ok (.getfield 27, 3) := by decide +kernel
theorem dX12_enters_66 : decode cX12_enters 66 = .ok (.iload 4, 2) := by decide +kernel
theorem dX12_enters_68 : decode cX12_enters 68 = .ok (.aload_n 0, 1) := by decide +kernel
theorem dX12_enters_69 : decode cX12_enters 69 = .ok (.getfield 27, 3) := by decide +kernel
theorem dX12_enters_72 : decode cX12_enters 72 = .ok (.iload 4, 2) := by decide +kernel
theorem dX12_enters_74 : decode cX12_enters 74 = .ok (.iconst 1, 1) := by decide +kernel
theorem dX12_enters_75 : decode cX12_enters 75 = .ok (.isub, 1) := by decide +kernel
theorem dX12_enters_76 : decode cX12_enters 76 = .ok (.iaload, 1) := by decide +kernel
theorem dX12_enters_77 : decode cX12_enters 77 = .ok (.iastore, 1) := by decide +kernel
theorem dX12_enters_78 : decode cX12_enters 78 = .ok (.iinc 4 (-1), 3) := by decide +kernel
theorem dX12_enters_81 : decode cX12_enters 81 = .ok (.goto (-75), 3) := by decide +kernel
theorem dX12_enters_84 : decode cX12_enters 84 = .ok (.aload_n 0, 1) := by decide +kernel
theorem dX12_enters_85 : decode cX12_enters 85 = .ok (.getfield 24, 3) := by decide +kernel
theorem dX12_enters_88 : decode cX12_enters 88 = .ok (.iload 4, 2) := by decide +kernel
theorem dX12_enters_90 : decode cX12_enters 90 = .ok (.iload_n 2, 1) := by decide +kernel
theorem dX12_enters_91 : decode cX12_enters 91 = .ok (.iastore, 1) := by decide +kernel
theorem dX12_enters_92 : decode cX12_enters 92 = .ok (.aload_n 0, 1) := by decide +kernel
theorem dX12_enters_93 : decode cX12_enters 93 = .ok (.getfield 27, 3) := by decide +kernel
theorem dX12_enters_96 : decode cX12_enters 96 = .ok (.iload 4, 2) := by decide +kernel
theorem dX12_enters_98 : decode cX12_enters 98 = .ok (.iload_n 3, 1) := by decide +kernel
theorem dX12_enters_99 : decode cX12_enters 99 = .ok (.iastore, 1) := by decide +kernel
theorem dX12_enters_100 : decode cX12_enters 100 = .ok (.aload_n 0, 1) := by decide +kernel
theorem dX12_enters_101 : decode cX12_enters 101 = .ok (.dup, 1) := by decide +kernel
theorem dX12_enters_102 : decode cX12_enters 102 = .ok (.getfield 87, 3) := by decide +kernel
theorem dX12_enters_105 : decode cX12_enters 105 = .ok (.iconst 1, 1) := by decide +kernel
theorem dX12_enters_106 : decode cX12_enters 106 = .ok (.iadd, 1) := by decide +kernel
theorem dX12_enters_107 : decode cX12_enters 107 = .ok (.putfield 87, 3) := by decide +kernel
theorem dX12_enters_110 : decode cX12_enters 110 = .ok (.return_, 1) := by decide +kernel
theorem dX12_turnOf_0 : decode cX12_turnOf 0 = .ok (.iconst 0, 1) := by decide +kernel
theorem dX12_turnOf_1 : decode cX12_turnOf 1 = .ok (.istore_n 3, 1) := by decide +kernel
theorem dX12_turnOf_2 : decode cX12_turnOf 2 = .ok (.aload_n 0, 1) := by decide +kernel
theorem dX12_turnOf_3 : decode cX12_turnOf 3 = .ok (.getfield 24, 3) := by decide +kernel
theorem dX12_turnOf_6 : decode cX12_turnOf 6 = .ok (.iload_n 3, 1) := by decide +kernel
theorem dX12_turnOf_7 : decode cX12_turnOf 7 = .ok (.iaload, 1) := by decide +kernel
theorem dX12_turnOf_8 : decode cX12_turnOf 8 = .ok (.iload_n 1, 1) := by decide +kernel
theorem dX12_turnOf_9 : decode cX12_turnOf 9 = .ok (.if_icmp .ne 13, 3) := by decide +kernel
theorem dX12_turnOf_12 : decode cX12_turnOf 12 = .ok (.aload_n 0, 1) := by decide +kernel
theorem dX12_turnOf_13 : decode cX12_turnOf 13 = .ok (.getfield 27, 3) := by decide +kernel
theorem dX12_turnOf_16 : decode cX12_turnOf 16 = .ok (.iload_n 3, 1) := by decide +kernel
theorem dX12_turnOf_17 : decode cX12_turnOf 17 = .ok (.iaload, 1) := by decide +kernel
theorem dX12_turnOf_18 : decode cX12_turnOf 18 = .ok (.iload_n 2, 1) := by decide +kernel
theorem dX12_turnOf_19 : decode cX12_turnOf 19 = .ok (.if_icmp .eq 9, 3) := by decide +kernel
theorem dX12_turnOf_22 : decode cX12_turnOf 22 = .ok (.iinc 3 1, 3) := by decide +kernel
theorem dX12_turnOf_25 : decode cX12_turnOf 25 = .ok (.goto (-23), 3) := by decide +kernel
theorem dX12_turnOf_28 : decode cX12_turnOf 28 = .ok (.iload_n 3, 1) := by decide +kernel
theorem dX12_turnOf_29 : decode cX12_turnOf 29 = .ok (.ireturn, 1) := by decide +kernel
theorem dX12_goesOn_0 : decode cX12_goesOn 0 = .ok (.iload_n 2, 1) := by decide +kernel
theorem dX12_goesOn_1 : decode cX12_goesOn 1 = .ok (.istore_n 3, 1) := by decide +kernel
theorem dX12_goesOn_2 : decode cX12_goesOn 2 = .ok (.iconst 0, 1) := by decide +kernel
theorem dX12_goesOn_3 : decode cX12_goesOn 3 = .ok (.istore 4, 2) := by decide +kernel
theorem dX12_goesOn_5 : decode cX12_goesOn 5 = .ok (.iload 4, 2) := by decide +kernel
theorem dX12_goesOn_7 : decode cX12_goesOn 7 = .ok (.aload_n 0, 1) := by decide +kernel
theorem dX12_goesOn_8 : decode cX12_goesOn 8 = .ok (.getfield 7, 3) := by decide +kernel
theorem dX12_goesOn_11 : decode cX12_goesOn 11 = .ok (.iload_n 1, 1) := by decide +kernel
theorem dX12_goesOn_12 : decode cX12_goesOn 12 = .ok (.iaload, 1) := by decide +kernel
theorem dX12_goesOn_13 : decode cX12_goesOn 13 = .ok (.if_icmp .ge 42, 3) := by decide +kernel
theorem dX12_goesOn_16 : decode cX12_goesOn 16 = .ok (.iload_n 3, 1) := by decide +kernel
theorem dX12_goesOn_17 : decode cX12_goesOn 17 = .ok (.iload 4, 2) := by decide +kernel
theorem dX12_goesOn_19 : decode cX12_goesOn 19 = .ok (.ishr, 1) := by decide +kernel
theorem dX12_goesOn_20 : decode cX12_goesOn 20 = .ok (.iconst 1, 1) := by decide +kernel
theorem dX12_goesOn_21 : decode cX12_goesOn 21 = .ok (.iand, 1) := by decide +kernel
theorem dX12_goesOn_22 : decode cX12_goesOn 22 = .ok (.iconst 1, 1) := by decide +kernel
theorem dX12_goesOn_23 : decode cX12_goesOn 23 = .ok (.if_icmp .ne 26, 3) := by decide +kernel
theorem dX12_goesOn_26 : decode cX12_goesOn 26 = .ok (.aload_n 0, 1) := by decide +kernel
theorem dX12_goesOn_27 : decode cX12_goesOn 27 = .ok (.getfield 7, 3) := by decide +kernel
theorem dX12_goesOn_30 : decode cX12_goesOn 30 = .ok (.iload_n 1, 1) := by decide +kernel
theorem dX12_goesOn_31 : decode cX12_goesOn 31 = .ok (.iconst 1, 1) := by decide +kernel
theorem dX12_goesOn_32 : decode cX12_goesOn 32 = .ok (.iadd, 1) := by decide +kernel
theorem dX12_goesOn_33 : decode cX12_goesOn 33 = .ok (.iload 4, 2) := by decide +kernel
theorem dX12_goesOn_35 : decode cX12_goesOn 35 = .ok (.iadd, 1) := by decide +kernel
theorem dX12_goesOn_36 : decode cX12_goesOn 36 = .ok (.iaload, 1) := by decide +kernel
theorem dX12_goesOn_37 : decode cX12_goesOn 37 = .ok (.bipush 42, 2) := by decide +kernel
theorem dX12_goesOn_39 : decode cX12_goesOn 39 = .ok (.if_icmp .ne 10, 3) := by decide +kernel
theorem dX12_goesOn_42 : decode cX12_goesOn 42 = .ok (.iload_n 3, 1) := by decide +kernel
theorem dX12_goesOn_43 : decode cX12_goesOn 43 = .ok (.iconst 2, 1) := by decide +kernel
theorem dX12_goesOn_44 : decode cX12_goesOn 44 = .ok (.iload 4, 2) := by decide +kernel
theorem dX12_goesOn_46 : decode cX12_goesOn 46 = .ok (.ishl, 1) := by decide +kernel
theorem dX12_goesOn_47 : decode cX12_goesOn 47 = .ok (.ior, 1) := by decide +kernel
theorem dX12_goesOn_48 : decode cX12_goesOn 48 = .ok (.istore_n 3, 1) := by decide +kernel
theorem dX12_goesOn_49 : decode cX12_goesOn 49 = .ok (.iinc 4 1, 3) := by decide +kernel
theorem dX12_goesOn_52 : decode cX12_goesOn 52 = .ok (.goto (-47), 3) := by decide +kernel
theorem dX12_goesOn_55 : decode cX12_goesOn 55 = .ok (.iload_n 3, 1) := by decide +kernel
theorem dX12_goesOn_56 : decode cX12_goesOn 56 = .ok (.ireturn, 1) := by decide +kernel
set_option maxRecDepth 20000 in
theorem ggX12_meets_X12_goesOn : GoodIn wsX12_meets wsX12_goesOn := goodIn_r _ [6, 1, 7, 8, 9, 10, 11, 12, 13, 14, 15, 16, 17, 18, 19, 20, 21, 22, 23, 24, 25, 26] (by decide +kernel) (by decide +kernel)
set_option maxRecDepth 20000 in
theorem gX12_meets_X12_goesOn : GoodIn wsX12_meets (wsV RX12 97 RX12 yX12_goesOn wsX12_goesOn) := goodIn_app (goodIn_of _ (by decide +kernel)) ggX12_meets_X12_goesOn
theorem dX12_meets_0 : decode cX12_meets 0 = .ok (.aload_n 0, 1) := by decide +kernel
theorem dX12_meets_1 : decode cX12_meets 1 = .ok (.iload_n 1, 1) := by decide +kernel
theorem dX12_meets_2 : decode cX12_meets 2 = .ok (.iconst 1, 1) := by decide +kernel
theorem dX12_meets_3 : decode cX12_meets 3 = .ok (.invokevirtual 97, 3) := by decide +kernel
theorem dX12_meets_6 : decode cX12_meets 6 = .ok (.istore_n 3, 1) := by decide +kernel
theorem dX12_meets_7 : decode cX12_meets 7 = .ok (.iconst 1, 1) := by decide +kernel
theorem dX12_meets_8 : decode cX12_meets 8 = .ok (.istore 4, 2) := by decide +kernel
theorem dX12_meets_10 : decode cX12_meets 10 = .ok (.iload 4, 2) := by decide +kernel
theorem dX12_meets_12 : decode cX12_meets 12 = .ok (.aload_n 0, 1) := by decide +kernel
theorem dX12_meets_13 : decode cX12_meets 13 = .ok (.getfield 7, 3) := by decide +kernel
theorem dX12_meets_16 : decode cX12_meets 16 = .ok (.iload_n 2, 1) := by decide +kernel
theorem dX12_meets_17 : decode cX12_meets 17 = .ok (.iaload, 1) := by decide +kernel
theorem dX12_meets_18 : decode cX12_meets 18 = .ok (.if_icmp .gt 113, 3) := by decide +kernel
theorem dX12_meets_21 : decode cX12_meets 21 = .ok (.iconst 0, 1) := by decide +kernel
theorem dX12_meets_22 : decode cX12_meets 22 = .ok (.istore 5, 2) := by decide +kernel
theorem dX12_meets_24 : decode cX12_meets 24 = .ok (.iconst 0, 1) := by decide +kernel
theorem dX12_meets_25 : decode cX12_meets 25 = .ok (.istore 6, 2) := by decide +kernel
theorem dX12_meets_27 : decode cX12_meets 27 = .ok (.iload 6, 2) := by decide +kernel
theorem dX12_meets_29 : decode cX12_meets 29 = .ok (.aload_n 0, 1) := by decide +kernel
theorem dX12_meets_30 : decode cX12_meets 30 = .ok (.getfield 7, 3) := by decide +kernel
theorem dX12_meets_33 : decode cX12_meets 33 = .ok (.iload_n 1, 1) := by decide +kernel
theorem dX12_meets_34 : decode cX12_meets 34 = .ok (.iaload, 1) := by decide +kernel
theorem dX12_meets_35 : decode cX12_meets 35 = .ok (.if_icmp .ge 82, 3) := by decide +kernel
theorem dX12_meets_38 : decode cX12_meets 38 = .ok (.aload_n 0, 1) := by decide +kernel
theorem dX12_meets_39 : decode cX12_meets 39 = .ok (.getfield 7, 3) := by decide +kernel
theorem dX12_meets_42 : decode cX12_meets 42 = .ok (.iload_n 1, 1) := by decide +kernel
theorem dX12_meets_43 : decode cX12_meets 43 = .ok (.iconst 1, 1) := by decide +kernel
theorem dX12_meets_44 : decode cX12_meets 44 = .ok (.iadd, 1) := by decide +kernel
theorem dX12_meets_45 : decode cX12_meets 45 = .ok (.iload 6, 2) := by decide +kernel
theorem dX12_meets_47 : decode cX12_meets 47 = .ok (.iadd, 1) := by decide +kernel
theorem dX12_meets_48 : decode cX12_meets 48 = .ok (.iaload, 1) := by decide +kernel
theorem dX12_meets_49 : decode cX12_meets 49 = .ok (.istore 7, 2) := by decide +kernel
theorem dX12_meets_51 : decode cX12_meets 51 = .ok (.iload_n 3, 1) := by decide +kernel
theorem dX12_meets_52 : decode cX12_meets 52 = .ok (.iload 6, 2) := by decide +kernel
theorem dX12_meets_54 : decode cX12_meets 54 = .ok (.ishr, 1) := by decide +kernel
theorem dX12_meets_55 : decode cX12_meets 55 = .ok (.iconst 1, 1) := by decide +kernel
theorem dX12_meets_56 : decode cX12_meets 56 = .ok (.iand, 1) := by decide +kernel
theorem dX12_meets_57 : decode cX12_meets 57 = .ok (.ifCond .ne 6, 3) := by decide +kernel
theorem dX12_meets_60 : decode cX12_meets 60 = .ok (.goto 51, 3) := by decide +kernel
theorem dX12_meets_63 : decode cX12_meets 63 = .ok (.iload 5, 2) := by decide +kernel
theorem dX12_meets_65 : decode cX12_meets 65 = .ok (.iload 7, 2) := by decide +kernel
theorem dX12_meets_67 : decode cX12_meets 67 = .ok (.bipush 42, 2) := by decide +kernel
theorem dX12_meets_69 : decode cX12_meets 69 = .ok (.if_icmp .ne 10, 3) := by decide +kernel
theorem dX12_meets_72 : decode cX12_meets 72 = .ok (.iconst 1, 1) := by decide +kernel
theorem dX12_meets_73 : decode cX12_meets 73 = .ok (.iload 6, 2) := by decide +kernel
theorem dX12_meets_75 : decode cX12_meets 75 = .ok (.ishl, 1) := by decide +kernel
theorem dX12_meets_76 : decode cX12_meets 76 = .ok (.goto 32, 3) := by decide +kernel
theorem dX12_meets_79 : decode cX12_meets 79 = .ok (.iload 7, 2) := by decide +kernel
theorem dX12_meets_81 : decode cX12_meets 81 = .ok (.bipush 63, 2) := by decide +kernel
theorem dX12_meets_83 : decode cX12_meets 83 = .ok (.if_icmp .eq 17, 3) := by decide +kernel
theorem dX12_meets_86 : decode cX12_meets 86 = .ok (.iload 7, 2) := by decide +kernel
theorem dX12_meets_88 : decode cX12_meets 88 = .ok (.aload_n 0, 1) := by decide +kernel
theorem dX12_meets_89 : decode cX12_meets 89 = .ok (.getfield 7, 3) := by decide +kernel
theorem dX12_meets_92 : decode cX12_meets 92 = .ok (.iload_n 2, 1) := by decide +kernel
theorem dX12_meets_93 : decode cX12_meets 93 = .ok (.iload 4, 2) := by decide +kernel
theorem dX12_meets_95 : decode cX12_meets 95 = .ok (.iadd, 1) := by decide +kernel
theorem dX12_meets_96 : decode cX12_meets 96 = .ok (.iaload, 1) := by decide +kernel
theorem dX12_meets_97 : decode cX12_meets 97 = .ok (.if_icmp .ne 10, 3) := by decide +kernel
theorem dX12_meets_100 : decode cX12_meets 100 = .ok (.iconst 2, 1) := by decide +kernel
theorem dX12_meets_101 : decode cX12_meets 101 = .ok (.iload 6, 2) := by decide +kernel
theorem dX12_meets_103 : decode cX12_meets 103 = .ok (.ishl, 1) := by decide +kernel
theorem dX12_meets_104 : decode cX12_meets 104 = .ok (.goto 4, 3) := by decide +kernel
theorem dX12_meets_107 : decode cX12_meets 107 = .ok (.iconst 0, 1) := by decide +kernel
theorem dX12_meets_108 : decode cX12_meets 108 = .ok (.ior, 1) := by decide +kernel
theorem dX12_meets_109 : decode cX12_meets 109 = .ok (.istore 5, 2) := by decide +kernel
theorem dX12_meets_111 : decode cX12_meets 111 = .ok (.iinc 6 1, 3) := by decide +kernel
theorem dX12_meets_114 : decode cX12_meets 114 = .ok (.goto (-87), 3) := by decide +kernel
theorem dX12_meets_117 : decode cX12_meets 117 = .ok (.aload_n 0, 1) := by decide +kernel
theorem dX12_meets_118 : decode cX12_meets 118 = .ok (.iload_n 1, 1) := by decide +kernel
theorem dX12_meets_119 : decode cX12_meets 119 = .ok (.iload 5, 2) := by decide +kernel
theorem dX12_meets_121 : decode cX12_meets 121 = .ok (.invokevirtual 97, 3) := by decide +kernel
theorem dX12_meets_124 : decode cX12_meets 124 = .ok (.istore_n 3, 1) := by decide +kernel
theorem dX12_meets_125 : decode cX12_meets 125 = .ok (.iinc 4 1, 3) := by decide +kernel
theorem dX12_meets_128 : decode cX12_meets 128 = .ok (.goto (-118), 3) := by decide +kernel
theorem dX12_meets_131 : decode cX12_meets 131 = .ok (.iload_n 3, 1) := by decide +kernel
theorem dX12_meets_132 : decode cX12_meets 132 = .ok (.aload_n 0, 1) := by decide +kernel
theorem dX12_meets_133 : decode cX12_meets 133 = .ok (.getfield 7, 3) := by decide +kernel
theorem dX12_meets_136 : decode cX12_meets 136 = .ok (.iload_n 1, 1) := by decide +kernel
theorem dX12_meets_137 : decode cX12_meets 137 = .ok (.iaload, 1) := by decide +kernel
theorem dX12_meets_138 : decode cX12_meets 138 = .ok (.ishr, 1) := by decide +kernel
theorem dX12_meets_139 : decode cX12_meets 139 = .ok (.iconst 1, 1) := by decide +kernel
theorem dX12_meets_140 : decode cX12_meets 140 = .ok (.iand, 1) := by decide +kernel
theorem dX12_meets_141 : decode cX12_meets 141 = .ok (.iconst 1, 1) := by decide +kernel
theorem dX12_meets_142 : decode cX12_meets 142 = .ok (.if_icmp .ne 7, 3) := by decide +kernel
theorem dX12_meets_145 : decode cX12_meets 145 = .ok (.iconst 1, 1) := by decide +kernel
theorem dX12_meets_146 : decode cX12_meets 146 = .ok (.goto 4, 3) := by decide +kernel
theorem dX12_meets_149 : decode cX12_meets 149 = .ok (.iconst 0, 1) := by decide +kernel
theorem dX12_meets_150 : decode cX12_meets 150 = .ok (.ireturn, 1) := by decide +kernel
set_option maxRecDepth 20000 in
theorem ggX12_answers_X12_wordAt : GoodIn wsX12_answers wsX12_wordAt := goodIn_r _ [5] (by decide +kernel) (by decide +kernel)
set_option maxRecDepth 20000 in
theorem gX12_answers_X12_wordAt : GoodIn wsX12_answers (va_wsS RX12 55 yX12_wordAt wsX12_wordAt) := goodIn_app (goodIn_of _ (by decide +kernel)) ggX12_answers_X12_wordAt
set_option maxRecDepth 20000 in
theorem ggX12_answers_X12_meets : GoodIn wsX12_answers wsX12_meets := goodIn_r _ [9, 1, 10, 11, 12, 4, 13, 14, 15, 16, 17, 18, 19, 20, 21, 22, 23, 24, 25, 26, 27, 28, 29, 30, 31, 32, 33] (by decide +kernel) (by decide +kernel)
set_option maxRecDepth 20000 in
theorem gX12_answers_X12_meets : GoodIn wsX12_answers (wsV RX12 100 RX12 yX12_meets wsX12_meets) := goodIn_app (goodIn_of _ (by decide +kernel)) ggX12_answers_X12_meets
theorem dX12_answers_0 : decode cX12_answers 0 = .ok (.iconst 0, 1) := by decide +kernel
theorem dX12_answers_1 : decode cX12_answers 1 = .ok (.istore_n 3, 1) := by decide +kernel
theorem dX12_answers_2 : decode cX12_answers 2 = .ok (.iconst 0, 1) := by decide +kernel
theorem dX12_answers_3 : decode cX12_answers 3 = .ok (.istore 4, 2) := by decide +kernel
theorem dX12_answers_5 : decode cX12_answers 5 = .ok (.iload 4, 2) := by decide +kernel
theorem dX12_answers_7 : decode cX12_answers 7 = .ok (.aload_n 0, 1) := by decide +kernel
theorem dX12_answers_8 : decode cX12_answers 8 = .ok (.getfield 7, 3) := by decide +kernel
theorem dX12_answers_11 : decode cX12_answers 11 = .ok (.iload_n 1, 1) := by decide +kernel
theorem dX12_answers_12 : decode cX12_answers 12 = .ok (.iaload, 1) := by decide +kernel
theorem dX12_answers_13 : decode cX12_answers 13 = .ok (.if_icmp .ge 31, 3) := by decide +kernel
theorem dX12_answers_16 : decode cX12_answers 16 = .ok (.iload_n 3, 1) := by decide +kernel
theorem dX12_answers_17 : decode cX12_answers 17 = .ok (.aload_n 0, 1) := by decide +kernel
theorem dX12_answers_18 : decode cX12_answers 18 = .ok (.iload_n 2, 1) := by decide +kernel
theorem dX12_answers_19 : decode cX12_answers 19 = .ok (.iload_n 1, 1) := by decide +kernel
theorem dX12_answers_20 : decode cX12_answers 20 = .ok (.iload 4, 2) := by decide +kernel
theorem dX12_answers_22 : decode cX12_answers 22 = .ok (.invokestatic 55, 3) := by decide +kernel
theorem dX12_answers_25 : decode cX12_answers 25 = .ok (.invokevirtual 100, 3) := by decide +kernel
theorem dX12_answers_28 : decode cX12_answers 28 = .ok (.ifCond .eq 7, 3) := by decide +kernel
theorem dX12_answers_31 : decode cX12_answers 31 = .ok (.iconst 1, 1) := by decide +kernel
theorem dX12_answers_32 : decode cX12_answers 32 = .ok (.goto 4, 3) := by decide +kernel
theorem dX12_answers_35 : decode cX12_answers 35 = .ok (.iconst 0, 1) := by decide +kernel
theorem dX12_answers_36 : decode cX12_answers 36 = .ok (.iadd, 1) := by decide +kernel
theorem dX12_answers_37 : decode cX12_answers 37 = .ok (.istore_n 3, 1) := by decide +kernel
theorem dX12_answers_38 : decode cX12_answers 38 = .ok (.iinc 4 1, 3) := by decide +kernel
theorem dX12_answers_41 : decode cX12_answers 41 = .ok (.goto (-36), 3) := by decide +kernel
theorem dX12_answers_44 : decode cX12_answers 44 = .ok (.iload_n 3, 1) := by decide +kernel
theorem dX12_answers_45 : decode cX12_answers 45 = .ok (.ireturn, 1) := by decide +kernel
theorem dX12_adds_0 : decode cX12_adds 0 = .ok (.iload_n 1, 1) := by decide +kernel
theorem dX12_adds_1 : decode cX12_adds 1 = .ok (.istore_n 3, 1) := by decide +kernel
theorem dX12_adds_2 : decode cX12_adds 2 = .ok (.iload_n 3, 1) := by decide +kernel
theorem dX12_adds_3 : decode cX12_adds 3 = .ok (.iload_n 2, 1) := by decide +kernel
theorem dX12_adds_4 : decode cX12_adds 4 = .ok (.if_icmp .ge 38, 3) := by decide +kernel
theorem dX12_adds_7 : decode cX12_adds 7 = .ok (.aload_n 0, 1) := by decide +kernel
theorem dX12_adds_8 : decode cX12_adds 8 = .ok (.getfield 30, 3) := by decide +kernel
theorem dX12_adds_11 : decode cX12_adds 11 = .ok (.aload_n 0, 1) := by decide +kernel
theorem dX12_adds_12 : decode cX12_adds 12 = .ok (.getfield 104, 3) := by decide +kernel
theorem dX12_adds_15 : decode cX12_adds 15 = .ok (.aload_n 0, 1) := by decide +kernel
theorem dX12_adds_16 : decode cX12_adds 16 = .ok (.getfield 7, 3) := by decide +kernel
theorem dX12_adds_19 : decode cX12_adds 19 = .ok (.sipush 431, 3) := by decide +kernel
theorem dX12_adds_22 : decode cX12_adds 22 = .ok (.iload_n 3, 1) := by decide +kernel
theorem dX12_adds_23 : decode cX12_adds 23 = .ok (.iadd, 1) := by decide +kernel
theorem dX12_adds_24 : decode cX12_adds 24 = .ok (.iaload, 1) := by decide +kernel
theorem dX12_adds_25 : decode cX12_adds 25 = .ok (.iastore, 1) := by decide +kernel
theorem dX12_adds_26 : decode cX12_adds 26 = .ok (.aload_n 0, 1) := by decide +kernel
theorem dX12_adds_27 : decode cX12_adds 27 = .ok (.dup, 1) := by decide +kernel
theorem dX12_adds_28 : decode cX12_adds 28 = .ok (.getfield 104, 3) := by decide +kernel
theorem dX12_adds_31 : decode cX12_adds 31 = .ok (.iconst 1, 1) := by decide +kernel
theorem dX12_adds_32 : decode cX12_adds 32 = .ok (.iadd, 1) := by decide +kernel
theorem dX12_adds_33 : decode cX12_adds 33 = .ok (.putfield 104, 3) := by decide +kernel
theorem dX12_adds_36 : decode cX12_adds 36 = .ok (.iinc 3 1, 3) := by decide +kernel
theorem dX12_adds_39 : decode cX12_adds 39 = .ok (.goto (-37), 3) := by decide +kernel
theorem dX12_adds_42 : decode cX12_adds 42 = .ok (.return_, 1) := by decide +kernel
theorem dX12_endsPiece_0 : decode cX12_endsPiece 0 = .ok (.aload_n 0, 1) := by decide +kernel
theorem dX12_endsPiece_1 : decode cX12_endsPiece 1 = .ok (.dup, 1) := by decide +kernel
theorem dX12_endsPiece_2 : decode cX12_endsPiece 2 = .ok (.getfield 107, 3) := by decide +kernel
theorem dX12_endsPiece_5 : decode cX12_endsPiece 5 = .ok (.iconst 1, 1) := by decide +kernel
theorem dX12_endsPiece_6 : decode cX12_endsPiece 6 = .ok (.iadd, 1) := by decide +kernel
theorem dX12_endsPiece_7 : decode cX12_endsPiece 7 = .ok (.putfield 107, 3) := by decide +kernel
theorem dX12_endsPiece_10 : decode cX12_endsPiece 10 = .ok (.aload_n 0, 1) := by decide +kernel
theorem dX12_endsPiece_11 : decode cX12_endsPiece 11 = .ok (.getfield 33, 3) := by decide +kernel
theorem dX12_endsPiece_14 : decode cX12_endsPiece 14 = .ok (.aload_n 0, 1) := by decide +kernel
theorem dX12_endsPiece_15 : decode cX12_endsPiece 15 = .ok (.getfield 107, 3) := by decide +kernel
theorem dX12_endsPiece_18 : decode cX12_endsPiece 18 = .ok (.aload_n 0, 1) := by decide +kernel
theorem dX12_endsPiece_19 : decode cX12_endsPiece 19 = .ok (.getfield 104, 3) := by decide +kernel
theorem dX12_endsPiece_22 : decode cX12_endsPiece 22 = .ok (.iastore, 1) := by decide +kernel
theorem dX12_endsPiece_23 : decode cX12_endsPiece 23 = .ok (.return_, 1) := by decide +kernel
theorem dX12_starBehind_0 : decode cX12_starBehind 0 = .ok (.iload_n 1, 1) := by decide +kernel
theorem dX12_starBehind_1 : decode cX12_starBehind 1 = .ok (.istore_n 2, 1) := by decide +kernel
theorem dX12_starBehind_2 : decode cX12_starBehind 2 = .ok (.iload_n 2, 1) := by decide +kernel
theorem dX12_starBehind_3 : decode cX12_starBehind 3 = .ok (.aload_n 0, 1) := by decide +kernel
theorem dX12_starBehind_4 : decode cX12_starBehind 4 = .ok (.getfield 7, 3) := by decide +kernel
theorem dX12_starBehind_7 : decode cX12_starBehind 7 = .ok (.sipush 430, 3) := by decide +kernel
theorem dX12_starBehind_10 : decode cX12_starBehind 10 = .ok (.iaload, 1) := by decide +kernel
theorem dX12_starBehind_11 : decode cX12_starBehind 11 = .ok (.if_icmp .ge 24, 3) := by decide +kernel
theorem dX12_starBehind_14 : decode cX12_starBehind 14 = .ok (.aload_n 0, 1) := by decide +kernel
theorem dX12_starBehind_15 : decode cX12_starBehind 15 = .ok (.getfield 7, 3) := by decide +kernel
theorem dX12_starBehind_18 : decode cX12_starBehind 18 = .ok (.sipush 431, 3) := by decide +kernel
theorem dX12_starBehind_21 : decode cX12_starBehind 21 = .ok (.iload_n 2, 1) := by decide +kernel
theorem dX12_starBehind_22 : decode cX12_starBehind 22 = .ok (.iadd, 1) := by decide +kernel
theorem dX12_starBehind_23 : decode cX12_starBehind 23 = .ok (.iaload, 1) := by decide +kernel
theorem dX12_starBehind_24 : decode cX12_starBehind 24 = .ok (.bipush 42, 2) := by decide +kernel
theorem dX12_starBehind_26 : decode cX12_starBehind 26 = .ok (.if_icmp .eq 9, 3) := by decide +kernel
theorem dX12_starBehind_29 : decode cX12_starBehind 29 = .ok (.iinc 2 1, 3) := by decide +kernel
theorem dX12_starBehind_32 : decode cX12_starBehind 32 = .ok (.goto (-30), 3) := by decide +kernel
theorem dX12_starBehind_35 : decode cX12_starBehind 35 = .ok (.iload_n 2, 1) := by decide +kernel
theorem dX12_starBehind_36 : decode cX12_starBehind 36 = .ok (.ireturn, 1) := by decide +kernel
set_option maxRecDepth 20000 in
theorem ggX12_laysPieces_X12_starBehind : GoodIn wsX12_laysPieces wsX12_starBehind := goodIn_r _ [9, 1, 19, 20, 21, 22, 23, 24, 25, 26, 27, 28, 29, 30, 31, 32, 33, 34, 35, 36, 37, 38] (by decide +kernel) (by decide +kernel)
set_option maxRecDepth 20000 in
theorem gX12_laysPieces_X12_starBehind : GoodIn wsX12_laysPieces (wsV RX12 110 RX12 yX12_starBehind wsX12_starBehind) := goodIn_app (goodIn_of _ (by decide +kernel)) ggX12_laysPieces_X12_starBehind
set_option maxRecDepth 20000 in
theorem ggX12_laysPieces_X12_adds : GoodIn wsX12_laysPieces wsX12_adds := goodIn_r _ [13, 4, 3, 1, 19, 20, 21, 22, 23, 24, 25, 26, 27, 28, 29, 30, 31, 32, 33, 34, 35, 36, 37, 38] (by decide +kernel) (by decide +kernel)
set_option maxRecDepth 20000 in
theorem gX12_laysPieces_X12_adds : GoodIn wsX12_laysPieces (wsV RX12 113 RX12 yX12_adds wsX12_adds) := goodIn_app (goodIn_of _ (by decide +kernel)) ggX12_laysPieces_X12_adds
set_option maxRecDepth 20000 in
theorem ggX12_laysPieces_X12_endsPiece : GoodIn wsX12_laysPieces wsX12_endsPiece := goodIn_r _ [17, 2, 18, 3, 19, 20, 21, 22, 23, 24, 25, 26, 27, 28, 29, 30, 31, 32, 33, 34, 35, 36, 37, 38] (by decide +kernel) (by decide +kernel)
set_option maxRecDepth 20000 in
theorem gX12_laysPieces_X12_endsPiece : GoodIn wsX12_laysPieces (wsV RX12 116 RX12 yX12_endsPiece wsX12_endsPiece) := goodIn_app (goodIn_of _ (by decide +kernel)) ggX12_laysPieces_X12_endsPiece
theorem dX12_laysPieces_0 : decode cX12_laysPieces 0 = .ok (.aload_n 0, 1) := by decide +kernel
theorem dX12_laysPieces_1 : decode cX12_laysPieces 1 = .ok (.getfield 7, 3) := by decide +kernel
theorem dX12_laysPieces_4 : decode cX12_laysPieces 4 = .ok (.sipush 430, 3) := by decide +kernel
theorem dX12_laysPieces_7 : decode cX12_laysPieces 7 = .ok (.iaload, 1) := by decide +kernel
theorem dX12_laysPieces_8 : decode cX12_laysPieces 8 = .ok (.istore_n 1, 1) := by decide +kernel
theorem dX12_laysPieces_9 : decode cX12_laysPieces 9 = .ok (.aload_n 0, 1) := by decide +kernel
theorem dX12_laysPieces_10 : decode cX12_laysPieces 10 = .ok (.iconst 0, 1) := by decide +kernel
theorem dX12_laysPieces_11 : decode cX12_laysPieces 11 = .ok (.putfield 107, 3) := by decide +kernel
theorem dX12_laysPieces_14 : decode cX12_laysPieces 14 = .ok (.aload_n 0, 1) := by decide +kernel
theorem dX12_laysPieces_15 : decode cX12_laysPieces 15 = .ok (.iconst 0, 1) := by decide +kernel
theorem dX12_laysPieces_16 : decode cX12_laysPieces 16 = .ok (.putfield 104, 3) := by decide +kernel
theorem dX12_laysPieces_19 : decode cX12_laysPieces 19 = .ok (.aload_n 0, 1) := by decide +kernel
theorem dX12_laysPieces_20 : decode cX12_laysPieces 20 = .ok (.iconst 0, 1) := by decide +kernel
theorem dX12_laysPieces_21 : decode cX12_laysPieces 21 = .ok (.invokevirtual 110, 3) := by decide +kernel
theorem dX12_laysPieces_24 : decode cX12_laysPieces 24 = .ok (.istore_n 2, 1) := by decide +kernel
theorem dX12_laysPieces_25 : decode cX12_laysPieces 25 = .ok (.iload_n 1, 1) := by decide +kernel
theorem dX12_laysPieces_26 : decode cX12_laysPieces 26 = .ok (.iconst 1, 1) := by decide +kernel
theorem dX12_laysPieces_27 : decode cX12_laysPieces 27 = .ok (.isub, 1) := by decide +kernel
theorem dX12_laysPieces_28 : decode cX12_laysPieces 28 = .ok (.istore_n 3, 1) := by decide +kernel
theorem dX12_laysPieces_29 : decode cX12_laysPieces 29 = .ok (.iload_n 3, 1) := by decide +kernel
theorem dX12_laysPieces_30 : decode cX12_laysPieces 30 = .ok (.ifCond .lt 24, 3) := by decide +kernel
theorem dX12_laysPieces_33 : decode cX12_laysPieces 33 = .ok (.aload_n 0, 1) := by decide +kernel
theorem dX12_laysPieces_34 : decode cX12_laysPieces 34 = .ok (.getfield 7, 3) := by decide +kernel
theorem dX12_laysPieces_37 : decode cX12_laysPieces 37 = .ok (.sipush 431, 3) := by decide +kernel
theorem dX12_laysPieces_40 : decode cX12_laysPieces 40 = .ok (.iload_n 3, 1) := by decide +kernel
theorem dX12_laysPieces_41 : decode cX12_laysPieces 41 = .ok (.iadd, 1) := by decide +kernel
theorem dX12_laysPieces_42 : decode cX12_laysPieces 42 = .ok (.iaload, 1) := by decide +kernel
theorem dX12_laysPieces_43 : decode cX12_laysPieces 43 = .ok (.bipush 42, 2) := by decide +kernel
theorem dX12_laysPieces_45 : decode cX12_laysPieces 45 = .ok (.if_icmp .eq 9, 3) := by decide +kernel
theorem dX12_laysPieces_48 : decode cX12_laysPieces 48 = .ok (.iinc 3 (-1), 3) := by decide +kernel
theorem dX12_laysPieces_51 : decode cX12_laysPieces 51 = .ok (.goto (-22), 3) := by decide +kernel
theorem dX12_laysPieces_54 : decode cX12_laysPieces 54 = .ok (.aload_n 0, 1) := by decide +kernel
theorem dX12_laysPieces_55 : decode cX12_laysPieces 55 = .ok (.iload_n 3, 1) := by decide +kernel
theorem dX12_laysPieces_56 : decode cX12_laysPieces 56 = .ok (.ifCond .ge 7, 3) := by decide +kernel
theorem dX12_laysPieces_59 : decode cX12_laysPieces 59 = .ok (.iconst 0, 1) := by decide +kernel
theorem dX12_laysPieces_60 : decode cX12_laysPieces 60 = .ok (.goto 6, 3) := by decide +kernel
theorem dX12_laysPieces_63 : decode cX12_laysPieces 63 = .ok (.iload_n 3, 1) := by decide +kernel
theorem dX12_laysPieces_64 : decode cX12_laysPieces 64 = .ok (.iconst 1, 1) := by decide +kernel
theorem dX12_laysPieces_65 : decode cX12_laysPieces 65 = .ok (.iadd, 1) := by decide +kernel
theorem dX12_laysPieces_66 : decode cX12_laysPieces 66 = .ok (.iload_n 1, 1) := by decide +kernel
theorem dX12_laysPieces_67 : decode cX12_laysPieces 67 = .ok (.invokevirtual 113, 3) := by decide +kernel
theorem dX12_laysPieces_70 : decode cX12_laysPieces 70 = .ok (.aload_n 0, 1) := by decide +kernel
theorem dX12_laysPieces_71 : decode cX12_laysPieces 71 = .ok (.getfield 30, 3) := by decide +kernel
theorem dX12_laysPieces_74 : decode cX12_laysPieces 74 = .ok (.aload_n 0, 1) := by decide +kernel
theorem dX12_laysPieces_75 : decode cX12_laysPieces 75 = .ok (.getfield 104, 3) := by decide +kernel
theorem dX12_laysPieces_78 : decode cX12_laysPieces 78 = .ok (.bipush 36, 2) := by decide +kernel
theorem dX12_laysPieces_80 : decode cX12_laysPieces 80 = .ok (.iastore, 1) := by decide +kernel
theorem dX12_laysPieces_81 : decode cX12_laysPieces 81 = .ok (.aload_n 0, 1) := by decide +kernel
theorem dX12_laysPieces_82 : decode cX12_laysPieces 82 = .ok (.dup, 1) := by decide +kernel
theorem dX12_laysPieces_83 : decode cX12_laysPieces 83 = .ok (.getfield 104, 3) := by decide +kernel
theorem dX12_laysPieces_86 : decode cX12_laysPieces 86 = .ok (.iconst 1, 1) := by decide +kernel
theorem dX12_laysPieces_87 : decode cX12_laysPieces 87 = .ok (.iadd, 1) := by decide +kernel
theorem dX12_laysPieces_88 : decode cX12_laysPieces 88 = .ok (.putfield 104, 3) := by decide +kernel
theorem dX12_laysPieces_91 : decode cX12_laysPieces 91 = .ok (.iload_n 2, 1) := by decide +kernel
theorem dX12_laysPieces_92 : decode cX12_laysPieces 92 = .ok (.iload_n 1, 1) := by decide +kernel
theorem dX12_laysPieces_93 : decode cX12_laysPieces 93 = .ok (.if_icmp .ge 9, 3) := by decide +kernel
theorem dX12_laysPieces_96 : decode cX12_laysPieces 96 = .ok (.aload_n 0, 1) := by decide +kernel
theorem dX12_laysPieces_97 : decode cX12_laysPieces 97 = .ok (.iconst 0, 1) := by decide +kernel
theorem dX12_laysPieces_98 : decode cX12_laysPieces 98 = .ok (.iload_n 2, 1) := by decide +kernel
theorem dX12_laysPieces_99 : decode cX12_laysPieces 99 = .ok (.invokevirtual 113, 3) := by decide +kernel
theorem dX12_laysPieces_102 : decode cX12_laysPieces 102 = .ok (.aload_n 0, 1) := by decide +kernel
theorem dX12_laysPieces_103 : decode cX12_laysPieces 103 = .ok (.invokevirtual 116, 3) := by decide +kernel
theorem dX12_laysPieces_106 : decode cX12_laysPieces 106 = .ok (.iload_n 2, 1) := by decide +kernel
theorem dX12_laysPieces_107 : decode cX12_laysPieces 107 = .ok (.istore 4, 2) := by decide +kernel
theorem dX12_laysPieces_109 : decode cX12_laysPieces 109 = .ok (.iload 4, 2) := by decide +kernel
theorem dX12_laysPieces_111 : decode cX12_laysPieces 111 = .ok (.iload_n 3, 1) := by decide +kernel
theorem dX12_laysPieces_112 : decode cX12_laysPieces 112 = .ok (.if_icmp .ge 54, 3) := by decide +kernel
theorem dX12_laysPieces_115 : decode cX12_laysPieces 115 = .ok (.aload_n 0, 1) := by decide +kernel
theorem dX12_laysPieces_116 : decode cX12_laysPieces 116 = .ok (.iload 4, 2) := by decide +kernel
theorem dX12_laysPieces_118 : decode cX12_laysPieces 118 = .ok (.iconst 1, 1) := by decide +kernel
theorem dX12_laysPieces_119 : decode cX12_laysPieces 119 = .ok (.iadd, 1) := by decide +kernel
theorem dX12_laysPieces_120 : decode cX12_laysPieces 120 = .ok (.invokevirtual 110, 3) := by decide +kernel
theorem dX12_laysPieces_123 : decode cX12_laysPieces 123 = .ok (.iload 4, 2) := by decide +kernel
theorem dX12_laysPieces_125 : decode cX12_laysPieces 125 = .ok (.iconst 1, 1) := by decide +kernel
theorem dX12_laysPieces_126 : decode cX12_laysPieces 126 = .ok (.iadd, 1) := by decide +kernel
theorem dX12_laysPieces_127 : decode cX12_laysPieces 127 = .ok (.if_icmp .ne 6, 3) := by decide +kernel
theorem dX12_laysPieces_130 : decode cX12_laysPieces 130 = .ok (.goto 23, 3) := by decide +kernel
theorem dX12_laysPieces_133 : decode cX12_laysPieces 133 = .ok (.aload_n 0, 1) := by decide +kernel
theorem dX12_laysPieces_134 : decode cX12_laysPieces 134 = .ok (.iload 4, 2) := by decide +kernel
theorem dX12_laysPieces_136 : decode cX12_laysPieces 136 = .ok (.iconst 1, 1) := by decide +kernel
theorem dX12_laysPieces_137 : decode cX12_laysPieces 137 = .ok (.iadd, 1) := by decide +kernel
theorem dX12_laysPieces_138 : decode cX12_laysPieces 138 = .ok (.aload_n 0, 1) := by decide +kernel
theorem dX12_laysPieces_139 : decode cX12_laysPieces 139 = .ok (.iload 4, 2) := by decide +kernel
theorem dX12_laysPieces_141 : decode cX12_laysPieces 141 = .ok (.iconst 1, 1) := by decide +kernel
theorem dX12_laysPieces_142 : decode cX12_laysPieces 142 = .ok (.iadd, 1) := by decide +kernel
theorem dX12_laysPieces_143 : decode cX12_laysPieces 143 = .ok (.invokevirtual 110, 3) := by decide +kernel
theorem dX12_laysPieces_146 : decode cX12_laysPieces 146 = .ok (.invokevirtual 113, 3) := by decide +kernel
theorem dX12_laysPieces_149 : decode cX12_laysPieces 149 = .ok (.aload_n 0, 1) := by decide +kernel
theorem dX12_laysPieces_150 : decode cX12_laysPieces 150 = .ok (.invokevirtual 116, 3) := by decide +kernel
theorem dX12_laysPieces_153 : decode cX12_laysPieces 153 = .ok (.aload_n 0, 1) := by decide +kernel
theorem dX12_laysPieces_154 : decode cX12_laysPieces 154 = .ok (.iload 4, 2) := by decide +kernel
theorem dX12_laysPieces_156 : decode cX12_laysPieces 156 = .ok (.iconst 1, 1) := by decide +kernel
theorem dX12_laysPieces_157 : decode cX12_laysPieces 157 = .ok (.iadd, 1) := by decide +kernel
theorem dX12_laysPieces_158 : decode cX12_laysPieces 158 = .ok (.invokevirtual 110, 3) := by decide +kernel
theorem dX12_laysPieces_161 : decode cX12_laysPieces 161 = .ok (.istore 4, 2) := by decide +kernel
theorem dX12_laysPieces_163 : decode cX12_laysPieces 163 = .ok (.goto (-54), 3) := by decide +kernel
theorem dX12_laysPieces_166 : decode cX12_laysPieces 166 = .ok (.return_, 1) := by decide +kernel
set_option maxRecDepth 20000 in
theorem ggX12_laysRuns_X12_laysPieces : GoodIn wsX12_laysRuns wsX12_laysPieces := goodIn_r _ [12, 13, 2, 14, 4, 15, 16, 17, 11, 18, 19, 20, 21, 22, 23, 24, 25, 26, 3, 27, 28, 29, 30, 31, 32, 33, 34, 35, 36, 37, 38, 39, 40, 41, 42, 43, 44, 45, 46] (by decide +kernel) (by decide +kernel)
set_option maxRecDepth 20000 in
theorem gX12_laysRuns_X12_laysPieces : GoodIn wsX12_laysRuns (wsV RX12 119 RX12 yX12_laysPieces wsX12_laysPieces) := goodIn_app (goodIn_of _ (by decide +kernel)) ggX12_laysRuns_X12_laysPieces
theorem dX12_laysRuns_0 : decode cX12_laysRuns 0 = .ok (.aload_n 0, 1) := by decide +kernel
theorem dX12_laysRuns_1 : decode cX12_laysRuns 1 = .ok (.invokevirtual 119, 3) := by decide +kernel
theorem dX12_laysRuns_4 : decode cX12_laysRuns 4 = .ok (.aload_n 0, 1) := by decide +kernel
theorem dX12_laysRuns_5 : decode cX12_laysRuns 5 = .ok (.iconst 0, 1) := by decide +kernel
theorem dX12_laysRuns_6 : decode cX12_laysRuns 6 = .ok (.putfield 122, 3) := by decide +kernel
theorem dX12_laysRuns_9 : decode cX12_laysRuns 9 = .ok (.iconst 0, 1) := by decide +kernel
theorem dX12_laysRuns_10 : decode cX12_laysRuns 10 = .ok (.istore_n 1, 1) := by decide +kernel
theorem dX12_laysRuns_11 : decode cX12_laysRuns 11 = .ok (.iload_n 1, 1) := by decide +kernel
theorem dX12_laysRuns_12 : decode cX12_laysRuns 12 = .ok (.aload_n 0, 1) := by decide +kernel
theorem dX12_laysRuns_13 : decode cX12_laysRuns 13 = .ok (.getfield 107, 3) := by decide +kernel
theorem dX12_laysRuns_16 : decode cX12_laysRuns 16 = .ok (.if_icmp .ge 135, 3) := by decide +kernel
theorem dX12_laysRuns_19 : decode cX12_laysRuns 19 = .ok (.iconst (-1), 1) := by decide +kernel
theorem dX12_laysRuns_20 : decode cX12_laysRuns 20 = .ok (.istore_n 2, 1) := by decide +kernel
theorem dX12_laysRuns_21 : decode cX12_laysRuns 21 = .ok (.aload_n 0, 1) := by decide +kernel
theorem dX12_laysRuns_22 : decode cX12_laysRuns 22 = .ok (.getfield 33, 3) := by decide +kernel
theorem dX12_laysRuns_25 : decode cX12_laysRuns 25 = .ok (.iload_n 1, 1) := by decide +kernel
theorem dX12_laysRuns_26 : decode cX12_laysRuns 26 = .ok (.iaload, 1) := by decide +kernel
theorem dX12_laysRuns_27 : decode cX12_laysRuns 27 = .ok (.istore_n 3, 1) := by decide +kernel
theorem dX12_laysRuns_28 : decode cX12_laysRuns 28 = .ok (.iload_n 3, 1) := by decide +kernel
theorem dX12_laysRuns_29 : decode cX12_laysRuns 29 = .ok (.aload_n 0, 1) := by decide +kernel
theorem dX12_laysRuns_30 : decode cX12_laysRuns 30 = .ok (.getfield 33, 3) := by decide +kernel
theorem dX12_laysRuns_33 : decode cX12_laysRuns 33 = .ok (.iload_n 1, 1) := by decide +kernel
theorem dX12_laysRuns_34 : decode cX12_laysRuns 34 = .ok (.iconst 1, 1) := by decide +kernel
theorem dX12_laysRuns_35 : decode cX12_laysRuns 35 = .ok (.iadd, 1) := by decide +kernel
theorem dX12_laysRuns_36 : decode cX12_laysRuns 36 = .ok (.iaload, 1) := by decide +kernel
theorem dX12_laysRuns_37 : decode cX12_laysRuns 37 = .ok (.if_icmp .gt 108, 3) := by decide +kernel
theorem dX12_laysRuns_40 : decode cX12_laysRuns 40 = .ok (.iload_n 3, 1) := by decide +kernel
theorem dX12_laysRuns_41 : decode cX12_laysRuns 41 = .ok (.aload_n 0, 1) := by decide +kernel
theorem dX12_laysRuns_42 : decode cX12_laysRuns 42 = .ok (.getfield 33, 3) := by decide +kernel
theorem dX12_laysRuns_45 : decode cX12_laysRuns 45 = .ok (.iload_n 1, 1) := by decide +kernel
theorem dX12_laysRuns_46 : decode cX12_laysRuns 46 = .ok (.iconst 1, 1) := by decide +kernel
theorem dX12_laysRuns_47 : decode cX12_laysRuns 47 = .ok (.iadd, 1) := by decide +kernel
theorem dX12_laysRuns_48 : decode cX12_laysRuns 48 = .ok (.iaload, 1) := by decide +kernel
theorem dX12_laysRuns_49 : decode cX12_laysRuns 49 = .ok (.if_icmp .ge 18, 3) := by decide +kernel
theorem dX12_laysRuns_52 : decode cX12_laysRuns 52 = .ok (.aload_n 0, 1) := by decide +kernel
theorem dX12_laysRuns_53 : decode cX12_laysRuns 53 = .ok (.getfield 30, 3) := by decide +kernel
theorem dX12_laysRuns_56 : decode cX12_laysRuns 56 = .ok (.iload_n 3, 1) := by decide +kernel
theorem dX12_laysRuns_57 : decode cX12_laysRuns 57 = .ok (.iaload, 1) := by decide +kernel
theorem dX12_laysRuns_58 : decode cX12_laysRuns 58 = .ok (.bipush 63, 2) := by decide +kernel
theorem dX12_laysRuns_60 : decode cX12_laysRuns 60 = .ok (.if_icmp .eq 7, 3) := by decide +kernel
theorem dX12_laysRuns_63 : decode cX12_laysRuns 63 = .ok (.iconst 1, 1) := by decide +kernel
theorem dX12_laysRuns_64 : decode cX12_laysRuns 64 = .ok (.goto 4, 3) := by decide +kernel
theorem dX12_laysRuns_67 : decode cX12_laysRuns 67 = .ok (.iconst 0, 1) := by decide +kernel
theorem dX12_laysRuns_68 : decode cX12_laysRuns 68 = .ok (.istore 4, 2) := by decide +kernel
theorem dX12_laysRuns_70 : decode cX12_laysRuns 70 = .ok (.iload 4, 2) := by decide +kernel
theorem dX12_laysRuns_72 : decode cX12_laysRuns 72 = .ok (.ifCond .eq 10, 3) := by decide +kernel
theorem dX12_laysRuns_75 : decode cX12_laysRuns 75 = .ok (.iload_n 2, 1) := by decide +kernel
theorem dX12_laysRuns_76 : decode cX12_laysRuns 76 = .ok (.iconst (-1), 1) := by decide +kernel
theorem dX12_laysRuns_77 : decode cX12_laysRuns 77 = .ok (.if_icmp .ne 5, 3) := by decide +kernel
theorem dX12_laysRuns_80 : decode cX12_laysRuns 80 = .ok (.iload_n 3, 1) := by decide +kernel
theorem dX12_laysRuns_81 : decode cX12_laysRuns 81 = .ok (.istore_n 2, 1) := by decide +kernel
theorem dX12_laysRuns_82 : decode cX12_laysRuns 82 = .ok (.iload 4, 2) := by decide +kernel
theorem dX12_laysRuns_84 : decode cX12_laysRuns 84 = .ok (.ifCond .ne 55, 3) := by decide +kernel
theorem dX12_laysRuns_87 : decode cX12_laysRuns 87 = .ok (.iload_n 2, 1) := by decide +kernel
theorem dX12_laysRuns_88 : decode cX12_laysRuns 88 = .ok (.iconst (-1), 1) := by decide +kernel
theorem dX12_laysRuns_89 : decode cX12_laysRuns 89 = .ok (.if_icmp .ne 6, 3) := by decide +kernel
theorem dX12_laysRuns_92 : decode cX12_laysRuns 92 = .ok (.goto 47, 3) := by decide +kernel
theorem dX12_laysRuns_95 : decode cX12_laysRuns 95 = .ok (.aload_n 0, 1) := by decide +kernel
theorem dX12_laysRuns_96 : decode cX12_laysRuns 96 = .ok (.getfield 36, 3) := by decide +kernel
theorem dX12_laysRuns_99 : decode cX12_laysRuns 99 = .ok (.aload_n 0, 1) := by decide +kernel
theorem dX12_laysRuns_100 : decode cX12_laysRuns 100 = .ok (.getfield 122, 3) := by decide +kernel
theorem dX12_laysRuns_103 : decode cX12_laysRuns 103 = .ok (.iload_n 2, 1) := by decide +kernel
theorem dX12_laysRuns_104 : decode cX12_laysRuns 104 = .ok (.iastore, 1) := by decide +kernel
theorem dX12_laysRuns_105 : decode cX12_laysRuns 105 = .ok (.aload_n 0, 1) := by decide +kernel
theorem dX12_laysRuns_106 : decode cX12_laysRuns 106 = .ok (.getfield 39, 3) := by decide +kernel
theorem dX12_laysRuns_109 : decode cX12_laysRuns 109 = .ok (.aload_n 0, 1) := by decide +kernel
theorem dX12_laysRuns_110 : decode cX12_laysRuns 110 = .ok (.getfield 122, 3) := by decide +kernel
theorem dX12_laysRuns_113 : decode cX12_laysRuns 113 = .ok (.iload_n 3, 1) := by decide +kernel
theorem dX12_laysRuns_114 : decode cX12_laysRuns 114 = .ok (.iload_n 2, 1) := by decide +kernel
theorem dX12_laysRuns_115 : decode cX12_laysRuns 115 = .ok (.isub, 1) := by decide +kernel
theorem dX12_laysRuns_116 : decode cX12_laysRuns 116 = .ok (.iastore, 1) := by decide +kernel
theorem dX12_laysRuns_117 : decode cX12_laysRuns 117 = .ok (.aload_n 0, 1) := by decide +kernel
theorem dX12_laysRuns_118 : decode cX12_laysRuns 118 = .ok (.getfield 42, 3) := by decide +kernel
theorem dX12_laysRuns_121 : decode cX12_laysRuns 121 = .ok (.aload_n 0, 1) := by decide +kernel
theorem dX12_laysRuns_122 : decode cX12_laysRuns 122 = .ok (.getfield 122, 3) := by decide +kernel
theorem dX12_laysRuns_125 : decode cX12_laysRuns 125 = .ok (.iload_n 1, 1) := by decide +kernel
theorem dX12_laysRuns_126 : decode cX12_laysRuns 126 = .ok (.iastore, 1) := by decide +kernel
theorem dX12_laysRuns_127 : decode cX12_laysRuns 127 = .ok (.aload_n 0, 1) := by decide +kernel
theorem dX12_laysRuns_128 : decode cX12_laysRuns 128 = .ok (.dup, 1) := by decide +kernel
theorem dX12_laysRuns_129 : decode cX12_laysRuns 129 = .ok (.getfield 122, 3) := by decide +kernel
theorem dX12_laysRuns_132 : decode cX12_laysRuns 132 = .ok (.iconst 1, 1) := by decide +kernel
theorem dX12_laysRuns_133 : decode cX12_laysRuns 133 = .ok (.iadd, 1) := by decide +kernel
theorem dX12_laysRuns_134 : decode cX12_laysRuns 134 = .ok (.putfield 122, 3) := by decide +kernel
theorem dX12_laysRuns_137 : decode cX12_laysRuns 137 = .ok (.iconst (-1), 1) := by decide +kernel
theorem dX12_laysRuns_138 : decode cX12_laysRuns 138 = .ok (.istore_n 2, 1) := by decide +kernel
theorem dX12_laysRuns_139 : decode cX12_laysRuns 139 = .ok (.iinc 3 1, 3) := by decide +kernel
theorem dX12_laysRuns_142 : decode cX12_laysRuns 142 = .ok (.goto (-114), 3) := by decide +kernel
theorem dX12_laysRuns_145 : decode cX12_laysRuns 145 = .ok (.iinc 1 1, 3) := by decide +kernel
theorem dX12_laysRuns_148 : decode cX12_laysRuns 148 = .ok (.goto (-137), 3) := by decide +kernel
theorem dX12_laysRuns_151 : decode cX12_laysRuns 151 = .ok (.return_, 1) := by decide +kernel
set_option maxRecDepth 20000 in
theorem ggX12_begins_X12_wordAt : GoodIn wsX12_begins wsX12_wordAt := goodIn_r _ [9] (by decide +kernel) (by decide +kernel)
set_option maxRecDepth 20000 in
theorem gX12_begins_X12_wordAt : GoodIn wsX12_begins (va_wsS RX12 55 yX12_wordAt wsX12_wordAt) := goodIn_app (goodIn_of _ (by decide +kernel)) ggX12_begins_X12_wordAt
set_option maxRecDepth 20000 in
theorem ggX12_begins_X12_signAt : GoodIn wsX12_begins wsX12_signAt := goodIn_r _ [13, 14, 15, 16, 17, 18, 19, 20, 21, 22, 23, 24, 25, 26, 27, 28, 29, 30, 31, 32, 33, 34] (by decide +kernel) (by decide +kernel)
set_option maxRecDepth 20000 in
theorem gX12_begins_X12_signAt : GoodIn wsX12_begins (wsV RX12 83 RX12 yX12_signAt wsX12_signAt) := goodIn_app (goodIn_of _ (by decide +kernel)) ggX12_begins_X12_signAt
theorem dX12_begins_0 : decode cX12_begins 0 = .ok (.iconst 0, 1) := by decide +kernel
theorem dX12_begins_1 : decode cX12_begins 1 = .ok (.istore 4, 2) := by decide +kernel
theorem dX12_begins_3 : decode cX12_begins 3 = .ok (.iload 4, 2) := by decide +kernel
theorem dX12_begins_5 : decode cX12_begins 5 = .ok (.aload_n 0, 1) := by decide +kernel
theorem dX12_begins_6 : decode cX12_begins 6 = .ok (.getfield 39, 3) := by decide +kernel
theorem dX12_begins_9 : decode cX12_begins 9 = .ok (.iload_n 3, 1) := by decide +kernel
theorem dX12_begins_10 : decode cX12_begins 10 = .ok (.iaload, 1) := by decide +kernel
theorem dX12_begins_11 : decode cX12_begins 11 = .ok (.if_icmp .ge 50, 3) := by decide +kernel
theorem dX12_begins_14 : decode cX12_begins 14 = .ok (.aload_n 0, 1) := by decide +kernel
theorem dX12_begins_15 : decode cX12_begins 15 = .ok (.iload_n 1, 1) := by decide +kernel
theorem dX12_begins_16 : decode cX12_begins 16 = .ok (.aload_n 0, 1) := by decide +kernel
theorem dX12_begins_17 : decode cX12_begins 17 = .ok (.getfield 24, 3) := by decide +kernel
theorem dX12_begins_20 : decode cX12_begins 20 = .ok (.iload_n 2, 1) := by decide +kernel
theorem dX12_begins_21 : decode cX12_begins 21 = .ok (.iaload, 1) := by decide +kernel
theorem dX12_begins_22 : decode cX12_begins 22 = .ok (.invokestatic 55, 3) := by decide +kernel
theorem dX12_begins_25 : decode cX12_begins 25 = .ok (.aload_n 0, 1) := by decide +kernel
theorem dX12_begins_26 : decode cX12_begins 26 = .ok (.getfield 27, 3) := by decide +kernel
theorem dX12_begins_29 : decode cX12_begins 29 = .ok (.iload_n 2, 1) := by decide +kernel
theorem dX12_begins_30 : decode cX12_begins 30 = .ok (.iaload, 1) := by decide +kernel
theorem dX12_begins_31 : decode cX12_begins 31 = .ok (.iload 4, 2) := by decide +kernel
theorem dX12_begins_33 : decode cX12_begins 33 = .ok (.invokevirtual 83, 3) := by decide +kernel
theorem dX12_begins_36 : decode cX12_begins 36 = .ok (.aload_n 0, 1) := by decide +kernel
theorem dX12_begins_37 : decode cX12_begins 37 = .ok (.getfield 30, 3) := by decide +kernel
theorem dX12_begins_40 : decode cX12_begins 40 = .ok (.aload_n 0, 1) := by decide +kernel
theorem dX12_begins_41 : decode cX12_begins 41 = .ok (.getfield 36, 3) := by decide +kernel
theorem dX12_begins_44 : decode cX12_begins 44 = .ok (.iload_n 3, 1) := by decide +kernel
theorem dX12_begins_45 : decode cX12_begins 45 = .ok (.iaload, 1) := by decide +kernel
theorem dX12_begins_46 : decode cX12_begins 46 = .ok (.iload 4, 2) := by decide +kernel
theorem dX12_begins_48 : decode cX12_begins 48 = .ok (.iadd, 1) := by decide +kernel
theorem dX12_begins_49 : decode cX12_begins 49 = .ok (.iaload, 1) := by decide +kernel
theorem dX12_begins_50 : decode cX12_begins 50 = .ok (.if_icmp .eq 5, 3) := by decide +kernel
theorem dX12_begins_53 : decode cX12_begins 53 = .ok (.iconst 0, 1) := by decide +kernel
theorem dX12_begins_54 : decode cX12_begins 54 = .ok (.ireturn, 1) := by decide +kernel
theorem dX12_begins_55 : decode cX12_begins 55 = .ok (.iinc 4 1, 3) := by decide +kernel
theorem dX12_begins_58 : decode cX12_begins 58 = .ok (.goto (-55), 3) := by decide +kernel
theorem dX12_begins_61 : decode cX12_begins 61 = .ok (.iconst 1, 1) := by decide +kernel
theorem dX12_begins_62 : decode cX12_begins 62 = .ok (.ireturn, 1) := by decide +kernel
set_option maxRecDepth 20000 in
theorem ggX12_rangeOf_X12_begins : GoodIn wsX12_rangeOf wsX12_begins := goodIn_r _ [6, 7, 8, 9, 10, 11, 12, 13, 5, 14, 15, 16, 17, 18, 19, 20, 21, 22, 23, 24, 25, 26, 27, 28, 29, 30, 31, 32, 33, 34, 35, 36, 37, 38, 39] (by decide +kernel) (by decide +kernel)
set_option maxRecDepth 20000 in
theorem gX12_rangeOf_X12_begins : GoodIn wsX12_rangeOf (wsV RX12 125 RX12 yX12_begins wsX12_begins) := goodIn_app (goodIn_of _ (by decide +kernel)) ggX12_rangeOf_X12_begins
theorem dX12_rangeOf_0 : decode cX12_rangeOf 0 = .ok (.iconst 0, 1) := by decide +kernel
theorem dX12_rangeOf_1 : decode cX12_rangeOf 1 = .ok (.istore_n 2, 1) := by decide +kernel
theorem dX12_rangeOf_2 : decode cX12_rangeOf 2 = .ok (.iconst 0, 1) := by decide +kernel
theorem dX12_rangeOf_3 : decode cX12_rangeOf 3 = .ok (.istore_n 3, 1) := by decide +kernel
theorem dX12_rangeOf_4 : decode cX12_rangeOf 4 = .ok (.iload_n 3, 1) := by decide +kernel
theorem dX12_rangeOf_5 : decode cX12_rangeOf 5 = .ok (.aload_n 0, 1) := by decide +kernel
theorem dX12_rangeOf_6 : decode cX12_rangeOf 6 = .ok (.getfield 87, 3) := by decide +kernel
theorem dX12_rangeOf_9 : decode cX12_rangeOf 9 = .ok (.if_icmp .ge 27, 3) := by decide +kernel
theorem dX12_rangeOf_12 : decode cX12_rangeOf 12 = .ok (.iload_n 2, 1) := by decide +kernel
theorem dX12_rangeOf_13 : decode cX12_rangeOf 13 = .ok (.aload_n 0, 1) := by decide +kernel
theorem dX12_rangeOf_14 : decode cX12_rangeOf 14 = .ok (.iconst 0, 1) := by decide +kernel
theorem dX12_rangeOf_15 : decode cX12_rangeOf 15 = .ok (.iload_n 3, 1) := by decide +kernel
theorem dX12_rangeOf_16 : decode cX12_rangeOf 16 = .ok (.iload_n 1, 1) := by decide +kernel
theorem dX12_rangeOf_17 : decode cX12_rangeOf 17 = .ok (.invokevirtual 125, 3) := by decide +kernel
theorem dX12_rangeOf_20 : decode cX12_rangeOf 20 = .ok (.ifCond .eq 7, 3) := by decide +kernel
theorem dX12_rangeOf_23 : decode cX12_rangeOf 23 = .ok (.iconst 1, 1) := by decide +kernel
theorem dX12_rangeOf_24 : decode cX12_rangeOf 24 = .ok (.goto 4, 3) := by decide +kernel
theorem dX12_rangeOf_27 : decode cX12_rangeOf 27 = .ok (.iconst 0, 1) := by decide +kernel
theorem dX12_rangeOf_28 : decode cX12_rangeOf 28 = .ok (.iadd, 1) := by decide +kernel
theorem dX12_rangeOf_29 : decode cX12_rangeOf 29 = .ok (.istore_n 2, 1) := by decide +kernel
theorem dX12_rangeOf_30 : decode cX12_rangeOf 30 = .ok (.iinc 3 1, 3) := by decide +kernel
theorem dX12_rangeOf_33 : decode cX12_rangeOf 33 = .ok (.goto (-29), 3) := by decide +kernel
theorem dX12_rangeOf_36 : decode cX12_rangeOf 36 = .ok (.iload_n 2, 1) := by decide +kernel
theorem dX12_rangeOf_37 : decode cX12_rangeOf 37 = .ok (.ireturn, 1) := by decide +kernel
set_option maxRecDepth 20000 in
theorem ggX12_isOf_X12_begins : GoodIn wsX12_isOf wsX12_begins := goodIn_r _ [7, 8, 2, 9, 10, 11, 12, 13, 6, 14, 15, 16, 17, 18, 19, 20, 21, 22, 23, 24, 25, 26, 27, 28, 29, 30, 31, 32, 33, 34, 35, 36, 37, 38, 39] (by decide +kernel) (by decide +kernel)
set_option maxRecDepth 20000 in
theorem gX12_isOf_X12_begins : GoodIn wsX12_isOf (wsV RX12 125 RX12 yX12_begins wsX12_begins) := goodIn_app (goodIn_of _ (by decide +kernel)) ggX12_isOf_X12_begins
theorem dX12_isOf_0 : decode cX12_isOf 0 = .ok (.iconst 0, 1) := by decide +kernel
theorem dX12_isOf_1 : decode cX12_isOf 1 = .ok (.istore_n 3, 1) := by decide +kernel
theorem dX12_isOf_2 : decode cX12_isOf 2 = .ok (.iload_n 3, 1) := by decide +kernel
theorem dX12_isOf_3 : decode cX12_isOf 3 = .ok (.aload_n 0, 1) := by decide +kernel
theorem dX12_isOf_4 : decode cX12_isOf 4 = .ok (.getfield 87, 3) := by decide +kernel
theorem dX12_isOf_7 : decode cX12_isOf 7 = .ok (.if_icmp .ge 31, 3) := by decide +kernel
theorem dX12_isOf_10 : decode cX12_isOf 10 = .ok (.aload_n 0, 1) := by decide +kernel
theorem dX12_isOf_11 : decode cX12_isOf 11 = .ok (.getfield 24, 3) := by decide +kernel
theorem dX12_isOf_14 : decode cX12_isOf 14 = .ok (.iload_n 3, 1) := by decide +kernel
theorem dX12_isOf_15 : decode cX12_isOf 15 = .ok (.iaload, 1) := by decide +kernel
theorem dX12_isOf_16 : decode cX12_isOf 16 = .ok (.iload_n 1, 1) := by decide +kernel
theorem dX12_isOf_17 : decode cX12_isOf 17 = .ok (.if_icmp .ne 15, 3) := by decide +kernel
theorem dX12_isOf_20 : decode cX12_isOf 20 = .ok (.aload_n 0, 1) := by decide +kernel
theorem dX12_isOf_21 : decode cX12_isOf 21 = .ok (.iconst 0, 1) := by decide +kernel
theorem dX12_isOf_22 : decode cX12_isOf 22 = .ok (.iload_n 3, 1) := by decide +kernel
theorem dX12_isOf_23 : decode cX12_isOf 23 = .ok (.iload_n 2, 1) := by decide +kernel
theorem dX12_isOf_24 : decode cX12_isOf 24 = .ok (.invokevirtual 125, 3) := by decide +kernel
theorem dX12_isOf_27 : decode cX12_isOf 27 = .ok (.ifCond .eq 5, 3) := by decide +kernel
theorem dX12_isOf_30 : decode cX12_isOf 30 = .ok (.iconst 1, 1) := by decide +kernel
theorem dX12_isOf_31 : decode cX12_isOf 31 = .ok (.ireturn, 1) := by decide +kernel
theorem dX12_isOf_32 : decode cX12_isOf 32 = .ok (.iinc 3 1, 3) := by decide +kernel
theorem dX12_isOf_35 : decode cX12_isOf 35 = .ok (.goto (-33), 3) := by decide +kernel
theorem dX12_isOf_38 : decode cX12_isOf 38 = .ok (.iconst 0, 1) := by decide +kernel
theorem dX12_isOf_39 : decode cX12_isOf 39 = .ok (.ireturn, 1) := by decide +kernel
theorem dX12_longest_0 : decode cX12_longest 0 = .ok (.iconst 0, 1) := by decide +kernel
theorem dX12_longest_1 : decode cX12_longest 1 = .ok (.istore_n 1, 1) := by decide +kernel
theorem dX12_longest_2 : decode cX12_longest 2 = .ok (.iconst 1, 1) := by decide +kernel
theorem dX12_longest_3 : decode cX12_longest 3 = .ok (.istore_n 2, 1) := by decide +kernel
theorem dX12_longest_4 : decode cX12_longest 4 = .ok (.iload_n 2, 1) := by decide +kernel
theorem dX12_longest_5 : decode cX12_longest 5 = .ok (.aload_n 0, 1) := by decide +kernel
theorem dX12_longest_6 : decode cX12_longest 6 = .ok (.getfield 122, 3) := by decide +kernel
theorem dX12_longest_9 : decode cX12_longest 9 = .ok (.if_icmp .ge 30, 3) := by decide +kernel
theorem dX12_longest_12 : decode cX12_longest 12 = .ok (.aload_n 0, 1) := by decide +kernel
theorem dX12_longest_13 : decode cX12_longest 13 = .ok (.getfield 39, 3) := by decide +kernel
theorem dX12_longest_16 : decode cX12_longest 16 = .ok (.iload_n 2, 1) := by decide +kernel
theorem dX12_longest_17 : decode cX12_longest 17 = .ok (.iaload, 1) := by decide +kernel
theorem dX12_longest_18 : decode cX12_longest 18 = .ok (.aload_n 0, 1) := by decide +kernel
theorem dX12_longest_19 : decode cX12_longest 19 = .ok (.getfield 39, 3) := by decide +kernel
theorem dX12_longest_22 : decode cX12_longest 22 = .ok (.iload_n 1, 1) := by decide +kernel
theorem dX12_longest_23 : decode cX12_longest 23 = .ok (.iaload, 1) := by decide +kernel
theorem dX12_longest_24 : decode cX12_longest 24 = .ok (.if_icmp .le 7, 3) := by decide +kernel
theorem dX12_longest_27 : decode cX12_longest 27 = .ok (.iload_n 2, 1) := by decide +kernel
theorem dX12_longest_28 : decode cX12_longest 28 = .ok (.goto 4, 3) := by decide +kernel
theorem dX12_longest_31 : decode cX12_longest 31 = .ok (.iload_n 1, 1) := by decide +kernel
theorem dX12_longest_32 : decode cX12_longest 32 = .ok (.istore_n 1, 1) := by decide +kernel
theorem dX12_longest_33 : decode cX12_longest 33 = .ok (.iinc 2 1, 3) := by decide +kernel
theorem dX12_longest_36 : decode cX12_longest 36 = .ok (.goto (-32), 3) := by decide +kernel
theorem dX12_longest_39 : decode cX12_longest 39 = .ok (.iload_n 1, 1) := by decide +kernel
theorem dX12_longest_40 : decode cX12_longest 40 = .ok (.ireturn, 1) := by decide +kernel
set_option maxRecDepth 20000 in
theorem ggX12_narrowest_X12_rangeOf : GoodIn wsX12_narrowest wsX12_rangeOf := goodIn_r _ [6, 7, 8, 9, 10, 5, 11, 12, 13, 14, 15, 16, 17, 18, 19, 20, 21, 22, 23, 24, 25, 26, 27, 28, 29, 30, 31, 32, 33, 34, 35, 36, 37, 38, 39, 40, 41, 42, 43, 44] (by decide +kernel) (by decide +kernel)
set_option maxRecDepth 20000 in
theorem gX12_narrowest_X12_rangeOf : GoodIn wsX12_narrowest (wsV RX12 128 RX12 yX12_rangeOf wsX12_rangeOf) := goodIn_app (goodIn_of _ (by decide +kernel)) ggX12_narrowest_X12_rangeOf
theorem dX12_narrowest_0 : decode cX12_narrowest 0 = .ok (.iconst 0, 1) := by decide +kernel
theorem dX12_narrowest_1 : decode cX12_narrowest 1 = .ok (.istore_n 1, 1) := by decide +kernel
theorem dX12_narrowest_2 : decode cX12_narrowest 2 = .ok (.iconst 1, 1) := by decide +kernel
theorem dX12_narrowest_3 : decode cX12_narrowest 3 = .ok (.istore_n 2, 1) := by decide +kernel
theorem dX12_narrowest_4 : decode cX12_narrowest 4 = .ok (.iload_n 2, 1) := by decide +kernel
theorem dX12_narrowest_5 : decode cX12_narrowest 5 = .ok (.aload_n 0, 1) := by decide +kernel
theorem dX12_narrowest_6 : decode cX12_narrowest 6 = .ok (.getfield 122, 3) := by decide +kernel
theorem dX12_narrowest_9 : decode cX12_narrowest 9 = .ok (.if_icmp .ge 28, 3) := by decide +kernel
theorem dX12_narrowest_12 : decode cX12_narrowest 12 = .ok (.aload_n 0, 1) := by decide +kernel
theorem dX12_narrowest_13 : decode cX12_narrowest 13 = .ok (.iload_n 2, 1) := by decide +kernel
theorem dX12_narrowest_14 : decode cX12_narrowest 14 = .ok (.invokevirtual 128, 3) := by decide +kernel
theorem dX12_narrowest_17 : decode cX12_narrowest 17 = .ok (.aload_n 0, 1) := by decide +kernel
theorem dX12_narrowest_18 : decode cX12_narrowest 18 = .ok (.iload_n 1, 1) := by decide +kernel
theorem dX12_narrowest_19 : decode cX12_narrowest 19 = .ok (.invokevirtual 128, 3) := by decide +kernel
theorem dX12_narrowest_22 : decode cX12_narrowest 22 = .ok (.if_icmp .ge 7, 3) := by decide +kernel
theorem dX12_narrowest_25 : decode cX12_narrowest 25 = .ok (.iload_n 2, 1) := by decide +kernel
theorem dX12_narrowest_26 : decode cX12_narrowest 26 = .ok (.goto 4, 3) := by decide +kernel
theorem dX12_narrowest_29 : decode cX12_narrowest 29 = .ok (.iload_n 1, 1) := by decide +kernel
theorem dX12_narrowest_30 : decode cX12_narrowest 30 = .ok (.istore_n 1, 1) := by decide +kernel
theorem dX12_narrowest_31 : decode cX12_narrowest 31 = .ok (.iinc 2 1, 3) := by decide +kernel
theorem dX12_narrowest_34 : decode cX12_narrowest 34 = .ok (.goto (-30), 3) := by decide +kernel
theorem dX12_narrowest_37 : decode cX12_narrowest 37 = .ok (.iload_n 1, 1) := by decide +kernel
theorem dX12_narrowest_38 : decode cX12_narrowest 38 = .ok (.ireturn, 1) := by decide +kernel
set_option maxRecDepth 20000 in
theorem ggX12_isShared_X12_isOf : GoodIn wsX12_isShared wsX12_isOf := goodIn_r _ [6, 7, 8, 9, 10, 11, 5, 12, 13, 14, 15, 16, 17, 18, 19, 20, 21, 22, 23, 24, 25, 26, 27, 28, 29, 30, 31, 32, 33, 34, 35, 36, 37, 38, 39, 40, 41, 42, 43, 44] (by decide +kernel) (by decide +kernel)
set_option maxRecDepth 20000 in
theorem gX12_isShared_X12_isOf : GoodIn wsX12_isShared (wsV RX12 131 RX12 yX12_isOf wsX12_isOf) := goodIn_app (goodIn_of _ (by decide +kernel)) ggX12_isShared_X12_isOf
theorem dX12_isShared_0 : decode cX12_isShared 0 = .ok (.iconst 0, 1) := by decide +kernel
theorem dX12_isShared_1 : decode cX12_isShared 1 = .ok (.istore_n 2, 1) := by decide +kernel
theorem dX12_isShared_2 : decode cX12_isShared 2 = .ok (.iload_n 2, 1) := by decide +kernel
theorem dX12_isShared_3 : decode cX12_isShared 3 = .ok (.aload_n 0, 1) := by decide +kernel
theorem dX12_isShared_4 : decode cX12_isShared 4 = .ok (.getfield 122, 3) := by decide +kernel
theorem dX12_isShared_7 : decode cX12_isShared 7 = .ok (.if_icmp .ge 20, 3) := by decide +kernel
theorem dX12_isShared_10 : decode cX12_isShared 10 = .ok (.aload_n 0, 1) := by decide +kernel
theorem dX12_isShared_11 : decode cX12_isShared 11 = .ok (.iload_n 1, 1) := by decide +kernel
theorem dX12_isShared_12 : decode cX12_isShared 12 = .ok (.iload_n 2, 1) := by decide +kernel
theorem dX12_isShared_13 : decode cX12_isShared 13 = .ok (.invokevirtual 131, 3) := by decide +kernel
theorem dX12_isShared_16 : decode cX12_isShared 16 = .ok (.ifCond .ne 5, 3) := by decide +kernel
theorem dX12_isShared_19 : decode cX12_isShared 19 = .ok (.iconst 0, 1) := by decide +kernel
theorem dX12_isShared_20 : decode cX12_isShared 20 = .ok (.ireturn, 1) := by decide +kernel
theorem dX12_isShared_21 : decode cX12_isShared 21 = .ok (.iinc 2 1, 3) := by decide +kernel
theorem dX12_isShared_24 : decode cX12_isShared 24 = .ok (.goto (-22), 3) := by decide +kernel
theorem dX12_isShared_27 : decode cX12_isShared 27 = .ok (.iconst 1, 1) := by decide +kernel
theorem dX12_isShared_28 : decode cX12_isShared 28 = .ok (.ireturn, 1) := by decide +kernel
set_option maxRecDepth 20000 in
theorem ggX12_laysAll_X12_laysTurns : GoodIn wsX12_laysAll wsX12_laysTurns := goodIn_r _ [5, 6, 7, 8, 9, 4, 10, 11, 12, 13, 14, 15, 16, 17, 18, 19, 20, 21, 22, 23, 24, 53, 54, 55, 56, 57, 58, 59, 60, 61, 62, 63, 64, 65, 66, 67, 68, 69, 70, 71, 72] (by decide +kernel) (by decide +kernel)
set_option maxRecDepth 20000 in
theorem gX12_laysAll_X12_laysTurns : GoodIn wsX12_laysAll (wsV RX12 134 RX12 yX12_laysTurns wsX12_laysTurns) := goodIn_app (goodIn_of _ (by decide +kernel)) ggX12_laysAll_X12_laysTurns
set_option maxRecDepth 20000 in
theorem ggX12_laysAll_X12_laysRuns : GoodIn wsX12_laysAll wsX12_laysRuns := goodIn_r _ [28, 29, 30, 31, 32, 33, 34, 35, 36, 37, 38, 4, 39, 7, 40, 41, 42, 43, 44, 45, 46, 47, 48, 49, 50, 51, 52, 53, 54, 55, 56, 57, 58, 59, 60, 61, 62, 63, 64, 65, 66, 67, 68, 69, 70, 71, 72] (by decide +kernel) (by decide +kernel)
set_option maxRecDepth 20000 in
theorem gX12_laysAll_X12_laysRuns : GoodIn wsX12_laysAll (wsV RX12 138 RX12 yX12_laysRuns wsX12_laysRuns) := goodIn_app (goodIn_of _ (by decide +kernel)) ggX12_laysAll_X12_laysRuns
theorem dX12_laysAll_0 : decode cX12_laysAll 0 = .ok (.aload_n 0, 1) := by decide +kernel
theorem dX12_laysAll_1 : decode cX12_laysAll 1 = .ok (.iconst 0, 1) := by decide +kernel
theorem dX12_laysAll_2 : decode cX12_laysAll 2 = .ok (.invokevirtual 134, 3) := by decide +kernel
theorem dX12_laysAll_5 : decode cX12_laysAll 5 = .ok (.aload_n 0, 1) := by decide +kernel
theorem dX12_laysAll_6 : decode cX12_laysAll 6 = .ok (.invokevirtual 138, 3) := by decide +kernel
theorem dX12_laysAll_9 : decode cX12_laysAll 9 = .ok (.return_, 1) := by decide +kernel
set_option maxRecDepth 20000 in
theorem ggX12_stem_X12_wordAt : GoodIn wsX12_stem wsX12_wordAt := goodIn_r _ [5] (by decide +kernel) (by decide +kernel)
set_option maxRecDepth 20000 in
theorem gX12_stem_X12_wordAt : GoodIn wsX12_stem (va_wsS RX12 55 yX12_wordAt wsX12_wordAt) := goodIn_app (goodIn_of _ (by decide +kernel)) ggX12_stem_X12_wordAt
set_option maxRecDepth 20000 in
theorem ggX12_stem_X12_meets : GoodIn wsX12_stem wsX12_meets := goodIn_r _ [9, 1, 10, 11, 12, 4, 13, 14, 15, 16, 17, 18, 19, 20, 21, 22, 23, 24, 25, 26, 27, 28, 29, 30, 31, 32, 33] (by decide +kernel) (by decide +kernel)
set_option maxRecDepth 20000 in
theorem gX12_stem_X12_meets : GoodIn wsX12_stem (wsV RX12 100 RX12 yX12_meets wsX12_meets) := goodIn_app (goodIn_of _ (by decide +kernel)) ggX12_stem_X12_meets
theorem dX12_stem_0 : decode cX12_stem 0 = .ok (.iconst (-1), 1) := by decide +kernel
theorem dX12_stem_1 : decode cX12_stem 1 = .ok (.istore_n 1, 1) := by decide +kernel
theorem dX12_stem_2 : decode cX12_stem 2 = .ok (.iconst 0, 1) := by decide +kernel
theorem dX12_stem_3 : decode cX12_stem 3 = .ok (.istore_n 2, 1) := by decide +kernel
theorem dX12_stem_4 : decode cX12_stem 4 = .ok (.iconst 0, 1) := by decide +kernel
theorem dX12_stem_5 : decode cX12_stem 5 = .ok (.istore_n 3, 1) := by decide +kernel
theorem dX12_stem_6 : decode cX12_stem 6 = .ok (.iload_n 3, 1) := by decide +kernel
theorem dX12_stem_7 : decode cX12_stem 7 = .ok (.aload_n 0, 1) := by decide +kernel
theorem dX12_stem_8 : decode cX12_stem 8 = .ok (.getfield 7, 3) := by decide +kernel
theorem dX12_stem_11 : decode cX12_stem 11 = .ok (.iconst 0, 1) := by decide +kernel
theorem dX12_stem_12 : decode cX12_stem 12 = .ok (.iaload, 1) := by decide +kernel
theorem dX12_stem_13 : decode cX12_stem 13 = .ok (.if_icmp .ge 116, 3) := by decide +kernel
theorem dX12_stem_16 : decode cX12_stem 16 = .ok (.iconst 0, 1) := by decide +kernel
theorem dX12_stem_17 : decode cX12_stem 17 = .ok (.iload_n 3, 1) := by decide +kernel
theorem dX12_stem_18 : decode cX12_stem 18 = .ok (.invokestatic 55, 3) := by decide +kernel
theorem dX12_stem_21 : decode cX12_stem 21 = .ok (.istore 4, 2) := by decide +kernel
theorem dX12_stem_23 : decode cX12_stem 23 = .ok (.aload_n 0, 1) := by decide +kernel
theorem dX12_stem_24 : decode cX12_stem 24 = .ok (.sipush 430, 3) := by decide +kernel
theorem dX12_stem_27 : decode cX12_stem 27 = .ok (.iload 4, 2) := by decide +kernel
theorem dX12_stem_29 : decode cX12_stem 29 = .ok (.invokevirtual 100, 3) := by decide +kernel
theorem dX12_stem_32 : decode cX12_stem 32 = .ok (.ifCond .ne 6, 3) := by decide +kernel
theorem dX12_stem_35 : decode cX12_stem 35 = .ok (.goto 88, 3) := by decide +kernel
theorem dX12_stem_38 : decode cX12_stem 38 = .ok (.iconst 0, 1) := by decide +kernel
theorem dX12_stem_39 : decode cX12_stem 39 = .ok (.istore 5, 2) := by decide +kernel
theorem dX12_stem_41 : decode cX12_stem 41 = .ok (.iload_n 1, 1) := by decide +kernel
theorem dX12_stem_42 : decode cX12_stem 42 = .ok (.ifCond .lt 53, 3) := by decide +kernel
theorem dX12_stem_45 : decode cX12_stem 45 = .ok (.iload 5, 2) := by decide +kernel
theorem dX12_stem_47 : decode cX12_stem 47 = .ok (.iload_n 2, 1) := by decide +kernel
theorem dX12_stem_48 : decode cX12_stem 48 = .ok (.if_icmp .ge 47, 3) := by decide +kernel
theorem dX12_stem_51 : decode cX12_stem 51 = .ok (.iload 5, 2) := by decide +kernel
theorem dX12_stem_53 : decode cX12_stem 53 = .ok (.aload_n 0, 1) := by decide +kernel
theorem dX12_stem_54 : decode cX12_stem 54 = .ok (.getfield 7, 3) := by decide +kernel
theorem dX12_stem_57 : decode cX12_stem 57 = .ok (.iload 4, 2) := by decide +kernel
theorem dX12_stem_59 : decode cX12_stem 59 = .ok (.iaload, 1) := by decide +kernel
theorem dX12_stem_60 : decode cX12_stem 60 = .ok (.if_icmp .ge 35, 3) := by decide +kernel
theorem dX12_stem_63 : decode cX12_stem 63 = .ok (.aload_n 0, 1) := by decide +kernel
theorem dX12_stem_64 : decode cX12_stem 64 = .ok (.getfield 7, 3) := by decide +kernel
theorem dX12_stem_67 : decode cX12_stem 67 = .ok (.iload_n 1, 1) := by decide +kernel
theorem dX12_stem_68 : decode cX12_stem 68 = .ok (.iconst 1, 1) := by decide +kernel
theorem dX12_stem_69 : decode cX12_stem 69 = .ok (.iadd, 1) := by decide +kernel
theorem dX12_stem_70 : decode cX12_stem 70 = .ok (.iload 5, 2) := by decide +kernel
theorem dX12_stem_72 : decode cX12_stem 72 = .ok (.iadd, 1) := by decide +kernel
theorem dX12_stem_73 : decode cX12_stem 73 = .ok (.iaload, 1) := by decide +kernel
theorem dX12_stem_74 : decode cX12_stem 74 = .ok (.aload_n 0, 1) := by decide +kernel
theorem dX12_stem_75 : decode cX12_stem 75 = .ok (.getfield 7, 3) := by decide +kernel
theorem dX12_stem_78 : decode cX12_stem 78 = .ok (.iload 4, 2) := by decide +kernel
theorem dX12_stem_80 : decode cX12_stem 80 = .ok (.iconst 1, 1) := by decide +kernel
theorem dX12_stem_81 : decode cX12_stem 81 = .ok (.iadd, 1) := by decide +kernel
theorem dX12_stem_82 : decode cX12_stem 82 = .ok (.iload 5, 2) := by decide +kernel
theorem dX12_stem_84 : decode cX12_stem 84 = .ok (.iadd, 1) := by decide +kernel
theorem dX12_stem_85 : decode cX12_stem 85 = .ok (.iaload, 1) := by decide +kernel
theorem dX12_stem_86 : decode cX12_stem 86 = .ok (.if_icmp .ne 9, 3) := by decide +kernel
theorem dX12_stem_89 : decode cX12_stem 89 = .ok (.iinc 5 1, 3) := by decide +kernel
theorem dX12_stem_92 : decode cX12_stem 92 = .ok (.goto (-51), 3) := by decide +kernel
theorem dX12_stem_95 : decode cX12_stem 95 = .ok (.iload_n 1, 1) := by decide +kernel
theorem dX12_stem_96 : decode cX12_stem 96 = .ok (.ifCond .ge 13, 3) := by decide +kernel
theorem dX12_stem_99 : decode cX12_stem 99 = .ok (.aload_n 0, 1) := by decide +kernel
theorem dX12_stem_100 : decode cX12_stem 100 = .ok (.getfield 7, 3) := by decide +kernel
theorem dX12_stem_103 : decode cX12_stem 103 = .ok (.iload 4, 2) := by decide +kernel
theorem dX12_stem_105 : decode cX12_stem 105 = .ok (.iaload, 1) := by decide +kernel
theorem dX12_stem_106 : decode cX12_stem 106 = .ok (.goto 5, 3) := by decide +kernel
theorem dX12_stem_109 : decode cX12_stem 109 = .ok (.iload 5, 2) := by decide +kernel
theorem dX12_stem_111 : decode cX12_stem 111 = .ok (.istore_n 2, 1) := by decide +kernel
theorem dX12_stem_112 : decode cX12_stem 112 = .ok (.iload_n 1, 1) := by decide +kernel
theorem dX12_stem_113 : decode cX12_stem 113 = .ok (.ifCond .ge 8, 3) := by decide +kernel
theorem dX12_stem_116 : decode cX12_stem 116 = .ok (.iload 4, 2) := by decide +kernel
theorem dX12_stem_118 : decode cX12_stem 118 = .ok (.goto 4, 3) := by decide +kernel
theorem dX12_stem_121 : decode cX12_stem 121 = .ok (.iload_n 1, 1) := by decide +kernel
theorem dX12_stem_122 : decode cX12_stem 122 = .ok (.istore_n 1, 1) := by decide +kernel
theorem dX12_stem_123 : decode cX12_stem 123 = .ok (.iinc 3 1, 3) := by decide +kernel
theorem dX12_stem_126 : decode cX12_stem 126 = .ok (.goto (-120), 3) := by decide +kernel
theorem dX12_stem_129 : decode cX12_stem 129 = .ok (.iload_n 2, 1) := by decide +kernel
theorem dX12_stem_130 : decode cX12_stem 130 = .ok (.ireturn, 1) := by decide +kernel
set_option maxRecDepth 20000 in
theorem ggX12_mostAlike_X12_wordAt : GoodIn wsX12_mostAlike wsX12_wordAt := goodIn_r _ [6] (by decide +kernel) (by decide +kernel)
set_option maxRecDepth 20000 in
theorem gX12_mostAlike_X12_wordAt : GoodIn wsX12_mostAlike (va_wsS RX12 55 yX12_wordAt wsX12_wordAt) := goodIn_app (goodIn_of _ (by decide +kernel)) ggX12_mostAlike_X12_wordAt
set_option maxRecDepth 20000 in
theorem ggX12_mostAlike_X12_meets : GoodIn wsX12_mostAlike wsX12_meets := goodIn_r _ [10, 2, 11, 12, 13, 5, 14, 15, 16, 17, 18, 19, 20, 21, 22, 23, 24, 25, 26, 27, 28, 29, 30, 31, 32, 33, 34] (by decide +kernel) (by decide +kernel)
set_option maxRecDepth 20000 in
theorem gX12_mostAlike_X12_meets : GoodIn wsX12_mostAlike (wsV RX12 100 RX12 yX12_meets wsX12_meets) := goodIn_app (goodIn_of _ (by decide +kernel)) ggX12_mostAlike_X12_meets
theorem dX12_mostAlike_0 : decode cX12_mostAlike 0 = .ok (.iconst 0, 1) := by decide +kernel
theorem dX12_mostAlike_1 : decode cX12_mostAlike 1 = .ok (.istore_n 2, 1) := by decide +kernel
theorem dX12_mostAlike_2 : decode cX12_mostAlike 2 = .ok (.iconst 0, 1) := by decide +kernel
theorem dX12_mostAlike_3 : decode cX12_mostAlike 3 = .ok (.istore_n 3, 1) := by decide +kernel
theorem dX12_mostAlike_4 : decode cX12_mostAlike 4 = .ok (.iload_n 3, 1) := by decide +kernel
theorem dX12_mostAlike_5 : decode cX12_mostAlike 5 = .ok (.sipush 128, 3) := by decide +kernel
theorem dX12_mostAlike_8 : decode cX12_mostAlike 8 = .ok (.if_icmp .ge 16, 3) := by decide +kernel
theorem dX12_mostAlike_11 : decode cX12_mostAlike 11 = .ok (.aload_n 0, 1) := by decide +kernel
theorem dX12_mostAlike_12 : decode cX12_mostAlike 12 = .ok (.getfield 45, 3) := by decide +kernel
theorem dX12_mostAlike_15 : decode cX12_mostAlike 15 = .ok (.iload_n 3, 1) := by decide +kernel
theorem dX12_mostAlike_16 : decode cX12_mostAlike 16 = .ok (.iconst 0, 1) := by decide +kernel
theorem dX12_mostAlike_17 : decode cX12_mostAlike 17 = .ok (.iastore, 1) := by decide +kernel
theorem dX12_mostAlike_18 : decode cX12_mostAlike 18 = .ok (.iinc 3 1, 3) := by decide +kernel
theorem dX12_mostAlike_21 : decode cX12_mostAlike 21 = .ok (.goto (-17), 3) := by decide +kernel
theorem dX12_mostAlike_24 : decode cX12_mostAlike 24 = .ok (.iconst 0, 1) := by decide +kernel
theorem dX12_mostAlike_25 : decode cX12_mostAlike 25 = .ok (.istore_n 3, 1) := by decide +kernel
theorem dX12_mostAlike_26 : decode cX12_mostAlike 26 = .ok (.iload_n 3, 1) := by decide +kernel
theorem dX12_mostAlike_27 : decode cX12_mostAlike 27 = .ok (.aload_n 0, 1) := by decide +kernel
theorem dX12_mostAlike_28 : decode cX12_mostAlike 28 = .ok (.getfield 7, 3) := by decide +kernel
theorem dX12_mostAlike_31 : decode cX12_mostAlike 31 = .ok (.iconst 0, 1) := by decide +kernel
theorem dX12_mostAlike_32 : decode cX12_mostAlike 32 = .ok (.iaload, 1) := by decide +kernel
theorem dX12_mostAlike_33 : decode cX12_mostAlike 33 = .ok (.if_icmp .ge 93, 3) := by decide +kernel
theorem dX12_mostAlike_36 : decode cX12_mostAlike 36 = .ok (.iconst 0, 1) := by decide +kernel
theorem dX12_mostAlike_37 : decode cX12_mostAlike 37 = .ok (.iload_n 3, 1) := by decide +kernel
theorem dX12_mostAlike_38 : decode cX12_mostAlike 38 = .ok (.invokestatic 55, 3) := by decide +kernel
theorem dX12_mostAlike_41 : decode cX12_mostAlike 41 = .ok (.istore 4, 2) := by decide +kernel
theorem dX12_mostAlike_43 : decode cX12_mostAlike 43 = .ok (.aload_n 0, 1) := by decide +kernel
theorem dX12_mostAlike_44 : decode cX12_mostAlike 44 = .ok (.sipush 430, 3) := by decide +kernel
theorem dX12_mostAlike_47 : decode cX12_mostAlike 47 = .ok (.iload 4, 2) := by decide +kernel
theorem dX12_mostAlike_49 : decode cX12_mostAlike 49 = .ok (.invokevirtual 100, 3) := by decide +kernel
theorem dX12_mostAlike_52 : decode cX12_mostAlike 52 = .ok (.ifCond .ne 6, 3) := by decide +kernel
theorem dX12_mostAlike_55 : decode cX12_mostAlike 55 = .ok (.goto 65, 3) := by decide +kernel
theorem dX12_mostAlike_58 : decode cX12_mostAlike 58 = .ok (.iload_n 1, 1) := by decide +kernel
theorem dX12_mostAlike_59 : decode cX12_mostAlike 59 = .ok (.aload_n 0, 1) := by decide +kernel
theorem dX12_mostAlike_60 : decode cX12_mostAlike 60 = .ok (.getfield 7, 3) := by decide +kernel
theorem dX12_mostAlike_63 : decode cX12_mostAlike 63 = .ok (.iload 4, 2) := by decide +kernel
theorem dX12_mostAlike_65 : decode cX12_mostAlike 65 = .ok (.iaload, 1) := by decide +kernel
theorem dX12_mostAlike_66 : decode cX12_mostAlike 66 = .ok (.if_icmp .ge 17, 3) := by decide +kernel
theorem dX12_mostAlike_69 : decode cX12_mostAlike 69 = .ok (.aload_n 0, 1) := by decide +kernel
theorem dX12_mostAlike_70 : decode cX12_mostAlike 70 = .ok (.getfield 7, 3) := by decide +kernel
theorem dX12_mostAlike_73 : decode cX12_mostAlike 73 = .ok (.iload 4, 2) := by decide +kernel
theorem dX12_mostAlike_75 : decode cX12_mostAlike 75 = .ok (.iconst 1, 1) := by decide +kernel
theorem dX12_mostAlike_76 : decode cX12_mostAlike 76 = .ok (.iadd, 1) := by decide +kernel
theorem dX12_mostAlike_77 : decode cX12_mostAlike 77 = .ok (.iload_n 1, 1) := by decide +kernel
theorem dX12_mostAlike_78 : decode cX12_mostAlike 78 = .ok (.iadd, 1) := by decide +kernel
theorem dX12_mostAlike_79 : decode cX12_mostAlike 79 = .ok (.iaload, 1) := by decide +kernel
theorem dX12_mostAlike_80 : decode cX12_mostAlike 80 = .ok (.goto 4, 3) := by decide +kernel
theorem dX12_mostAlike_83 : decode cX12_mostAlike 83 = .ok (.iconst 0, 1) := by decide +kernel
theorem dX12_mostAlike_84 : decode cX12_mostAlike 84 = .ok (.istore 5, 2) := by decide +kernel
theorem dX12_mostAlike_86 : decode cX12_mostAlike 86 = .ok (.aload_n 0, 1) := by decide +kernel
theorem dX12_mostAlike_87 : decode cX12_mostAlike 87 = .ok (.getfield 45, 3) := by decide +kernel
theorem dX12_mostAlike_90 : decode cX12_mostAlike 90 = .ok (.iload 5, 2) := by decide +kernel
theorem dX12_mostAlike_92 : decode cX12_mostAlike 92 = .ok (.dup2, 1) := by decide +kernel
theorem dX12_mostAlike_93 : decode cX12_mostAlike 93 = .ok (.iaload, 1) := by decide +kernel
theorem dX12_mostAlike_94 : decode cX12_mostAlike 94 = .ok (.iconst 1, 1) := by decide +kernel
theorem dX12_mostAlike_95 : decode cX12_mostAlike 95 = .ok (.iadd, 1) := by decide +kernel
theorem dX12_mostAlike_96 : decode cX12_mostAlike 96 = .ok (.iastore, 1) := by decide +kernel
theorem dX12_mostAlike_97 : decode cX12_mostAlike 97 = .ok (.aload_n 0, 1) := by decide +kernel
theorem dX12_mostAlike_98 : decode cX12_mostAlike 98 = .ok (.getfield 45, 3) := by decide +kernel
theorem dX12_mostAlike_101 : decode cX12_mostAlike 101 = .ok (.iload 5, 2) := by decide +kernel
theorem dX12_mostAlike_103 : decode cX12_mostAlike 103 = .ok (.iaload, 1) := by decide +kernel
theorem dX12_mostAlike_104 : decode cX12_mostAlike 104 = .ok (.iload_n 2, 1) := by decide +kernel
theorem dX12_mostAlike_105 : decode cX12_mostAlike 105 = .ok (.if_icmp .le 13, 3) := by decide +kernel
theorem dX12_mostAlike_108 : decode cX12_mostAlike 108 = .ok (.aload_n 0, 1) := by decide +kernel
theorem dX12_mostAlike_109 : decode cX12_mostAlike 109 = .ok (.getfield 45, 3) := by decide +kernel
theorem dX12_mostAlike_112 : decode cX12_mostAlike 112 = .ok (.iload 5, 2) := by decide +kernel
theorem dX12_mostAlike_114 : decode cX12_mostAlike 114 = .ok (.iaload, 1) := by decide +kernel
theorem dX12_mostAlike_115 : decode cX12_mostAlike 115 = .ok (.goto 4, 3) := by decide +kernel
theorem dX12_mostAlike_118 : decode cX12_mostAlike 118 = .ok (.iload_n 2, 1) := by decide +kernel
theorem dX12_mostAlike_119 : decode cX12_mostAlike 119 = .ok (.istore_n 2, 1) := by decide +kernel
theorem dX12_mostAlike_120 : decode cX12_mostAlike 120 = .ok (.iinc 3 1, 3) := by decide +kernel
theorem dX12_mostAlike_123 : decode cX12_mostAlike 123 = .ok (.goto (-97), 3) := by decide +kernel
theorem dX12_mostAlike_126 : decode cX12_mostAlike 126 = .ok (.iload_n 2, 1) := by decide +kernel
theorem dX12_mostAlike_127 : decode cX12_mostAlike 127 = .ok (.ireturn, 1) := by decide +kernel
set_option maxRecDepth 20000 in
theorem ggX12_asks_X12_mostAlike : GoodIn wsX12_asks wsX12_mostAlike := goodIn_r _ [5, 6, 7, 8, 9, 4, 10, 11, 12, 13, 14, 15, 16, 17, 18, 23, 24, 25, 26, 27, 28, 29, 30, 31, 32, 33, 34, 35, 36, 37, 38, 39, 40, 41, 42] (by decide +kernel) (by decide +kernel)
set_option maxRecDepth 20000 in
theorem gX12_asks_X12_mostAlike : GoodIn wsX12_asks (wsV RX12 141 RX12 yX12_mostAlike wsX12_mostAlike) := goodIn_app (goodIn_of _ (by decide +kernel)) ggX12_asks_X12_mostAlike
set_option maxRecDepth 20000 in
theorem ggX12_asks_X12_answers : GoodIn wsX12_asks wsX12_answers := goodIn_r _ [22, 7, 8, 9, 4, 10, 11, 12, 13, 14, 15, 16, 17, 18, 23, 24, 25, 26, 27, 28, 29, 30, 31, 32, 33, 34, 35, 36, 37, 38, 39, 40, 41, 42] (by decide +kernel) (by decide +kernel)
set_option maxRecDepth 20000 in
theorem gX12_asks_X12_answers : GoodIn wsX12_asks (wsV RX12 144 RX12 yX12_answers wsX12_answers) := goodIn_app (goodIn_of _ (by decide +kernel)) ggX12_asks_X12_answers
theorem dX12_asks_0 : decode cX12_asks 0 = .ok (.iconst 0, 1) := by decide +kernel
theorem dX12_asks_1 : decode cX12_asks 1 = .ok (.istore_n 1, 1) := by decide +kernel
theorem dX12_asks_2 : decode cX12_asks 2 = .ok (.iconst 1, 1) := by decide +kernel
theorem dX12_asks_3 : decode cX12_asks 3 = .ok (.istore_n 2, 1) := by decide +kernel
theorem dX12_asks_4 : decode cX12_asks 4 = .ok (.iload_n 2, 1) := by decide +kernel
theorem dX12_asks_5 : decode cX12_asks 5 = .ok (.bipush 7, 2) := by decide +kernel
theorem dX12_asks_7 : decode cX12_asks 7 = .ok (.if_icmp .ge 28, 3) := by decide +kernel
theorem dX12_asks_10 : decode cX12_asks 10 = .ok (.aload_n 0, 1) := by decide +kernel
theorem dX12_asks_11 : decode cX12_asks 11 = .ok (.iload_n 2, 1) := by decide +kernel
theorem dX12_asks_12 : decode cX12_asks 12 = .ok (.invokevirtual 141, 3) := by decide +kernel
theorem dX12_asks_15 : decode cX12_asks 15 = .ok (.aload_n 0, 1) := by decide +kernel
theorem dX12_asks_16 : decode cX12_asks 16 = .ok (.iload_n 1, 1) := by decide +kernel
theorem dX12_asks_17 : decode cX12_asks 17 = .ok (.invokevirtual 141, 3) := by decide +kernel
theorem dX12_asks_20 : decode cX12_asks 20 = .ok (.if_icmp .ge 7, 3) := by decide +kernel
theorem dX12_asks_23 : decode cX12_asks 23 = .ok (.iload_n 2, 1) := by decide +kernel
theorem dX12_asks_24 : decode cX12_asks 24 = .ok (.goto 4, 3) := by decide +kernel
theorem dX12_asks_27 : decode cX12_asks 27 = .ok (.iload_n 1, 1) := by decide +kernel
theorem dX12_asks_28 : decode cX12_asks 28 = .ok (.istore_n 1, 1) := by decide +kernel
theorem dX12_asks_29 : decode cX12_asks 29 = .ok (.iinc 2 1, 3) := by decide +kernel
theorem dX12_asks_32 : decode cX12_asks 32 = .ok (.goto (-28), 3) := by decide +kernel
theorem dX12_asks_35 : decode cX12_asks 35 = .ok (.aload_n 0, 1) := by decide +kernel
theorem dX12_asks_36 : decode cX12_asks 36 = .ok (.iconst 0, 1) := by decide +kernel
theorem dX12_asks_37 : decode cX12_asks 37 = .ok (.sipush 430, 3) := by decide +kernel
theorem dX12_asks_40 : decode cX12_asks 40 = .ok (.invokevirtual 144, 3) := by decide +kernel
theorem dX12_asks_43 : decode cX12_asks 43 = .ok (.ifCond .ne 7, 3) := by decide +kernel
theorem dX12_asks_46 : decode cX12_asks 46 = .ok (.iconst (-1), 1) := by decide +kernel
theorem dX12_asks_47 : decode cX12_asks 47 = .ok (.goto 4, 3) := by decide +kernel
theorem dX12_asks_50 : decode cX12_asks 50 = .ok (.iload_n 1, 1) := by decide +kernel
theorem dX12_asks_51 : decode cX12_asks 51 = .ok (.ireturn, 1) := by decide +kernel
set_option maxRecDepth 20000 in
theorem ggX12_letters_X12_wordAt : GoodIn wsX12_letters wsX12_wordAt := goodIn_r _ [5] (by decide +kernel) (by decide +kernel)
set_option maxRecDepth 20000 in
theorem gX12_letters_X12_wordAt : GoodIn wsX12_letters (va_wsS RX12 55 yX12_wordAt wsX12_wordAt) := goodIn_app (goodIn_of _ (by decide +kernel)) ggX12_letters_X12_wordAt
theorem dX12_letters_0 : decode cX12_letters 0 = .ok (.iconst 0, 1) := by decide +kernel
theorem dX12_letters_1 : decode cX12_letters 1 = .ok (.istore_n 1, 1) := by decide +kernel
theorem dX12_letters_2 : decode cX12_letters 2 = .ok (.iconst 0, 1) := by decide +kernel
theorem dX12_letters_3 : decode cX12_letters 3 = .ok (.istore_n 2, 1) := by decide +kernel
theorem dX12_letters_4 : decode cX12_letters 4 = .ok (.iload_n 2, 1) := by decide +kernel
theorem dX12_letters_5 : decode cX12_letters 5 = .ok (.aload_n 0, 1) := by decide +kernel
theorem dX12_letters_6 : decode cX12_letters 6 = .ok (.getfield 7, 3) := by decide +kernel
theorem dX12_letters_9 : decode cX12_letters 9 = .ok (.iconst 0, 1) := by decide +kernel
theorem dX12_letters_10 : decode cX12_letters 10 = .ok (.iaload, 1) := by decide +kernel
theorem dX12_letters_11 : decode cX12_letters 11 = .ok (.if_icmp .ge 22, 3) := by decide +kernel
theorem dX12_letters_14 : decode cX12_letters 14 = .ok (.iload_n 1, 1) := by decide +kernel
theorem dX12_letters_15 : decode cX12_letters 15 = .ok (.aload_n 0, 1) := by decide +kernel
theorem dX12_letters_16 : decode cX12_letters 16 = .ok (.getfield 7, 3) := by decide +kernel
theorem dX12_letters_19 : decode cX12_letters 19 = .ok (.iconst 0, 1) := by decide +kernel
theorem dX12_letters_20 : decode cX12_letters 20 = .ok (.iload_n 2, 1) := by decide +kernel
theorem dX12_letters_21 : decode cX12_letters 21 = .ok (.invokestatic 55, 3) := by decide +kernel
theorem dX12_letters_24 : decode cX12_letters 24 = .ok (.iaload, 1) := by decide +kernel
theorem dX12_letters_25 : decode cX12_letters 25 = .ok (.iadd, 1) := by decide +kernel
theorem dX12_letters_26 : decode cX12_letters 26 = .ok (.istore_n 1, 1) := by decide +kernel
theorem dX12_letters_27 : decode cX12_letters 27 = .ok (.iinc 2 1, 3) := by decide +kernel
theorem dX12_letters_30 : decode cX12_letters 30 = .ok (.goto (-26), 3) := by decide +kernel
theorem dX12_letters_33 : decode cX12_letters 33 = .ok (.iload_n 1, 1) := by decide +kernel
theorem dX12_letters_34 : decode cX12_letters 34 = .ok (.ireturn, 1) := by decide +kernel
set_option maxRecDepth 20000 in
theorem ggX12_firstAlone_X12_wordAt : GoodIn wsX12_firstAlone wsX12_wordAt := goodIn_r _ [5] (by decide +kernel) (by decide +kernel)
set_option maxRecDepth 20000 in
theorem gX12_firstAlone_X12_wordAt : GoodIn wsX12_firstAlone (va_wsS RX12 55 yX12_wordAt wsX12_wordAt) := goodIn_app (goodIn_of _ (by decide +kernel)) ggX12_firstAlone_X12_wordAt
theorem dX12_firstAlone_0 : decode cX12_firstAlone 0 = .ok (.iconst 0, 1) := by decide +kernel
theorem dX12_firstAlone_1 : decode cX12_firstAlone 1 = .ok (.istore_n 1, 1) := by decide +kernel
theorem dX12_firstAlone_2 : decode cX12_firstAlone 2 = .ok (.iconst 0, 1) := by decide +kernel
theorem dX12_firstAlone_3 : decode cX12_firstAlone 3 = .ok (.istore_n 2, 1) := by decide +kernel
theorem dX12_firstAlone_4 : decode cX12_firstAlone 4 = .ok (.iload_n 2, 1) := by decide +kernel
theorem dX12_firstAlone_5 : decode cX12_firstAlone 5 = .ok (.aload_n 0, 1) := by decide +kernel
theorem dX12_firstAlone_6 : decode cX12_firstAlone 6 = .ok (.getfield 7, 3) := by decide +kernel
theorem dX12_firstAlone_9 : decode cX12_firstAlone 9 = .ok (.iconst 0, 1) := by decide +kernel
theorem dX12_firstAlone_10 : decode cX12_firstAlone 10 = .ok (.iaload, 1) := by decide +kernel
theorem dX12_firstAlone_11 : decode cX12_firstAlone 11 = .ok (.if_icmp .ge 87, 3) := by decide +kernel
theorem dX12_firstAlone_14 : decode cX12_firstAlone 14 = .ok (.iconst 1, 1) := by decide +kernel
theorem dX12_firstAlone_15 : decode cX12_firstAlone 15 = .ok (.istore_n 3, 1) := by decide +kernel
theorem dX12_firstAlone_16 : decode cX12_firstAlone 16 = .ok (.iconst 0, 1) := by decide +kernel
theorem dX12_firstAlone_17 : decode cX12_firstAlone 17 = .ok (.istore 4, 2) := by decide +kernel
theorem dX12_firstAlone_19 : decode cX12_firstAlone 19 = .ok (.iload 4, 2) := by decide +kernel
theorem dX12_firstAlone_21 : decode cX12_firstAlone 21 = .ok (.aload_n 0, 1) := by decide +kernel
theorem dX12_firstAlone_22 : decode cX12_firstAlone 22 = .ok (.getfield 7, 3) := by decide +kernel
theorem dX12_firstAlone_25 : decode cX12_firstAlone 25 = .ok (.iconst 0, 1) := by decide +kernel
theorem dX12_firstAlone_26 : decode cX12_firstAlone 26 = .ok (.iaload, 1) := by decide +kernel
theorem dX12_firstAlone_27 : decode cX12_firstAlone 27 = .ok (.if_icmp .ge 53, 3) := by decide +kernel
theorem dX12_firstAlone_30 : decode cX12_firstAlone 30 = .ok (.iload_n 3, 1) := by decide +kernel
theorem dX12_firstAlone_31 : decode cX12_firstAlone 31 = .ok (.ifCond .eq 41, 3) := by decide +kernel
theorem dX12_firstAlone_34 : decode cX12_firstAlone 34 = .ok (.iload 4, 2) := by decide +kernel
theorem dX12_firstAlone_36 : decode cX12_firstAlone 36 = .ok (.iload_n 2, 1) := by decide +kernel
theorem dX12_firstAlone_37 : decode cX12_firstAlone 37 = .ok (.if_icmp .eq 31, 3) := by decide +kernel
theorem dX12_firstAlone_40 : decode cX12_firstAlone 40 = .ok (.aload_n 0, 1) := by decide +kernel
theorem dX12_firstAlone_41 : decode cX12_firstAlone 41 = .ok (.getfield 7, 3) := by decide +kernel
theorem dX12_firstAlone_44 : decode cX12_firstAlone 44 = .ok (.iconst 0, 1) := by decide +kernel
theorem dX12_firstAlone_45 : decode cX12_firstAlone 45 = .ok (.iload 4, 2) := by decide +kernel
theorem dX12_firstAlone_47 : decode cX12_firstAlone 47 = .ok (.invokestatic 55, 3) := by decide +kernel
theorem dX12_firstAlone_50 : decode cX12_firstAlone 50 = .ok (.iconst 1, 1) := by decide +kernel
theorem dX12_firstAlone_51 : decode cX12_firstAlone 51 = .ok (.iadd, 1) := by decide +kernel
theorem dX12_firstAlone_52 : decode cX12_firstAlone 52 = .ok (.iaload, 1) := by decide +kernel
theorem dX12_firstAlone_53 : decode cX12_firstAlone 53 = .ok (.aload_n 0, 1) := by decide +kernel
theorem dX12_firstAlone_54 : decode cX12_firstAlone 54 = .ok (.getfield 7, 3) := by decide +kernel
theorem dX12_firstAlone_57 : decode cX12_firstAlone 57 = .ok (.iconst 0, 1) := by decide +kernel
theorem dX12_firstAlone_58 : decode cX12_firstAlone 58 = .ok (.iload_n 2, 1) := by decide +kernel
theorem dX12_firstAlone_59 : decode cX12_firstAlone 59 = .ok (.invokestatic 55, 3) := by decide +kernel
theorem dX12_firstAlone_62 : decode cX12_firstAlone 62 = .ok (.iconst 1, 1) := by decide +kernel
theorem dX12_firstAlone_63 : decode cX12_firstAlone 63 = .ok (.iadd, 1) := by decide +kernel
theorem dX12_firstAlone_64 : decode cX12_firstAlone 64 = .ok (.iaload, 1) := by decide +kernel
theorem dX12_firstAlone_65 : decode cX12_firstAlone 65 = .ok (.if_icmp .eq 7, 3) := by decide +kernel
theorem dX12_firstAlone_68 : decode cX12_firstAlone 68 = .ok (.iconst 1, 1) := by decide +kernel
theorem dX12_firstAlone_69 : decode cX12_firstAlone 69 = .ok (.goto 4, 3) := by decide +kernel
theorem dX12_firstAlone_72 : decode cX12_firstAlone 72 = .ok (.iconst 0, 1) := by decide +kernel
theorem dX12_firstAlone_73 : decode cX12_firstAlone 73 = .ok (.istore_n 3, 1) := by decide +kernel
theorem dX12_firstAlone_74 : decode cX12_firstAlone 74 = .ok (.iinc 4 1, 3) := by decide +kernel
theorem dX12_firstAlone_77 : decode cX12_firstAlone 77 = .ok (.goto (-58), 3) := by decide +kernel
theorem dX12_firstAlone_80 : decode cX12_firstAlone 80 = .ok (.iload_n 1, 1) := by decide +kernel
theorem dX12_firstAlone_81 : decode cX12_firstAlone 81 = .ok (.iload_n 3, 1) := by decide +kernel
theorem dX12_firstAlone_82 : decode cX12_firstAlone 82 = .ok (.ifCond .eq 7, 3) := by decide +kernel
theorem dX12_firstAlone_85 : decode cX12_firstAlone 85 = .ok (.iconst 1, 1) := by decide +kernel
theorem dX12_firstAlone_86 : decode cX12_firstAlone 86 = .ok (.goto 4, 3) := by decide +kernel
theorem dX12_firstAlone_89 : decode cX12_firstAlone 89 = .ok (.iconst 0, 1) := by decide +kernel
theorem dX12_firstAlone_90 : decode cX12_firstAlone 90 = .ok (.iadd, 1) := by decide +kernel
theorem dX12_firstAlone_91 : decode cX12_firstAlone 91 = .ok (.istore_n 1, 1) := by decide +kernel
theorem dX12_firstAlone_92 : decode cX12_firstAlone 92 = .ok (.iinc 2 1, 3) := by decide +kernel
theorem dX12_firstAlone_95 : decode cX12_firstAlone 95 = .ok (.goto (-91), 3) := by decide +kernel
theorem dX12_firstAlone_98 : decode cX12_firstAlone 98 = .ok (.iload_n 1, 1) := by decide +kernel
theorem dX12_firstAlone_99 : decode cX12_firstAlone 99 = .ok (.ireturn, 1) := by decide +kernel
set_option maxRecDepth 20000 in
theorem ggX12_sharedMany_X12_laysAll : GoodIn wsX12_sharedMany wsX12_laysAll := goodIn_r _ [6, 7, 8, 9, 5, 10, 11, 1, 12, 13, 14, 15, 16, 17, 18, 19, 20, 21, 22, 23, 24, 25, 26, 27, 28, 29, 30, 31, 32, 33, 34, 35, 36, 37, 38, 39, 40, 41, 42, 43, 44, 45, 46, 47, 48, 49, 50, 51, 52, 53, 54, 55, 56, 69, 70, 71, 72, 73, 74, 75, 76, 77, 78, 79, 80, 81, 82, 83, 84, 85, 86, 87, 88] (by decide +kernel) (by decide +kernel)
set_option maxRecDepth 20000 in
theorem gX12_sharedMany_X12_laysAll : GoodIn wsX12_sharedMany (wsV RX12 147 RX12 yX12_laysAll wsX12_laysAll) := goodIn_app (goodIn_of _ (by decide +kernel)) ggX12_sharedMany_X12_laysAll
set_option maxRecDepth 20000 in
theorem ggX12_sharedMany_X12_isShared : GoodIn wsX12_sharedMany wsX12_isShared := goodIn_r _ [60, 33, 61, 62, 63, 5, 64, 11, 19, 65, 66, 67, 68, 38, 20, 36, 37, 12, 13, 14, 25, 26, 27, 28, 1, 69, 70, 71, 72, 73, 74, 75, 76, 77, 78, 79, 80, 81, 82, 83, 84, 85, 86, 87, 88] (by decide +kernel) (by decide +kernel)
set_option maxRecDepth 20000 in
theorem gX12_sharedMany_X12_isShared : GoodIn wsX12_sharedMany (wsV RX12 150 RX12 yX12_isShared wsX12_isShared) := goodIn_app (goodIn_of _ (by decide +kernel)) ggX12_sharedMany_X12_isShared
theorem dX12_sharedMany_0 : decode cX12_sharedMany 0 = .ok (.aload_n 0, 1) := by decide +kernel
theorem dX12_sharedMany_1 : decode cX12_sharedMany 1 = .ok (.invokevirtual 147, 3) := by decide +kernel
theorem dX12_sharedMany_4 : decode cX12_sharedMany 4 = .ok (.iconst 0, 1) := by decide +kernel
theorem dX12_sharedMany_5 : decode cX12_sharedMany 5 = .ok (.istore_n 1, 1) := by decide +kernel
theorem dX12_sharedMany_6 : decode cX12_sharedMany 6 = .ok (.iconst 0, 1) := by decide +kernel
theorem dX12_sharedMany_7 : decode cX12_sharedMany 7 = .ok (.istore_n 2, 1) := by decide +kernel
theorem dX12_sharedMany_8 : decode cX12_sharedMany 8 = .ok (.iload_n 2, 1) := by decide +kernel
theorem dX12_sharedMany_9 : decode cX12_sharedMany 9 = .ok (.aload_n 0, 1) := by decide +kernel
theorem dX12_sharedMany_10 : decode cX12_sharedMany 10 = .ok (.getfield 7, 3) := by decide +kernel
theorem dX12_sharedMany_13 : decode cX12_sharedMany 13 = .ok (.iconst 0, 1) := by decide +kernel
theorem dX12_sharedMany_14 : decode cX12_sharedMany 14 = .ok (.iaload, 1) := by decide +kernel
theorem dX12_sharedMany_15 : decode cX12_sharedMany 15 = .ok (.if_icmp .ge 25, 3) := by decide +kernel
theorem dX12_sharedMany_18 : decode cX12_sharedMany 18 = .ok (.iload_n 1, 1) := by decide +kernel
theorem dX12_sharedMany_19 : decode cX12_sharedMany 19 = .ok (.aload_n 0, 1) := by decide +kernel
theorem dX12_sharedMany_20 : decode cX12_sharedMany 20 = .ok (.iload_n 2, 1) := by decide +kernel
theorem dX12_sharedMany_21 : decode cX12_sharedMany 21 = .ok (.invokevirtual 150, 3) := by decide +kernel
theorem dX12_sharedMany_24 : decode cX12_sharedMany 24 = .ok (.ifCond .eq 7, 3) := by decide +kernel
theorem dX12_sharedMany_27 : decode cX12_sharedMany 27 = .ok (.iconst 1, 1) := by decide +kernel
theorem dX12_sharedMany_28 : decode cX12_sharedMany 28 = .ok (.goto 4, 3) := by decide +kernel
theorem dX12_sharedMany_31 : decode cX12_sharedMany 31 = .ok (.iconst 0, 1) := by decide +kernel
theorem dX12_sharedMany_32 : decode cX12_sharedMany 32 = .ok (.iadd, 1) := by decide +kernel
theorem dX12_sharedMany_33 : decode cX12_sharedMany 33 = .ok (.istore_n 1, 1) := by decide +kernel
theorem dX12_sharedMany_34 : decode cX12_sharedMany 34 = .ok (.iinc 2 1, 3) := by decide +kernel
theorem dX12_sharedMany_37 : decode cX12_sharedMany 37 = .ok (.goto (-29), 3) := by decide +kernel
theorem dX12_sharedMany_40 : decode cX12_sharedMany 40 = .ok (.iload_n 1, 1) := by decide +kernel
theorem dX12_sharedMany_41 : decode cX12_sharedMany 41 = .ok (.ireturn, 1) := by decide +kernel
set_option maxRecDepth 20000 in
theorem ggX12_count_X12_letters : GoodIn wsX12_count wsX12_letters := goodIn_r _ [10, 1, 11, 12, 9, 13, 151, 152, 153, 154, 155, 156, 157, 158, 159, 160, 161, 162, 163, 164, 165, 166, 167, 168, 169, 170] (by decide +kernel) (by decide +kernel)
set_option maxRecDepth 20000 in
theorem gX12_count_X12_letters : GoodIn wsX12_count (wsV RX12 154 RX12 yX12_letters wsX12_letters) := goodIn_app (goodIn_of _ (by decide +kernel)) ggX12_count_X12_letters
set_option maxRecDepth 20000 in
theorem ggX12_count_X12_from : GoodIn wsX12_count wsX12_from := goodIn_r _ [17, 18, 19, 20, 9, 21, 1, 22, 23, 24, 25, 26, 27, 28, 29, 30, 31, 32, 11, 12, 13, 33, 34, 35, 36, 37, 38, 39, 40, 41, 42, 43, 44, 151, 152, 153, 154, 155, 156, 157, 158, 159, 160, 161, 162, 163, 164, 165, 166, 167, 168, 169, 170] (by decide +kernel) (by decide +kernel)
set_option maxRecDepth 20000 in
theorem gX12_count_X12_from : GoodIn wsX12_count (wsV RX12 158 RX12 yX12_from wsX12_from) := goodIn_app (goodIn_of _ (by decide +kernel)) ggX12_count_X12_from
set_option maxRecDepth 20000 in
theorem ggX12_count_X12_answers : GoodIn wsX12_count wsX12_answers := goodIn_r _ [48, 1, 11, 12, 9, 13, 49, 50, 51, 52, 53, 54, 55, 56, 151, 152, 153, 154, 155, 156, 157, 158, 159, 160, 161, 162, 163, 164, 165, 166, 167, 168, 169, 170] (by decide +kernel) (by decide +kernel)
set_option maxRecDepth 20000 in
theorem gX12_count_X12_answers : GoodIn wsX12_count (wsV RX12 144 RX12 yX12_answers wsX12_answers) := goodIn_app (goodIn_of _ (by decide +kernel)) ggX12_count_X12_answers
set_option maxRecDepth 20000 in
theorem ggX12_count_X12_laysPieces : GoodIn wsX12_count wsX12_laysPieces := goodIn_r _ [60, 1, 2, 61, 62, 63, 64, 65, 9, 66, 67, 68, 69, 70, 71, 72, 73, 74, 75, 151, 152, 153, 154, 155, 156, 157, 158, 159, 160, 161, 162, 163, 164, 165, 166, 167, 168, 169, 170] (by decide +kernel) (by decide +kernel)
set_option maxRecDepth 20000 in
theorem gX12_count_X12_laysPieces : GoodIn wsX12_count (wsV RX12 119 RX12 yX12_laysPieces wsX12_laysPieces) := goodIn_app (goodIn_of _ (by decide +kernel)) ggX12_count_X12_laysPieces
set_option maxRecDepth 20000 in
theorem ggX12_count_X12_laysRuns : GoodIn wsX12_count wsX12_laysRuns := goodIn_r _ [79, 3, 2, 75, 62, 80, 81, 82, 57, 58, 59, 9, 60, 1, 61, 63, 64, 65, 66, 67, 68, 69, 70, 71, 72, 73, 74, 151, 152, 153, 154, 155, 156, 157, 158, 159, 160, 161, 162, 163, 164, 165, 166, 167, 168, 169, 170] (by decide +kernel) (by decide +kernel)
set_option maxRecDepth 20000 in
theorem gX12_count_X12_laysRuns : GoodIn wsX12_count (wsV RX12 138 RX12 yX12_laysRuns wsX12_laysRuns) := goodIn_app (goodIn_of _ (by decide +kernel)) ggX12_count_X12_laysRuns
set_option maxRecDepth 20000 in
theorem ggX12_count_X12_longest : GoodIn wsX12_count wsX12_longest := goodIn_r _ [86, 3, 81, 151, 152, 153, 154, 155, 156, 157, 158, 159, 160, 161, 162, 163, 164, 165, 166, 167, 168, 169, 170] (by decide +kernel) (by decide +kernel)
set_option maxRecDepth 20000 in
theorem gX12_count_X12_longest : GoodIn wsX12_count (wsV RX12 162 RX12 yX12_longest wsX12_longest) := goodIn_app (goodIn_of _ (by decide +kernel)) ggX12_count_X12_longest
set_option maxRecDepth 20000 in
theorem ggX12_count_X12_laysAll : GoodIn wsX12_count wsX12_laysAll := goodIn_r _ [90, 91, 92, 93, 9, 94, 95, 1, 11, 12, 13, 96, 97, 98, 99, 100, 101, 102, 103, 104, 105, 106, 107, 108, 109, 76, 77, 78, 79, 3, 2, 75, 62, 80, 81, 82, 57, 58, 59, 60, 61, 63, 64, 65, 66, 67, 68, 69, 70, 71, 72, 73, 74, 151, 152, 153, 154, 155, 156, 157, 158, 159, 160, 161, 162, 163, 164, 165, 166, 167, 168, 169, 170] (by decide +kernel) (by decide +kernel)
set_option maxRecDepth 20000 in
theorem gX12_count_X12_laysAll : GoodIn wsX12_count (wsV RX12 147 RX12 yX12_laysAll wsX12_laysAll) := goodIn_app (goodIn_of _ (by decide +kernel)) ggX12_count_X12_laysAll
set_option maxRecDepth 20000 in
theorem ggX12_count_X12_narrowest : GoodIn wsX12_count wsX12_narrowest := goodIn_r _ [113, 3, 114, 115, 116, 9, 117, 95, 118, 119, 120, 121, 81, 100, 101, 62, 80, 11, 12, 13, 106, 107, 108, 109, 1, 151, 152, 153, 154, 155, 156, 157, 158, 159, 160, 161, 162, 163, 164, 165, 166, 167, 168, 169, 170] (by decide +kernel) (by decide +kernel)
set_option maxRecDepth 20000 in
theorem gX12_count_X12_narrowest : GoodIn wsX12_count (wsV RX12 165 RX12 yX12_narrowest wsX12_narrowest) := goodIn_app (goodIn_of _ (by decide +kernel)) ggX12_count_X12_narrowest
set_option maxRecDepth 20000 in
theorem ggX12_count_X12_sharedMany : GoodIn wsX12_count wsX12_sharedMany := goodIn_r _ [125, 1, 87, 88, 89, 9, 90, 91, 92, 93, 94, 95, 11, 12, 13, 96, 97, 98, 99, 100, 101, 102, 103, 104, 105, 106, 107, 108, 109, 76, 77, 78, 79, 3, 2, 75, 62, 80, 81, 82, 57, 58, 59, 60, 61, 63, 64, 65, 66, 67, 68, 69, 70, 71, 72, 73, 74, 126, 127, 128, 129, 130, 131, 132, 133, 118, 119, 120, 121, 151, 152, 153, 154, 155, 156, 157, 158, 159, 160, 161, 162, 163, 164, 165, 166, 167, 168, 169, 170] (by decide +kernel) (by decide +kernel)
set_option maxRecDepth 20000 in
theorem gX12_count_X12_sharedMany : GoodIn wsX12_count (wsV RX12 168 RX12 yX12_sharedMany wsX12_sharedMany) := goodIn_app (goodIn_of _ (by decide +kernel)) ggX12_count_X12_sharedMany
set_option maxRecDepth 20000 in
theorem ggX12_count_X12_stem : GoodIn wsX12_count wsX12_stem := goodIn_r _ [137, 1, 11, 12, 9, 13, 49, 50, 51, 52, 53, 54, 55, 56, 151, 152, 153, 154, 155, 156, 157, 158, 159, 160, 161, 162, 163, 164, 165, 166, 167, 168, 169, 170] (by decide +kernel) (by decide +kernel)
set_option maxRecDepth 20000 in
theorem gX12_count_X12_stem : GoodIn wsX12_count (wsV RX12 171 RX12 yX12_stem wsX12_stem) := goodIn_app (goodIn_of _ (by decide +kernel)) ggX12_count_X12_stem
set_option maxRecDepth 20000 in
theorem ggX12_count_X12_asks : GoodIn wsX12_count wsX12_asks := goodIn_r _ [141, 142, 143, 144, 9, 145, 146, 1, 11, 12, 13, 49, 50, 51, 52, 53, 54, 55, 56, 45, 46, 47, 48, 151, 152, 153, 154, 155, 156, 157, 158, 159, 160, 161, 162, 163, 164, 165, 166, 167, 168, 169, 170] (by decide +kernel) (by decide +kernel)
set_option maxRecDepth 20000 in
theorem gX12_count_X12_asks : GoodIn wsX12_count (wsV RX12 174 RX12 yX12_asks wsX12_asks) := goodIn_app (goodIn_of _ (by decide +kernel)) ggX12_count_X12_asks
set_option maxRecDepth 20000 in
theorem ggX12_count_X12_firstAlone : GoodIn wsX12_count wsX12_firstAlone := goodIn_r _ [150, 1, 11, 12, 9, 13, 151, 152, 153, 154, 155, 156, 157, 158, 159, 160, 161, 162, 163, 164, 165, 166, 167, 168, 169, 170] (by decide +kernel) (by decide +kernel)
set_option maxRecDepth 20000 in
theorem gX12_count_X12_firstAlone : GoodIn wsX12_count (wsV RX12 183 RX12 yX12_firstAlone wsX12_firstAlone) := goodIn_app (goodIn_of _ (by decide +kernel)) ggX12_count_X12_firstAlone
theorem dX12_count_0 : decode cX12_count 0 = .ok (.iload_n 1, 1) := by decide +kernel
theorem dX12_count_1 : decode cX12_count 1 = .ok (.tableswitch 215 0 16 #[83, 90, 102, 111, 122, 131, 144, 153, 162, 171, 180, 185, 190, 195, 200, 205, 210], 83) := by decide +kernel
theorem dX12_count_84 : decode cX12_count 84 = .ok (.aload_n 0, 1) := by decide +kernel
theorem dX12_count_85 : decode cX12_count 85 = .ok (.getfield 7, 3) := by decide +kernel
theorem dX12_count_88 : decode cX12_count 88 = .ok (.iconst 0, 1) := by decide +kernel
theorem dX12_count_89 : decode cX12_count 89 = .ok (.iaload, 1) := by decide +kernel
theorem dX12_count_90 : decode cX12_count 90 = .ok (.ireturn, 1) := by decide +kernel
theorem dX12_count_91 : decode cX12_count 91 = .ok (.aload_n 0, 1) := by decide +kernel
theorem dX12_count_92 : decode cX12_count 92 = .ok (.invokevirtual 154, 3) := by decide +kernel
theorem dX12_count_95 : decode cX12_count 95 = .ok (.aload_n 0, 1) := by decide +kernel
theorem dX12_count_96 : decode cX12_count 96 = .ok (.getfield 7, 3) := by decide +kernel
theorem dX12_count_99 : decode cX12_count 99 = .ok (.iconst 0, 1) := by decide +kernel
theorem dX12_count_100 : decode cX12_count 100 = .ok (.iaload, 1) := by decide +kernel
theorem dX12_count_101 : decode cX12_count 101 = .ok (.iadd, 1) := by decide +kernel
theorem dX12_count_102 : decode cX12_count 102 = .ok (.ireturn, 1) := by decide +kernel
theorem dX12_count_103 : decode cX12_count 103 = .ok (.aload_n 0, 1) := by decide +kernel
theorem dX12_count_104 : decode cX12_count 104 = .ok (.getfield 7, 3) := by decide +kernel
theorem dX12_count_107 : decode cX12_count 107 = .ok (.sipush 321, 3) := by decide +kernel
theorem dX12_count_110 : decode cX12_count 110 = .ok (.iaload, 1) := by decide +kernel
theorem dX12_count_111 : decode cX12_count 111 = .ok (.ireturn, 1) := by decide +kernel
theorem dX12_count_112 : decode cX12_count 112 = .ok (.aload_n 0, 1) := by decide +kernel
theorem dX12_count_113 : decode cX12_count 113 = .ok (.getfield 7, 3) := by decide +kernel
theorem dX12_count_116 : decode cX12_count 116 = .ok (.aload_n 0, 1) := by decide +kernel
theorem dX12_count_117 : decode cX12_count 117 = .ok (.iconst 1, 1) := by decide +kernel
theorem dX12_count_118 : decode cX12_count 118 = .ok (.invokevirtual 158, 3) := by decide +kernel
theorem dX12_count_121 : decode cX12_count 121 = .ok (.iaload, 1) := by decide +kernel
theorem dX12_count_122 : decode cX12_count 122 = .ok (.ireturn, 1) := by decide +kernel
theorem dX12_count_123 : decode cX12_count 123 = .ok (.aload_n 0, 1) := by decide +kernel
theorem dX12_count_124 : decode cX12_count 124 = .ok (.iconst 0, 1) := by decide +kernel
theorem dX12_count_125 : decode cX12_count 125 = .ok (.sipush 430, 3) := by decide +kernel
theorem dX12_count_128 : decode cX12_count 128 = .ok (.invokevirtual 144, 3) := by decide +kernel
theorem dX12_count_131 : decode cX12_count 131 = .ok (.ireturn, 1) := by decide +kernel
theorem dX12_count_132 : decode cX12_count 132 = .ok (.aload_n 0, 1) := by decide +kernel
theorem dX12_count_133 : decode cX12_count 133 = .ok (.aload_n 0, 1) := by decide +kernel
theorem dX12_count_134 : decode cX12_count 134 = .ok (.iconst 1, 1) := by decide +kernel
theorem dX12_count_135 : decode cX12_count 135 = .ok (.invokevirtual 158, 3) := by decide +kernel
theorem dX12_count_138 : decode cX12_count 138 = .ok (.sipush 430, 3) := by decide +kernel
theorem dX12_count_141 : decode cX12_count 141 = .ok (.invokevirtual 144, 3) := by decide +kernel
theorem dX12_count_144 : decode cX12_count 144 = .ok (.ireturn, 1) := by decide +kernel
theorem dX12_count_145 : decode cX12_count 145 = .ok (.aload_n 0, 1) := by decide +kernel
theorem dX12_count_146 : decode cX12_count 146 = .ok (.invokevirtual 119, 3) := by decide +kernel
theorem dX12_count_149 : decode cX12_count 149 = .ok (.aload_n 0, 1) := by decide +kernel
theorem dX12_count_150 : decode cX12_count 150 = .ok (.getfield 107, 3) := by decide +kernel
theorem dX12_count_153 : decode cX12_count 153 = .ok (.ireturn, 1) := by decide +kernel
theorem dX12_count_154 : decode cX12_count 154 = .ok (.aload_n 0, 1) := by decide +kernel
theorem dX12_count_155 : decode cX12_count 155 = .ok (.invokevirtual 138, 3) := by decide +kernel
theorem dX12_count_158 : decode cX12_count 158 = .ok (.aload_n 0, 1) := by decide +kernel
theorem dX12_count_159 : decode cX12_count 159 = .ok (.getfield 122, 3) := by decide +kernel
theorem dX12_count_162 : decode cX12_count 162 = .ok (.ireturn, 1) := by decide +kernel
theorem dX12_count_163 : decode cX12_count 163 = .ok (.aload_n 0, 1) := by decide +kernel
theorem dX12_count_164 : decode cX12_count 164 = .ok (.invokevirtual 138, 3) := by decide +kernel
theorem dX12_count_167 : decode cX12_count 167 = .ok (.aload_n 0, 1) := by decide +kernel
theorem dX12_count_168 : decode cX12_count 168 = .ok (.invokevirtual 162, 3) := by decide +kernel
theorem dX12_count_171 : decode cX12_count 171 = .ok (.ireturn, 1) := by decide +kernel
theorem dX12_count_172 : decode cX12_count 172 = .ok (.aload_n 0, 1) := by decide +kernel
theorem dX12_count_173 : decode cX12_count 173 = .ok (.invokevirtual 147, 3) := by decide +kernel
theorem dX12_count_176 : decode cX12_count 176 = .ok (.aload_n 0, 1) := by decide +kernel
theorem dX12_count_177 : decode cX12_count 177 = .ok (.invokevirtual 165, 3) := by decide +kernel
theorem dX12_count_180 : decode cX12_count 180 = .ok (.ireturn, 1) := by decide +kernel
theorem dX12_count_181 : decode cX12_count 181 = .ok (.aload_n 0, 1) := by decide +kernel
theorem dX12_count_182 : decode cX12_count 182 = .ok (.invokevirtual 168, 3) := by decide +kernel
theorem dX12_count_185 : decode cX12_count 185 = .ok (.ireturn, 1) := by decide +kernel
theorem dX12_count_186 : decode cX12_count 186 = .ok (.aload_n 0, 1) := by decide +kernel
theorem dX12_count_187 : decode cX12_count 187 = .ok (.invokevirtual 171, 3) := by decide +kernel
theorem dX12_count_190 : decode cX12_count 190 = .ok (.ireturn, 1) := by decide +kernel
theorem dX12_count_191 : decode cX12_count 191 = .ok (.aload_n 0, 1) := by decide +kernel
theorem dX12_count_192 : decode cX12_count 192 = .ok (.invokevirtual 174, 3) := by decide +kernel
theorem dX12_count_195 : decode cX12_count 195 = .ok (.ireturn, 1) := by decide +kernel
theorem dX12_count_196 : decode cX12_count 196 = .ok (.aload_n 0, 1) := by decide +kernel
theorem dX12_count_197 : decode cX12_count 197 = .ok (.getfield 177, 3) := by decide +kernel
theorem dX12_count_200 : decode cX12_count 200 = .ok (.ireturn, 1) := by decide +kernel
theorem dX12_count_201 : decode cX12_count 201 = .ok (.aload_n 0, 1) := by decide +kernel
theorem dX12_count_202 : decode cX12_count 202 = .ok (.getfield 180, 3) := by decide +kernel
theorem dX12_count_205 : decode cX12_count 205 = .ok (.ireturn, 1) := by decide +kernel
theorem dX12_count_206 : decode cX12_count 206 = .ok (.aload_n 0, 1) := by decide +kernel
theorem dX12_count_207 : decode cX12_count 207 = .ok (.invokevirtual 154, 3) := by decide +kernel
theorem dX12_count_210 : decode cX12_count 210 = .ok (.ireturn, 1) := by decide +kernel
theorem dX12_count_211 : decode cX12_count 211 = .ok (.aload_n 0, 1) := by decide +kernel
theorem dX12_count_212 : decode cX12_count 212 = .ok (.invokevirtual 183, 3) := by decide +kernel
theorem dX12_count_215 : decode cX12_count 215 = .ok (.ireturn, 1) := by decide +kernel
theorem dX12_count_216 : decode cX12_count 216 = .ok (.iconst (-1), 1) := by decide +kernel
theorem dX12_count_217 : decode cX12_count 217 = .ok (.ireturn, 1) := by decide +kernel
set_option maxRecDepth 20000 in
theorem ggX12_word_X12_from : GoodIn wsX12_word wsX12_from := goodIn_r _ [6, 7, 8, 9, 5, 10, 1, 11, 12, 13, 14, 15, 16, 17, 18, 19, 20, 21, 22, 23, 24, 25, 26, 27, 28, 29, 30, 31, 32, 33, 34, 35, 36, 48, 49, 50, 51, 52, 53, 54, 55, 56, 57, 58, 59, 60, 61, 62, 63, 64, 65, 66, 67] (by decide +kernel) (by decide +kernel)
set_option maxRecDepth 20000 in
theorem gX12_word_X12_from : GoodIn wsX12_word (wsV RX12 158 RX12 yX12_from wsX12_from) := goodIn_app (goodIn_of _ (by decide +kernel)) ggX12_word_X12_from
set_option maxRecDepth 20000 in
theorem ggX12_word_X12_isIn : GoodIn wsX12_word wsX12_isIn := goodIn_r _ [39] (by decide +kernel) (by decide +kernel)
set_option maxRecDepth 20000 in
theorem gX12_word_X12_isIn : GoodIn wsX12_word (va_wsS RX12 51 yX12_isIn wsX12_isIn) := goodIn_app (goodIn_of _ (by decide +kernel)) ggX12_word_X12_isIn
set_option maxRecDepth 20000 in
theorem ggX12_word_X12_wordAt : GoodIn wsX12_word wsX12_wordAt := goodIn_r _ [24] (by decide +kernel) (by decide +kernel)
set_option maxRecDepth 20000 in
theorem gX12_word_X12_wordAt : GoodIn wsX12_word (va_wsS RX12 55 yX12_wordAt wsX12_wordAt) := goodIn_app (goodIn_of _ (by decide +kernel)) ggX12_word_X12_wordAt
set_option maxRecDepth 20000 in
theorem ggX12_word_X12_meets : GoodIn wsX12_word wsX12_meets := goodIn_r _ [43, 1, 44, 45, 46, 5, 47, 48, 49, 50, 51, 52, 53, 54, 55, 56, 57, 58, 59, 60, 61, 62, 63, 64, 65, 66, 67] (by decide +kernel) (by decide +kernel)
set_option maxRecDepth 20000 in
theorem gX12_word_X12_meets : GoodIn wsX12_word (wsV RX12 100 RX12 yX12_meets wsX12_meets) := goodIn_app (goodIn_of _ (by decide +kernel)) ggX12_word_X12_meets
theorem dX12_word_0 : decode cX12_word 0 = .ok (.aload_n 0, 1) := by decide +kernel
theorem dX12_word_1 : decode cX12_word 1 = .ok (.iload_n 2, 1) := by decide +kernel
theorem dX12_word_2 : decode cX12_word 2 = .ok (.invokevirtual 158, 3) := by decide +kernel
theorem dX12_word_5 : decode cX12_word 5 = .ok (.istore 4, 2) := by decide +kernel
theorem dX12_word_7 : decode cX12_word 7 = .ok (.iload_n 1, 1) := by decide +kernel
theorem dX12_word_8 : decode cX12_word 8 = .ok (.iconst 0, 1) := by decide +kernel
theorem dX12_word_9 : decode cX12_word 9 = .ok (.aload_n 0, 1) := by decide +kernel
theorem dX12_word_10 : decode cX12_word 10 = .ok (.getfield 7, 3) := by decide +kernel
theorem dX12_word_13 : decode cX12_word 13 = .ok (.iload 4, 2) := by decide +kernel
theorem dX12_word_15 : decode cX12_word 15 = .ok (.iaload, 1) := by decide +kernel
theorem dX12_word_16 : decode cX12_word 16 = .ok (.iconst 1, 1) := by decide +kernel
theorem dX12_word_17 : decode cX12_word 17 = .ok (.isub, 1) := by decide +kernel
theorem dX12_word_18 : decode cX12_word 18 = .ok (.invokestatic 51, 3) := by decide +kernel
theorem dX12_word_21 : decode cX12_word 21 = .ok (.ifCond .ne 5, 3) := by decide +kernel
theorem dX12_word_24 : decode cX12_word 24 = .ok (.iconst (-1), 1) := by decide +kernel
theorem dX12_word_25 : decode cX12_word 25 = .ok (.ireturn, 1) := by decide +kernel
theorem dX12_word_26 : decode cX12_word 26 = .ok (.iload 4, 2) := by decide +kernel
theorem dX12_word_28 : decode cX12_word 28 = .ok (.iload_n 1, 1) := by decide +kernel
theorem dX12_word_29 : decode cX12_word 29 = .ok (.invokestatic 55, 3) := by decide +kernel
theorem dX12_word_32 : decode cX12_word 32 = .ok (.istore 5, 2) := by decide +kernel
theorem dX12_word_34 : decode cX12_word 34 = .ok (.iload_n 3, 1) := by decide +kernel
theorem dX12_word_35 : decode cX12_word 35 = .ok (.ifCond .ne 11, 3) := by decide +kernel
theorem dX12_word_38 : decode cX12_word 38 = .ok (.aload_n 0, 1) := by decide +kernel
theorem dX12_word_39 : decode cX12_word 39 = .ok (.getfield 7, 3) := by decide +kernel
theorem dX12_word_42 : decode cX12_word 42 = .ok (.iload 5, 2) := by decide +kernel
theorem dX12_word_44 : decode cX12_word 44 = .ok (.iaload, 1) := by decide +kernel
theorem dX12_word_45 : decode cX12_word 45 = .ok (.ireturn, 1) := by decide +kernel
theorem dX12_word_46 : decode cX12_word 46 = .ok (.iload_n 3, 1) := by decide +kernel
theorem dX12_word_47 : decode cX12_word 47 = .ok (.bipush 10, 2) := by decide +kernel
theorem dX12_word_49 : decode cX12_word 49 = .ok (.if_icmp .ne 23, 3) := by decide +kernel
theorem dX12_word_52 : decode cX12_word 52 = .ok (.aload_n 0, 1) := by decide +kernel
theorem dX12_word_53 : decode cX12_word 53 = .ok (.sipush 430, 3) := by decide +kernel
theorem dX12_word_56 : decode cX12_word 56 = .ok (.iload 5, 2) := by decide +kernel
theorem dX12_word_58 : decode cX12_word 58 = .ok (.invokevirtual 100, 3) := by decide +kernel
theorem dX12_word_61 : decode cX12_word 61 = .ok (.ifCond .eq 7, 3) := by decide +kernel
theorem dX12_word_64 : decode cX12_word 64 = .ok (.iconst 1, 1) := by decide +kernel
theorem dX12_word_65 : decode cX12_word 65 = .ok (.goto 35, 3) := by decide +kernel
theorem dX12_word_68 : decode cX12_word 68 = .ok (.iconst 0, 1) := by decide +kernel
theorem dX12_word_69 : decode cX12_word 69 = .ok (.goto 31, 3) := by decide +kernel
theorem dX12_word_72 : decode cX12_word 72 = .ok (.iload_n 3, 1) := by decide +kernel
theorem dX12_word_73 : decode cX12_word 73 = .ok (.iconst 1, 1) := by decide +kernel
theorem dX12_word_74 : decode cX12_word 74 = .ok (.aload_n 0, 1) := by decide +kernel
theorem dX12_word_75 : decode cX12_word 75 = .ok (.getfield 7, 3) := by decide +kernel
theorem dX12_word_78 : decode cX12_word 78 = .ok (.iload 5, 2) := by decide +kernel
theorem dX12_word_80 : decode cX12_word 80 = .ok (.iaload, 1) := by decide +kernel
theorem dX12_word_81 : decode cX12_word 81 = .ok (.invokestatic 51, 3) := by decide +kernel
theorem dX12_word_84 : decode cX12_word 84 = .ok (.ifCond .eq 15, 3) := by decide +kernel
theorem dX12_word_87 : decode cX12_word 87 = .ok (.aload_n 0, 1) := by decide +kernel
theorem dX12_word_88 : decode cX12_word 88 = .ok (.getfield 7, 3) := by decide +kernel
theorem dX12_word_91 : decode cX12_word 91 = .ok (.iload 5, 2) := by decide +kernel
theorem dX12_word_93 : decode cX12_word 93 = .ok (.iload_n 3, 1) := by decide +kernel
theorem dX12_word_94 : decode cX12_word 94 = .ok (.iadd, 1) := by decide +kernel
theorem dX12_word_95 : decode cX12_word 95 = .ok (.iaload, 1) := by decide +kernel
theorem dX12_word_96 : decode cX12_word 96 = .ok (.goto 4, 3) := by decide +kernel
theorem dX12_word_99 : decode cX12_word 99 = .ok (.iconst (-1), 1) := by decide +kernel
theorem dX12_word_100 : decode cX12_word 100 = .ok (.ireturn, 1) := by decide +kernel
set_option maxRecDepth 20000 in
theorem ggX12_answer_X12_from : GoodIn wsX12_answer wsX12_from := goodIn_r _ [6, 7, 8, 9, 5, 10, 1, 11, 12, 13, 14, 15, 16, 17, 18, 19, 20, 21, 22, 23, 24, 25, 26, 27, 28, 29, 30, 31, 32, 33, 34, 35, 36, 45, 46, 47, 48, 49, 50, 51, 52, 53, 54, 55, 56, 57, 58, 59, 60, 61, 62, 63, 64] (by decide +kernel) (by decide +kernel)
set_option maxRecDepth 20000 in
theorem gX12_answer_X12_from : GoodIn wsX12_answer (wsV RX12 158 RX12 yX12_from wsX12_from) := goodIn_app (goodIn_of _ (by decide +kernel)) ggX12_answer_X12_from
set_option maxRecDepth 20000 in
theorem ggX12_answer_X12_wordAt : GoodIn wsX12_answer wsX12_wordAt := goodIn_r _ [24] (by decide +kernel) (by decide +kernel)
set_option maxRecDepth 20000 in
theorem gX12_answer_X12_wordAt : GoodIn wsX12_answer (va_wsS RX12 55 yX12_wordAt wsX12_wordAt) := goodIn_app (goodIn_of _ (by decide +kernel)) ggX12_answer_X12_wordAt
set_option maxRecDepth 20000 in
theorem ggX12_answer_X12_meets : GoodIn wsX12_answer wsX12_meets := goodIn_r _ [40, 1, 41, 42, 43, 5, 44, 45, 46, 47, 48, 49, 50, 51, 52, 53, 54, 55, 56, 57, 58, 59, 60, 61, 62, 63, 64] (by decide +kernel) (by decide +kernel)
set_option maxRecDepth 20000 in
theorem gX12_answer_X12_meets : GoodIn wsX12_answer (wsV RX12 100 RX12 yX12_meets wsX12_meets) := goodIn_app (goodIn_of _ (by decide +kernel)) ggX12_answer_X12_meets
theorem dX12_answer_0 : decode cX12_answer 0 = .ok (.aload_n 0, 1) := by decide +kernel
theorem dX12_answer_1 : decode cX12_answer 1 = .ok (.iload_n 2, 1) := by decide +kernel
theorem dX12_answer_2 : decode cX12_answer 2 = .ok (.invokevirtual 158, 3) := by decide +kernel
theorem dX12_answer_5 : decode cX12_answer 5 = .ok (.istore_n 3, 1) := by decide +kernel
theorem dX12_answer_6 : decode cX12_answer 6 = .ok (.iconst 0, 1) := by decide +kernel
theorem dX12_answer_7 : decode cX12_answer 7 = .ok (.istore 4, 2) := by decide +kernel
theorem dX12_answer_9 : decode cX12_answer 9 = .ok (.iconst 0, 1) := by decide +kernel
theorem dX12_answer_10 : decode cX12_answer 10 = .ok (.istore 5, 2) := by decide +kernel
theorem dX12_answer_12 : decode cX12_answer 12 = .ok (.iload 5, 2) := by decide +kernel
theorem dX12_answer_14 : decode cX12_answer 14 = .ok (.aload_n 0, 1) := by decide +kernel
theorem dX12_answer_15 : decode cX12_answer 15 = .ok (.getfield 7, 3) := by decide +kernel
theorem dX12_answer_18 : decode cX12_answer 18 = .ok (.iload_n 3, 1) := by decide +kernel
theorem dX12_answer_19 : decode cX12_answer 19 = .ok (.iaload, 1) := by decide +kernel
theorem dX12_answer_20 : decode cX12_answer 20 = .ok (.if_icmp .ge 40, 3) := by decide +kernel
theorem dX12_answer_23 : decode cX12_answer 23 = .ok (.aload_n 0, 1) := by decide +kernel
theorem dX12_answer_24 : decode cX12_answer 24 = .ok (.sipush 430, 3) := by decide +kernel
theorem dX12_answer_27 : decode cX12_answer 27 = .ok (.iload_n 3, 1) := by decide +kernel
theorem dX12_answer_28 : decode cX12_answer 28 = .ok (.iload 5, 2) := by decide +kernel
theorem dX12_answer_30 : decode cX12_answer 30 = .ok (.invokestatic 55, 3) := by decide +kernel
theorem dX12_answer_33 : decode cX12_answer 33 = .ok (.invokevirtual 100, 3) := by decide +kernel
theorem dX12_answer_36 : decode cX12_answer 36 = .ok (.ifCond .ne 6, 3) := by decide +kernel
theorem dX12_answer_39 : decode cX12_answer 39 = .ok (.goto 15, 3) := by decide +kernel
theorem dX12_answer_42 : decode cX12_answer 42 = .ok (.iload 4, 2) := by decide +kernel
theorem dX12_answer_44 : decode cX12_answer 44 = .ok (.iload_n 1, 1) := by decide +kernel
theorem dX12_answer_45 : decode cX12_answer 45 = .ok (.if_icmp .ne 6, 3) := by decide +kernel
theorem dX12_answer_48 : decode cX12_answer 48 = .ok (.iload 5, 2) := by decide +kernel
theorem dX12_answer_50 : decode cX12_answer 50 = .ok (.ireturn, 1) := by decide +kernel
theorem dX12_answer_51 : decode cX12_answer 51 = .ok (.iinc 4 1, 3) := by decide +kernel
theorem dX12_answer_54 : decode cX12_answer 54 = .ok (.iinc 5 1, 3) := by decide +kernel
theorem dX12_answer_57 : decode cX12_answer 57 = .ok (.goto (-45), 3) := by decide +kernel
theorem dX12_answer_60 : decode cX12_answer 60 = .ok (.iconst (-1), 1) := by decide +kernel
theorem dX12_answer_61 : decode cX12_answer 61 = .ok (.ireturn, 1) := by decide +kernel
set_option maxRecDepth 20000 in
theorem ggX12_turn_X12_laysTurns : GoodIn wsX12_turn wsX12_laysTurns := goodIn_r _ [9, 1, 4, 10, 11, 8, 12, 13, 14, 15, 16, 2, 3, 17, 18, 19, 20, 21, 22, 23, 24, 28, 29, 30, 31, 32, 33, 34, 35, 36, 37, 38, 39, 40, 41, 42, 43, 44, 45, 46, 47] (by decide +kernel) (by decide +kernel)
set_option maxRecDepth 20000 in
theorem gX12_turn_X12_laysTurns : GoodIn wsX12_turn (wsV RX12 134 RX12 yX12_laysTurns wsX12_laysTurns) := goodIn_app (goodIn_of _ (by decide +kernel)) ggX12_turn_X12_laysTurns
set_option maxRecDepth 20000 in
theorem ggX12_turn_X12_isIn : GoodIn wsX12_turn wsX12_isIn := goodIn_r _ [27] (by decide +kernel) (by decide +kernel)
set_option maxRecDepth 20000 in
theorem gX12_turn_X12_isIn : GoodIn wsX12_turn (va_wsS RX12 51 yX12_isIn wsX12_isIn) := goodIn_app (goodIn_of _ (by decide +kernel)) ggX12_turn_X12_isIn
set_option maxRecDepth 20000 in
theorem ggX12_turn_X12_wordAt : GoodIn wsX12_turn wsX12_wordAt := goodIn_r _ [12] (by decide +kernel) (by decide +kernel)
set_option maxRecDepth 20000 in
theorem gX12_turn_X12_wordAt : GoodIn wsX12_turn (va_wsS RX12 55 yX12_wordAt wsX12_wordAt) := goodIn_app (goodIn_of _ (by decide +kernel)) ggX12_turn_X12_wordAt
set_option maxRecDepth 20000 in
theorem ggX12_turn_X12_signAt : GoodIn wsX12_turn wsX12_signAt := goodIn_r _ [24, 4, 28, 29, 30, 31, 32, 33, 34, 35, 36, 37, 38, 39, 40, 41, 42, 43, 44, 45, 46, 47] (by decide +kernel) (by decide +kernel)
set_option maxRecDepth 20000 in
theorem gX12_turn_X12_signAt : GoodIn wsX12_turn (wsV RX12 83 RX12 yX12_signAt wsX12_signAt) := goodIn_app (goodIn_of _ (by decide +kernel)) ggX12_turn_X12_signAt
theorem dX12_turn_0 : decode cX12_turn 0 = .ok (.aload_n 0, 1) := by decide +kernel
theorem dX12_turn_1 : decode cX12_turn 1 = .ok (.iconst 0, 1) := by decide +kernel
theorem dX12_turn_2 : decode cX12_turn 2 = .ok (.invokevirtual 134, 3) := by decide +kernel
theorem dX12_turn_5 : decode cX12_turn 5 = .ok (.iload_n 1, 1) := by decide +kernel
theorem dX12_turn_6 : decode cX12_turn 6 = .ok (.iconst 0, 1) := by decide +kernel
theorem dX12_turn_7 : decode cX12_turn 7 = .ok (.aload_n 0, 1) := by decide +kernel
theorem dX12_turn_8 : decode cX12_turn 8 = .ok (.getfield 87, 3) := by decide +kernel
theorem dX12_turn_11 : decode cX12_turn 11 = .ok (.iconst 1, 1) := by decide +kernel
theorem dX12_turn_12 : decode cX12_turn 12 = .ok (.isub, 1) := by decide +kernel
theorem dX12_turn_13 : decode cX12_turn 13 = .ok (.invokestatic 51, 3) := by decide +kernel
theorem dX12_turn_16 : decode cX12_turn 16 = .ok (.ifCond .ne 5, 3) := by decide +kernel
theorem dX12_turn_19 : decode cX12_turn 19 = .ok (.iconst (-1), 1) := by decide +kernel
theorem dX12_turn_20 : decode cX12_turn 20 = .ok (.ireturn, 1) := by decide +kernel
theorem dX12_turn_21 : decode cX12_turn 21 = .ok (.iconst 0, 1) := by decide +kernel
theorem dX12_turn_22 : decode cX12_turn 22 = .ok (.aload_n 0, 1) := by decide +kernel
theorem dX12_turn_23 : decode cX12_turn 23 = .ok (.getfield 24, 3) := by decide +kernel
theorem dX12_turn_26 : decode cX12_turn 26 = .ok (.iload_n 1, 1) := by decide +kernel
theorem dX12_turn_27 : decode cX12_turn 27 = .ok (.iaload, 1) := by decide +kernel
theorem dX12_turn_28 : decode cX12_turn 28 = .ok (.invokestatic 55, 3) := by decide +kernel
theorem dX12_turn_31 : decode cX12_turn 31 = .ok (.istore_n 3, 1) := by decide +kernel
theorem dX12_turn_32 : decode cX12_turn 32 = .ok (.iload_n 2, 1) := by decide +kernel
theorem dX12_turn_33 : decode cX12_turn 33 = .ok (.ifCond .ne 10, 3) := by decide +kernel
theorem dX12_turn_36 : decode cX12_turn 36 = .ok (.aload_n 0, 1) := by decide +kernel
theorem dX12_turn_37 : decode cX12_turn 37 = .ok (.getfield 24, 3) := by decide +kernel
theorem dX12_turn_40 : decode cX12_turn 40 = .ok (.iload_n 1, 1) := by decide +kernel
theorem dX12_turn_41 : decode cX12_turn 41 = .ok (.iaload, 1) := by decide +kernel
theorem dX12_turn_42 : decode cX12_turn 42 = .ok (.ireturn, 1) := by decide +kernel
theorem dX12_turn_43 : decode cX12_turn 43 = .ok (.iload_n 2, 1) := by decide +kernel
theorem dX12_turn_44 : decode cX12_turn 44 = .ok (.iconst 1, 1) := by decide +kernel
theorem dX12_turn_45 : decode cX12_turn 45 = .ok (.if_icmp .ne 12, 3) := by decide +kernel
theorem dX12_turn_48 : decode cX12_turn 48 = .ok (.aload_n 0, 1) := by decide +kernel
theorem dX12_turn_49 : decode cX12_turn 49 = .ok (.getfield 27, 3) := by decide +kernel
theorem dX12_turn_52 : decode cX12_turn 52 = .ok (.iload_n 1, 1) := by decide +kernel
theorem dX12_turn_53 : decode cX12_turn 53 = .ok (.iaload, 1) := by decide +kernel
theorem dX12_turn_54 : decode cX12_turn 54 = .ok (.goto 37, 3) := by decide +kernel
theorem dX12_turn_57 : decode cX12_turn 57 = .ok (.iload_n 2, 1) := by decide +kernel
theorem dX12_turn_58 : decode cX12_turn 58 = .ok (.iconst 2, 1) := by decide +kernel
theorem dX12_turn_59 : decode cX12_turn 59 = .ok (.isub, 1) := by decide +kernel
theorem dX12_turn_60 : decode cX12_turn 60 = .ok (.iconst 0, 1) := by decide +kernel
theorem dX12_turn_61 : decode cX12_turn 61 = .ok (.aload_n 0, 1) := by decide +kernel
theorem dX12_turn_62 : decode cX12_turn 62 = .ok (.getfield 7, 3) := by decide +kernel
theorem dX12_turn_65 : decode cX12_turn 65 = .ok (.iload_n 3, 1) := by decide +kernel
theorem dX12_turn_66 : decode cX12_turn 66 = .ok (.iaload, 1) := by decide +kernel
theorem dX12_turn_67 : decode cX12_turn 67 = .ok (.invokestatic 51, 3) := by decide +kernel
theorem dX12_turn_70 : decode cX12_turn 70 = .ok (.ifCond .eq 20, 3) := by decide +kernel
theorem dX12_turn_73 : decode cX12_turn 73 = .ok (.aload_n 0, 1) := by decide +kernel
theorem dX12_turn_74 : decode cX12_turn 74 = .ok (.iload_n 3, 1) := by decide +kernel
theorem dX12_turn_75 : decode cX12_turn 75 = .ok (.aload_n 0, 1) := by decide +kernel
theorem dX12_turn_76 : decode cX12_turn 76 = .ok (.getfield 27, 3) := by decide +kernel
theorem dX12_turn_79 : decode cX12_turn 79 = .ok (.iload_n 1, 1) := by decide +kernel
theorem dX12_turn_80 : decode cX12_turn 80 = .ok (.iaload, 1) := by decide +kernel
theorem dX12_turn_81 : decode cX12_turn 81 = .ok (.iload_n 2, 1) := by decide +kernel
theorem dX12_turn_82 : decode cX12_turn 82 = .ok (.iconst 2, 1) := by decide +kernel
theorem dX12_turn_83 : decode cX12_turn 83 = .ok (.isub, 1) := by decide +kernel
theorem dX12_turn_84 : decode cX12_turn 84 = .ok (.invokevirtual 83, 3) := by decide +kernel
theorem dX12_turn_87 : decode cX12_turn 87 = .ok (.goto 4, 3) := by decide +kernel
theorem dX12_turn_90 : decode cX12_turn 90 = .ok (.iconst (-1), 1) := by decide +kernel
theorem dX12_turn_91 : decode cX12_turn 91 = .ok (.ireturn, 1) := by decide +kernel
set_option maxRecDepth 20000 in
theorem ggX12_run_X12_laysAll : GoodIn wsX12_run wsX12_laysAll := goodIn_r _ [12, 13, 14, 15, 11, 16, 4, 5, 17, 18, 19, 20, 21, 22, 23, 24, 25, 26, 27, 28, 29, 30, 31, 32, 33, 34, 35, 36, 37, 1, 38, 39, 6, 7, 2, 3, 40, 41, 42, 43, 44, 45, 46, 47, 48, 49, 50, 51, 52, 53, 54, 55, 56, 72, 73, 74, 75, 76, 77, 78, 79, 80, 81, 82, 83, 84, 85, 86, 87, 88, 89, 90, 91] (by decide +kernel) (by decide +kernel)
set_option maxRecDepth 20000 in
theorem gX12_run_X12_laysAll : GoodIn wsX12_run (wsV RX12 147 RX12 yX12_laysAll wsX12_laysAll) := goodIn_app (goodIn_of _ (by decide +kernel)) ggX12_run_X12_laysAll
set_option maxRecDepth 20000 in
theorem ggX12_run_X12_isIn : GoodIn wsX12_run wsX12_isIn := goodIn_r _ [59] (by decide +kernel) (by decide +kernel)
set_option maxRecDepth 20000 in
theorem gX12_run_X12_isIn : GoodIn wsX12_run (va_wsS RX12 51 yX12_isIn wsX12_isIn) := goodIn_app (goodIn_of _ (by decide +kernel)) ggX12_run_X12_isIn
set_option maxRecDepth 20000 in
theorem ggX12_run_X12_begins : GoodIn wsX12_run wsX12_begins := goodIn_r _ [63, 2, 24, 25, 6, 7, 17, 18, 11, 19, 30, 31, 32, 33, 5, 72, 73, 74, 75, 76, 77, 78, 79, 80, 81, 82, 83, 84, 85, 86, 87, 88, 89, 90, 91] (by decide +kernel) (by decide +kernel)
set_option maxRecDepth 20000 in
theorem gX12_run_X12_begins : GoodIn wsX12_run (wsV RX12 125 RX12 yX12_begins wsX12_begins) := goodIn_app (goodIn_of _ (by decide +kernel)) ggX12_run_X12_begins
set_option maxRecDepth 20000 in
theorem ggX12_run_X12_rangeOf : GoodIn wsX12_run wsX12_rangeOf := goodIn_r _ [67, 4, 60, 61, 62, 11, 63, 2, 24, 25, 6, 7, 17, 18, 19, 30, 31, 32, 33, 5, 72, 73, 74, 75, 76, 77, 78, 79, 80, 81, 82, 83, 84, 85, 86, 87, 88, 89, 90, 91] (by decide +kernel) (by decide +kernel)
set_option maxRecDepth 20000 in
theorem gX12_run_X12_rangeOf : GoodIn wsX12_run (wsV RX12 128 RX12 yX12_rangeOf wsX12_rangeOf) := goodIn_app (goodIn_of _ (by decide +kernel)) ggX12_run_X12_rangeOf
set_option maxRecDepth 20000 in
theorem ggX12_run_X12_isOf : GoodIn wsX12_run wsX12_isOf := goodIn_r _ [71, 4, 24, 60, 61, 62, 11, 63, 2, 25, 6, 7, 17, 18, 19, 30, 31, 32, 33, 5, 72, 73, 74, 75, 76, 77, 78, 79, 80, 81, 82, 83, 84, 85, 86, 87, 88, 89, 90, 91] (by decide +kernel) (by decide +kernel)
set_option maxRecDepth 20000 in
theorem gX12_run_X12_isOf : GoodIn wsX12_run (wsV RX12 131 RX12 yX12_isOf wsX12_isOf) := goodIn_app (goodIn_of _ (by decide +kernel)) ggX12_run_X12_isOf
theorem dX12_run_0 : decode cX12_run 0 = .ok (.aload_n 0, 1) := by decide +kernel
theorem dX12_run_1 : decode cX12_run 1 = .ok (.invokevirtual 147, 3) := by decide +kernel
theorem dX12_run_4 : decode cX12_run 4 = .ok (.iload_n 1, 1) := by decide +kernel
theorem dX12_run_5 : decode cX12_run 5 = .ok (.iconst 0, 1) := by decide +kernel
theorem dX12_run_6 : decode cX12_run 6 = .ok (.aload_n 0, 1) := by decide +kernel
theorem dX12_run_7 : decode cX12_run 7 = .ok (.getfield 122, 3) := by decide +kernel
theorem dX12_run_10 : decode cX12_run 10 = .ok (.iconst 1, 1) := by decide +kernel
theorem dX12_run_11 : decode cX12_run 11 = .ok (.isub, 1) := by decide +kernel
theorem dX12_run_12 : decode cX12_run 12 = .ok (.invokestatic 51, 3) := by decide +kernel
theorem dX12_run_15 : decode cX12_run 15 = .ok (.ifCond .ne 5, 3) := by decide +kernel
theorem dX12_run_18 : decode cX12_run 18 = .ok (.iconst (-1), 1) := by decide +kernel
theorem dX12_run_19 : decode cX12_run 19 = .ok (.ireturn, 1) := by decide +kernel
theorem dX12_run_20 : decode cX12_run 20 = .ok (.iconst 0, 1) := by decide +kernel
theorem dX12_run_21 : decode cX12_run 21 = .ok (.istore_n 3, 1) := by decide +kernel
theorem dX12_run_22 : decode cX12_run 22 = .ok (.iload_n 2, 1) := by decide +kernel
theorem dX12_run_23 : decode cX12_run 23 = .ok (.tableswitch 127 0 4 #[33, 40, 47, 81, 87], 33) := by decide +kernel
theorem dX12_run_56 : decode cX12_run 56 = .ok (.aload_n 0, 1) := by decide +kernel
theorem dX12_run_57 : decode cX12_run 57 = .ok (.getfield 39, 3) := by decide +kernel
theorem dX12_run_60 : decode cX12_run 60 = .ok (.iload_n 1, 1) := by decide +kernel
theorem dX12_run_61 : decode cX12_run 61 = .ok (.iaload, 1) := by decide +kernel
theorem dX12_run_62 : decode cX12_run 62 = .ok (.ireturn, 1) := by decide +kernel
theorem dX12_run_63 : decode cX12_run 63 = .ok (.aload_n 0, 1) := by decide +kernel
theorem dX12_run_64 : decode cX12_run 64 = .ok (.getfield 42, 3) := by decide +kernel
theorem dX12_run_67 : decode cX12_run 67 = .ok (.iload_n 1, 1) := by decide +kernel
theorem dX12_run_68 : decode cX12_run 68 = .ok (.iaload, 1) := by decide +kernel
theorem dX12_run_69 : decode cX12_run 69 = .ok (.ireturn, 1) := by decide +kernel
theorem dX12_run_70 : decode cX12_run 70 = .ok (.iconst 0, 1) := by decide +kernel
theorem dX12_run_71 : decode cX12_run 71 = .ok (.istore 4, 2) := by decide +kernel
theorem dX12_run_73 : decode cX12_run 73 = .ok (.iload 4, 2) := by decide +kernel
theorem dX12_run_75 : decode cX12_run 75 = .ok (.aload_n 0, 1) := by decide +kernel
theorem dX12_run_76 : decode cX12_run 76 = .ok (.getfield 87, 3) := by decide +kernel
theorem dX12_run_79 : decode cX12_run 79 = .ok (.if_icmp .ge 23, 3) := by decide +kernel
theorem dX12_run_82 : decode cX12_run 82 = .ok (.aload_n 0, 1) := by decide +kernel
theorem dX12_run_83 : decode cX12_run 83 = .ok (.iconst 0, 1) := by decide +kernel
theorem dX12_run_84 : decode cX12_run 84 = .ok (.iload 4, 2) := by decide +kernel
theorem dX12_run_86 : decode cX12_run 86 = .ok (.iload_n 1, 1) := by decide +kernel
theorem dX12_run_87 : decode cX12_run 87 = .ok (.invokevirtual 125, 3) := by decide +kernel
theorem dX12_run_90 : decode cX12_run 90 = .ok (.ifCond .eq 6, 3) := by decide +kernel
theorem dX12_run_93 : decode cX12_run 93 = .ok (.iload 4, 2) := by decide +kernel
theorem dX12_run_95 : decode cX12_run 95 = .ok (.ireturn, 1) := by decide +kernel
theorem dX12_run_96 : decode cX12_run 96 = .ok (.iinc 4 1, 3) := by decide +kernel
theorem dX12_run_99 : decode cX12_run 99 = .ok (.goto (-26), 3) := by decide +kernel
theorem dX12_run_102 : decode cX12_run 102 = .ok (.iconst (-1), 1) := by decide +kernel
theorem dX12_run_103 : decode cX12_run 103 = .ok (.ireturn, 1) := by decide +kernel
theorem dX12_run_104 : decode cX12_run 104 = .ok (.aload_n 0, 1) := by decide +kernel
theorem dX12_run_105 : decode cX12_run 105 = .ok (.iload_n 1, 1) := by decide +kernel
theorem dX12_run_106 : decode cX12_run 106 = .ok (.invokevirtual 128, 3) := by decide +kernel
theorem dX12_run_109 : decode cX12_run 109 = .ok (.ireturn, 1) := by decide +kernel
theorem dX12_run_110 : decode cX12_run 110 = .ok (.iconst 0, 1) := by decide +kernel
theorem dX12_run_111 : decode cX12_run 111 = .ok (.istore 4, 2) := by decide +kernel
theorem dX12_run_113 : decode cX12_run 113 = .ok (.iload 4, 2) := by decide +kernel
theorem dX12_run_115 : decode cX12_run 115 = .ok (.aload_n 0, 1) := by decide +kernel
theorem dX12_run_116 : decode cX12_run 116 = .ok (.getfield 7, 3) := by decide +kernel
theorem dX12_run_119 : decode cX12_run 119 = .ok (.iconst 0, 1) := by decide +kernel
theorem dX12_run_120 : decode cX12_run 120 = .ok (.iaload, 1) := by decide +kernel
theorem dX12_run_121 : decode cX12_run 121 = .ok (.if_icmp .ge 27, 3) := by decide +kernel
theorem dX12_run_124 : decode cX12_run 124 = .ok (.iload_n 3, 1) := by decide +kernel
theorem dX12_run_125 : decode cX12_run 125 = .ok (.aload_n 0, 1) := by decide +kernel
theorem dX12_run_126 : decode cX12_run 126 = .ok (.iload 4, 2) := by decide +kernel
theorem dX12_run_128 : decode cX12_run 128 = .ok (.iload_n 1, 1) := by decide +kernel
theorem dX12_run_129 : decode cX12_run 129 = .ok (.invokevirtual 131, 3) := by decide +kernel
theorem dX12_run_132 : decode cX12_run 132 = .ok (.ifCond .eq 7, 3) := by decide +kernel
theorem dX12_run_135 : decode cX12_run 135 = .ok (.iconst 1, 1) := by decide +kernel
theorem dX12_run_136 : decode cX12_run 136 = .ok (.goto 4, 3) := by decide +kernel
theorem dX12_run_139 : decode cX12_run 139 = .ok (.iconst 0, 1) := by decide +kernel
theorem dX12_run_140 : decode cX12_run 140 = .ok (.iadd, 1) := by decide +kernel
theorem dX12_run_141 : decode cX12_run 141 = .ok (.istore_n 3, 1) := by decide +kernel
theorem dX12_run_142 : decode cX12_run 142 = .ok (.iinc 4 1, 3) := by decide +kernel
theorem dX12_run_145 : decode cX12_run 145 = .ok (.goto (-32), 3) := by decide +kernel
theorem dX12_run_148 : decode cX12_run 148 = .ok (.iload_n 3, 1) := by decide +kernel
theorem dX12_run_149 : decode cX12_run 149 = .ok (.ireturn, 1) := by decide +kernel
theorem dX12_run_150 : decode cX12_run 150 = .ok (.iload_n 2, 1) := by decide +kernel
theorem dX12_run_151 : decode cX12_run 151 = .ok (.iconst 5, 1) := by decide +kernel
theorem dX12_run_152 : decode cX12_run 152 = .ok (.isub, 1) := by decide +kernel
theorem dX12_run_153 : decode cX12_run 153 = .ok (.iconst 0, 1) := by decide +kernel
theorem dX12_run_154 : decode cX12_run 154 = .ok (.aload_n 0, 1) := by decide +kernel
theorem dX12_run_155 : decode cX12_run 155 = .ok (.getfield 39, 3) := by decide +kernel
theorem dX12_run_158 : decode cX12_run 158 = .ok (.iload_n 1, 1) := by decide +kernel
theorem dX12_run_159 : decode cX12_run 159 = .ok (.iaload, 1) := by decide +kernel
theorem dX12_run_160 : decode cX12_run 160 = .ok (.iconst 1, 1) := by decide +kernel
theorem dX12_run_161 : decode cX12_run 161 = .ok (.isub, 1) := by decide +kernel
theorem dX12_run_162 : decode cX12_run 162 = .ok (.invokestatic 51, 3) := by decide +kernel
theorem dX12_run_165 : decode cX12_run 165 = .ok (.ifCond .eq 21, 3) := by decide +kernel
theorem dX12_run_168 : decode cX12_run 168 = .ok (.aload_n 0, 1) := by decide +kernel
theorem dX12_run_169 : decode cX12_run 169 = .ok (.getfield 30, 3) := by decide +kernel
theorem dX12_run_172 : decode cX12_run 172 = .ok (.aload_n 0, 1) := by decide +kernel
theorem dX12_run_173 : decode cX12_run 173 = .ok (.getfield 36, 3) := by decide +kernel
theorem dX12_run_176 : decode cX12_run 176 = .ok (.iload_n 1, 1) := by decide +kernel
theorem dX12_run_177 : decode cX12_run 177 = .ok (.iaload, 1) := by decide +kernel
theorem dX12_run_178 : decode cX12_run 178 = .ok (.iload_n 2, 1) := by decide +kernel
theorem dX12_run_179 : decode cX12_run 179 = .ok (.iadd, 1) := by decide +kernel
theorem dX12_run_180 : decode cX12_run 180 = .ok (.iconst 5, 1) := by decide +kernel
theorem dX12_run_181 : decode cX12_run 181 = .ok (.isub, 1) := by decide +kernel
theorem dX12_run_182 : decode cX12_run 182 = .ok (.iaload, 1) := by decide +kernel
theorem dX12_run_183 : decode cX12_run 183 = .ok (.goto 4, 3) := by decide +kernel
theorem dX12_run_186 : decode cX12_run 186 = .ok (.iconst (-1), 1) := by decide +kernel
theorem dX12_run_187 : decode cX12_run 187 = .ok (.ireturn, 1) := by decide +kernel
set_option maxRecDepth 20000 in
theorem ggX12_of_X12_laysAll : GoodIn wsX12_of wsX12_laysAll := goodIn_r _ [7, 8, 9, 10, 6, 11, 12, 2, 13, 14, 15, 16, 17, 18, 19, 20, 21, 22, 23, 24, 25, 26, 27, 28, 29, 30, 31, 32, 33, 1, 34, 35, 36, 37, 38, 39, 40, 41, 42, 43, 44, 45, 46, 47, 48, 49, 50, 51, 52, 53, 54, 55, 56, 68, 69, 70, 71, 72, 73, 74, 75, 76, 77, 78, 79, 80, 81, 82, 83, 84, 85, 86, 87] (by decide +kernel) (by decide +kernel)
set_option maxRecDepth 20000 in
theorem gX12_of_X12_laysAll : GoodIn wsX12_of (wsV RX12 147 RX12 yX12_laysAll wsX12_laysAll) := goodIn_app (goodIn_of _ (by decide +kernel)) ggX12_of_X12_laysAll
set_option maxRecDepth 20000 in
theorem ggX12_of_X12_isIn : GoodIn wsX12_of wsX12_isIn := goodIn_r _ [59] (by decide +kernel) (by decide +kernel)
set_option maxRecDepth 20000 in
theorem gX12_of_X12_isIn : GoodIn wsX12_of (va_wsS RX12 51 yX12_isIn wsX12_isIn) := goodIn_app (goodIn_of _ (by decide +kernel)) ggX12_of_X12_isIn
set_option maxRecDepth 20000 in
theorem ggX12_of_X12_isOf : GoodIn wsX12_of wsX12_isOf := goodIn_r _ [63, 12, 20, 64, 65, 66, 6, 67, 38, 21, 36, 37, 13, 14, 15, 26, 27, 28, 29, 2, 68, 69, 70, 71, 72, 73, 74, 75, 76, 77, 78, 79, 80, 81, 82, 83, 84, 85, 86, 87] (by decide +kernel) (by decide +kernel)
set_option maxRecDepth 20000 in
theorem gX12_of_X12_isOf : GoodIn wsX12_of (wsV RX12 131 RX12 yX12_isOf wsX12_isOf) := goodIn_app (goodIn_of _ (by decide +kernel)) ggX12_of_X12_isOf
theorem dX12_of_0 : decode cX12_of 0 = .ok (.aload_n 0, 1) := by decide +kernel
theorem dX12_of_1 : decode cX12_of 1 = .ok (.invokevirtual 147, 3) := by decide +kernel
theorem dX12_of_4 : decode cX12_of 4 = .ok (.iload_n 1, 1) := by decide +kernel
theorem dX12_of_5 : decode cX12_of 5 = .ok (.iconst 0, 1) := by decide +kernel
theorem dX12_of_6 : decode cX12_of 6 = .ok (.aload_n 0, 1) := by decide +kernel
theorem dX12_of_7 : decode cX12_of 7 = .ok (.getfield 122, 3) := by decide +kernel
theorem dX12_of_10 : decode cX12_of 10 = .ok (.iconst 1, 1) := by decide +kernel
theorem dX12_of_11 : decode cX12_of 11 = .ok (.isub, 1) := by decide +kernel
theorem dX12_of_12 : decode cX12_of 12 = .ok (.invokestatic 51, 3) := by decide +kernel
theorem dX12_of_15 : decode cX12_of 15 = .ok (.ifCond .ne 5, 3) := by decide +kernel
theorem dX12_of_18 : decode cX12_of 18 = .ok (.iconst (-1), 1) := by decide +kernel
theorem dX12_of_19 : decode cX12_of 19 = .ok (.ireturn, 1) := by decide +kernel
theorem dX12_of_20 : decode cX12_of 20 = .ok (.iconst 0, 1) := by decide +kernel
theorem dX12_of_21 : decode cX12_of 21 = .ok (.istore_n 3, 1) := by decide +kernel
theorem dX12_of_22 : decode cX12_of 22 = .ok (.iconst 0, 1) := by decide +kernel
theorem dX12_of_23 : decode cX12_of 23 = .ok (.istore 4, 2) := by decide +kernel
theorem dX12_of_25 : decode cX12_of 25 = .ok (.iload 4, 2) := by decide +kernel
theorem dX12_of_27 : decode cX12_of 27 = .ok (.aload_n 0, 1) := by decide +kernel
theorem dX12_of_28 : decode cX12_of 28 = .ok (.getfield 7, 3) := by decide +kernel
theorem dX12_of_31 : decode cX12_of 31 = .ok (.iconst 0, 1) := by decide +kernel
theorem dX12_of_32 : decode cX12_of 32 = .ok (.iaload, 1) := by decide +kernel
theorem dX12_of_33 : decode cX12_of 33 = .ok (.if_icmp .ge 33, 3) := by decide +kernel
theorem dX12_of_36 : decode cX12_of 36 = .ok (.aload_n 0, 1) := by decide +kernel
theorem dX12_of_37 : decode cX12_of 37 = .ok (.iload 4, 2) := by decide +kernel
theorem dX12_of_39 : decode cX12_of 39 = .ok (.iload_n 1, 1) := by decide +kernel
theorem dX12_of_40 : decode cX12_of 40 = .ok (.invokevirtual 131, 3) := by decide +kernel
theorem dX12_of_43 : decode cX12_of 43 = .ok (.ifCond .ne 6, 3) := by decide +kernel
theorem dX12_of_46 : decode cX12_of 46 = .ok (.goto 14, 3) := by decide +kernel
theorem dX12_of_49 : decode cX12_of 49 = .ok (.iload_n 3, 1) := by decide +kernel
theorem dX12_of_50 : decode cX12_of 50 = .ok (.iload_n 2, 1) := by decide +kernel
theorem dX12_of_51 : decode cX12_of 51 = .ok (.if_icmp .ne 6, 3) := by decide +kernel
theorem dX12_of_54 : decode cX12_of 54 = .ok (.iload 4, 2) := by decide +kernel
theorem dX12_of_56 : decode cX12_of 56 = .ok (.ireturn, 1) := by decide +kernel
theorem dX12_of_57 : decode cX12_of 57 = .ok (.iinc 3 1, 3) := by decide +kernel
theorem dX12_of_60 : decode cX12_of 60 = .ok (.iinc 4 1, 3) := by decide +kernel
theorem dX12_of_63 : decode cX12_of 63 = .ok (.goto (-38), 3) := by decide +kernel
theorem dX12_of_66 : decode cX12_of 66 = .ok (.iconst (-1), 1) := by decide +kernel
theorem dX12_of_67 : decode cX12_of 67 = .ok (.ireturn, 1) := by decide +kernel
set_option maxRecDepth 20000 in
theorem ggX12_shared_X12_laysAll : GoodIn wsX12_shared wsX12_laysAll := goodIn_r _ [6, 7, 8, 9, 5, 10, 11, 1, 12, 13, 14, 15, 16, 17, 18, 19, 20, 21, 22, 23, 24, 25, 26, 27, 28, 29, 30, 31, 32, 33, 34, 35, 36, 37, 38, 39, 40, 41, 42, 43, 44, 45, 46, 47, 48, 49, 50, 51, 52, 53, 54, 55, 56, 69, 70, 71, 72, 73, 74, 75, 76, 77, 78, 79, 80, 81, 82, 83, 84, 85, 86, 87, 88] (by decide +kernel) (by decide +kernel)
set_option maxRecDepth 20000 in
theorem gX12_shared_X12_laysAll : GoodIn wsX12_shared (wsV RX12 147 RX12 yX12_laysAll wsX12_laysAll) := goodIn_app (goodIn_of _ (by decide +kernel)) ggX12_shared_X12_laysAll
set_option maxRecDepth 20000 in
theorem ggX12_shared_X12_isShared : GoodIn wsX12_shared wsX12_isShared := goodIn_r _ [60, 33, 61, 62, 63, 5, 64, 11, 19, 65, 66, 67, 68, 38, 20, 36, 37, 12, 13, 14, 25, 26, 27, 28, 1, 69, 70, 71, 72, 73, 74, 75, 76, 77, 78, 79, 80, 81, 82, 83, 84, 85, 86, 87, 88] (by decide +kernel) (by decide +kernel)
set_option maxRecDepth 20000 in
theorem gX12_shared_X12_isShared : GoodIn wsX12_shared (wsV RX12 150 RX12 yX12_isShared wsX12_isShared) := goodIn_app (goodIn_of _ (by decide +kernel)) ggX12_shared_X12_isShared
theorem dX12_shared_0 : decode cX12_shared 0 = .ok (.aload_n 0, 1) := by decide +kernel
theorem dX12_shared_1 : decode cX12_shared 1 = .ok (.invokevirtual 147, 3) := by decide +kernel
theorem dX12_shared_4 : decode cX12_shared 4 = .ok (.iconst 0, 1) := by decide +kernel
theorem dX12_shared_5 : decode cX12_shared 5 = .ok (.istore_n 2, 1) := by decide +kernel
theorem dX12_shared_6 : decode cX12_shared 6 = .ok (.iconst 0, 1) := by decide +kernel
theorem dX12_shared_7 : decode cX12_shared 7 = .ok (.istore_n 3, 1) := by decide +kernel
theorem dX12_shared_8 : decode cX12_shared 8 = .ok (.iload_n 3, 1) := by decide +kernel
theorem dX12_shared_9 : decode cX12_shared 9 = .ok (.aload_n 0, 1) := by decide +kernel
theorem dX12_shared_10 : decode cX12_shared 10 = .ok (.getfield 7, 3) := by decide +kernel
theorem dX12_shared_13 : decode cX12_shared 13 = .ok (.iconst 0, 1) := by decide +kernel
theorem dX12_shared_14 : decode cX12_shared 14 = .ok (.iaload, 1) := by decide +kernel
theorem dX12_shared_15 : decode cX12_shared 15 = .ok (.if_icmp .ge 30, 3) := by decide +kernel
theorem dX12_shared_18 : decode cX12_shared 18 = .ok (.aload_n 0, 1) := by decide +kernel
theorem dX12_shared_19 : decode cX12_shared 19 = .ok (.iload_n 3, 1) := by decide +kernel
theorem dX12_shared_20 : decode cX12_shared 20 = .ok (.invokevirtual 150, 3) := by decide +kernel
theorem dX12_shared_23 : decode cX12_shared 23 = .ok (.ifCond .ne 6, 3) := by decide +kernel
theorem dX12_shared_26 : decode cX12_shared 26 = .ok (.goto 13, 3) := by decide +kernel
theorem dX12_shared_29 : decode cX12_shared 29 = .ok (.iload_n 2, 1) := by decide +kernel
theorem dX12_shared_30 : decode cX12_shared 30 = .ok (.iload_n 1, 1) := by decide +kernel
theorem dX12_shared_31 : decode cX12_shared 31 = .ok (.if_icmp .ne 5, 3) := by decide +kernel
theorem dX12_shared_34 : decode cX12_shared 34 = .ok (.iload_n 3, 1) := by decide +kernel
theorem dX12_shared_35 : decode cX12_shared 35 = .ok (.ireturn, 1) := by decide +kernel
theorem dX12_shared_36 : decode cX12_shared 36 = .ok (.iinc 2 1, 3) := by decide +kernel
theorem dX12_shared_39 : decode cX12_shared 39 = .ok (.iinc 3 1, 3) := by decide +kernel
theorem dX12_shared_42 : decode cX12_shared 42 = .ok (.goto (-34), 3) := by decide +kernel
theorem dX12_shared_45 : decode cX12_shared 45 = .ok (.iconst (-1), 1) := by decide +kernel
theorem dX12_shared_46 : decode cX12_shared 46 = .ok (.ireturn, 1) := by decide +kernel
set_option maxRecDepth 20000 in
theorem ggX12_isAlone_X12_wordAt : GoodIn wsX12_isAlone wsX12_wordAt := goodIn_r _ [7] (by decide +kernel) (by decide +kernel)
set_option maxRecDepth 20000 in
theorem gX12_isAlone_X12_wordAt : GoodIn wsX12_isAlone (va_wsS RX12 55 yX12_wordAt wsX12_wordAt) := goodIn_app (goodIn_of _ (by decide +kernel)) ggX12_isAlone_X12_wordAt
set_option maxRecDepth 20000 in
theorem ggX12_isAlone_X12_signAt : GoodIn wsX12_isAlone wsX12_signAt := goodIn_r _ [11, 12, 13, 14, 15, 16, 17, 18, 19, 20, 21, 22, 23, 24, 25, 26, 27, 28, 29, 30, 31, 32] (by decide +kernel) (by decide +kernel)
set_option maxRecDepth 20000 in
theorem gX12_isAlone_X12_signAt : GoodIn wsX12_isAlone (wsV RX12 83 RX12 yX12_signAt wsX12_signAt) := goodIn_app (goodIn_of _ (by decide +kernel)) ggX12_isAlone_X12_signAt
theorem dX12_isAlone_0 : decode cX12_isAlone 0 = .ok (.iconst 0, 1) := by decide +kernel
theorem dX12_isAlone_1 : decode cX12_isAlone 1 = .ok (.istore 4, 2) := by decide +kernel
theorem dX12_isAlone_3 : decode cX12_isAlone 3 = .ok (.iload 4, 2) := by decide +kernel
theorem dX12_isAlone_5 : decode cX12_isAlone 5 = .ok (.aload_n 0, 1) := by decide +kernel
theorem dX12_isAlone_6 : decode cX12_isAlone 6 = .ok (.getfield 87, 3) := by decide +kernel
theorem dX12_isAlone_9 : decode cX12_isAlone 9 = .ok (.if_icmp .ge 99, 3) := by decide +kernel
theorem dX12_isAlone_12 : decode cX12_isAlone 12 = .ok (.aload_n 0, 1) := by decide +kernel
theorem dX12_isAlone_13 : decode cX12_isAlone 13 = .ok (.getfield 24, 3) := by decide +kernel
theorem dX12_isAlone_16 : decode cX12_isAlone 16 = .ok (.iload 4, 2) := by decide +kernel
theorem dX12_isAlone_18 : decode cX12_isAlone 18 = .ok (.iaload, 1) := by decide +kernel
theorem dX12_isAlone_19 : decode cX12_isAlone 19 = .ok (.iload_n 1, 1) := by decide +kernel
theorem dX12_isAlone_20 : decode cX12_isAlone 20 = .ok (.if_icmp .ne 6, 3) := by decide +kernel
theorem dX12_isAlone_23 : decode cX12_isAlone 23 = .ok (.goto 79, 3) := by decide +kernel
theorem dX12_isAlone_26 : decode cX12_isAlone 26 = .ok (.iconst 1, 1) := by decide +kernel
theorem dX12_isAlone_27 : decode cX12_isAlone 27 = .ok (.istore 5, 2) := by decide +kernel
theorem dX12_isAlone_29 : decode cX12_isAlone 29 = .ok (.iconst 0, 1) := by decide +kernel
theorem dX12_isAlone_30 : decode cX12_isAlone 30 = .ok (.istore 6, 2) := by decide +kernel
theorem dX12_isAlone_32 : decode cX12_isAlone 32 = .ok (.iload 6, 2) := by decide +kernel
theorem dX12_isAlone_34 : decode cX12_isAlone 34 = .ok (.iload_n 3, 1) := by decide +kernel
theorem dX12_isAlone_35 : decode cX12_isAlone 35 = .ok (.if_icmp .ge 60, 3) := by decide +kernel
theorem dX12_isAlone_38 : decode cX12_isAlone 38 = .ok (.iload 5, 2) := by decide +kernel
theorem dX12_isAlone_40 : decode cX12_isAlone 40 = .ok (.ifCond .eq 55, 3) := by decide +kernel
theorem dX12_isAlone_43 : decode cX12_isAlone 43 = .ok (.aload_n 0, 1) := by decide +kernel
theorem dX12_isAlone_44 : decode cX12_isAlone 44 = .ok (.iconst 0, 1) := by decide +kernel
theorem dX12_isAlone_45 : decode cX12_isAlone 45 = .ok (.iload_n 1, 1) := by decide +kernel
theorem dX12_isAlone_46 : decode cX12_isAlone 46 = .ok (.invokestatic 55, 3) := by decide +kernel
theorem dX12_isAlone_49 : decode cX12_isAlone 49 = .ok (.iload_n 2, 1) := by decide +kernel
theorem dX12_isAlone_50 : decode cX12_isAlone 50 = .ok (.iload 6, 2) := by decide +kernel
theorem dX12_isAlone_52 : decode cX12_isAlone 52 = .ok (.invokevirtual 83, 3) := by decide +kernel
theorem dX12_isAlone_55 : decode cX12_isAlone 55 = .ok (.aload_n 0, 1) := by decide +kernel
theorem dX12_isAlone_56 : decode cX12_isAlone 56 = .ok (.iconst 0, 1) := by decide +kernel
theorem dX12_isAlone_57 : decode cX12_isAlone 57 = .ok (.aload_n 0, 1) := by decide +kernel
theorem dX12_isAlone_58 : decode cX12_isAlone 58 = .ok (.getfield 24, 3) := by decide +kernel
theorem dX12_isAlone_61 : decode cX12_isAlone 61 = .ok (.iload 4, 2) := by decide +kernel
theorem dX12_isAlone_63 : decode cX12_isAlone 63 = .ok (.iaload, 1) := by decide +kernel
theorem dX12_isAlone_64 : decode cX12_isAlone 64 = .ok (.invokestatic 55, 3) := by decide +kernel
theorem dX12_isAlone_67 : decode cX12_isAlone 67 = .ok (.aload_n 0, 1) := by decide +kernel
theorem dX12_isAlone_68 : decode cX12_isAlone 68 = .ok (.getfield 27, 3) := by decide +kernel
theorem dX12_isAlone_71 : decode cX12_isAlone 71 = .ok (.iload 4, 2) := by decide +kernel
theorem dX12_isAlone_73 : decode cX12_isAlone 73 = .ok (.iaload, 1) := by decide +kernel
theorem dX12_isAlone_74 : decode cX12_isAlone 74 = .ok (.iload 6, 2) := by decide +kernel
theorem dX12_isAlone_76 : decode cX12_isAlone 76 = .ok (.invokevirtual 83, 3) := by decide +kernel
theorem dX12_isAlone_79 : decode cX12_isAlone 79 = .ok (.if_icmp .ne 7, 3) := by decide +kernel
theorem dX12_isAlone_82 : decode cX12_isAlone 82 = .ok (.iconst 1, 1) := by decide +kernel
theorem dX12_isAlone_83 : decode cX12_isAlone 83 = .ok (.goto 4, 3) := by decide +kernel
theorem dX12_isAlone_86 : decode cX12_isAlone 86 = .ok (.iconst 0, 1) := by decide +kernel
theorem dX12_isAlone_87 : decode cX12_isAlone 87 = .ok (.istore 5, 2) := by decide +kernel
theorem dX12_isAlone_89 : decode cX12_isAlone 89 = .ok (.iinc 6 1, 3) := by decide +kernel
theorem dX12_isAlone_92 : decode cX12_isAlone 92 = .ok (.goto (-60), 3) := by decide +kernel
theorem dX12_isAlone_95 : decode cX12_isAlone 95 = .ok (.iload 5, 2) := by decide +kernel
theorem dX12_isAlone_97 : decode cX12_isAlone 97 = .ok (.ifCond .eq 5, 3) := by decide +kernel
theorem dX12_isAlone_100 : decode cX12_isAlone 100 = .ok (.iconst 0, 1) := by decide +kernel
theorem dX12_isAlone_101 : decode cX12_isAlone 101 = .ok (.ireturn, 1) := by decide +kernel
theorem dX12_isAlone_102 : decode cX12_isAlone 102 = .ok (.iinc 4 1, 3) := by decide +kernel
theorem dX12_isAlone_105 : decode cX12_isAlone 105 = .ok (.goto (-102), 3) := by decide +kernel
theorem dX12_isAlone_108 : decode cX12_isAlone 108 = .ok (.iconst 1, 1) := by decide +kernel
theorem dX12_isAlone_109 : decode cX12_isAlone 109 = .ok (.ireturn, 1) := by decide +kernel
set_option maxRecDepth 20000 in
theorem ggX12_alone_X12_isIn : GoodIn wsX12_alone wsX12_isIn := goodIn_r _ [5] (by decide +kernel) (by decide +kernel)
set_option maxRecDepth 20000 in
theorem gX12_alone_X12_isIn : GoodIn wsX12_alone (va_wsS RX12 51 yX12_isIn wsX12_isIn) := goodIn_app (goodIn_of _ (by decide +kernel)) ggX12_alone_X12_isIn
set_option maxRecDepth 20000 in
theorem ggX12_alone_X12_laysTurns : GoodIn wsX12_alone wsX12_laysTurns := goodIn_r _ [9, 10, 1, 11, 12, 4, 13, 14, 15, 16, 17, 18, 19, 20, 21, 22, 23, 24, 25, 26, 27, 36, 37, 38, 39, 40, 41, 42, 43, 44, 45, 46, 47, 48, 49, 50, 51, 52, 53, 54, 55] (by decide +kernel) (by decide +kernel)
set_option maxRecDepth 20000 in
theorem gX12_alone_X12_laysTurns : GoodIn wsX12_alone (wsV RX12 134 RX12 yX12_laysTurns wsX12_laysTurns) := goodIn_app (goodIn_of _ (by decide +kernel)) ggX12_alone_X12_laysTurns
set_option maxRecDepth 20000 in
theorem ggX12_alone_X12_wordAt : GoodIn wsX12_alone wsX12_wordAt := goodIn_r _ [13] (by decide +kernel) (by decide +kernel)
set_option maxRecDepth 20000 in
theorem gX12_alone_X12_wordAt : GoodIn wsX12_alone (va_wsS RX12 55 yX12_wordAt wsX12_wordAt) := goodIn_app (goodIn_of _ (by decide +kernel)) ggX12_alone_X12_wordAt
set_option maxRecDepth 20000 in
theorem ggX12_alone_X12_isAlone : GoodIn wsX12_alone wsX12_isAlone := goodIn_r _ [31, 10, 18, 19, 11, 12, 4, 13, 24, 25, 26, 27, 1, 36, 37, 38, 39, 40, 41, 42, 43, 44, 45, 46, 47, 48, 49, 50, 51, 52, 53, 54, 55] (by decide +kernel) (by decide +kernel)
set_option maxRecDepth 20000 in
theorem gX12_alone_X12_isAlone : GoodIn wsX12_alone (wsV RX12 186 RX12 yX12_isAlone wsX12_isAlone) := goodIn_app (goodIn_of _ (by decide +kernel)) ggX12_alone_X12_isAlone
set_option maxRecDepth 20000 in
theorem ggX12_alone_X12_turnOf : GoodIn wsX12_alone wsX12_turnOf := goodIn_r _ [35, 18, 19, 36, 37, 38, 39, 40, 41, 42, 43, 44, 45, 46, 47, 48, 49, 50, 51, 52, 53, 54, 55] (by decide +kernel) (by decide +kernel)
set_option maxRecDepth 20000 in
theorem gX12_alone_X12_turnOf : GoodIn wsX12_alone (wsV RX12 189 RX12 yX12_turnOf wsX12_turnOf) := goodIn_app (goodIn_of _ (by decide +kernel)) ggX12_alone_X12_turnOf
theorem dX12_alone_0 : decode cX12_alone 0 = .ok (.iload_n 1, 1) := by decide +kernel
theorem dX12_alone_1 : decode cX12_alone 1 = .ok (.iconst 0, 1) := by decide +kernel
theorem dX12_alone_2 : decode cX12_alone 2 = .ok (.aload_n 0, 1) := by decide +kernel
theorem dX12_alone_3 : decode cX12_alone 3 = .ok (.getfield 7, 3) := by decide +kernel
theorem dX12_alone_6 : decode cX12_alone 6 = .ok (.iconst 0, 1) := by decide +kernel
theorem dX12_alone_7 : decode cX12_alone 7 = .ok (.iaload, 1) := by decide +kernel
theorem dX12_alone_8 : decode cX12_alone 8 = .ok (.iconst 1, 1) := by decide +kernel
theorem dX12_alone_9 : decode cX12_alone 9 = .ok (.isub, 1) := by decide +kernel
theorem dX12_alone_10 : decode cX12_alone 10 = .ok (.invokestatic 51, 3) := by decide +kernel
theorem dX12_alone_13 : decode cX12_alone 13 = .ok (.ifCond .eq 12, 3) := by decide +kernel
theorem dX12_alone_16 : decode cX12_alone 16 = .ok (.iload_n 2, 1) := by decide +kernel
theorem dX12_alone_17 : decode cX12_alone 17 = .ok (.iconst 0, 1) := by decide +kernel
theorem dX12_alone_18 : decode cX12_alone 18 = .ok (.iconst 2, 1) := by decide +kernel
theorem dX12_alone_19 : decode cX12_alone 19 = .ok (.invokestatic 51, 3) := by decide +kernel
theorem dX12_alone_22 : decode cX12_alone 22 = .ok (.ifCond .ne 5, 3) := by decide +kernel
theorem dX12_alone_25 : decode cX12_alone 25 = .ok (.iconst (-1), 1) := by decide +kernel
theorem dX12_alone_26 : decode cX12_alone 26 = .ok (.ireturn, 1) := by decide +kernel
theorem dX12_alone_27 : decode cX12_alone 27 = .ok (.aload_n 0, 1) := by decide +kernel
theorem dX12_alone_28 : decode cX12_alone 28 = .ok (.iconst 0, 1) := by decide +kernel
theorem dX12_alone_29 : decode cX12_alone 29 = .ok (.invokevirtual 134, 3) := by decide +kernel
theorem dX12_alone_32 : decode cX12_alone 32 = .ok (.aload_n 0, 1) := by decide +kernel
theorem dX12_alone_33 : decode cX12_alone 33 = .ok (.getfield 7, 3) := by decide +kernel
theorem dX12_alone_36 : decode cX12_alone 36 = .ok (.iconst 0, 1) := by decide +kernel
theorem dX12_alone_37 : decode cX12_alone 37 = .ok (.iload_n 1, 1) := by decide +kernel
theorem dX12_alone_38 : decode cX12_alone 38 = .ok (.invokestatic 55, 3) := by decide +kernel
theorem dX12_alone_41 : decode cX12_alone 41 = .ok (.iaload, 1) := by decide +kernel
theorem dX12_alone_42 : decode cX12_alone 42 = .ok (.istore_n 3, 1) := by decide +kernel
theorem dX12_alone_43 : decode cX12_alone 43 = .ok (.iconst 1, 1) := by decide +kernel
theorem dX12_alone_44 : decode cX12_alone 44 = .ok (.istore 4, 2) := by decide +kernel
theorem dX12_alone_46 : decode cX12_alone 46 = .ok (.iload 4, 2) := by decide +kernel
theorem dX12_alone_48 : decode cX12_alone 48 = .ok (.iload_n 3, 1) := by decide +kernel
theorem dX12_alone_49 : decode cX12_alone 49 = .ok (.iconst 1, 1) := by decide +kernel
theorem dX12_alone_50 : decode cX12_alone 50 = .ok (.iadd, 1) := by decide +kernel
theorem dX12_alone_51 : decode cX12_alone 51 = .ok (.if_icmp .gt 63, 3) := by decide +kernel
theorem dX12_alone_54 : decode cX12_alone 54 = .ok (.iconst 0, 1) := by decide +kernel
theorem dX12_alone_55 : decode cX12_alone 55 = .ok (.istore 5, 2) := by decide +kernel
theorem dX12_alone_57 : decode cX12_alone 57 = .ok (.iload 5, 2) := by decide +kernel
theorem dX12_alone_59 : decode cX12_alone 59 = .ok (.iload_n 3, 1) := by decide +kernel
theorem dX12_alone_60 : decode cX12_alone 60 = .ok (.if_icmp .gt 48, 3) := by decide +kernel
theorem dX12_alone_63 : decode cX12_alone 63 = .ok (.aload_n 0, 1) := by decide +kernel
theorem dX12_alone_64 : decode cX12_alone 64 = .ok (.iload_n 1, 1) := by decide +kernel
theorem dX12_alone_65 : decode cX12_alone 65 = .ok (.iload 5, 2) := by decide +kernel
theorem dX12_alone_67 : decode cX12_alone 67 = .ok (.iload 4, 2) := by decide +kernel
theorem dX12_alone_69 : decode cX12_alone 69 = .ok (.invokevirtual 186, 3) := by decide +kernel
theorem dX12_alone_72 : decode cX12_alone 72 = .ok (.ifCond .eq 30, 3) := by decide +kernel
theorem dX12_alone_75 : decode cX12_alone 75 = .ok (.iload_n 2, 1) := by decide +kernel
theorem dX12_alone_76 : decode cX12_alone 76 = .ok (.ifCond .ne 8, 3) := by decide +kernel
theorem dX12_alone_79 : decode cX12_alone 79 = .ok (.iload 4, 2) := by decide +kernel
theorem dX12_alone_81 : decode cX12_alone 81 = .ok (.goto 20, 3) := by decide +kernel
theorem dX12_alone_84 : decode cX12_alone 84 = .ok (.iload_n 2, 1) := by decide +kernel
theorem dX12_alone_85 : decode cX12_alone 85 = .ok (.iconst 1, 1) := by decide +kernel
theorem dX12_alone_86 : decode cX12_alone 86 = .ok (.if_icmp .ne 8, 3) := by decide +kernel
theorem dX12_alone_89 : decode cX12_alone 89 = .ok (.iload 5, 2) := by decide +kernel
theorem dX12_alone_91 : decode cX12_alone 91 = .ok (.goto 10, 3) := by decide +kernel
theorem dX12_alone_94 : decode cX12_alone 94 = .ok (.aload_n 0, 1) := by decide +kernel
theorem dX12_alone_95 : decode cX12_alone 95 = .ok (.iload_n 1, 1) := by decide +kernel
theorem dX12_alone_96 : decode cX12_alone 96 = .ok (.iload 5, 2) := by decide +kernel
theorem dX12_alone_98 : decode cX12_alone 98 = .ok (.invokevirtual 189, 3) := by decide +kernel
theorem dX12_alone_101 : decode cX12_alone 101 = .ok (.ireturn, 1) := by decide +kernel
theorem dX12_alone_102 : decode cX12_alone 102 = .ok (.iinc 5 1, 3) := by decide +kernel
theorem dX12_alone_105 : decode cX12_alone 105 = .ok (.goto (-48), 3) := by decide +kernel
theorem dX12_alone_108 : decode cX12_alone 108 = .ok (.iinc 4 1, 3) := by decide +kernel
theorem dX12_alone_111 : decode cX12_alone 111 = .ok (.goto (-65), 3) := by decide +kernel
theorem dX12_alone_114 : decode cX12_alone 114 = .ok (.bipush (-2), 2) := by decide +kernel
theorem dX12_alone_116 : decode cX12_alone 116 = .ok (.ireturn, 1) := by decide +kernel
theorem dX12_areNear_0 : decode cX12_areNear 0 = .ok (.iconst 0, 1) := by decide +kernel
theorem dX12_areNear_1 : decode cX12_areNear 1 = .ok (.istore_n 3, 1) := by decide +kernel
theorem dX12_areNear_2 : decode cX12_areNear 2 = .ok (.iconst 1, 1) := by decide +kernel
theorem dX12_areNear_3 : decode cX12_areNear 3 = .ok (.istore 4, 2) := by decide +kernel
theorem dX12_areNear_5 : decode cX12_areNear 5 = .ok (.iload 4, 2) := by decide +kernel
theorem dX12_areNear_7 : decode cX12_areNear 7 = .ok (.aload_n 0, 1) := by decide +kernel
theorem dX12_areNear_8 : decode cX12_areNear 8 = .ok (.getfield 7, 3) := by decide +kernel
theorem dX12_areNear_11 : decode cX12_areNear 11 = .ok (.iload_n 1, 1) := by decide +kernel
theorem dX12_areNear_12 : decode cX12_areNear 12 = .ok (.iaload, 1) := by decide +kernel
theorem dX12_areNear_13 : decode cX12_areNear 13 = .ok (.if_icmp .gt 38, 3) := by decide +kernel
theorem dX12_areNear_16 : decode cX12_areNear 16 = .ok (.iload_n 3, 1) := by decide +kernel
theorem dX12_areNear_17 : decode cX12_areNear 17 = .ok (.aload_n 0, 1) := by decide +kernel
theorem dX12_areNear_18 : decode cX12_areNear 18 = .ok (.getfield 7, 3) := by decide +kernel
theorem dX12_areNear_21 : decode cX12_areNear 21 = .ok (.iload_n 1, 1) := by decide +kernel
theorem dX12_areNear_22 : decode cX12_areNear 22 = .ok (.iload 4, 2) := by decide +kernel
theorem dX12_areNear_24 : decode cX12_areNear 24 = .ok (.iadd, 1) := by decide +kernel
theorem dX12_areNear_25 : decode cX12_areNear 25 = .ok (.iaload, 1) := by decide +kernel
theorem dX12_areNear_26 : decode cX12_areNear 26 = .ok (.aload_n 0, 1) := by decide +kernel
theorem dX12_areNear_27 : decode cX12_areNear 27 = .ok (.getfield 7, 3) := by decide +kernel
theorem dX12_areNear_30 : decode cX12_areNear 30 = .ok (.iload_n 2, 1) := by decide +kernel
theorem dX12_areNear_31 : decode cX12_areNear 31 = .ok (.iload 4, 2) := by decide +kernel
theorem dX12_areNear_33 : decode cX12_areNear 33 = .ok (.iadd, 1) := by decide +kernel
theorem dX12_areNear_34 : decode cX12_areNear 34 = .ok (.iaload, 1) := by decide +kernel
theorem dX12_areNear_35 : decode cX12_areNear 35 = .ok (.if_icmp .eq 7, 3) := by decide +kernel
theorem dX12_areNear_38 : decode cX12_areNear 38 = .ok (.iconst 1, 1) := by decide +kernel
theorem dX12_areNear_39 : decode cX12_areNear 39 = .ok (.goto 4, 3) := by decide +kernel
theorem dX12_areNear_42 : decode cX12_areNear 42 = .ok (.iconst 0, 1) := by decide +kernel
theorem dX12_areNear_43 : decode cX12_areNear 43 = .ok (.iadd, 1) := by decide +kernel
theorem dX12_areNear_44 : decode cX12_areNear 44 = .ok (.istore_n 3, 1) := by decide +kernel
theorem dX12_areNear_45 : decode cX12_areNear 45 = .ok (.iinc 4 1, 3) := by decide +kernel
theorem dX12_areNear_48 : decode cX12_areNear 48 = .ok (.goto (-43), 3) := by decide +kernel
theorem dX12_areNear_51 : decode cX12_areNear 51 = .ok (.aload_n 0, 1) := by decide +kernel
theorem dX12_areNear_52 : decode cX12_areNear 52 = .ok (.getfield 7, 3) := by decide +kernel
theorem dX12_areNear_55 : decode cX12_areNear 55 = .ok (.iload_n 1, 1) := by decide +kernel
theorem dX12_areNear_56 : decode cX12_areNear 56 = .ok (.iaload, 1) := by decide +kernel
theorem dX12_areNear_57 : decode cX12_areNear 57 = .ok (.aload_n 0, 1) := by decide +kernel
theorem dX12_areNear_58 : decode cX12_areNear 58 = .ok (.getfield 7, 3) := by decide +kernel
theorem dX12_areNear_61 : decode cX12_areNear 61 = .ok (.iload_n 2, 1) := by decide +kernel
theorem dX12_areNear_62 : decode cX12_areNear 62 = .ok (.iaload, 1) := by decide +kernel
theorem dX12_areNear_63 : decode cX12_areNear 63 = .ok (.if_icmp .ne 12, 3) := by decide +kernel
theorem dX12_areNear_66 : decode cX12_areNear 66 = .ok (.iload_n 3, 1) := by decide +kernel
theorem dX12_areNear_67 : decode cX12_areNear 67 = .ok (.iconst 1, 1) := by decide +kernel
theorem dX12_areNear_68 : decode cX12_areNear 68 = .ok (.if_icmp .ne 7, 3) := by decide +kernel
theorem dX12_areNear_71 : decode cX12_areNear 71 = .ok (.iconst 1, 1) := by decide +kernel
theorem dX12_areNear_72 : decode cX12_areNear 72 = .ok (.goto 4, 3) := by decide +kernel
theorem dX12_areNear_75 : decode cX12_areNear 75 = .ok (.iconst 0, 1) := by decide +kernel
theorem dX12_areNear_76 : decode cX12_areNear 76 = .ok (.ireturn, 1) := by decide +kernel
set_option maxRecDepth 20000 in
theorem ggX12_near_X12_isIn : GoodIn wsX12_near wsX12_isIn := goodIn_r _ [5] (by decide +kernel) (by decide +kernel)
set_option maxRecDepth 20000 in
theorem gX12_near_X12_isIn : GoodIn wsX12_near (va_wsS RX12 51 yX12_isIn wsX12_isIn) := goodIn_app (goodIn_of _ (by decide +kernel)) ggX12_near_X12_isIn
set_option maxRecDepth 20000 in
theorem ggX12_near_X12_wordAt : GoodIn wsX12_near wsX12_wordAt := goodIn_r _ [8] (by decide +kernel) (by decide +kernel)
set_option maxRecDepth 20000 in
theorem gX12_near_X12_wordAt : GoodIn wsX12_near (va_wsS RX12 55 yX12_wordAt wsX12_wordAt) := goodIn_app (goodIn_of _ (by decide +kernel)) ggX12_near_X12_wordAt
set_option maxRecDepth 20000 in
theorem ggX12_near_X12_areNear : GoodIn wsX12_near wsX12_areNear := goodIn_r _ [12, 1, 13, 14, 15, 16, 17, 18, 19, 20, 21, 22, 23, 24, 25, 26, 27, 28, 29, 30, 31, 32] (by decide +kernel) (by decide +kernel)
set_option maxRecDepth 20000 in
theorem gX12_near_X12_areNear : GoodIn wsX12_near (wsV RX12 192 RX12 yX12_areNear wsX12_areNear) := goodIn_app (goodIn_of _ (by decide +kernel)) ggX12_near_X12_areNear
theorem dX12_near_0 : decode cX12_near 0 = .ok (.iload_n 1, 1) := by decide +kernel
theorem dX12_near_1 : decode cX12_near 1 = .ok (.iconst 0, 1) := by decide +kernel
theorem dX12_near_2 : decode cX12_near 2 = .ok (.aload_n 0, 1) := by decide +kernel
theorem dX12_near_3 : decode cX12_near 3 = .ok (.getfield 7, 3) := by decide +kernel
theorem dX12_near_6 : decode cX12_near 6 = .ok (.iconst 0, 1) := by decide +kernel
theorem dX12_near_7 : decode cX12_near 7 = .ok (.iaload, 1) := by decide +kernel
theorem dX12_near_8 : decode cX12_near 8 = .ok (.iconst 1, 1) := by decide +kernel
theorem dX12_near_9 : decode cX12_near 9 = .ok (.isub, 1) := by decide +kernel
theorem dX12_near_10 : decode cX12_near 10 = .ok (.invokestatic 51, 3) := by decide +kernel
theorem dX12_near_13 : decode cX12_near 13 = .ok (.ifCond .ne 6, 3) := by decide +kernel
theorem dX12_near_16 : decode cX12_near 16 = .ok (.bipush (-2), 2) := by decide +kernel
theorem dX12_near_18 : decode cX12_near 18 = .ok (.ireturn, 1) := by decide +kernel
theorem dX12_near_19 : decode cX12_near 19 = .ok (.iconst 0, 1) := by decide +kernel
theorem dX12_near_20 : decode cX12_near 20 = .ok (.istore_n 3, 1) := by decide +kernel
theorem dX12_near_21 : decode cX12_near 21 = .ok (.iconst 0, 1) := by decide +kernel
theorem dX12_near_22 : decode cX12_near 22 = .ok (.istore 4, 2) := by decide +kernel
theorem dX12_near_24 : decode cX12_near 24 = .ok (.iload 4, 2) := by decide +kernel
theorem dX12_near_26 : decode cX12_near 26 = .ok (.aload_n 0, 1) := by decide +kernel
theorem dX12_near_27 : decode cX12_near 27 = .ok (.getfield 7, 3) := by decide +kernel
theorem dX12_near_30 : decode cX12_near 30 = .ok (.iconst 0, 1) := by decide +kernel
theorem dX12_near_31 : decode cX12_near 31 = .ok (.iaload, 1) := by decide +kernel
theorem dX12_near_32 : decode cX12_near 32 = .ok (.if_icmp .ge 41, 3) := by decide +kernel
theorem dX12_near_35 : decode cX12_near 35 = .ok (.aload_n 0, 1) := by decide +kernel
theorem dX12_near_36 : decode cX12_near 36 = .ok (.iconst 0, 1) := by decide +kernel
theorem dX12_near_37 : decode cX12_near 37 = .ok (.iload_n 1, 1) := by decide +kernel
theorem dX12_near_38 : decode cX12_near 38 = .ok (.invokestatic 55, 3) := by decide +kernel
theorem dX12_near_41 : decode cX12_near 41 = .ok (.iconst 0, 1) := by decide +kernel
theorem dX12_near_42 : decode cX12_near 42 = .ok (.iload 4, 2) := by decide +kernel
theorem dX12_near_44 : decode cX12_near 44 = .ok (.invokestatic 55, 3) := by decide +kernel
theorem dX12_near_47 : decode cX12_near 47 = .ok (.invokevirtual 192, 3) := by decide +kernel
theorem dX12_near_50 : decode cX12_near 50 = .ok (.ifCond .ne 6, 3) := by decide +kernel
theorem dX12_near_53 : decode cX12_near 53 = .ok (.goto 14, 3) := by decide +kernel
theorem dX12_near_56 : decode cX12_near 56 = .ok (.iload_n 3, 1) := by decide +kernel
theorem dX12_near_57 : decode cX12_near 57 = .ok (.iload_n 2, 1) := by decide +kernel
theorem dX12_near_58 : decode cX12_near 58 = .ok (.if_icmp .ne 6, 3) := by decide +kernel
theorem dX12_near_61 : decode cX12_near 61 = .ok (.iload 4, 2) := by decide +kernel
theorem dX12_near_63 : decode cX12_near 63 = .ok (.ireturn, 1) := by decide +kernel
theorem dX12_near_64 : decode cX12_near 64 = .ok (.iinc 3 1, 3) := by decide +kernel
theorem dX12_near_67 : decode cX12_near 67 = .ok (.iinc 4 1, 3) := by decide +kernel
theorem dX12_near_70 : decode cX12_near 70 = .ok (.goto (-46), 3) := by decide +kernel
theorem dX12_near_73 : decode cX12_near 73 = .ok (.iload_n 2, 1) := by decide +kernel
theorem dX12_near_74 : decode cX12_near 74 = .ok (.iconst (-1), 1) := by decide +kernel
theorem dX12_near_75 : decode cX12_near 75 = .ok (.if_icmp .ne 7, 3) := by decide +kernel
theorem dX12_near_78 : decode cX12_near 78 = .ok (.iload_n 3, 1) := by decide +kernel
theorem dX12_near_79 : decode cX12_near 79 = .ok (.goto 5, 3) := by decide +kernel
theorem dX12_near_82 : decode cX12_near 82 = .ok (.bipush (-2), 2) := by decide +kernel
theorem dX12_near_84 : decode cX12_near 84 = .ok (.ireturn, 1) := by decide +kernel
theorem dX12_placesOf_0 : decode cX12_placesOf 0 = .ok (.iconst 0, 1) := by decide +kernel
theorem dX12_placesOf_1 : decode cX12_placesOf 1 = .ok (.istore_n 3, 1) := by decide +kernel
theorem dX12_placesOf_2 : decode cX12_placesOf 2 = .ok (.iconst 1, 1) := by decide +kernel
theorem dX12_placesOf_3 : decode cX12_placesOf 3 = .ok (.istore 4, 2) := by decide +kernel
theorem dX12_placesOf_5 : decode cX12_placesOf 5 = .ok (.iload 4, 2) := by decide +kernel
theorem dX12_placesOf_7 : decode cX12_placesOf 7 = .ok (.aload_n 0, 1) := by decide +kernel
theorem dX12_placesOf_8 : decode cX12_placesOf 8 = .ok (.getfield 7, 3) := by decide +kernel
theorem dX12_placesOf_11 : decode cX12_placesOf 11 = .ok (.iload_n 1, 1) := by decide +kernel
theorem dX12_placesOf_12 : decode cX12_placesOf 12 = .ok (.iaload, 1) := by decide +kernel
theorem dX12_placesOf_13 : decode cX12_placesOf 13 = .ok (.if_icmp .gt 35, 3) := by decide +kernel
theorem dX12_placesOf_16 : decode cX12_placesOf 16 = .ok (.iload_n 3, 1) := by decide +kernel
theorem dX12_placesOf_17 : decode cX12_placesOf 17 = .ok (.aload_n 0, 1) := by decide +kernel
theorem dX12_placesOf_18 : decode cX12_placesOf 18 = .ok (.getfield 7, 3) := by decide +kernel
theorem dX12_placesOf_21 : decode cX12_placesOf 21 = .ok (.iload_n 1, 1) := by decide +kernel
theorem dX12_placesOf_22 : decode cX12_placesOf 22 = .ok (.iload 4, 2) := by decide +kernel
theorem dX12_placesOf_24 : decode cX12_placesOf 24 = .ok (.iadd, 1) := by decide +kernel
theorem dX12_placesOf_25 : decode cX12_placesOf 25 = .ok (.iaload, 1) := by decide +kernel
theorem dX12_placesOf_26 : decode cX12_placesOf 26 = .ok (.iload_n 2, 1) := by decide +kernel
theorem dX12_placesOf_27 : decode cX12_placesOf 27 = .ok (.if_icmp .ne 12, 3) := by decide +kernel
theorem dX12_placesOf_30 : decode cX12_placesOf 30 = .ok (.iconst 1, 1) := by decide +kernel
theorem dX12_placesOf_31 : decode cX12_placesOf 31 = .ok (.iload 4, 2) := by decide +kernel
theorem dX12_placesOf_33 : decode cX12_placesOf 33 = .ok (.iconst 1, 1) := by decide +kernel
theorem dX12_placesOf_34 : decode cX12_placesOf 34 = .ok (.isub, 1) := by decide +kernel
theorem dX12_placesOf_35 : decode cX12_placesOf 35 = .ok (.ishl, 1) := by decide +kernel
theorem dX12_placesOf_36 : decode cX12_placesOf 36 = .ok (.goto 4, 3) := by decide +kernel
theorem dX12_placesOf_39 : decode cX12_placesOf 39 = .ok (.iconst 0, 1) := by decide +kernel
theorem dX12_placesOf_40 : decode cX12_placesOf 40 = .ok (.ior, 1) := by decide +kernel
theorem dX12_placesOf_41 : decode cX12_placesOf 41 = .ok (.istore_n 3, 1) := by decide +kernel
theorem dX12_placesOf_42 : decode cX12_placesOf 42 = .ok (.iinc 4 1, 3) := by decide +kernel
theorem dX12_placesOf_45 : decode cX12_placesOf 45 = .ok (.goto (-40), 3) := by decide +kernel
theorem dX12_placesOf_48 : decode cX12_placesOf 48 = .ok (.iload_n 3, 1) := by decide +kernel
theorem dX12_placesOf_49 : decode cX12_placesOf 49 = .ok (.ireturn, 1) := by decide +kernel
set_option maxRecDepth 20000 in
theorem ggX12_tally_X12_isLetter : GoodIn wsX12_tally wsX12_isLetter := goodIn_r _ [5, 6, 7, 4, 8] (by decide +kernel) (by decide +kernel)
set_option maxRecDepth 20000 in
theorem gX12_tally_X12_isLetter : GoodIn wsX12_tally (va_wsS RX12 195 yX12_isLetter wsX12_isLetter) := goodIn_app (goodIn_of _ (by decide +kernel)) ggX12_tally_X12_isLetter
set_option maxRecDepth 20000 in
theorem ggX12_tally_X12_isIn : GoodIn wsX12_tally wsX12_isIn := goodIn_r _ [8] (by decide +kernel) (by decide +kernel)
set_option maxRecDepth 20000 in
theorem gX12_tally_X12_isIn : GoodIn wsX12_tally (va_wsS RX12 51 yX12_isIn wsX12_isIn) := goodIn_app (goodIn_of _ (by decide +kernel)) ggX12_tally_X12_isIn
set_option maxRecDepth 20000 in
theorem ggX12_tally_X12_wordAt : GoodIn wsX12_tally wsX12_wordAt := goodIn_r _ [11] (by decide +kernel) (by decide +kernel)
set_option maxRecDepth 20000 in
theorem gX12_tally_X12_wordAt : GoodIn wsX12_tally (va_wsS RX12 55 yX12_wordAt wsX12_wordAt) := goodIn_app (goodIn_of _ (by decide +kernel)) ggX12_tally_X12_wordAt
set_option maxRecDepth 20000 in
theorem ggX12_tally_X12_placesOf : GoodIn wsX12_tally wsX12_placesOf := goodIn_r _ [15, 1, 16, 17, 18, 19, 20, 21, 22, 23, 24, 25, 26, 27, 28, 29, 30, 31, 32, 33, 34, 35] (by decide +kernel) (by decide +kernel)
set_option maxRecDepth 20000 in
theorem gX12_tally_X12_placesOf : GoodIn wsX12_tally (wsV RX12 198 RX12 yX12_placesOf wsX12_placesOf) := goodIn_app (goodIn_of _ (by decide +kernel)) ggX12_tally_X12_placesOf
theorem dX12_tally_0 : decode cX12_tally 0 = .ok (.iload_n 2, 1) := by decide +kernel
theorem dX12_tally_1 : decode cX12_tally 1 = .ok (.ifCond .eq 13, 3) := by decide +kernel
theorem dX12_tally_4 : decode cX12_tally 4 = .ok (.iload_n 1, 1) := by decide +kernel
theorem dX12_tally_5 : decode cX12_tally 5 = .ok (.invokestatic 195, 3) := by decide +kernel
theorem dX12_tally_8 : decode cX12_tally 8 = .ok (.ifCond .ne 18, 3) := by decide +kernel
theorem dX12_tally_11 : decode cX12_tally 11 = .ok (.goto 13, 3) := by decide +kernel
theorem dX12_tally_14 : decode cX12_tally 14 = .ok (.iload_n 1, 1) := by decide +kernel
theorem dX12_tally_15 : decode cX12_tally 15 = .ok (.iconst 1, 1) := by decide +kernel
theorem dX12_tally_16 : decode cX12_tally 16 = .ok (.bipush 7, 2) := by decide +kernel
theorem dX12_tally_18 : decode cX12_tally 18 = .ok (.invokestatic 51, 3) := by decide +kernel
theorem dX12_tally_21 : decode cX12_tally 21 = .ok (.ifCond .ne 5, 3) := by decide +kernel
theorem dX12_tally_24 : decode cX12_tally 24 = .ok (.iconst (-1), 1) := by decide +kernel
theorem dX12_tally_25 : decode cX12_tally 25 = .ok (.ireturn, 1) := by decide +kernel
theorem dX12_tally_26 : decode cX12_tally 26 = .ok (.iconst 0, 1) := by decide +kernel
theorem dX12_tally_27 : decode cX12_tally 27 = .ok (.istore_n 3, 1) := by decide +kernel
theorem dX12_tally_28 : decode cX12_tally 28 = .ok (.iconst 0, 1) := by decide +kernel
theorem dX12_tally_29 : decode cX12_tally 29 = .ok (.istore 4, 2) := by decide +kernel
theorem dX12_tally_31 : decode cX12_tally 31 = .ok (.iload 4, 2) := by decide +kernel
theorem dX12_tally_33 : decode cX12_tally 33 = .ok (.aload_n 0, 1) := by decide +kernel
theorem dX12_tally_34 : decode cX12_tally 34 = .ok (.getfield 7, 3) := by decide +kernel
theorem dX12_tally_37 : decode cX12_tally 37 = .ok (.iconst 0, 1) := by decide +kernel
theorem dX12_tally_38 : decode cX12_tally 38 = .ok (.iaload, 1) := by decide +kernel
theorem dX12_tally_39 : decode cX12_tally 39 = .ok (.if_icmp .ge 53, 3) := by decide +kernel
theorem dX12_tally_42 : decode cX12_tally 42 = .ok (.iload_n 3, 1) := by decide +kernel
theorem dX12_tally_43 : decode cX12_tally 43 = .ok (.iload_n 2, 1) := by decide +kernel
theorem dX12_tally_44 : decode cX12_tally 44 = .ok (.ifCond .eq 20, 3) := by decide +kernel
theorem dX12_tally_47 : decode cX12_tally 47 = .ok (.aload_n 0, 1) := by decide +kernel
theorem dX12_tally_48 : decode cX12_tally 48 = .ok (.iconst 0, 1) := by decide +kernel
theorem dX12_tally_49 : decode cX12_tally 49 = .ok (.iload 4, 2) := by decide +kernel
theorem dX12_tally_51 : decode cX12_tally 51 = .ok (.invokestatic 55, 3) := by decide +kernel
theorem dX12_tally_54 : decode cX12_tally 54 = .ok (.iload_n 1, 1) := by decide +kernel
theorem dX12_tally_55 : decode cX12_tally 55 = .ok (.invokevirtual 198, 3) := by decide +kernel
theorem dX12_tally_58 : decode cX12_tally 58 = .ok (.ifCond .eq 25, 3) := by decide +kernel
theorem dX12_tally_61 : decode cX12_tally 61 = .ok (.goto 18, 3) := by decide +kernel
theorem dX12_tally_64 : decode cX12_tally 64 = .ok (.aload_n 0, 1) := by decide +kernel
theorem dX12_tally_65 : decode cX12_tally 65 = .ok (.getfield 7, 3) := by decide +kernel
theorem dX12_tally_68 : decode cX12_tally 68 = .ok (.iconst 0, 1) := by decide +kernel
theorem dX12_tally_69 : decode cX12_tally 69 = .ok (.iload 4, 2) := by decide +kernel
theorem dX12_tally_71 : decode cX12_tally 71 = .ok (.invokestatic 55, 3) := by decide +kernel
theorem dX12_tally_74 : decode cX12_tally 74 = .ok (.iaload, 1) := by decide +kernel
theorem dX12_tally_75 : decode cX12_tally 75 = .ok (.iload_n 1, 1) := by decide +kernel
theorem dX12_tally_76 : decode cX12_tally 76 = .ok (.if_icmp .ne 7, 3) := by decide +kernel
theorem dX12_tally_79 : decode cX12_tally 79 = .ok (.iconst 1, 1) := by decide +kernel
theorem dX12_tally_80 : decode cX12_tally 80 = .ok (.goto 4, 3) := by decide +kernel
theorem dX12_tally_83 : decode cX12_tally 83 = .ok (.iconst 0, 1) := by decide +kernel
theorem dX12_tally_84 : decode cX12_tally 84 = .ok (.iadd, 1) := by decide +kernel
theorem dX12_tally_85 : decode cX12_tally 85 = .ok (.istore_n 3, 1) := by decide +kernel
theorem dX12_tally_86 : decode cX12_tally 86 = .ok (.iinc 4 1, 3) := by decide +kernel
theorem dX12_tally_89 : decode cX12_tally 89 = .ok (.goto (-58), 3) := by decide +kernel
theorem dX12_tally_92 : decode cX12_tally 92 = .ok (.iload_n 3, 1) := by decide +kernel
theorem dX12_tally_93 : decode cX12_tally 93 = .ok (.ireturn, 1) := by decide +kernel
set_option maxRecDepth 20000 in
theorem ggX12_places_X12_isIn : GoodIn wsX12_places wsX12_isIn := goodIn_r _ [5] (by decide +kernel) (by decide +kernel)
set_option maxRecDepth 20000 in
theorem gX12_places_X12_isIn : GoodIn wsX12_places (va_wsS RX12 51 yX12_isIn wsX12_isIn) := goodIn_app (goodIn_of _ (by decide +kernel)) ggX12_places_X12_isIn
set_option maxRecDepth 20000 in
theorem ggX12_places_X12_isLetter : GoodIn wsX12_places wsX12_isLetter := goodIn_r _ [8, 2, 3, 4, 5] (by decide +kernel) (by decide +kernel)
set_option maxRecDepth 20000 in
theorem gX12_places_X12_isLetter : GoodIn wsX12_places (va_wsS RX12 195 yX12_isLetter wsX12_isLetter) := goodIn_app (goodIn_of _ (by decide +kernel)) ggX12_places_X12_isLetter
set_option maxRecDepth 20000 in
theorem ggX12_places_X12_wordAt : GoodIn wsX12_places wsX12_wordAt := goodIn_r _ [11] (by decide +kernel) (by decide +kernel)
set_option maxRecDepth 20000 in
theorem gX12_places_X12_wordAt : GoodIn wsX12_places (va_wsS RX12 55 yX12_wordAt wsX12_wordAt) := goodIn_app (goodIn_of _ (by decide +kernel)) ggX12_places_X12_wordAt
set_option maxRecDepth 20000 in
theorem ggX12_places_X12_placesOf : GoodIn wsX12_places wsX12_placesOf := goodIn_r _ [15, 1, 16, 17, 18, 19, 20, 21, 22, 23, 24, 25, 26, 27, 28, 29, 30, 31, 32, 33, 34, 35] (by decide +kernel) (by decide +kernel)
set_option maxRecDepth 20000 in
theorem gX12_places_X12_placesOf : GoodIn wsX12_places (wsV RX12 198 RX12 yX12_placesOf wsX12_placesOf) := goodIn_app (goodIn_of _ (by decide +kernel)) ggX12_places_X12_placesOf
theorem dX12_places_0 : decode cX12_places 0 = .ok (.iload_n 1, 1) := by decide +kernel
theorem dX12_places_1 : decode cX12_places 1 = .ok (.iconst 0, 1) := by decide +kernel
theorem dX12_places_2 : decode cX12_places 2 = .ok (.aload_n 0, 1) := by decide +kernel
theorem dX12_places_3 : decode cX12_places 3 = .ok (.getfield 7, 3) := by decide +kernel
theorem dX12_places_6 : decode cX12_places 6 = .ok (.iconst 0, 1) := by decide +kernel
theorem dX12_places_7 : decode cX12_places 7 = .ok (.iaload, 1) := by decide +kernel
theorem dX12_places_8 : decode cX12_places 8 = .ok (.iconst 1, 1) := by decide +kernel
theorem dX12_places_9 : decode cX12_places 9 = .ok (.isub, 1) := by decide +kernel
theorem dX12_places_10 : decode cX12_places 10 = .ok (.invokestatic 51, 3) := by decide +kernel
theorem dX12_places_13 : decode cX12_places 13 = .ok (.ifCond .eq 23, 3) := by decide +kernel
theorem dX12_places_16 : decode cX12_places 16 = .ok (.iload_n 2, 1) := by decide +kernel
theorem dX12_places_17 : decode cX12_places 17 = .ok (.invokestatic 195, 3) := by decide +kernel
theorem dX12_places_20 : decode cX12_places 20 = .ok (.ifCond .eq 16, 3) := by decide +kernel
theorem dX12_places_23 : decode cX12_places 23 = .ok (.aload_n 0, 1) := by decide +kernel
theorem dX12_places_24 : decode cX12_places 24 = .ok (.iconst 0, 1) := by decide +kernel
theorem dX12_places_25 : decode cX12_places 25 = .ok (.iload_n 1, 1) := by decide +kernel
theorem dX12_places_26 : decode cX12_places 26 = .ok (.invokestatic 55, 3) := by decide +kernel
theorem dX12_places_29 : decode cX12_places 29 = .ok (.iload_n 2, 1) := by decide +kernel
theorem dX12_places_30 : decode cX12_places 30 = .ok (.invokevirtual 198, 3) := by decide +kernel
theorem dX12_places_33 : decode cX12_places 33 = .ok (.goto 4, 3) := by decide +kernel
theorem dX12_places_36 : decode cX12_places 36 = .ok (.iconst (-1), 1) := by decide +kernel
theorem dX12_places_37 : decode cX12_places 37 = .ok (.ireturn, 1) := by decide +kernel
set_option maxRecDepth 20000 in
theorem ggX12_instead_X12_isIn : GoodIn wsX12_instead wsX12_isIn := goodIn_r _ [5] (by decide +kernel) (by decide +kernel)
set_option maxRecDepth 20000 in
theorem gX12_instead_X12_isIn : GoodIn wsX12_instead (va_wsS RX12 51 yX12_isIn wsX12_isIn) := goodIn_app (goodIn_of _ (by decide +kernel)) ggX12_instead_X12_isIn
set_option maxRecDepth 20000 in
theorem ggX12_instead_X12_isLetter : GoodIn wsX12_instead wsX12_isLetter := goodIn_r _ [8, 2, 3, 4, 5] (by decide +kernel) (by decide +kernel)
set_option maxRecDepth 20000 in
theorem gX12_instead_X12_isLetter : GoodIn wsX12_instead (va_wsS RX12 195 yX12_isLetter wsX12_isLetter) := goodIn_app (goodIn_of _ (by decide +kernel)) ggX12_instead_X12_isLetter
set_option maxRecDepth 20000 in
theorem ggX12_instead_X12_answers : GoodIn wsX12_instead wsX12_answers := goodIn_r _ [12, 1, 13, 14, 4, 15, 16, 17, 18, 19, 20, 21, 22, 23, 24, 25, 26, 27, 28, 29, 30, 31, 32, 33, 34, 35, 36, 37, 38, 39, 40, 41, 42, 43] (by decide +kernel) (by decide +kernel)
set_option maxRecDepth 20000 in
theorem gX12_instead_X12_answers : GoodIn wsX12_instead (wsV RX12 144 RX12 yX12_answers wsX12_answers) := goodIn_app (goodIn_of _ (by decide +kernel)) ggX12_instead_X12_answers
theorem dX12_instead_0 : decode cX12_instead 0 = .ok (.iload_n 1, 1) := by decide +kernel
theorem dX12_instead_1 : decode cX12_instead 1 = .ok (.iconst 0, 1) := by decide +kernel
theorem dX12_instead_2 : decode cX12_instead 2 = .ok (.aload_n 0, 1) := by decide +kernel
theorem dX12_instead_3 : decode cX12_instead 3 = .ok (.getfield 7, 3) := by decide +kernel
theorem dX12_instead_6 : decode cX12_instead 6 = .ok (.sipush 430, 3) := by decide +kernel
theorem dX12_instead_9 : decode cX12_instead 9 = .ok (.iaload, 1) := by decide +kernel
theorem dX12_instead_10 : decode cX12_instead 10 = .ok (.iconst 1, 1) := by decide +kernel
theorem dX12_instead_11 : decode cX12_instead 11 = .ok (.isub, 1) := by decide +kernel
theorem dX12_instead_12 : decode cX12_instead 12 = .ok (.invokestatic 51, 3) := by decide +kernel
theorem dX12_instead_15 : decode cX12_instead 15 = .ok (.ifCond .eq 22, 3) := by decide +kernel
theorem dX12_instead_18 : decode cX12_instead 18 = .ok (.iload_n 2, 1) := by decide +kernel
theorem dX12_instead_19 : decode cX12_instead 19 = .ok (.invokestatic 195, 3) := by decide +kernel
theorem dX12_instead_22 : decode cX12_instead 22 = .ok (.ifCond .ne 17, 3) := by decide +kernel
theorem dX12_instead_25 : decode cX12_instead 25 = .ok (.iload_n 2, 1) := by decide +kernel
theorem dX12_instead_26 : decode cX12_instead 26 = .ok (.bipush 63, 2) := by decide +kernel
theorem dX12_instead_28 : decode cX12_instead 28 = .ok (.if_icmp .eq 11, 3) := by decide +kernel
theorem dX12_instead_31 : decode cX12_instead 31 = .ok (.iload_n 2, 1) := by decide +kernel
theorem dX12_instead_32 : decode cX12_instead 32 = .ok (.bipush 42, 2) := by decide +kernel
theorem dX12_instead_34 : decode cX12_instead 34 = .ok (.if_icmp .eq 5, 3) := by decide +kernel
theorem dX12_instead_37 : decode cX12_instead 37 = .ok (.iconst (-1), 1) := by decide +kernel
theorem dX12_instead_38 : decode cX12_instead 38 = .ok (.ireturn, 1) := by decide +kernel
theorem dX12_instead_39 : decode cX12_instead 39 = .ok (.aload_n 0, 1) := by decide +kernel
theorem dX12_instead_40 : decode cX12_instead 40 = .ok (.getfield 7, 3) := by decide +kernel
theorem dX12_instead_43 : decode cX12_instead 43 = .ok (.sipush 431, 3) := by decide +kernel
theorem dX12_instead_46 : decode cX12_instead 46 = .ok (.iload_n 1, 1) := by decide +kernel
theorem dX12_instead_47 : decode cX12_instead 47 = .ok (.iadd, 1) := by decide +kernel
theorem dX12_instead_48 : decode cX12_instead 48 = .ok (.iaload, 1) := by decide +kernel
theorem dX12_instead_49 : decode cX12_instead 49 = .ok (.istore_n 3, 1) := by decide +kernel
theorem dX12_instead_50 : decode cX12_instead 50 = .ok (.aload_n 0, 1) := by decide +kernel
theorem dX12_instead_51 : decode cX12_instead 51 = .ok (.getfield 7, 3) := by decide +kernel
theorem dX12_instead_54 : decode cX12_instead 54 = .ok (.sipush 431, 3) := by decide +kernel
theorem dX12_instead_57 : decode cX12_instead 57 = .ok (.iload_n 1, 1) := by decide +kernel
theorem dX12_instead_58 : decode cX12_instead 58 = .ok (.iadd, 1) := by decide +kernel
theorem dX12_instead_59 : decode cX12_instead 59 = .ok (.iload_n 2, 1) := by decide +kernel
theorem dX12_instead_60 : decode cX12_instead 60 = .ok (.iastore, 1) := by decide +kernel
theorem dX12_instead_61 : decode cX12_instead 61 = .ok (.aload_n 0, 1) := by decide +kernel
theorem dX12_instead_62 : decode cX12_instead 62 = .ok (.iconst 0, 1) := by decide +kernel
theorem dX12_instead_63 : decode cX12_instead 63 = .ok (.sipush 430, 3) := by decide +kernel
theorem dX12_instead_66 : decode cX12_instead 66 = .ok (.invokevirtual 144, 3) := by decide +kernel
theorem dX12_instead_69 : decode cX12_instead 69 = .ok (.istore 4, 2) := by decide +kernel
theorem dX12_instead_71 : decode cX12_instead 71 = .ok (.aload_n 0, 1) := by decide +kernel
theorem dX12_instead_72 : decode cX12_instead 72 = .ok (.getfield 7, 3) := by decide +kernel
theorem dX12_instead_75 : decode cX12_instead 75 = .ok (.sipush 431, 3) := by decide +kernel
theorem dX12_instead_78 : decode cX12_instead 78 = .ok (.iload_n 1, 1) := by decide +kernel
theorem dX12_instead_79 : decode cX12_instead 79 = .ok (.iadd, 1) := by decide +kernel
theorem dX12_instead_80 : decode cX12_instead 80 = .ok (.iload_n 3, 1) := by decide +kernel
theorem dX12_instead_81 : decode cX12_instead 81 = .ok (.iastore, 1) := by decide +kernel
theorem dX12_instead_82 : decode cX12_instead 82 = .ok (.iload 4, 2) := by decide +kernel
theorem dX12_instead_84 : decode cX12_instead 84 = .ok (.ireturn, 1) := by decide +kernel
theorem dX12_feed_0 : decode cX12_feed 0 = .ok (.aload_n 0, 1) := by decide +kernel
theorem dX12_feed_1 : decode cX12_feed 1 = .ok (.getfield 180, 3) := by decide +kernel
theorem dX12_feed_4 : decode cX12_feed 4 = .ok (.bipush 20, 2) := by decide +kernel
theorem dX12_feed_6 : decode cX12_feed 6 = .ok (.iadd, 1) := by decide +kernel
theorem dX12_feed_7 : decode cX12_feed 7 = .ok (.sipush 400, 3) := by decide +kernel
theorem dX12_feed_10 : decode cX12_feed 10 = .ok (.if_icmp .le 5, 3) := by decide +kernel
theorem dX12_feed_13 : decode cX12_feed 13 = .ok (.iconst (-1), 1) := by decide +kernel
theorem dX12_feed_14 : decode cX12_feed 14 = .ok (.ireturn, 1) := by decide +kernel
theorem dX12_feed_15 : decode cX12_feed 15 = .ok (.iconst 0, 1) := by decide +kernel
theorem dX12_feed_16 : decode cX12_feed 16 = .ok (.istore 6, 2) := by decide +kernel
theorem dX12_feed_18 : decode cX12_feed 18 = .ok (.iload 6, 2) := by decide +kernel
theorem dX12_feed_20 : decode cX12_feed 20 = .ok (.bipush 20, 2) := by decide +kernel
theorem dX12_feed_22 : decode cX12_feed 22 = .ok (.if_icmp .ge 86, 3) := by decide +kernel
theorem dX12_feed_25 : decode cX12_feed 25 = .ok (.iload 6, 2) := by decide +kernel
theorem dX12_feed_27 : decode cX12_feed 27 = .ok (.iconst 4, 1) := by decide +kernel
theorem dX12_feed_28 : decode cX12_feed 28 = .ok (.if_icmp .ge 7, 3) := by decide +kernel
theorem dX12_feed_31 : decode cX12_feed 31 = .ok (.iload_n 1, 1) := by decide +kernel
theorem dX12_feed_32 : decode cX12_feed 32 = .ok (.goto 39, 3) := by decide +kernel
theorem dX12_feed_35 : decode cX12_feed 35 = .ok (.iload 6, 2) := by decide +kernel
theorem dX12_feed_37 : decode cX12_feed 37 = .ok (.bipush 8, 2) := by decide +kernel
theorem dX12_feed_39 : decode cX12_feed 39 = .ok (.if_icmp .ge 7, 3) := by decide +kernel
theorem dX12_feed_42 : decode cX12_feed 42 = .ok (.iload_n 2, 1) := by decide +kernel
theorem dX12_feed_43 : decode cX12_feed 43 = .ok (.goto 28, 3) := by decide +kernel
theorem dX12_feed_46 : decode cX12_feed 46 = .ok (.iload 6, 2) := by decide +kernel
theorem dX12_feed_48 : decode cX12_feed 48 = .ok (.bipush 12, 2) := by decide +kernel
theorem dX12_feed_50 : decode cX12_feed 50 = .ok (.if_icmp .ge 7, 3) := by decide +kernel
theorem dX12_feed_53 : decode cX12_feed 53 = .ok (.iload_n 3, 1) := by decide +kernel
theorem dX12_feed_54 : decode cX12_feed 54 = .ok (.goto 17, 3) := by decide +kernel
theorem dX12_feed_57 : decode cX12_feed 57 = .ok (.iload 6, 2) := by decide +kernel
theorem dX12_feed_59 : decode cX12_feed 59 = .ok (.bipush 16, 2) := by decide +kernel
theorem dX12_feed_61 : decode cX12_feed 61 = .ok (.if_icmp .ge 8, 3) := by decide +kernel
theorem dX12_feed_64 : decode cX12_feed 64 = .ok (.iload 4, 2) := by decide +kernel
theorem dX12_feed_66 : decode cX12_feed 66 = .ok (.goto 5, 3) := by decide +kernel
theorem dX12_feed_69 : decode cX12_feed 69 = .ok (.iload 5, 2) := by decide +kernel
theorem dX12_feed_71 : decode cX12_feed 71 = .ok (.istore 7, 2) := by decide +kernel
theorem dX12_feed_73 : decode cX12_feed 73 = .ok (.aload_n 0, 1) := by decide +kernel
theorem dX12_feed_74 : decode cX12_feed 74 = .ok (.getfield 13, 3) := by decide +kernel
theorem dX12_feed_77 : decode cX12_feed 77 = .ok (.aload_n 0, 1) := by decide +kernel
theorem dX12_feed_78 : decode cX12_feed 78 = .ok (.getfield 180, 3) := by decide +kernel
theorem dX12_feed_81 : decode cX12_feed 81 = .ok (.iload 6, 2) := by decide +kernel
theorem dX12_feed_83 : decode cX12_feed 83 = .ok (.iadd, 1) := by decide +kernel
theorem dX12_feed_84 : decode cX12_feed 84 = .ok (.iload 7, 2) := by decide +kernel
theorem dX12_feed_86 : decode cX12_feed 86 = .ok (.bipush 24, 2) := by decide +kernel
theorem dX12_feed_88 : decode cX12_feed 88 = .ok (.bipush 8, 2) := by decide +kernel
theorem dX12_feed_90 : decode cX12_feed 90 = .ok (.iload 6, 2) := by decide +kernel
theorem dX12_feed_92 : decode cX12_feed 92 = .ok (.iconst 3, 1) := by decide +kernel
theorem dX12_feed_93 : decode cX12_feed 93 = .ok (.iand, 1) := by decide +kernel
theorem dX12_feed_94 : decode cX12_feed 94 = .ok (.imul, 1) := by decide +kernel
theorem dX12_feed_95 : decode cX12_feed 95 = .ok (.isub, 1) := by decide +kernel
theorem dX12_feed_96 : decode cX12_feed 96 = .ok (.ishr, 1) := by decide +kernel
theorem dX12_feed_97 : decode cX12_feed 97 = .ok (.sipush 255, 3) := by decide +kernel
theorem dX12_feed_100 : decode cX12_feed 100 = .ok (.iand, 1) := by decide +kernel
theorem dX12_feed_101 : decode cX12_feed 101 = .ok (.iastore, 1) := by decide +kernel
theorem dX12_feed_102 : decode cX12_feed 102 = .ok (.iinc 6 1, 3) := by decide +kernel
theorem dX12_feed_105 : decode cX12_feed 105 = .ok (.goto (-87), 3) := by decide +kernel
theorem dX12_feed_108 : decode cX12_feed 108 = .ok (.aload_n 0, 1) := by decide +kernel
theorem dX12_feed_109 : decode cX12_feed 109 = .ok (.dup, 1) := by decide +kernel
theorem dX12_feed_110 : decode cX12_feed 110 = .ok (.getfield 180, 3) := by decide +kernel
theorem dX12_feed_113 : decode cX12_feed 113 = .ok (.bipush 20, 2) := by decide +kernel
theorem dX12_feed_115 : decode cX12_feed 115 = .ok (.iadd, 1) := by decide +kernel
theorem dX12_feed_116 : decode cX12_feed 116 = .ok (.putfield 180, 3) := by decide +kernel
theorem dX12_feed_119 : decode cX12_feed 119 = .ok (.aload_n 0, 1) := by decide +kernel
theorem dX12_feed_120 : decode cX12_feed 120 = .ok (.getfield 180, 3) := by decide +kernel
theorem dX12_feed_123 : decode cX12_feed 123 = .ok (.ireturn, 1) := by decide +kernel
set_option maxRecDepth 20000 in
theorem ggX12_end_X12_isIn : GoodIn wsX12_end wsX12_isIn := goodIn_r _ [5] (by decide +kernel) (by decide +kernel)
set_option maxRecDepth 20000 in
theorem gX12_end_X12_isIn : GoodIn wsX12_end (va_wsS RX12 51 yX12_isIn wsX12_isIn) := goodIn_app (goodIn_of _ (by decide +kernel)) ggX12_end_X12_isIn
theorem dX12_end_0 : decode cX12_end 0 = .ok (.iload_n 1, 1) := by decide +kernel
theorem dX12_end_1 : decode cX12_end 1 = .ok (.iconst 0, 1) := by decide +kernel
theorem dX12_end_2 : decode cX12_end 2 = .ok (.aload_n 0, 1) := by decide +kernel
theorem dX12_end_3 : decode cX12_end 3 = .ok (.getfield 180, 3) := by decide +kernel
theorem dX12_end_6 : decode cX12_end 6 = .ok (.invokestatic 51, 3) := by decide +kernel
theorem dX12_end_9 : decode cX12_end 9 = .ok (.ifCond .ne 5, 3) := by decide +kernel
theorem dX12_end_12 : decode cX12_end 12 = .ok (.iconst (-1), 1) := by decide +kernel
theorem dX12_end_13 : decode cX12_end 13 = .ok (.ireturn, 1) := by decide +kernel
theorem dX12_end_14 : decode cX12_end 14 = .ok (.aload_n 0, 1) := by decide +kernel
theorem dX12_end_15 : decode cX12_end 15 = .ok (.iload_n 1, 1) := by decide +kernel
theorem dX12_end_16 : decode cX12_end 16 = .ok (.putfield 180, 3) := by decide +kernel
theorem dX12_end_19 : decode cX12_end 19 = .ok (.iload_n 1, 1) := by decide +kernel
theorem dX12_end_20 : decode cX12_end 20 = .ok (.ireturn, 1) := by decide +kernel
theorem dX12_fault_0 : decode cX12_fault 0 = .ok (.iload_n 1, 1) := by decide +kernel
theorem dX12_fault_1 : decode cX12_fault 1 = .ok (.ifCond .ne 10, 3) := by decide +kernel
theorem dX12_fault_4 : decode cX12_fault 4 = .ok (.aload_n 0, 1) := by decide +kernel
theorem dX12_fault_5 : decode cX12_fault 5 = .ok (.getfield 201, 3) := by decide +kernel
theorem dX12_fault_8 : decode cX12_fault 8 = .ok (.goto 16, 3) := by decide +kernel
theorem dX12_fault_11 : decode cX12_fault 11 = .ok (.iload_n 1, 1) := by decide +kernel
theorem dX12_fault_12 : decode cX12_fault 12 = .ok (.iconst 1, 1) := by decide +kernel
theorem dX12_fault_13 : decode cX12_fault 13 = .ok (.if_icmp .ne 10, 3) := by decide +kernel
theorem dX12_fault_16 : decode cX12_fault 16 = .ok (.aload_n 0, 1) := by decide +kernel
theorem dX12_fault_17 : decode cX12_fault 17 = .ok (.getfield 20, 3) := by decide +kernel
theorem dX12_fault_20 : decode cX12_fault 20 = .ok (.goto 4, 3) := by decide +kernel
theorem dX12_fault_23 : decode cX12_fault 23 = .ok (.iconst (-1), 1) := by decide +kernel
theorem dX12_fault_24 : decode cX12_fault 24 = .ok (.ireturn, 1) := by decide +kernel
theorem dX12_fails_0 : decode cX12_fails 0 = .ok (.aload_n 0, 1) := by decide +kernel
theorem dX12_fails_1 : decode cX12_fails 1 = .ok (.getfield 201, 3) := by decide +kernel
theorem dX12_fails_4 : decode cX12_fails 4 = .ok (.ifCond .le 28, 3) := by decide +kernel
theorem dX12_fails_7 : decode cX12_fails 7 = .ok (.iload_n 2, 1) := by decide +kernel
theorem dX12_fails_8 : decode cX12_fails 8 = .ok (.aload_n 0, 1) := by decide +kernel
theorem dX12_fails_9 : decode cX12_fails 9 = .ok (.getfield 20, 3) := by decide +kernel
theorem dX12_fails_12 : decode cX12_fails 12 = .ok (.if_icmp .gt 19, 3) := by decide +kernel
theorem dX12_fails_15 : decode cX12_fails 15 = .ok (.iload_n 2, 1) := by decide +kernel
theorem dX12_fails_16 : decode cX12_fails 16 = .ok (.aload_n 0, 1) := by decide +kernel
theorem dX12_fails_17 : decode cX12_fails 17 = .ok (.getfield 20, 3) := by decide +kernel
theorem dX12_fails_20 : decode cX12_fails 20 = .ok (.if_icmp .ne 12, 3) := by decide +kernel
theorem dX12_fails_23 : decode cX12_fails 23 = .ok (.iload_n 1, 1) := by decide +kernel
theorem dX12_fails_24 : decode cX12_fails 24 = .ok (.aload_n 0, 1) := by decide +kernel
theorem dX12_fails_25 : decode cX12_fails 25 = .ok (.getfield 201, 3) := by decide +kernel
theorem dX12_fails_28 : decode cX12_fails 28 = .ok (.if_icmp .gt 4, 3) := by decide +kernel
theorem dX12_fails_31 : decode cX12_fails 31 = .ok (.return_, 1) := by decide +kernel
theorem dX12_fails_32 : decode cX12_fails 32 = .ok (.aload_n 0, 1) := by decide +kernel
theorem dX12_fails_33 : decode cX12_fails 33 = .ok (.iload_n 1, 1) := by decide +kernel
theorem dX12_fails_34 : decode cX12_fails 34 = .ok (.putfield 201, 3) := by decide +kernel
theorem dX12_fails_37 : decode cX12_fails 37 = .ok (.aload_n 0, 1) := by decide +kernel
theorem dX12_fails_38 : decode cX12_fails 38 = .ok (.iload_n 2, 1) := by decide +kernel
theorem dX12_fails_39 : decode cX12_fails 39 = .ok (.putfield 20, 3) := by decide +kernel
theorem dX12_fails_42 : decode cX12_fails 42 = .ok (.return_, 1) := by decide +kernel
theorem dX12_laysWord_0 : decode cX12_laysWord 0 = .ok (.iconst 0, 1) := by decide +kernel
theorem dX12_laysWord_1 : decode cX12_laysWord 1 = .ok (.istore 4, 2) := by decide +kernel
theorem dX12_laysWord_3 : decode cX12_laysWord 3 = .ok (.iload 4, 2) := by decide +kernel
theorem dX12_laysWord_5 : decode cX12_laysWord 5 = .ok (.bipush 8, 2) := by decide +kernel
theorem dX12_laysWord_7 : decode cX12_laysWord 7 = .ok (.if_icmp .ge 19, 3) := by decide +kernel
theorem dX12_laysWord_10 : decode cX12_laysWord 10 = .ok (.aload_n 0, 1) := by decide +kernel
theorem dX12_laysWord_11 : decode cX12_laysWord 11 = .ok (.getfield 7, 3) := by decide +kernel
theorem dX12_laysWord_14 : decode cX12_laysWord 14 = .ok (.iload_n 3, 1) := by decide +kernel
theorem dX12_laysWord_15 : decode cX12_laysWord 15 = .ok (.iload 4, 2) := by decide +kernel
theorem dX12_laysWord_17 : decode cX12_laysWord 17 = .ok (.iadd, 1) := by decide +kernel
theorem dX12_laysWord_18 : decode cX12_laysWord 18 = .ok (.iconst 0, 1) := by decide +kernel
theorem dX12_laysWord_19 : decode cX12_laysWord 19 = .ok (.iastore, 1) := by decide +kernel
theorem dX12_laysWord_20 : decode cX12_laysWord 20 = .ok (.iinc 4 1, 3) := by decide +kernel
theorem dX12_laysWord_23 : decode cX12_laysWord 23 = .ok (.goto (-20), 3) := by decide +kernel
theorem dX12_laysWord_26 : decode cX12_laysWord 26 = .ok (.aload_n 0, 1) := by decide +kernel
theorem dX12_laysWord_27 : decode cX12_laysWord 27 = .ok (.getfield 7, 3) := by decide +kernel
theorem dX12_laysWord_30 : decode cX12_laysWord 30 = .ok (.iload_n 3, 1) := by decide +kernel
theorem dX12_laysWord_31 : decode cX12_laysWord 31 = .ok (.iload_n 2, 1) := by decide +kernel
theorem dX12_laysWord_32 : decode cX12_laysWord 32 = .ok (.iastore, 1) := by decide +kernel
theorem dX12_laysWord_33 : decode cX12_laysWord 33 = .ok (.iconst 0, 1) := by decide +kernel
theorem dX12_laysWord_34 : decode cX12_laysWord 34 = .ok (.istore 4, 2) := by decide +kernel
theorem dX12_laysWord_36 : decode cX12_laysWord 36 = .ok (.iload 4, 2) := by decide +kernel
theorem dX12_laysWord_38 : decode cX12_laysWord 38 = .ok (.iload_n 2, 1) := by decide +kernel
theorem dX12_laysWord_39 : decode cX12_laysWord 39 = .ok (.if_icmp .ge 29, 3) := by decide +kernel
theorem dX12_laysWord_42 : decode cX12_laysWord 42 = .ok (.aload_n 0, 1) := by decide +kernel
theorem dX12_laysWord_43 : decode cX12_laysWord 43 = .ok (.getfield 7, 3) := by decide +kernel
theorem dX12_laysWord_46 : decode cX12_laysWord 46 = .ok (.iload_n 3, 1) := by decide +kernel
theorem dX12_laysWord_47 : decode cX12_laysWord 47 = .ok (.iconst 1, 1) := by decide +kernel
theorem dX12_laysWord_48 : decode cX12_laysWord 48 = .ok (.iadd, 1) := by decide +kernel
theorem dX12_laysWord_49 : decode cX12_laysWord 49 = .ok (.iload 4, 2) := by decide +kernel
theorem dX12_laysWord_51 : decode cX12_laysWord 51 = .ok (.iadd, 1) := by decide +kernel
theorem dX12_laysWord_52 : decode cX12_laysWord 52 = .ok (.aload_n 0, 1) := by decide +kernel
theorem dX12_laysWord_53 : decode cX12_laysWord 53 = .ok (.getfield 13, 3) := by decide +kernel
theorem dX12_laysWord_56 : decode cX12_laysWord 56 = .ok (.iload_n 1, 1) := by decide +kernel
theorem dX12_laysWord_57 : decode cX12_laysWord 57 = .ok (.iload 4, 2) := by decide +kernel
theorem dX12_laysWord_59 : decode cX12_laysWord 59 = .ok (.iadd, 1) := by decide +kernel
theorem dX12_laysWord_60 : decode cX12_laysWord 60 = .ok (.iaload, 1) := by decide +kernel
theorem dX12_laysWord_61 : decode cX12_laysWord 61 = .ok (.iastore, 1) := by decide +kernel
theorem dX12_laysWord_62 : decode cX12_laysWord 62 = .ok (.iinc 4 1, 3) := by decide +kernel
theorem dX12_laysWord_65 : decode cX12_laysWord 65 = .ok (.goto (-29), 3) := by decide +kernel
theorem dX12_laysWord_68 : decode cX12_laysWord 68 = .ok (.return_, 1) := by decide +kernel
set_option maxRecDepth 20000 in
theorem ggX12_rowEnds_X12_fails : GoodIn wsX12_rowEnds wsX12_fails := goodIn_r _ [7, 2, 8, 33, 34, 35, 36, 37, 38, 39, 40, 41, 42, 43, 44, 45, 46, 47, 48, 49, 50, 51, 52] (by decide +kernel) (by decide +kernel)
set_option maxRecDepth 20000 in
theorem gX12_rowEnds_X12_fails : GoodIn wsX12_rowEnds (wsV RX12 204 RX12 yX12_fails wsX12_fails) := goodIn_app (goodIn_of _ (by decide +kernel)) ggX12_rowEnds_X12_fails
set_option maxRecDepth 20000 in
theorem ggX12_rowEnds_X12_laysWord : GoodIn wsX12_rowEnds wsX12_laysWord := goodIn_r _ [12, 1, 13, 33, 34, 35, 36, 37, 38, 39, 40, 41, 42, 43, 44, 45, 46, 47, 48, 49, 50, 51, 52] (by decide +kernel) (by decide +kernel)
set_option maxRecDepth 20000 in
theorem gX12_rowEnds_X12_laysWord : GoodIn wsX12_rowEnds (wsV RX12 207 RX12 yX12_laysWord wsX12_laysWord) := goodIn_app (goodIn_of _ (by decide +kernel)) ggX12_rowEnds_X12_laysWord
set_option maxRecDepth 20000 in
theorem ggX12_rowEnds_X12_numberOf : GoodIn wsX12_rowEnds wsX12_numberOf := goodIn_r _ [17, 1, 18, 19, 6, 20, 21, 22, 23, 24, 33, 34, 35, 36, 37, 38, 39, 40, 41, 42, 43, 44, 45, 46, 47, 48, 49, 50, 51, 52] (by decide +kernel) (by decide +kernel)
set_option maxRecDepth 20000 in
theorem gX12_rowEnds_X12_numberOf : GoodIn wsX12_rowEnds (wsV RX12 70 RX12 yX12_numberOf wsX12_numberOf) := goodIn_app (goodIn_of _ (by decide +kernel)) ggX12_rowEnds_X12_numberOf
set_option maxRecDepth 20000 in
theorem ggX12_rowEnds_X12_comes : GoodIn wsX12_rowEnds wsX12_comes := goodIn_r _ [28, 1, 18, 19, 6, 20, 21, 22, 23, 24, 29, 30, 31, 32, 33, 34, 35, 36, 37, 38, 39, 40, 41, 42, 43, 44, 45, 46, 47, 48, 49, 50, 51, 52] (by decide +kernel) (by decide +kernel)
set_option maxRecDepth 20000 in
theorem gX12_rowEnds_X12_comes : GoodIn wsX12_rowEnds (wsV RX12 77 RX12 yX12_comes wsX12_comes) := goodIn_app (goodIn_of _ (by decide +kernel)) ggX12_rowEnds_X12_comes
theorem dX12_rowEnds_0 : decode cX12_rowEnds 0 = .ok (.iload_n 2, 1) := by decide +kernel
theorem dX12_rowEnds_1 : decode cX12_rowEnds 1 = .ok (.ifCond .ne 4, 3) := by decide +kernel
theorem dX12_rowEnds_4 : decode cX12_rowEnds 4 = .ok (.return_, 1) := by decide +kernel
theorem dX12_rowEnds_5 : decode cX12_rowEnds 5 = .ok (.iload_n 2, 1) := by decide +kernel
theorem dX12_rowEnds_6 : decode cX12_rowEnds 6 = .ok (.bipush 7, 2) := by decide +kernel
theorem dX12_rowEnds_8 : decode cX12_rowEnds 8 = .ok (.if_icmp .le 13, 3) := by decide +kernel
theorem dX12_rowEnds_11 : decode cX12_rowEnds 11 = .ok (.aload_n 0, 1) := by decide +kernel
theorem dX12_rowEnds_12 : decode cX12_rowEnds 12 = .ok (.iconst 2, 1) := by decide +kernel
theorem dX12_rowEnds_13 : decode cX12_rowEnds 13 = .ok (.iload_n 1, 1) := by decide +kernel
theorem dX12_rowEnds_14 : decode cX12_rowEnds 14 = .ok (.bipush 7, 2) := by decide +kernel
theorem dX12_rowEnds_16 : decode cX12_rowEnds 16 = .ok (.iadd, 1) := by decide +kernel
theorem dX12_rowEnds_17 : decode cX12_rowEnds 17 = .ok (.invokevirtual 204, 3) := by decide +kernel
theorem dX12_rowEnds_20 : decode cX12_rowEnds 20 = .ok (.return_, 1) := by decide +kernel
theorem dX12_rowEnds_21 : decode cX12_rowEnds 21 = .ok (.aload_n 0, 1) := by decide +kernel
theorem dX12_rowEnds_22 : decode cX12_rowEnds 22 = .ok (.iload_n 1, 1) := by decide +kernel
theorem dX12_rowEnds_23 : decode cX12_rowEnds 23 = .ok (.iload_n 2, 1) := by decide +kernel
theorem dX12_rowEnds_24 : decode cX12_rowEnds 24 = .ok (.sipush 1085, 3) := by decide +kernel
theorem dX12_rowEnds_27 : decode cX12_rowEnds 27 = .ok (.invokevirtual 207, 3) := by decide +kernel
theorem dX12_rowEnds_30 : decode cX12_rowEnds 30 = .ok (.aload_n 0, 1) := by decide +kernel
theorem dX12_rowEnds_31 : decode cX12_rowEnds 31 = .ok (.sipush 764, 3) := by decide +kernel
theorem dX12_rowEnds_34 : decode cX12_rowEnds 34 = .ok (.sipush 1085, 3) := by decide +kernel
theorem dX12_rowEnds_37 : decode cX12_rowEnds 37 = .ok (.invokevirtual 70, 3) := by decide +kernel
theorem dX12_rowEnds_40 : decode cX12_rowEnds 40 = .ok (.ifCond .lt 9, 3) := by decide +kernel
theorem dX12_rowEnds_43 : decode cX12_rowEnds 43 = .ok (.aload_n 0, 1) := by decide +kernel
theorem dX12_rowEnds_44 : decode cX12_rowEnds 44 = .ok (.iconst 3, 1) := by decide +kernel
theorem dX12_rowEnds_45 : decode cX12_rowEnds 45 = .ok (.iload_n 1, 1) := by decide +kernel
theorem dX12_rowEnds_46 : decode cX12_rowEnds 46 = .ok (.invokevirtual 204, 3) := by decide +kernel
theorem dX12_rowEnds_49 : decode cX12_rowEnds 49 = .ok (.aload_n 0, 1) := by decide +kernel
theorem dX12_rowEnds_50 : decode cX12_rowEnds 50 = .ok (.getfield 7, 3) := by decide +kernel
theorem dX12_rowEnds_53 : decode cX12_rowEnds 53 = .ok (.sipush 764, 3) := by decide +kernel
theorem dX12_rowEnds_56 : decode cX12_rowEnds 56 = .ok (.iaload, 1) := by decide +kernel
theorem dX12_rowEnds_57 : decode cX12_rowEnds 57 = .ok (.bipush 40, 2) := by decide +kernel
theorem dX12_rowEnds_59 : decode cX12_rowEnds 59 = .ok (.if_icmp .ne 9, 3) := by decide +kernel
theorem dX12_rowEnds_62 : decode cX12_rowEnds 62 = .ok (.aload_n 0, 1) := by decide +kernel
theorem dX12_rowEnds_63 : decode cX12_rowEnds 63 = .ok (.iconst 4, 1) := by decide +kernel
theorem dX12_rowEnds_64 : decode cX12_rowEnds 64 = .ok (.iload_n 1, 1) := by decide +kernel
theorem dX12_rowEnds_65 : decode cX12_rowEnds 65 = .ok (.invokevirtual 204, 3) := by decide +kernel
theorem dX12_rowEnds_68 : decode cX12_rowEnds 68 = .ok (.aload_n 0, 1) := by decide +kernel
theorem dX12_rowEnds_69 : decode cX12_rowEnds 69 = .ok (.getfield 201, 3) := by decide +kernel
theorem dX12_rowEnds_72 : decode cX12_rowEnds 72 = .ok (.ifCond .ne 13, 3) := by decide +kernel
theorem dX12_rowEnds_75 : decode cX12_rowEnds 75 = .ok (.aload_n 0, 1) := by decide +kernel
theorem dX12_rowEnds_76 : decode cX12_rowEnds 76 = .ok (.sipush 764, 3) := by decide +kernel
theorem dX12_rowEnds_79 : decode cX12_rowEnds 79 = .ok (.sipush 1085, 3) := by decide +kernel
theorem dX12_rowEnds_82 : decode cX12_rowEnds 82 = .ok (.invokevirtual 77, 3) := by decide +kernel
theorem dX12_rowEnds_85 : decode cX12_rowEnds 85 = .ok (.return_, 1) := by decide +kernel
set_option maxRecDepth 20000 in
theorem ggX12_words_X12_isLetter : GoodIn wsX12_words wsX12_isLetter := goodIn_r _ [10, 11, 12, 9, 13] (by decide +kernel) (by decide +kernel)
set_option maxRecDepth 20000 in
theorem gX12_words_X12_isLetter : GoodIn wsX12_words (va_wsS RX12 195 yX12_isLetter wsX12_isLetter) := goodIn_app (goodIn_of _ (by decide +kernel)) ggX12_words_X12_isLetter
set_option maxRecDepth 20000 in
theorem ggX12_words_X12_rowEnds : GoodIn wsX12_words wsX12_rowEnds := goodIn_r _ [17, 4, 2, 18, 19, 20, 9, 21, 3, 22, 23, 24, 25, 5, 26, 27, 28, 29, 30, 31, 32, 33, 34, 35, 36, 37, 38, 39, 40, 41, 42, 43, 44, 45, 46, 47, 48, 49, 50, 51, 52, 53, 54, 55, 56, 57, 58, 59, 60, 61, 62, 63, 64] (by decide +kernel) (by decide +kernel)
set_option maxRecDepth 20000 in
theorem gX12_words_X12_rowEnds : GoodIn wsX12_words (wsV RX12 210 RX12 yX12_rowEnds wsX12_rowEnds) := goodIn_app (goodIn_of _ (by decide +kernel)) ggX12_words_X12_rowEnds
set_option maxRecDepth 20000 in
theorem ggX12_words_X12_fails : GoodIn wsX12_words wsX12_fails := goodIn_r _ [21, 2, 3, 45, 46, 47, 48, 49, 50, 51, 52, 53, 54, 55, 56, 57, 58, 59, 60, 61, 62, 63, 64] (by decide +kernel) (by decide +kernel)
set_option maxRecDepth 20000 in
theorem gX12_words_X12_fails : GoodIn wsX12_words (wsV RX12 204 RX12 yX12_fails wsX12_fails) := goodIn_app (goodIn_of _ (by decide +kernel)) ggX12_words_X12_fails
set_option maxRecDepth 20000 in
theorem ggX12_words_X12_copies : GoodIn wsX12_words wsX12_copies := goodIn_r _ [44, 4, 45, 46, 47, 48, 49, 50, 51, 52, 53, 54, 55, 56, 57, 58, 59, 60, 61, 62, 63, 64] (by decide +kernel) (by decide +kernel)
set_option maxRecDepth 20000 in
theorem gX12_words_X12_copies : GoodIn wsX12_words (wsV RX12 62 RX12 yX12_copies wsX12_copies) := goodIn_app (goodIn_of _ (by decide +kernel)) ggX12_words_X12_copies
theorem dX12_words_0 : decode cX12_words 0 = .ok (.aload_n 0, 1) := by decide +kernel
theorem dX12_words_1 : decode cX12_words 1 = .ok (.getfield 180, 3) := by decide +kernel
theorem dX12_words_4 : decode cX12_words 4 = .ok (.istore_n 1, 1) := by decide +kernel
theorem dX12_words_5 : decode cX12_words 5 = .ok (.aload_n 0, 1) := by decide +kernel
theorem dX12_words_6 : decode cX12_words 6 = .ok (.iconst 0, 1) := by decide +kernel
theorem dX12_words_7 : decode cX12_words 7 = .ok (.putfield 180, 3) := by decide +kernel
theorem dX12_words_10 : decode cX12_words 10 = .ok (.aload_n 0, 1) := by decide +kernel
theorem dX12_words_11 : decode cX12_words 11 = .ok (.iconst 0, 1) := by decide +kernel
theorem dX12_words_12 : decode cX12_words 12 = .ok (.putfield 201, 3) := by decide +kernel
theorem dX12_words_15 : decode cX12_words 15 = .ok (.aload_n 0, 1) := by decide +kernel
theorem dX12_words_16 : decode cX12_words 16 = .ok (.iconst (-1), 1) := by decide +kernel
theorem dX12_words_17 : decode cX12_words 17 = .ok (.putfield 20, 3) := by decide +kernel
theorem dX12_words_20 : decode cX12_words 20 = .ok (.aload_n 0, 1) := by decide +kernel
theorem dX12_words_21 : decode cX12_words 21 = .ok (.getfield 7, 3) := by decide +kernel
theorem dX12_words_24 : decode cX12_words 24 = .ok (.sipush 764, 3) := by decide +kernel
theorem dX12_words_27 : decode cX12_words 27 = .ok (.iconst 0, 1) := by decide +kernel
theorem dX12_words_28 : decode cX12_words 28 = .ok (.iastore, 1) := by decide +kernel
theorem dX12_words_29 : decode cX12_words 29 = .ok (.iconst 0, 1) := by decide +kernel
theorem dX12_words_30 : decode cX12_words 30 = .ok (.istore_n 2, 1) := by decide +kernel
theorem dX12_words_31 : decode cX12_words 31 = .ok (.iconst 0, 1) := by decide +kernel
theorem dX12_words_32 : decode cX12_words 32 = .ok (.istore_n 3, 1) := by decide +kernel
theorem dX12_words_33 : decode cX12_words 33 = .ok (.iload_n 3, 1) := by decide +kernel
theorem dX12_words_34 : decode cX12_words 34 = .ok (.iload_n 1, 1) := by decide +kernel
theorem dX12_words_35 : decode cX12_words 35 = .ok (.if_icmp .gt 87, 3) := by decide +kernel
theorem dX12_words_38 : decode cX12_words 38 = .ok (.iload_n 3, 1) := by decide +kernel
theorem dX12_words_39 : decode cX12_words 39 = .ok (.iload_n 1, 1) := by decide +kernel
theorem dX12_words_40 : decode cX12_words 40 = .ok (.if_icmp .ge 19, 3) := by decide +kernel
theorem dX12_words_43 : decode cX12_words 43 = .ok (.aload_n 0, 1) := by decide +kernel
theorem dX12_words_44 : decode cX12_words 44 = .ok (.getfield 13, 3) := by decide +kernel
theorem dX12_words_47 : decode cX12_words 47 = .ok (.iload_n 3, 1) := by decide +kernel
theorem dX12_words_48 : decode cX12_words 48 = .ok (.iaload, 1) := by decide +kernel
theorem dX12_words_49 : decode cX12_words 49 = .ok (.invokestatic 195, 3) := by decide +kernel
theorem dX12_words_52 : decode cX12_words 52 = .ok (.ifCond .eq 7, 3) := by decide +kernel
theorem dX12_words_55 : decode cX12_words 55 = .ok (.iconst 1, 1) := by decide +kernel
theorem dX12_words_56 : decode cX12_words 56 = .ok (.goto 4, 3) := by decide +kernel
theorem dX12_words_59 : decode cX12_words 59 = .ok (.iconst 0, 1) := by decide +kernel
theorem dX12_words_60 : decode cX12_words 60 = .ok (.istore 4, 2) := by decide +kernel
theorem dX12_words_62 : decode cX12_words 62 = .ok (.iload 4, 2) := by decide +kernel
theorem dX12_words_64 : decode cX12_words 64 = .ok (.ifCond .eq 9, 3) := by decide +kernel
theorem dX12_words_67 : decode cX12_words 67 = .ok (.iinc 2 1, 3) := by decide +kernel
theorem dX12_words_70 : decode cX12_words 70 = .ok (.goto 46, 3) := by decide +kernel
theorem dX12_words_73 : decode cX12_words 73 = .ok (.aload_n 0, 1) := by decide +kernel
theorem dX12_words_74 : decode cX12_words 74 = .ok (.iload_n 3, 1) := by decide +kernel
theorem dX12_words_75 : decode cX12_words 75 = .ok (.iload_n 2, 1) := by decide +kernel
theorem dX12_words_76 : decode cX12_words 76 = .ok (.isub, 1) := by decide +kernel
theorem dX12_words_77 : decode cX12_words 77 = .ok (.iload_n 2, 1) := by decide +kernel
theorem dX12_words_78 : decode cX12_words 78 = .ok (.invokevirtual 210, 3) := by decide +kernel
theorem dX12_words_81 : decode cX12_words 81 = .ok (.iconst 0, 1) := by decide +kernel
theorem dX12_words_82 : decode cX12_words 82 = .ok (.istore_n 2, 1) := by decide +kernel
theorem dX12_words_83 : decode cX12_words 83 = .ok (.iload_n 3, 1) := by decide +kernel
theorem dX12_words_84 : decode cX12_words 84 = .ok (.iload_n 1, 1) := by decide +kernel
theorem dX12_words_85 : decode cX12_words 85 = .ok (.if_icmp .ge 31, 3) := by decide +kernel
theorem dX12_words_88 : decode cX12_words 88 = .ok (.aload_n 0, 1) := by decide +kernel
theorem dX12_words_89 : decode cX12_words 89 = .ok (.getfield 13, 3) := by decide +kernel
theorem dX12_words_92 : decode cX12_words 92 = .ok (.iload_n 3, 1) := by decide +kernel
theorem dX12_words_93 : decode cX12_words 93 = .ok (.iaload, 1) := by decide +kernel
theorem dX12_words_94 : decode cX12_words 94 = .ok (.bipush 32, 2) := by decide +kernel
theorem dX12_words_96 : decode cX12_words 96 = .ok (.if_icmp .eq 20, 3) := by decide +kernel
theorem dX12_words_99 : decode cX12_words 99 = .ok (.aload_n 0, 1) := by decide +kernel
theorem dX12_words_100 : decode cX12_words 100 = .ok (.getfield 13, 3) := by decide +kernel
theorem dX12_words_103 : decode cX12_words 103 = .ok (.iload_n 3, 1) := by decide +kernel
theorem dX12_words_104 : decode cX12_words 104 = .ok (.iaload, 1) := by decide +kernel
theorem dX12_words_105 : decode cX12_words 105 = .ok (.bipush 10, 2) := by decide +kernel
theorem dX12_words_107 : decode cX12_words 107 = .ok (.if_icmp .eq 9, 3) := by decide +kernel
theorem dX12_words_110 : decode cX12_words 110 = .ok (.aload_n 0, 1) := by decide +kernel
theorem dX12_words_111 : decode cX12_words 111 = .ok (.iconst 1, 1) := by decide +kernel
theorem dX12_words_112 : decode cX12_words 112 = .ok (.iload_n 3, 1) := by decide +kernel
theorem dX12_words_113 : decode cX12_words 113 = .ok (.invokevirtual 204, 3) := by decide +kernel
theorem dX12_words_116 : decode cX12_words 116 = .ok (.iinc 3 1, 3) := by decide +kernel
theorem dX12_words_119 : decode cX12_words 119 = .ok (.goto (-86), 3) := by decide +kernel
theorem dX12_words_122 : decode cX12_words 122 = .ok (.aload_n 0, 1) := by decide +kernel
theorem dX12_words_123 : decode cX12_words 123 = .ok (.getfield 201, 3) := by decide +kernel
theorem dX12_words_126 : decode cX12_words 126 = .ok (.ifCond .le 5, 3) := by decide +kernel
theorem dX12_words_129 : decode cX12_words 129 = .ok (.iconst (-1), 1) := by decide +kernel
theorem dX12_words_130 : decode cX12_words 130 = .ok (.ireturn, 1) := by decide +kernel
theorem dX12_words_131 : decode cX12_words 131 = .ok (.aload_n 0, 1) := by decide +kernel
theorem dX12_words_132 : decode cX12_words 132 = .ok (.sipush 764, 3) := by decide +kernel
theorem dX12_words_135 : decode cX12_words 135 = .ok (.iconst 0, 1) := by decide +kernel
theorem dX12_words_136 : decode cX12_words 136 = .ok (.sipush 321, 3) := by decide +kernel
theorem dX12_words_139 : decode cX12_words 139 = .ok (.invokevirtual 62, 3) := by decide +kernel
theorem dX12_words_142 : decode cX12_words 142 = .ok (.aload_n 0, 1) := by decide +kernel
theorem dX12_words_143 : decode cX12_words 143 = .ok (.getfield 7, 3) := by decide +kernel
theorem dX12_words_146 : decode cX12_words 146 = .ok (.sipush 321, 3) := by decide +kernel
theorem dX12_words_149 : decode cX12_words 149 = .ok (.iconst 0, 1) := by decide +kernel
theorem dX12_words_150 : decode cX12_words 150 = .ok (.iastore, 1) := by decide +kernel
theorem dX12_words_151 : decode cX12_words 151 = .ok (.aload_n 0, 1) := by decide +kernel
theorem dX12_words_152 : decode cX12_words 152 = .ok (.iconst 0, 1) := by decide +kernel
theorem dX12_words_153 : decode cX12_words 153 = .ok (.putfield 177, 3) := by decide +kernel
theorem dX12_words_156 : decode cX12_words 156 = .ok (.aload_n 0, 1) := by decide +kernel
theorem dX12_words_157 : decode cX12_words 157 = .ok (.getfield 7, 3) := by decide +kernel
theorem dX12_words_160 : decode cX12_words 160 = .ok (.iconst 0, 1) := by decide +kernel
theorem dX12_words_161 : decode cX12_words 161 = .ok (.iaload, 1) := by decide +kernel
theorem dX12_words_162 : decode cX12_words 162 = .ok (.ireturn, 1) := by decide +kernel
set_option maxRecDepth 20000 in
theorem ggX12_pattern_X12_fails : GoodIn wsX12_pattern wsX12_fails := goodIn_r _ [11, 2, 3, 37, 38, 39, 40, 41, 42, 43, 44, 45, 46, 47, 48, 49, 50, 51, 52, 53, 54, 55, 56] (by decide +kernel) (by decide +kernel)
set_option maxRecDepth 20000 in
theorem gX12_pattern_X12_fails : GoodIn wsX12_pattern (wsV RX12 204 RX12 yX12_fails wsX12_fails) := goodIn_app (goodIn_of _ (by decide +kernel)) ggX12_pattern_X12_fails
set_option maxRecDepth 20000 in
theorem ggX12_pattern_X12_isLetter : GoodIn wsX12_pattern wsX12_isLetter := goodIn_r _ [14, 15, 16, 10, 17] (by decide +kernel) (by decide +kernel)
set_option maxRecDepth 20000 in
theorem gX12_pattern_X12_isLetter : GoodIn wsX12_pattern (va_wsS RX12 195 yX12_isLetter wsX12_isLetter) := goodIn_app (goodIn_of _ (by decide +kernel)) ggX12_pattern_X12_isLetter
set_option maxRecDepth 20000 in
theorem ggX12_pattern_X12_laysPieces : GoodIn wsX12_pattern wsX12_laysPieces := goodIn_r _ [21, 5, 6, 22, 23, 24, 25, 26, 10, 27, 28, 29, 30, 31, 32, 33, 34, 35, 36, 37, 38, 39, 40, 41, 42, 43, 44, 45, 46, 47, 48, 49, 50, 51, 52, 53, 54, 55, 56] (by decide +kernel) (by decide +kernel)
set_option maxRecDepth 20000 in
theorem gX12_pattern_X12_laysPieces : GoodIn wsX12_pattern (wsV RX12 119 RX12 yX12_laysPieces wsX12_laysPieces) := goodIn_app (goodIn_of _ (by decide +kernel)) ggX12_pattern_X12_laysPieces
theorem dX12_pattern_0 : decode cX12_pattern 0 = .ok (.aload_n 0, 1) := by decide +kernel
theorem dX12_pattern_1 : decode cX12_pattern 1 = .ok (.getfield 180, 3) := by decide +kernel
theorem dX12_pattern_4 : decode cX12_pattern 4 = .ok (.istore_n 1, 1) := by decide +kernel
theorem dX12_pattern_5 : decode cX12_pattern 5 = .ok (.aload_n 0, 1) := by decide +kernel
theorem dX12_pattern_6 : decode cX12_pattern 6 = .ok (.iconst 0, 1) := by decide +kernel
theorem dX12_pattern_7 : decode cX12_pattern 7 = .ok (.putfield 180, 3) := by decide +kernel
theorem dX12_pattern_10 : decode cX12_pattern 10 = .ok (.aload_n 0, 1) := by decide +kernel
theorem dX12_pattern_11 : decode cX12_pattern 11 = .ok (.iconst 0, 1) := by decide +kernel
theorem dX12_pattern_12 : decode cX12_pattern 12 = .ok (.putfield 201, 3) := by decide +kernel
theorem dX12_pattern_15 : decode cX12_pattern 15 = .ok (.aload_n 0, 1) := by decide +kernel
theorem dX12_pattern_16 : decode cX12_pattern 16 = .ok (.iconst (-1), 1) := by decide +kernel
theorem dX12_pattern_17 : decode cX12_pattern 17 = .ok (.putfield 20, 3) := by decide +kernel
theorem dX12_pattern_20 : decode cX12_pattern 20 = .ok (.iload_n 1, 1) := by decide +kernel
theorem dX12_pattern_21 : decode cX12_pattern 21 = .ok (.ifCond .ne 10, 3) := by decide +kernel
theorem dX12_pattern_24 : decode cX12_pattern 24 = .ok (.aload_n 0, 1) := by decide +kernel
theorem dX12_pattern_25 : decode cX12_pattern 25 = .ok (.bipush 6, 2) := by decide +kernel
theorem dX12_pattern_27 : decode cX12_pattern 27 = .ok (.iconst 0, 1) := by decide +kernel
theorem dX12_pattern_28 : decode cX12_pattern 28 = .ok (.invokevirtual 204, 3) := by decide +kernel
theorem dX12_pattern_31 : decode cX12_pattern 31 = .ok (.iconst 0, 1) := by decide +kernel
theorem dX12_pattern_32 : decode cX12_pattern 32 = .ok (.istore_n 2, 1) := by decide +kernel
theorem dX12_pattern_33 : decode cX12_pattern 33 = .ok (.iload_n 2, 1) := by decide +kernel
theorem dX12_pattern_34 : decode cX12_pattern 34 = .ok (.iload_n 1, 1) := by decide +kernel
theorem dX12_pattern_35 : decode cX12_pattern 35 = .ok (.if_icmp .ge 55, 3) := by decide +kernel
theorem dX12_pattern_38 : decode cX12_pattern 38 = .ok (.iload_n 2, 1) := by decide +kernel
theorem dX12_pattern_39 : decode cX12_pattern 39 = .ok (.bipush 12, 2) := by decide +kernel
theorem dX12_pattern_41 : decode cX12_pattern 41 = .ok (.if_icmp .ge 49, 3) := by decide +kernel
theorem dX12_pattern_44 : decode cX12_pattern 44 = .ok (.aload_n 0, 1) := by decide +kernel
theorem dX12_pattern_45 : decode cX12_pattern 45 = .ok (.getfield 13, 3) := by decide +kernel
theorem dX12_pattern_48 : decode cX12_pattern 48 = .ok (.iload_n 2, 1) := by decide +kernel
theorem dX12_pattern_49 : decode cX12_pattern 49 = .ok (.iaload, 1) := by decide +kernel
theorem dX12_pattern_50 : decode cX12_pattern 50 = .ok (.invokestatic 195, 3) := by decide +kernel
theorem dX12_pattern_53 : decode cX12_pattern 53 = .ok (.ifCond .ne 31, 3) := by decide +kernel
theorem dX12_pattern_56 : decode cX12_pattern 56 = .ok (.aload_n 0, 1) := by decide +kernel
theorem dX12_pattern_57 : decode cX12_pattern 57 = .ok (.getfield 13, 3) := by decide +kernel
theorem dX12_pattern_60 : decode cX12_pattern 60 = .ok (.iload_n 2, 1) := by decide +kernel
theorem dX12_pattern_61 : decode cX12_pattern 61 = .ok (.iaload, 1) := by decide +kernel
theorem dX12_pattern_62 : decode cX12_pattern 62 = .ok (.bipush 63, 2) := by decide +kernel
theorem dX12_pattern_64 : decode cX12_pattern 64 = .ok (.if_icmp .eq 20, 3) := by decide +kernel
theorem dX12_pattern_67 : decode cX12_pattern 67 = .ok (.aload_n 0, 1) := by decide +kernel
theorem dX12_pattern_68 : decode cX12_pattern 68 = .ok (.getfield 13, 3) := by decide +kernel
theorem dX12_pattern_71 : decode cX12_pattern 71 = .ok (.iload_n 2, 1) := by decide +kernel
theorem dX12_pattern_72 : decode cX12_pattern 72 = .ok (.iaload, 1) := by decide +kernel
theorem dX12_pattern_73 : decode cX12_pattern 73 = .ok (.bipush 42, 2) := by decide +kernel
theorem dX12_pattern_75 : decode cX12_pattern 75 = .ok (.if_icmp .eq 9, 3) := by decide +kernel
theorem dX12_pattern_78 : decode cX12_pattern 78 = .ok (.aload_n 0, 1) := by decide +kernel
theorem dX12_pattern_79 : decode cX12_pattern 79 = .ok (.iconst 1, 1) := by decide +kernel
theorem dX12_pattern_80 : decode cX12_pattern 80 = .ok (.iload_n 2, 1) := by decide +kernel
theorem dX12_pattern_81 : decode cX12_pattern 81 = .ok (.invokevirtual 204, 3) := by decide +kernel
theorem dX12_pattern_84 : decode cX12_pattern 84 = .ok (.iinc 2 1, 3) := by decide +kernel
theorem dX12_pattern_87 : decode cX12_pattern 87 = .ok (.goto (-54), 3) := by decide +kernel
theorem dX12_pattern_90 : decode cX12_pattern 90 = .ok (.iload_n 1, 1) := by decide +kernel
theorem dX12_pattern_91 : decode cX12_pattern 91 = .ok (.bipush 12, 2) := by decide +kernel
theorem dX12_pattern_93 : decode cX12_pattern 93 = .ok (.if_icmp .le 10, 3) := by decide +kernel
theorem dX12_pattern_96 : decode cX12_pattern 96 = .ok (.aload_n 0, 1) := by decide +kernel
theorem dX12_pattern_97 : decode cX12_pattern 97 = .ok (.iconst 5, 1) := by decide +kernel
theorem dX12_pattern_98 : decode cX12_pattern 98 = .ok (.bipush 12, 2) := by decide +kernel
theorem dX12_pattern_100 : decode cX12_pattern 100 = .ok (.invokevirtual 204, 3) := by decide +kernel
theorem dX12_pattern_103 : decode cX12_pattern 103 = .ok (.aload_n 0, 1) := by decide +kernel
theorem dX12_pattern_104 : decode cX12_pattern 104 = .ok (.getfield 201, 3) := by decide +kernel
theorem dX12_pattern_107 : decode cX12_pattern 107 = .ok (.ifCond .le 5, 3) := by decide +kernel
theorem dX12_pattern_110 : decode cX12_pattern 110 = .ok (.iconst (-1), 1) := by decide +kernel
theorem dX12_pattern_111 : decode cX12_pattern 111 = .ok (.ireturn, 1) := by decide +kernel
theorem dX12_pattern_112 : decode cX12_pattern 112 = .ok (.aload_n 0, 1) := by decide +kernel
theorem dX12_pattern_113 : decode cX12_pattern 113 = .ok (.getfield 7, 3) := by decide +kernel
theorem dX12_pattern_116 : decode cX12_pattern 116 = .ok (.sipush 430, 3) := by decide +kernel
theorem dX12_pattern_119 : decode cX12_pattern 119 = .ok (.iload_n 1, 1) := by decide +kernel
theorem dX12_pattern_120 : decode cX12_pattern 120 = .ok (.iastore, 1) := by decide +kernel
theorem dX12_pattern_121 : decode cX12_pattern 121 = .ok (.iconst 0, 1) := by decide +kernel
theorem dX12_pattern_122 : decode cX12_pattern 122 = .ok (.istore_n 2, 1) := by decide +kernel
theorem dX12_pattern_123 : decode cX12_pattern 123 = .ok (.iload_n 2, 1) := by decide +kernel
theorem dX12_pattern_124 : decode cX12_pattern 124 = .ok (.iload_n 1, 1) := by decide +kernel
theorem dX12_pattern_125 : decode cX12_pattern 125 = .ok (.if_icmp .ge 25, 3) := by decide +kernel
theorem dX12_pattern_128 : decode cX12_pattern 128 = .ok (.aload_n 0, 1) := by decide +kernel
theorem dX12_pattern_129 : decode cX12_pattern 129 = .ok (.getfield 7, 3) := by decide +kernel
theorem dX12_pattern_132 : decode cX12_pattern 132 = .ok (.sipush 431, 3) := by decide +kernel
theorem dX12_pattern_135 : decode cX12_pattern 135 = .ok (.iload_n 2, 1) := by decide +kernel
theorem dX12_pattern_136 : decode cX12_pattern 136 = .ok (.iadd, 1) := by decide +kernel
theorem dX12_pattern_137 : decode cX12_pattern 137 = .ok (.aload_n 0, 1) := by decide +kernel
theorem dX12_pattern_138 : decode cX12_pattern 138 = .ok (.getfield 13, 3) := by decide +kernel
theorem dX12_pattern_141 : decode cX12_pattern 141 = .ok (.iload_n 2, 1) := by decide +kernel
theorem dX12_pattern_142 : decode cX12_pattern 142 = .ok (.iaload, 1) := by decide +kernel
theorem dX12_pattern_143 : decode cX12_pattern 143 = .ok (.iastore, 1) := by decide +kernel
theorem dX12_pattern_144 : decode cX12_pattern 144 = .ok (.iinc 2 1, 3) := by decide +kernel
theorem dX12_pattern_147 : decode cX12_pattern 147 = .ok (.goto (-24), 3) := by decide +kernel
theorem dX12_pattern_150 : decode cX12_pattern 150 = .ok (.aload_n 0, 1) := by decide +kernel
theorem dX12_pattern_151 : decode cX12_pattern 151 = .ok (.invokevirtual 119, 3) := by decide +kernel
theorem dX12_pattern_154 : decode cX12_pattern 154 = .ok (.aload_n 0, 1) := by decide +kernel
theorem dX12_pattern_155 : decode cX12_pattern 155 = .ok (.getfield 107, 3) := by decide +kernel
theorem dX12_pattern_158 : decode cX12_pattern 158 = .ok (.ireturn, 1) := by decide +kernel
set_option maxRecDepth 20000 in
theorem ggX12_edit_X12_isIn : GoodIn wsX12_edit wsX12_isIn := goodIn_r _ [7] (by decide +kernel) (by decide +kernel)
set_option maxRecDepth 20000 in
theorem gX12_edit_X12_isIn : GoodIn wsX12_edit (va_wsS RX12 51 yX12_isIn wsX12_isIn) := goodIn_app (goodIn_of _ (by decide +kernel)) ggX12_edit_X12_isIn
set_option maxRecDepth 20000 in
theorem ggX12_edit_X12_isLetter : GoodIn wsX12_edit wsX12_isLetter := goodIn_r _ [10, 4, 5, 6, 7] (by decide +kernel) (by decide +kernel)
set_option maxRecDepth 20000 in
theorem gX12_edit_X12_isLetter : GoodIn wsX12_edit (va_wsS RX12 195 yX12_isLetter wsX12_isLetter) := goodIn_app (goodIn_of _ (by decide +kernel)) ggX12_edit_X12_isLetter
set_option maxRecDepth 20000 in
theorem ggX12_edit_X12_laysWord : GoodIn wsX12_edit wsX12_laysWord := goodIn_r _ [14, 3, 2, 45, 46, 47, 48, 49, 50, 51, 52, 53, 54, 55, 56, 57, 58, 59, 60, 61, 62, 63, 64] (by decide +kernel) (by decide +kernel)
set_option maxRecDepth 20000 in
theorem gX12_edit_X12_laysWord : GoodIn wsX12_edit (wsV RX12 207 RX12 yX12_laysWord wsX12_laysWord) := goodIn_app (goodIn_of _ (by decide +kernel)) ggX12_edit_X12_laysWord
set_option maxRecDepth 20000 in
theorem ggX12_edit_X12_laysComing : GoodIn wsX12_edit wsX12_laysComing := goodIn_r _ [18, 3, 19, 20, 21, 6, 22, 23, 24, 25, 26, 27, 28, 29, 30, 31, 32, 33, 34, 35, 36, 37, 38, 39, 40, 41, 42, 43, 44, 45, 46, 47, 48, 49, 50, 51, 52, 53, 54, 55, 56, 57, 58, 59, 60, 61, 62, 63, 64] (by decide +kernel) (by decide +kernel)
set_option maxRecDepth 20000 in
theorem gX12_edit_X12_laysComing : GoodIn wsX12_edit (wsV RX12 80 RX12 yX12_laysComing wsX12_laysComing) := goodIn_app (goodIn_of _ (by decide +kernel)) ggX12_edit_X12_laysComing
set_option maxRecDepth 20000 in
theorem ggX12_edit_X12_numberOf : GoodIn wsX12_edit wsX12_numberOf := goodIn_r _ [29, 3, 30, 31, 6, 32, 33, 34, 35, 36, 45, 46, 47, 48, 49, 50, 51, 52, 53, 54, 55, 56, 57, 58, 59, 60, 61, 62, 63, 64] (by decide +kernel) (by decide +kernel)
set_option maxRecDepth 20000 in
theorem gX12_edit_X12_numberOf : GoodIn wsX12_edit (wsV RX12 70 RX12 yX12_numberOf wsX12_numberOf) := goodIn_app (goodIn_of _ (by decide +kernel)) ggX12_edit_X12_numberOf
set_option maxRecDepth 20000 in
theorem ggX12_edit_X12_editAt : GoodIn wsX12_edit wsX12_editAt := goodIn_r _ [25] (by decide +kernel) (by decide +kernel)
set_option maxRecDepth 20000 in
theorem gX12_edit_X12_editAt : GoodIn wsX12_edit (va_wsS RX12 66 yX12_editAt wsX12_editAt) := goodIn_app (goodIn_of _ (by decide +kernel)) ggX12_edit_X12_editAt
set_option maxRecDepth 20000 in
theorem ggX12_edit_X12_copies : GoodIn wsX12_edit wsX12_copies := goodIn_r _ [22, 3, 45, 46, 47, 48, 49, 50, 51, 52, 53, 54, 55, 56, 57, 58, 59, 60, 61, 62, 63, 64] (by decide +kernel) (by decide +kernel)
set_option maxRecDepth 20000 in
theorem gX12_edit_X12_copies : GoodIn wsX12_edit (wsV RX12 62 RX12 yX12_copies wsX12_copies) := goodIn_app (goodIn_of _ (by decide +kernel)) ggX12_edit_X12_copies
theorem dX12_edit_0 : decode cX12_edit 0 = .ok (.aload_n 0, 1) := by decide +kernel
theorem dX12_edit_1 : decode cX12_edit 1 = .ok (.getfield 180, 3) := by decide +kernel
theorem dX12_edit_4 : decode cX12_edit 4 = .ok (.istore_n 2, 1) := by decide +kernel
theorem dX12_edit_5 : decode cX12_edit 5 = .ok (.aload_n 0, 1) := by decide +kernel
theorem dX12_edit_6 : decode cX12_edit 6 = .ok (.iconst 0, 1) := by decide +kernel
theorem dX12_edit_7 : decode cX12_edit 7 = .ok (.putfield 180, 3) := by decide +kernel
theorem dX12_edit_10 : decode cX12_edit 10 = .ok (.iload_n 2, 1) := by decide +kernel
theorem dX12_edit_11 : decode cX12_edit 11 = .ok (.iconst 1, 1) := by decide +kernel
theorem dX12_edit_12 : decode cX12_edit 12 = .ok (.bipush 7, 2) := by decide +kernel
theorem dX12_edit_14 : decode cX12_edit 14 = .ok (.invokestatic 51, 3) := by decide +kernel
theorem dX12_edit_17 : decode cX12_edit 17 = .ok (.istore_n 3, 1) := by decide +kernel
theorem dX12_edit_18 : decode cX12_edit 18 = .ok (.iconst 0, 1) := by decide +kernel
theorem dX12_edit_19 : decode cX12_edit 19 = .ok (.istore 4, 2) := by decide +kernel
theorem dX12_edit_21 : decode cX12_edit 21 = .ok (.iload 4, 2) := by decide +kernel
theorem dX12_edit_23 : decode cX12_edit 23 = .ok (.iload_n 2, 1) := by decide +kernel
theorem dX12_edit_24 : decode cX12_edit 24 = .ok (.if_icmp .ge 32, 3) := by decide +kernel
theorem dX12_edit_27 : decode cX12_edit 27 = .ok (.iload_n 3, 1) := by decide +kernel
theorem dX12_edit_28 : decode cX12_edit 28 = .ok (.ifCond .eq 20, 3) := by decide +kernel
theorem dX12_edit_31 : decode cX12_edit 31 = .ok (.aload_n 0, 1) := by decide +kernel
theorem dX12_edit_32 : decode cX12_edit 32 = .ok (.getfield 13, 3) := by decide +kernel
theorem dX12_edit_35 : decode cX12_edit 35 = .ok (.iload 4, 2) := by decide +kernel
theorem dX12_edit_37 : decode cX12_edit 37 = .ok (.iaload, 1) := by decide +kernel
theorem dX12_edit_38 : decode cX12_edit 38 = .ok (.invokestatic 195, 3) := by decide +kernel
theorem dX12_edit_41 : decode cX12_edit 41 = .ok (.ifCond .eq 7, 3) := by decide +kernel
theorem dX12_edit_44 : decode cX12_edit 44 = .ok (.iconst 1, 1) := by decide +kernel
theorem dX12_edit_45 : decode cX12_edit 45 = .ok (.goto 4, 3) := by decide +kernel
theorem dX12_edit_48 : decode cX12_edit 48 = .ok (.iconst 0, 1) := by decide +kernel
theorem dX12_edit_49 : decode cX12_edit 49 = .ok (.istore_n 3, 1) := by decide +kernel
theorem dX12_edit_50 : decode cX12_edit 50 = .ok (.iinc 4 1, 3) := by decide +kernel
theorem dX12_edit_53 : decode cX12_edit 53 = .ok (.goto (-32), 3) := by decide +kernel
theorem dX12_edit_56 : decode cX12_edit 56 = .ok (.iload_n 3, 1) := by decide +kernel
theorem dX12_edit_57 : decode cX12_edit 57 = .ok (.ifCond .eq 16, 3) := by decide +kernel
theorem dX12_edit_60 : decode cX12_edit 60 = .ok (.aload_n 0, 1) := by decide +kernel
theorem dX12_edit_61 : decode cX12_edit 61 = .ok (.getfield 7, 3) := by decide +kernel
theorem dX12_edit_64 : decode cX12_edit 64 = .ok (.sipush 321, 3) := by decide +kernel
theorem dX12_edit_67 : decode cX12_edit 67 = .ok (.iaload, 1) := by decide +kernel
theorem dX12_edit_68 : decode cX12_edit 68 = .ok (.bipush 12, 2) := by decide +kernel
theorem dX12_edit_70 : decode cX12_edit 70 = .ok (.if_icmp .ne 5, 3) := by decide +kernel
theorem dX12_edit_73 : decode cX12_edit 73 = .ok (.iconst (-1), 1) := by decide +kernel
theorem dX12_edit_74 : decode cX12_edit 74 = .ok (.ireturn, 1) := by decide +kernel
theorem dX12_edit_75 : decode cX12_edit 75 = .ok (.aload_n 0, 1) := by decide +kernel
theorem dX12_edit_76 : decode cX12_edit 76 = .ok (.iconst 0, 1) := by decide +kernel
theorem dX12_edit_77 : decode cX12_edit 77 = .ok (.iload_n 2, 1) := by decide +kernel
theorem dX12_edit_78 : decode cX12_edit 78 = .ok (.sipush 1085, 3) := by decide +kernel
theorem dX12_edit_81 : decode cX12_edit 81 = .ok (.invokevirtual 207, 3) := by decide +kernel
theorem dX12_edit_84 : decode cX12_edit 84 = .ok (.aload_n 0, 1) := by decide +kernel
theorem dX12_edit_85 : decode cX12_edit 85 = .ok (.invokevirtual 80, 3) := by decide +kernel
theorem dX12_edit_88 : decode cX12_edit 88 = .ok (.aload_n 0, 1) := by decide +kernel
theorem dX12_edit_89 : decode cX12_edit 89 = .ok (.sipush 443, 3) := by decide +kernel
theorem dX12_edit_92 : decode cX12_edit 92 = .ok (.sipush 1085, 3) := by decide +kernel
theorem dX12_edit_95 : decode cX12_edit 95 = .ok (.invokevirtual 70, 3) := by decide +kernel
theorem dX12_edit_98 : decode cX12_edit 98 = .ok (.ifCond .lt 7, 3) := by decide +kernel
theorem dX12_edit_101 : decode cX12_edit 101 = .ok (.iconst 1, 1) := by decide +kernel
theorem dX12_edit_102 : decode cX12_edit 102 = .ok (.goto 4, 3) := by decide +kernel
theorem dX12_edit_105 : decode cX12_edit 105 = .ok (.iconst 0, 1) := by decide +kernel
theorem dX12_edit_106 : decode cX12_edit 106 = .ok (.istore 4, 2) := by decide +kernel
theorem dX12_edit_108 : decode cX12_edit 108 = .ok (.iload 4, 2) := by decide +kernel
theorem dX12_edit_110 : decode cX12_edit 110 = .ok (.iload_n 1, 1) := by decide +kernel
theorem dX12_edit_111 : decode cX12_edit 111 = .ok (.if_icmp .ne 20, 3) := by decide +kernel
theorem dX12_edit_114 : decode cX12_edit 114 = .ok (.iload_n 1, 1) := by decide +kernel
theorem dX12_edit_115 : decode cX12_edit 115 = .ok (.ifCond .ne 18, 3) := by decide +kernel
theorem dX12_edit_118 : decode cX12_edit 118 = .ok (.aload_n 0, 1) := by decide +kernel
theorem dX12_edit_119 : decode cX12_edit 119 = .ok (.getfield 7, 3) := by decide +kernel
theorem dX12_edit_122 : decode cX12_edit 122 = .ok (.sipush 443, 3) := by decide +kernel
theorem dX12_edit_125 : decode cX12_edit 125 = .ok (.iaload, 1) := by decide +kernel
theorem dX12_edit_126 : decode cX12_edit 126 = .ok (.bipush 40, 2) := by decide +kernel
theorem dX12_edit_128 : decode cX12_edit 128 = .ok (.if_icmp .ne 5, 3) := by decide +kernel
theorem dX12_edit_131 : decode cX12_edit 131 = .ok (.iconst (-1), 1) := by decide +kernel
theorem dX12_edit_132 : decode cX12_edit 132 = .ok (.ireturn, 1) := by decide +kernel
theorem dX12_edit_133 : decode cX12_edit 133 = .ok (.aload_n 0, 1) := by decide +kernel
theorem dX12_edit_134 : decode cX12_edit 134 = .ok (.getfield 7, 3) := by decide +kernel
theorem dX12_edit_137 : decode cX12_edit 137 = .ok (.sipush 321, 3) := by decide +kernel
theorem dX12_edit_140 : decode cX12_edit 140 = .ok (.iaload, 1) := by decide +kernel
theorem dX12_edit_141 : decode cX12_edit 141 = .ok (.invokestatic 66, 3) := by decide +kernel
theorem dX12_edit_144 : decode cX12_edit 144 = .ok (.istore 5, 2) := by decide +kernel
theorem dX12_edit_146 : decode cX12_edit 146 = .ok (.aload_n 0, 1) := by decide +kernel
theorem dX12_edit_147 : decode cX12_edit 147 = .ok (.getfield 7, 3) := by decide +kernel
theorem dX12_edit_150 : decode cX12_edit 150 = .ok (.iload 5, 2) := by decide +kernel
theorem dX12_edit_152 : decode cX12_edit 152 = .ok (.iload_n 1, 1) := by decide +kernel
theorem dX12_edit_153 : decode cX12_edit 153 = .ok (.ifCond .eq 7, 3) := by decide +kernel
theorem dX12_edit_156 : decode cX12_edit 156 = .ok (.iconst 1, 1) := by decide +kernel
theorem dX12_edit_157 : decode cX12_edit 157 = .ok (.goto 4, 3) := by decide +kernel
theorem dX12_edit_160 : decode cX12_edit 160 = .ok (.iconst 0, 1) := by decide +kernel
theorem dX12_edit_161 : decode cX12_edit 161 = .ok (.iastore, 1) := by decide +kernel
theorem dX12_edit_162 : decode cX12_edit 162 = .ok (.aload_n 0, 1) := by decide +kernel
theorem dX12_edit_163 : decode cX12_edit 163 = .ok (.sipush 1085, 3) := by decide +kernel
theorem dX12_edit_166 : decode cX12_edit 166 = .ok (.iload 5, 2) := by decide +kernel
theorem dX12_edit_168 : decode cX12_edit 168 = .ok (.iconst 1, 1) := by decide +kernel
theorem dX12_edit_169 : decode cX12_edit 169 = .ok (.iadd, 1) := by decide +kernel
theorem dX12_edit_170 : decode cX12_edit 170 = .ok (.bipush 8, 2) := by decide +kernel
theorem dX12_edit_172 : decode cX12_edit 172 = .ok (.invokevirtual 62, 3) := by decide +kernel
theorem dX12_edit_175 : decode cX12_edit 175 = .ok (.aload_n 0, 1) := by decide +kernel
theorem dX12_edit_176 : decode cX12_edit 176 = .ok (.getfield 7, 3) := by decide +kernel
theorem dX12_edit_179 : decode cX12_edit 179 = .ok (.sipush 321, 3) := by decide +kernel
theorem dX12_edit_182 : decode cX12_edit 182 = .ok (.dup2, 1) := by decide +kernel
theorem dX12_edit_183 : decode cX12_edit 183 = .ok (.iaload, 1) := by decide +kernel
theorem dX12_edit_184 : decode cX12_edit 184 = .ok (.iconst 1, 1) := by decide +kernel
theorem dX12_edit_185 : decode cX12_edit 185 = .ok (.iadd, 1) := by decide +kernel
theorem dX12_edit_186 : decode cX12_edit 186 = .ok (.iastore, 1) := by decide +kernel
theorem dX12_edit_187 : decode cX12_edit 187 = .ok (.aload_n 0, 1) := by decide +kernel
theorem dX12_edit_188 : decode cX12_edit 188 = .ok (.getfield 7, 3) := by decide +kernel
theorem dX12_edit_191 : decode cX12_edit 191 = .ok (.sipush 321, 3) := by decide +kernel
theorem dX12_edit_194 : decode cX12_edit 194 = .ok (.iaload, 1) := by decide +kernel
theorem dX12_edit_195 : decode cX12_edit 195 = .ok (.ireturn, 1) := by decide +kernel
theorem dX12_cancel_0 : decode cX12_cancel 0 = .ok (.aload_n 0, 1) := by decide +kernel
theorem dX12_cancel_1 : decode cX12_cancel 1 = .ok (.getfield 7, 3) := by decide +kernel
theorem dX12_cancel_4 : decode cX12_cancel 4 = .ok (.sipush 321, 3) := by decide +kernel
theorem dX12_cancel_7 : decode cX12_cancel 7 = .ok (.iaload, 1) := by decide +kernel
theorem dX12_cancel_8 : decode cX12_cancel 8 = .ok (.istore_n 1, 1) := by decide +kernel
theorem dX12_cancel_9 : decode cX12_cancel 9 = .ok (.aload_n 0, 1) := by decide +kernel
theorem dX12_cancel_10 : decode cX12_cancel 10 = .ok (.getfield 7, 3) := by decide +kernel
theorem dX12_cancel_13 : decode cX12_cancel 13 = .ok (.sipush 321, 3) := by decide +kernel
theorem dX12_cancel_16 : decode cX12_cancel 16 = .ok (.iconst 0, 1) := by decide +kernel
theorem dX12_cancel_17 : decode cX12_cancel 17 = .ok (.iastore, 1) := by decide +kernel
theorem dX12_cancel_18 : decode cX12_cancel 18 = .ok (.iload_n 1, 1) := by decide +kernel
theorem dX12_cancel_19 : decode cX12_cancel 19 = .ok (.ireturn, 1) := by decide +kernel
set_option maxRecDepth 20000 in
theorem ggX12_moved_X12_laysTurns : GoodIn wsX12_moved wsX12_laysTurns := goodIn_r _ [9, 1, 10, 11, 12, 8, 13, 14, 15, 16, 17, 3, 4, 18, 19, 20, 21, 22, 23, 24, 25, 34, 35, 36, 37, 38, 39, 40, 41, 42, 43, 44, 45, 46, 47, 48, 49, 50, 51, 52, 53] (by decide +kernel) (by decide +kernel)
set_option maxRecDepth 20000 in
theorem gX12_moved_X12_laysTurns : GoodIn wsX12_moved (wsV RX12 134 RX12 yX12_laysTurns wsX12_laysTurns) := goodIn_app (goodIn_of _ (by decide +kernel)) ggX12_moved_X12_laysTurns
set_option maxRecDepth 20000 in
theorem ggX12_moved_X12_wordAt : GoodIn wsX12_moved wsX12_wordAt := goodIn_r _ [13] (by decide +kernel) (by decide +kernel)
set_option maxRecDepth 20000 in
theorem gX12_moved_X12_wordAt : GoodIn wsX12_moved (va_wsS RX12 55 yX12_wordAt wsX12_wordAt) := goodIn_app (goodIn_of _ (by decide +kernel)) ggX12_moved_X12_wordAt
set_option maxRecDepth 20000 in
theorem ggX12_moved_X12_numberOf : GoodIn wsX12_moved wsX12_numberOf := goodIn_r _ [29, 10, 11, 12, 8, 13, 30, 31, 32, 33, 34, 35, 36, 37, 38, 39, 40, 41, 42, 43, 44, 45, 46, 47, 48, 49, 50, 51, 52, 53] (by decide +kernel) (by decide +kernel)
set_option maxRecDepth 20000 in
theorem gX12_moved_X12_numberOf : GoodIn wsX12_moved (wsV RX12 70 RX12 yX12_numberOf wsX12_numberOf) := goodIn_app (goodIn_of _ (by decide +kernel)) ggX12_moved_X12_numberOf
theorem dX12_moved_0 : decode cX12_moved 0 = .ok (.aload_n 0, 1) := by decide +kernel
theorem dX12_moved_1 : decode cX12_moved 1 = .ok (.iconst 0, 1) := by decide +kernel
theorem dX12_moved_2 : decode cX12_moved 2 = .ok (.invokevirtual 134, 3) := by decide +kernel
theorem dX12_moved_5 : decode cX12_moved 5 = .ok (.iconst 0, 1) := by decide +kernel
theorem dX12_moved_6 : decode cX12_moved 6 = .ok (.istore_n 1, 1) := by decide +kernel
theorem dX12_moved_7 : decode cX12_moved 7 = .ok (.iload_n 1, 1) := by decide +kernel
theorem dX12_moved_8 : decode cX12_moved 8 = .ok (.aload_n 0, 1) := by decide +kernel
theorem dX12_moved_9 : decode cX12_moved 9 = .ok (.getfield 87, 3) := by decide +kernel
theorem dX12_moved_12 : decode cX12_moved 12 = .ok (.if_icmp .ge 31, 3) := by decide +kernel
theorem dX12_moved_15 : decode cX12_moved 15 = .ok (.aload_n 0, 1) := by decide +kernel
theorem dX12_moved_16 : decode cX12_moved 16 = .ok (.getfield 48, 3) := by decide +kernel
theorem dX12_moved_19 : decode cX12_moved 19 = .ok (.bipush 8, 2) := by decide +kernel
theorem dX12_moved_21 : decode cX12_moved 21 = .ok (.aload_n 0, 1) := by decide +kernel
theorem dX12_moved_22 : decode cX12_moved 22 = .ok (.getfield 24, 3) := by decide +kernel
theorem dX12_moved_25 : decode cX12_moved 25 = .ok (.iload_n 1, 1) := by decide +kernel
theorem dX12_moved_26 : decode cX12_moved 26 = .ok (.iaload, 1) := by decide +kernel
theorem dX12_moved_27 : decode cX12_moved 27 = .ok (.imul, 1) := by decide +kernel
theorem dX12_moved_28 : decode cX12_moved 28 = .ok (.aload_n 0, 1) := by decide +kernel
theorem dX12_moved_29 : decode cX12_moved 29 = .ok (.getfield 27, 3) := by decide +kernel
theorem dX12_moved_32 : decode cX12_moved 32 = .ok (.iload_n 1, 1) := by decide +kernel
theorem dX12_moved_33 : decode cX12_moved 33 = .ok (.iaload, 1) := by decide +kernel
theorem dX12_moved_34 : decode cX12_moved 34 = .ok (.iadd, 1) := by decide +kernel
theorem dX12_moved_35 : decode cX12_moved 35 = .ok (.iload_n 1, 1) := by decide +kernel
theorem dX12_moved_36 : decode cX12_moved 36 = .ok (.iastore, 1) := by decide +kernel
theorem dX12_moved_37 : decode cX12_moved 37 = .ok (.iinc 1 1, 3) := by decide +kernel
theorem dX12_moved_40 : decode cX12_moved 40 = .ok (.goto (-33), 3) := by decide +kernel
theorem dX12_moved_43 : decode cX12_moved 43 = .ok (.aload_n 0, 1) := by decide +kernel
theorem dX12_moved_44 : decode cX12_moved 44 = .ok (.sipush 443, 3) := by decide +kernel
theorem dX12_moved_47 : decode cX12_moved 47 = .ok (.invokevirtual 134, 3) := by decide +kernel
theorem dX12_moved_50 : decode cX12_moved 50 = .ok (.iconst 0, 1) := by decide +kernel
theorem dX12_moved_51 : decode cX12_moved 51 = .ok (.istore_n 1, 1) := by decide +kernel
theorem dX12_moved_52 : decode cX12_moved 52 = .ok (.iconst 0, 1) := by decide +kernel
theorem dX12_moved_53 : decode cX12_moved 53 = .ok (.istore_n 2, 1) := by decide +kernel
theorem dX12_moved_54 : decode cX12_moved 54 = .ok (.iload_n 2, 1) := by decide +kernel
theorem dX12_moved_55 : decode cX12_moved 55 = .ok (.aload_n 0, 1) := by decide +kernel
theorem dX12_moved_56 : decode cX12_moved 56 = .ok (.getfield 87, 3) := by decide +kernel
theorem dX12_moved_59 : decode cX12_moved 59 = .ok (.if_icmp .ge 59, 3) := by decide +kernel
theorem dX12_moved_62 : decode cX12_moved 62 = .ok (.aload_n 0, 1) := by decide +kernel
theorem dX12_moved_63 : decode cX12_moved 63 = .ok (.iconst 0, 1) := by decide +kernel
theorem dX12_moved_64 : decode cX12_moved 64 = .ok (.sipush 443, 3) := by decide +kernel
theorem dX12_moved_67 : decode cX12_moved 67 = .ok (.aload_n 0, 1) := by decide +kernel
theorem dX12_moved_68 : decode cX12_moved 68 = .ok (.getfield 24, 3) := by decide +kernel
theorem dX12_moved_71 : decode cX12_moved 71 = .ok (.iload_n 2, 1) := by decide +kernel
theorem dX12_moved_72 : decode cX12_moved 72 = .ok (.iaload, 1) := by decide +kernel
theorem dX12_moved_73 : decode cX12_moved 73 = .ok (.invokestatic 55, 3) := by decide +kernel
theorem dX12_moved_76 : decode cX12_moved 76 = .ok (.invokevirtual 70, 3) := by decide +kernel
theorem dX12_moved_79 : decode cX12_moved 79 = .ok (.istore_n 3, 1) := by decide +kernel
theorem dX12_moved_80 : decode cX12_moved 80 = .ok (.iload_n 1, 1) := by decide +kernel
theorem dX12_moved_81 : decode cX12_moved 81 = .ok (.iload_n 3, 1) := by decide +kernel
theorem dX12_moved_82 : decode cX12_moved 82 = .ok (.ifCond .lt 27, 3) := by decide +kernel
theorem dX12_moved_85 : decode cX12_moved 85 = .ok (.aload_n 0, 1) := by decide +kernel
theorem dX12_moved_86 : decode cX12_moved 86 = .ok (.getfield 48, 3) := by decide +kernel
theorem dX12_moved_89 : decode cX12_moved 89 = .ok (.bipush 8, 2) := by decide +kernel
theorem dX12_moved_91 : decode cX12_moved 91 = .ok (.iload_n 3, 1) := by decide +kernel
theorem dX12_moved_92 : decode cX12_moved 92 = .ok (.imul, 1) := by decide +kernel
theorem dX12_moved_93 : decode cX12_moved 93 = .ok (.aload_n 0, 1) := by decide +kernel
theorem dX12_moved_94 : decode cX12_moved 94 = .ok (.getfield 27, 3) := by decide +kernel
theorem dX12_moved_97 : decode cX12_moved 97 = .ok (.iload_n 2, 1) := by decide +kernel
theorem dX12_moved_98 : decode cX12_moved 98 = .ok (.iaload, 1) := by decide +kernel
theorem dX12_moved_99 : decode cX12_moved 99 = .ok (.iadd, 1) := by decide +kernel
theorem dX12_moved_100 : decode cX12_moved 100 = .ok (.iaload, 1) := by decide +kernel
theorem dX12_moved_101 : decode cX12_moved 101 = .ok (.iload_n 2, 1) := by decide +kernel
theorem dX12_moved_102 : decode cX12_moved 102 = .ok (.if_icmp .eq 7, 3) := by decide +kernel
theorem dX12_moved_105 : decode cX12_moved 105 = .ok (.iconst 1, 1) := by decide +kernel
theorem dX12_moved_106 : decode cX12_moved 106 = .ok (.goto 4, 3) := by decide +kernel
theorem dX12_moved_109 : decode cX12_moved 109 = .ok (.iconst 0, 1) := by decide +kernel
theorem dX12_moved_110 : decode cX12_moved 110 = .ok (.iadd, 1) := by decide +kernel
theorem dX12_moved_111 : decode cX12_moved 111 = .ok (.istore_n 1, 1) := by decide +kernel
theorem dX12_moved_112 : decode cX12_moved 112 = .ok (.iinc 2 1, 3) := by decide +kernel
theorem dX12_moved_115 : decode cX12_moved 115 = .ok (.goto (-61), 3) := by decide +kernel
theorem dX12_moved_118 : decode cX12_moved 118 = .ok (.iload_n 1, 1) := by decide +kernel
theorem dX12_moved_119 : decode cX12_moved 119 = .ok (.ireturn, 1) := by decide +kernel
set_option maxRecDepth 20000 in
theorem ggX12_merge_X12_laysComing : GoodIn wsX12_merge wsX12_laysComing := goodIn_r _ [7, 1, 8, 9, 10, 6, 11, 12, 13, 14, 15, 16, 17, 18, 19, 20, 21, 22, 23, 24, 25, 26, 27, 28, 29, 30, 31, 32, 33, 58, 59, 60, 61, 62, 63, 64, 65, 66, 67, 68, 69, 70, 71, 72, 73, 74, 75, 76, 77] (by decide +kernel) (by decide +kernel)
set_option maxRecDepth 20000 in
theorem gX12_merge_X12_laysComing : GoodIn wsX12_merge (wsV RX12 80 RX12 yX12_laysComing wsX12_laysComing) := goodIn_app (goodIn_of _ (by decide +kernel)) ggX12_merge_X12_laysComing
set_option maxRecDepth 20000 in
theorem ggX12_merge_X12_moved : GoodIn wsX12_merge wsX12_moved := goodIn_r _ [37, 38, 39, 40, 41, 42, 43, 44, 6, 45, 1, 19, 20, 21, 46, 47, 48, 49, 50, 51, 52, 53, 54, 55, 56, 57, 15, 16, 17, 18, 22, 23, 24, 25, 58, 59, 60, 61, 62, 63, 64, 65, 66, 67, 68, 69, 70, 71, 72, 73, 74, 75, 76, 77] (by decide +kernel) (by decide +kernel)
set_option maxRecDepth 20000 in
theorem gX12_merge_X12_moved : GoodIn wsX12_merge (wsV RX12 213 RX12 yX12_moved wsX12_moved) := goodIn_app (goodIn_of _ (by decide +kernel)) ggX12_merge_X12_moved
set_option maxRecDepth 20000 in
theorem ggX12_merge_X12_copies : GoodIn wsX12_merge wsX12_copies := goodIn_r _ [11, 1, 58, 59, 60, 61, 62, 63, 64, 65, 66, 67, 68, 69, 70, 71, 72, 73, 74, 75, 76, 77] (by decide +kernel) (by decide +kernel)
set_option maxRecDepth 20000 in
theorem gX12_merge_X12_copies : GoodIn wsX12_merge (wsV RX12 62 RX12 yX12_copies wsX12_copies) := goodIn_app (goodIn_of _ (by decide +kernel)) ggX12_merge_X12_copies
theorem dX12_merge_0 : decode cX12_merge 0 = .ok (.aload_n 0, 1) := by decide +kernel
theorem dX12_merge_1 : decode cX12_merge 1 = .ok (.getfield 7, 3) := by decide +kernel
theorem dX12_merge_4 : decode cX12_merge 4 = .ok (.sipush 321, 3) := by decide +kernel
theorem dX12_merge_7 : decode cX12_merge 7 = .ok (.iaload, 1) := by decide +kernel
theorem dX12_merge_8 : decode cX12_merge 8 = .ok (.ifCond .ne 5, 3) := by decide +kernel
theorem dX12_merge_11 : decode cX12_merge 11 = .ok (.iconst 0, 1) := by decide +kernel
theorem dX12_merge_12 : decode cX12_merge 12 = .ok (.ireturn, 1) := by decide +kernel
theorem dX12_merge_13 : decode cX12_merge 13 = .ok (.aload_n 0, 1) := by decide +kernel
theorem dX12_merge_14 : decode cX12_merge 14 = .ok (.invokevirtual 80, 3) := by decide +kernel
theorem dX12_merge_17 : decode cX12_merge 17 = .ok (.aload_n 0, 1) := by decide +kernel
theorem dX12_merge_18 : decode cX12_merge 18 = .ok (.invokevirtual 213, 3) := by decide +kernel
theorem dX12_merge_21 : decode cX12_merge 21 = .ok (.istore_n 1, 1) := by decide +kernel
theorem dX12_merge_22 : decode cX12_merge 22 = .ok (.aload_n 0, 1) := by decide +kernel
theorem dX12_merge_23 : decode cX12_merge 23 = .ok (.getfield 177, 3) := by decide +kernel
theorem dX12_merge_26 : decode cX12_merge 26 = .ok (.iconst 4, 1) := by decide +kernel
theorem dX12_merge_27 : decode cX12_merge 27 = .ok (.if_icmp .ne 26, 3) := by decide +kernel
theorem dX12_merge_30 : decode cX12_merge 30 = .ok (.aload_n 0, 1) := by decide +kernel
theorem dX12_merge_31 : decode cX12_merge 31 = .ok (.sipush 1727, 3) := by decide +kernel
theorem dX12_merge_34 : decode cX12_merge 34 = .ok (.sipush 1406, 3) := by decide +kernel
theorem dX12_merge_37 : decode cX12_merge 37 = .ok (.sipush 963, 3) := by decide +kernel
theorem dX12_merge_40 : decode cX12_merge 40 = .ok (.invokevirtual 62, 3) := by decide +kernel
theorem dX12_merge_43 : decode cX12_merge 43 = .ok (.aload_n 0, 1) := by decide +kernel
theorem dX12_merge_44 : decode cX12_merge 44 = .ok (.dup, 1) := by decide +kernel
theorem dX12_merge_45 : decode cX12_merge 45 = .ok (.getfield 177, 3) := by decide +kernel
theorem dX12_merge_48 : decode cX12_merge 48 = .ok (.iconst 1, 1) := by decide +kernel
theorem dX12_merge_49 : decode cX12_merge 49 = .ok (.isub, 1) := by decide +kernel
theorem dX12_merge_50 : decode cX12_merge 50 = .ok (.putfield 177, 3) := by decide +kernel
theorem dX12_merge_53 : decode cX12_merge 53 = .ok (.aload_n 0, 1) := by decide +kernel
theorem dX12_merge_54 : decode cX12_merge 54 = .ok (.iconst 0, 1) := by decide +kernel
theorem dX12_merge_55 : decode cX12_merge 55 = .ok (.sipush 1406, 3) := by decide +kernel
theorem dX12_merge_58 : decode cX12_merge 58 = .ok (.sipush 321, 3) := by decide +kernel
theorem dX12_merge_61 : decode cX12_merge 61 = .ok (.aload_n 0, 1) := by decide +kernel
theorem dX12_merge_62 : decode cX12_merge 62 = .ok (.getfield 177, 3) := by decide +kernel
theorem dX12_merge_65 : decode cX12_merge 65 = .ok (.imul, 1) := by decide +kernel
theorem dX12_merge_66 : decode cX12_merge 66 = .ok (.iadd, 1) := by decide +kernel
theorem dX12_merge_67 : decode cX12_merge 67 = .ok (.sipush 321, 3) := by decide +kernel
theorem dX12_merge_70 : decode cX12_merge 70 = .ok (.invokevirtual 62, 3) := by decide +kernel
theorem dX12_merge_73 : decode cX12_merge 73 = .ok (.aload_n 0, 1) := by decide +kernel
theorem dX12_merge_74 : decode cX12_merge 74 = .ok (.dup, 1) := by decide +kernel
theorem dX12_merge_75 : decode cX12_merge 75 = .ok (.getfield 177, 3) := by decide +kernel
theorem dX12_merge_78 : decode cX12_merge 78 = .ok (.iconst 1, 1) := by decide +kernel
theorem dX12_merge_79 : decode cX12_merge 79 = .ok (.iadd, 1) := by decide +kernel
theorem dX12_merge_80 : decode cX12_merge 80 = .ok (.putfield 177, 3) := by decide +kernel
theorem dX12_merge_83 : decode cX12_merge 83 = .ok (.aload_n 0, 1) := by decide +kernel
theorem dX12_merge_84 : decode cX12_merge 84 = .ok (.sipush 443, 3) := by decide +kernel
theorem dX12_merge_87 : decode cX12_merge 87 = .ok (.iconst 0, 1) := by decide +kernel
theorem dX12_merge_88 : decode cX12_merge 88 = .ok (.sipush 321, 3) := by decide +kernel
theorem dX12_merge_91 : decode cX12_merge 91 = .ok (.invokevirtual 62, 3) := by decide +kernel
theorem dX12_merge_94 : decode cX12_merge 94 = .ok (.aload_n 0, 1) := by decide +kernel
theorem dX12_merge_95 : decode cX12_merge 95 = .ok (.getfield 7, 3) := by decide +kernel
theorem dX12_merge_98 : decode cX12_merge 98 = .ok (.sipush 321, 3) := by decide +kernel
theorem dX12_merge_101 : decode cX12_merge 101 = .ok (.iconst 0, 1) := by decide +kernel
theorem dX12_merge_102 : decode cX12_merge 102 = .ok (.iastore, 1) := by decide +kernel
theorem dX12_merge_103 : decode cX12_merge 103 = .ok (.iload_n 1, 1) := by decide +kernel
theorem dX12_merge_104 : decode cX12_merge 104 = .ok (.ireturn, 1) := by decide +kernel
set_option maxRecDepth 20000 in
theorem ggX12_undo_X12_copies : GoodIn wsX12_undo wsX12_copies := goodIn_r _ [7, 2, 8, 9, 10, 11, 12, 13, 14, 15, 16, 17, 18, 19, 20, 21, 22, 23, 24, 25, 26, 27] (by decide +kernel) (by decide +kernel)
set_option maxRecDepth 20000 in
theorem gX12_undo_X12_copies : GoodIn wsX12_undo (wsV RX12 62 RX12 yX12_copies wsX12_copies) := goodIn_app (goodIn_of _ (by decide +kernel)) ggX12_undo_X12_copies
theorem dX12_undo_0 : decode cX12_undo 0 = .ok (.aload_n 0, 1) := by decide +kernel
theorem dX12_undo_1 : decode cX12_undo 1 = .ok (.getfield 177, 3) := by decide +kernel
theorem dX12_undo_4 : decode cX12_undo 4 = .ok (.ifCond .ne 5, 3) := by decide +kernel
theorem dX12_undo_7 : decode cX12_undo 7 = .ok (.iconst (-1), 1) := by decide +kernel
theorem dX12_undo_8 : decode cX12_undo 8 = .ok (.ireturn, 1) := by decide +kernel
theorem dX12_undo_9 : decode cX12_undo 9 = .ok (.aload_n 0, 1) := by decide +kernel
theorem dX12_undo_10 : decode cX12_undo 10 = .ok (.dup, 1) := by decide +kernel
theorem dX12_undo_11 : decode cX12_undo 11 = .ok (.getfield 177, 3) := by decide +kernel
theorem dX12_undo_14 : decode cX12_undo 14 = .ok (.iconst 1, 1) := by decide +kernel
theorem dX12_undo_15 : decode cX12_undo 15 = .ok (.isub, 1) := by decide +kernel
theorem dX12_undo_16 : decode cX12_undo 16 = .ok (.putfield 177, 3) := by decide +kernel
theorem dX12_undo_19 : decode cX12_undo 19 = .ok (.aload_n 0, 1) := by decide +kernel
theorem dX12_undo_20 : decode cX12_undo 20 = .ok (.sipush 1406, 3) := by decide +kernel
theorem dX12_undo_23 : decode cX12_undo 23 = .ok (.sipush 321, 3) := by decide +kernel
theorem dX12_undo_26 : decode cX12_undo 26 = .ok (.aload_n 0, 1) := by decide +kernel
theorem dX12_undo_27 : decode cX12_undo 27 = .ok (.getfield 177, 3) := by decide +kernel
theorem dX12_undo_30 : decode cX12_undo 30 = .ok (.imul, 1) := by decide +kernel
theorem dX12_undo_31 : decode cX12_undo 31 = .ok (.iadd, 1) := by decide +kernel
theorem dX12_undo_32 : decode cX12_undo 32 = .ok (.iconst 0, 1) := by decide +kernel
theorem dX12_undo_33 : decode cX12_undo 33 = .ok (.sipush 321, 3) := by decide +kernel
theorem dX12_undo_36 : decode cX12_undo 36 = .ok (.invokevirtual 62, 3) := by decide +kernel
theorem dX12_undo_39 : decode cX12_undo 39 = .ok (.aload_n 0, 1) := by decide +kernel
theorem dX12_undo_40 : decode cX12_undo 40 = .ok (.getfield 7, 3) := by decide +kernel
theorem dX12_undo_43 : decode cX12_undo 43 = .ok (.sipush 321, 3) := by decide +kernel
theorem dX12_undo_46 : decode cX12_undo 46 = .ok (.iconst 0, 1) := by decide +kernel
theorem dX12_undo_47 : decode cX12_undo 47 = .ok (.iastore, 1) := by decide +kernel
theorem dX12_undo_48 : decode cX12_undo 48 = .ok (.aload_n 0, 1) := by decide +kernel
theorem dX12_undo_49 : decode cX12_undo 49 = .ok (.getfield 177, 3) := by decide +kernel
theorem dX12_undo_52 : decode cX12_undo 52 = .ok (.ireturn, 1) := by decide +kernel
set_option maxRecDepth 20000 in
theorem ggX12_image_X12_isIn : GoodIn wsX12_image wsX12_isIn := goodIn_r _ [10] (by decide +kernel) (by decide +kernel)
set_option maxRecDepth 20000 in
theorem gX12_image_X12_isIn : GoodIn wsX12_image (va_wsS RX12 51 yX12_isIn wsX12_isIn) := goodIn_app (goodIn_of _ (by decide +kernel)) ggX12_image_X12_isIn
set_option maxRecDepth 20000 in
theorem ggX12_image_X12_copies : GoodIn wsX12_image wsX12_copies := goodIn_r _ [14, 1, 15, 16, 17, 18, 19, 20, 21, 22, 23, 24, 25, 26, 27, 28, 29, 30, 31, 32, 33, 34] (by decide +kernel) (by decide +kernel)
set_option maxRecDepth 20000 in
theorem gX12_image_X12_copies : GoodIn wsX12_image (wsV RX12 62 RX12 yX12_copies wsX12_copies) := goodIn_app (goodIn_of _ (by decide +kernel)) ggX12_image_X12_copies
theorem dX12_image_0 : decode cX12_image 0 = .ok (.iload_n 1, 1) := by decide +kernel
theorem dX12_image_1 : decode cX12_image 1 = .ok (.iconst 0, 1) := by decide +kernel
theorem dX12_image_2 : decode cX12_image 2 = .ok (.iconst 2, 1) := by decide +kernel
theorem dX12_image_3 : decode cX12_image 3 = .ok (.invokestatic 51, 3) := by decide +kernel
theorem dX12_image_6 : decode cX12_image 6 = .ok (.ifCond .ne 5, 3) := by decide +kernel
theorem dX12_image_9 : decode cX12_image 9 = .ok (.iconst 0, 1) := by decide +kernel
theorem dX12_image_10 : decode cX12_image 10 = .ok (.ireturn, 1) := by decide +kernel
theorem dX12_image_11 : decode cX12_image 11 = .ok (.sipush 2690, 3) := by decide +kernel
theorem dX12_image_14 : decode cX12_image 14 = .ok (.sipush 846, 3) := by decide +kernel
theorem dX12_image_17 : decode cX12_image 17 = .ok (.iload_n 1, 1) := by decide +kernel
theorem dX12_image_18 : decode cX12_image 18 = .ok (.imul, 1) := by decide +kernel
theorem dX12_image_19 : decode cX12_image 19 = .ok (.iadd, 1) := by decide +kernel
theorem dX12_image_20 : decode cX12_image 20 = .ok (.istore_n 2, 1) := by decide +kernel
theorem dX12_image_21 : decode cX12_image 21 = .ok (.aload_n 0, 1) := by decide +kernel
theorem dX12_image_22 : decode cX12_image 22 = .ok (.iconst 0, 1) := by decide +kernel
theorem dX12_image_23 : decode cX12_image 23 = .ok (.iload_n 2, 1) := by decide +kernel
theorem dX12_image_24 : decode cX12_image 24 = .ok (.sipush 443, 3) := by decide +kernel
theorem dX12_image_27 : decode cX12_image 27 = .ok (.invokevirtual 62, 3) := by decide +kernel
theorem dX12_image_30 : decode cX12_image 30 = .ok (.iconst 0, 1) := by decide +kernel
theorem dX12_image_31 : decode cX12_image 31 = .ok (.istore_n 3, 1) := by decide +kernel
theorem dX12_image_32 : decode cX12_image 32 = .ok (.iload_n 3, 1) := by decide +kernel
theorem dX12_image_33 : decode cX12_image 33 = .ok (.sipush 400, 3) := by decide +kernel
theorem dX12_image_36 : decode cX12_image 36 = .ok (.if_icmp .ge 27, 3) := by decide +kernel
theorem dX12_image_39 : decode cX12_image 39 = .ok (.aload_n 0, 1) := by decide +kernel
theorem dX12_image_40 : decode cX12_image 40 = .ok (.getfield 7, 3) := by decide +kernel
theorem dX12_image_43 : decode cX12_image 43 = .ok (.iload_n 2, 1) := by decide +kernel
theorem dX12_image_44 : decode cX12_image 44 = .ok (.sipush 443, 3) := by decide +kernel
theorem dX12_image_47 : decode cX12_image 47 = .ok (.iadd, 1) := by decide +kernel
theorem dX12_image_48 : decode cX12_image 48 = .ok (.iload_n 3, 1) := by decide +kernel
theorem dX12_image_49 : decode cX12_image 49 = .ok (.iadd, 1) := by decide +kernel
theorem dX12_image_50 : decode cX12_image 50 = .ok (.aload_n 0, 1) := by decide +kernel
theorem dX12_image_51 : decode cX12_image 51 = .ok (.getfield 13, 3) := by decide +kernel
theorem dX12_image_54 : decode cX12_image 54 = .ok (.iload_n 3, 1) := by decide +kernel
theorem dX12_image_55 : decode cX12_image 55 = .ok (.iaload, 1) := by decide +kernel
theorem dX12_image_56 : decode cX12_image 56 = .ok (.iastore, 1) := by decide +kernel
theorem dX12_image_57 : decode cX12_image 57 = .ok (.iinc 3 1, 3) := by decide +kernel
theorem dX12_image_60 : decode cX12_image 60 = .ok (.goto (-28), 3) := by decide +kernel
theorem dX12_image_63 : decode cX12_image 63 = .ok (.aload_n 0, 1) := by decide +kernel
theorem dX12_image_64 : decode cX12_image 64 = .ok (.getfield 7, 3) := by decide +kernel
theorem dX12_image_67 : decode cX12_image 67 = .ok (.iload_n 2, 1) := by decide +kernel
theorem dX12_image_68 : decode cX12_image 68 = .ok (.sipush 443, 3) := by decide +kernel
theorem dX12_image_71 : decode cX12_image 71 = .ok (.iadd, 1) := by decide +kernel
theorem dX12_image_72 : decode cX12_image 72 = .ok (.sipush 400, 3) := by decide +kernel
theorem dX12_image_75 : decode cX12_image 75 = .ok (.iadd, 1) := by decide +kernel
theorem dX12_image_76 : decode cX12_image 76 = .ok (.aload_n 0, 1) := by decide +kernel
theorem dX12_image_77 : decode cX12_image 77 = .ok (.getfield 180, 3) := by decide +kernel
theorem dX12_image_80 : decode cX12_image 80 = .ok (.iastore, 1) := by decide +kernel
theorem dX12_image_81 : decode cX12_image 81 = .ok (.aload_n 0, 1) := by decide +kernel
theorem dX12_image_82 : decode cX12_image 82 = .ok (.getfield 7, 3) := by decide +kernel
theorem dX12_image_85 : decode cX12_image 85 = .ok (.iload_n 2, 1) := by decide +kernel
theorem dX12_image_86 : decode cX12_image 86 = .ok (.sipush 443, 3) := by decide +kernel
theorem dX12_image_89 : decode cX12_image 89 = .ok (.iadd, 1) := by decide +kernel
theorem dX12_image_90 : decode cX12_image 90 = .ok (.sipush 400, 3) := by decide +kernel
theorem dX12_image_93 : decode cX12_image 93 = .ok (.iadd, 1) := by decide +kernel
theorem dX12_image_94 : decode cX12_image 94 = .ok (.iconst 1, 1) := by decide +kernel
theorem dX12_image_95 : decode cX12_image 95 = .ok (.iadd, 1) := by decide +kernel
theorem dX12_image_96 : decode cX12_image 96 = .ok (.aload_n 0, 1) := by decide +kernel
theorem dX12_image_97 : decode cX12_image 97 = .ok (.getfield 201, 3) := by decide +kernel
theorem dX12_image_100 : decode cX12_image 100 = .ok (.iastore, 1) := by decide +kernel
theorem dX12_image_101 : decode cX12_image 101 = .ok (.aload_n 0, 1) := by decide +kernel
theorem dX12_image_102 : decode cX12_image 102 = .ok (.getfield 7, 3) := by decide +kernel
theorem dX12_image_105 : decode cX12_image 105 = .ok (.iload_n 2, 1) := by decide +kernel
theorem dX12_image_106 : decode cX12_image 106 = .ok (.sipush 443, 3) := by decide +kernel
theorem dX12_image_109 : decode cX12_image 109 = .ok (.iadd, 1) := by decide +kernel
theorem dX12_image_110 : decode cX12_image 110 = .ok (.sipush 400, 3) := by decide +kernel
theorem dX12_image_113 : decode cX12_image 113 = .ok (.iadd, 1) := by decide +kernel
theorem dX12_image_114 : decode cX12_image 114 = .ok (.iconst 2, 1) := by decide +kernel
theorem dX12_image_115 : decode cX12_image 115 = .ok (.iadd, 1) := by decide +kernel
theorem dX12_image_116 : decode cX12_image 116 = .ok (.aload_n 0, 1) := by decide +kernel
theorem dX12_image_117 : decode cX12_image 117 = .ok (.getfield 20, 3) := by decide +kernel
theorem dX12_image_120 : decode cX12_image 120 = .ok (.iastore, 1) := by decide +kernel
theorem dX12_image_121 : decode cX12_image 121 = .ok (.aload_n 0, 1) := by decide +kernel
theorem dX12_image_122 : decode cX12_image 122 = .ok (.getfield 16, 3) := by decide +kernel
theorem dX12_image_125 : decode cX12_image 125 = .ok (.iload_n 1, 1) := by decide +kernel
theorem dX12_image_126 : decode cX12_image 126 = .ok (.iconst 1, 1) := by decide +kernel
theorem dX12_image_127 : decode cX12_image 127 = .ok (.bastore, 1) := by decide +kernel
theorem dX12_image_128 : decode cX12_image 128 = .ok (.iconst 1, 1) := by decide +kernel
theorem dX12_image_129 : decode cX12_image 129 = .ok (.ireturn, 1) := by decide +kernel
set_option maxRecDepth 20000 in
theorem ggX12_again_X12_isIn : GoodIn wsX12_again wsX12_isIn := goodIn_r _ [11] (by decide +kernel) (by decide +kernel)
set_option maxRecDepth 20000 in
theorem gX12_again_X12_isIn : GoodIn wsX12_again (va_wsS RX12 51 yX12_isIn wsX12_isIn) := goodIn_app (goodIn_of _ (by decide +kernel)) ggX12_again_X12_isIn
set_option maxRecDepth 20000 in
theorem ggX12_again_X12_copies : GoodIn wsX12_again wsX12_copies := goodIn_r _ [15, 3, 16, 17, 18, 19, 20, 21, 22, 23, 24, 25, 26, 27, 28, 29, 30, 31, 32, 33, 34, 35] (by decide +kernel) (by decide +kernel)
set_option maxRecDepth 20000 in
theorem gX12_again_X12_copies : GoodIn wsX12_again (wsV RX12 62 RX12 yX12_copies wsX12_copies) := goodIn_app (goodIn_of _ (by decide +kernel)) ggX12_again_X12_copies
theorem dX12_again_0 : decode cX12_again 0 = .ok (.iload_n 1, 1) := by decide +kernel
theorem dX12_again_1 : decode cX12_again 1 = .ok (.iconst 0, 1) := by decide +kernel
theorem dX12_again_2 : decode cX12_again 2 = .ok (.iconst 2, 1) := by decide +kernel
theorem dX12_again_3 : decode cX12_again 3 = .ok (.invokestatic 51, 3) := by decide +kernel
theorem dX12_again_6 : decode cX12_again 6 = .ok (.ifCond .eq 12, 3) := by decide +kernel
theorem dX12_again_9 : decode cX12_again 9 = .ok (.aload_n 0, 1) := by decide +kernel
theorem dX12_again_10 : decode cX12_again 10 = .ok (.getfield 16, 3) := by decide +kernel
theorem dX12_again_13 : decode cX12_again 13 = .ok (.iload_n 1, 1) := by decide +kernel
theorem dX12_again_14 : decode cX12_again 14 = .ok (.baload, 1) := by decide +kernel
theorem dX12_again_15 : decode cX12_again 15 = .ok (.ifCond .ne 5, 3) := by decide +kernel
theorem dX12_again_18 : decode cX12_again 18 = .ok (.iconst 0, 1) := by decide +kernel
theorem dX12_again_19 : decode cX12_again 19 = .ok (.ireturn, 1) := by decide +kernel
theorem dX12_again_20 : decode cX12_again 20 = .ok (.sipush 2690, 3) := by decide +kernel
theorem dX12_again_23 : decode cX12_again 23 = .ok (.sipush 846, 3) := by decide +kernel
theorem dX12_again_26 : decode cX12_again 26 = .ok (.iload_n 1, 1) := by decide +kernel
theorem dX12_again_27 : decode cX12_again 27 = .ok (.imul, 1) := by decide +kernel
theorem dX12_again_28 : decode cX12_again 28 = .ok (.iadd, 1) := by decide +kernel
theorem dX12_again_29 : decode cX12_again 29 = .ok (.istore_n 2, 1) := by decide +kernel
theorem dX12_again_30 : decode cX12_again 30 = .ok (.aload_n 0, 1) := by decide +kernel
theorem dX12_again_31 : decode cX12_again 31 = .ok (.iload_n 2, 1) := by decide +kernel
theorem dX12_again_32 : decode cX12_again 32 = .ok (.iconst 0, 1) := by decide +kernel
theorem dX12_again_33 : decode cX12_again 33 = .ok (.sipush 443, 3) := by decide +kernel
theorem dX12_again_36 : decode cX12_again 36 = .ok (.invokevirtual 62, 3) := by decide +kernel
theorem dX12_again_39 : decode cX12_again 39 = .ok (.iconst 0, 1) := by decide +kernel
theorem dX12_again_40 : decode cX12_again 40 = .ok (.istore_n 3, 1) := by decide +kernel
theorem dX12_again_41 : decode cX12_again 41 = .ok (.iload_n 3, 1) := by decide +kernel
theorem dX12_again_42 : decode cX12_again 42 = .ok (.sipush 400, 3) := by decide +kernel
theorem dX12_again_45 : decode cX12_again 45 = .ok (.if_icmp .ge 27, 3) := by decide +kernel
theorem dX12_again_48 : decode cX12_again 48 = .ok (.aload_n 0, 1) := by decide +kernel
theorem dX12_again_49 : decode cX12_again 49 = .ok (.getfield 13, 3) := by decide +kernel
theorem dX12_again_52 : decode cX12_again 52 = .ok (.iload_n 3, 1) := by decide +kernel
theorem dX12_again_53 : decode cX12_again 53 = .ok (.aload_n 0, 1) := by decide +kernel
theorem dX12_again_54 : decode cX12_again 54 = .ok (.getfield 7, 3) := by decide +kernel
theorem dX12_again_57 : decode cX12_again 57 = .ok (.iload_n 2, 1) := by decide +kernel
theorem dX12_again_58 : decode cX12_again 58 = .ok (.sipush 443, 3) := by decide +kernel
theorem dX12_again_61 : decode cX12_again 61 = .ok (.iadd, 1) := by decide +kernel
theorem dX12_again_62 : decode cX12_again 62 = .ok (.iload_n 3, 1) := by decide +kernel
theorem dX12_again_63 : decode cX12_again 63 = .ok (.iadd, 1) := by decide +kernel
theorem dX12_again_64 : decode cX12_again 64 = .ok (.iaload, 1) := by decide +kernel
theorem dX12_again_65 : decode cX12_again 65 = .ok (.iastore, 1) := by decide +kernel
theorem dX12_again_66 : decode cX12_again 66 = .ok (.iinc 3 1, 3) := by decide +kernel
theorem dX12_again_69 : decode cX12_again 69 = .ok (.goto (-28), 3) := by decide +kernel
theorem dX12_again_72 : decode cX12_again 72 = .ok (.aload_n 0, 1) := by decide +kernel
theorem dX12_again_73 : decode cX12_again 73 = .ok (.aload_n 0, 1) := by decide +kernel
theorem dX12_again_74 : decode cX12_again 74 = .ok (.getfield 7, 3) := by decide +kernel
theorem dX12_again_77 : decode cX12_again 77 = .ok (.iload_n 2, 1) := by decide +kernel
theorem dX12_again_78 : decode cX12_again 78 = .ok (.sipush 443, 3) := by decide +kernel
theorem dX12_again_81 : decode cX12_again 81 = .ok (.iadd, 1) := by decide +kernel
theorem dX12_again_82 : decode cX12_again 82 = .ok (.sipush 400, 3) := by decide +kernel
theorem dX12_again_85 : decode cX12_again 85 = .ok (.iadd, 1) := by decide +kernel
theorem dX12_again_86 : decode cX12_again 86 = .ok (.iaload, 1) := by decide +kernel
theorem dX12_again_87 : decode cX12_again 87 = .ok (.putfield 180, 3) := by decide +kernel
theorem dX12_again_90 : decode cX12_again 90 = .ok (.aload_n 0, 1) := by decide +kernel
theorem dX12_again_91 : decode cX12_again 91 = .ok (.aload_n 0, 1) := by decide +kernel
theorem dX12_again_92 : decode cX12_again 92 = .ok (.getfield 7, 3) := by decide +kernel
theorem dX12_again_95 : decode cX12_again 95 = .ok (.iload_n 2, 1) := by decide +kernel
theorem dX12_again_96 : decode cX12_again 96 = .ok (.sipush 443, 3) := by decide +kernel
theorem dX12_again_99 : decode cX12_again 99 = .ok (.iadd, 1) := by decide +kernel
theorem dX12_again_100 : decode cX12_again 100 = .ok (.sipush 400, 3) := by decide +kernel
theorem dX12_again_103 : decode cX12_again 103 = .ok (.iadd, 1) := by decide +kernel
theorem dX12_again_104 : decode cX12_again 104 = .ok (.iconst 1, 1) := by decide +kernel
theorem dX12_again_105 : decode cX12_again 105 = .ok (.iadd, 1) := by decide +kernel
theorem dX12_again_106 : decode cX12_again 106 = .ok (.iaload, 1) := by decide +kernel
theorem dX12_again_107 : decode cX12_again 107 = .ok (.putfield 201, 3) := by decide +kernel
theorem dX12_again_110 : decode cX12_again 110 = .ok (.aload_n 0, 1) := by decide +kernel
theorem dX12_again_111 : decode cX12_again 111 = .ok (.aload_n 0, 1) := by decide +kernel
theorem dX12_again_112 : decode cX12_again 112 = .ok (.getfield 7, 3) := by decide +kernel
theorem dX12_again_115 : decode cX12_again 115 = .ok (.iload_n 2, 1) := by decide +kernel
theorem dX12_again_116 : decode cX12_again 116 = .ok (.sipush 443, 3) := by decide +kernel
theorem dX12_again_119 : decode cX12_again 119 = .ok (.iadd, 1) := by decide +kernel
theorem dX12_again_120 : decode cX12_again 120 = .ok (.sipush 400, 3) := by decide +kernel
theorem dX12_again_123 : decode cX12_again 123 = .ok (.iadd, 1) := by decide +kernel
theorem dX12_again_124 : decode cX12_again 124 = .ok (.iconst 2, 1) := by decide +kernel
theorem dX12_again_125 : decode cX12_again 125 = .ok (.iadd, 1) := by decide +kernel
theorem dX12_again_126 : decode cX12_again 126 = .ok (.iaload, 1) := by decide +kernel
theorem dX12_again_127 : decode cX12_again 127 = .ok (.putfield 20, 3) := by decide +kernel
theorem dX12_again_130 : decode cX12_again 130 = .ok (.aload_n 0, 1) := by decide +kernel
theorem dX12_again_131 : decode cX12_again 131 = .ok (.iconst 0, 1) := by decide +kernel
theorem dX12_again_132 : decode cX12_again 132 = .ok (.putfield 177, 3) := by decide +kernel
theorem dX12_again_135 : decode cX12_again 135 = .ok (.iconst 1, 1) := by decide +kernel
theorem dX12_again_136 : decode cX12_again 136 = .ok (.ireturn, 1) := by decide +kernel
theorem dJ13_bitCount_95d88_0 : decode cJ13_bitCount_95d88 0 = .ok (.lload_n 0, 1) := by decide +kernel
theorem dJ13_bitCount_95d88_1 : decode cJ13_bitCount_95d88 1 = .ok (.lload_n 0, 1) := by decide +kernel
theorem dJ13_bitCount_95d88_2 : decode cJ13_bitCount_95d88 2 = .ok (.iconst 1, 1) := by decide +kernel
theorem dJ13_bitCount_95d88_3 : decode cJ13_bitCount_95d88 3 = .ok (.lushr, 1) := by decide +kernel
theorem dJ13_bitCount_95d88_4 : decode cJ13_bitCount_95d88 4 = .ok (.ldc2_w 314, 3) := by decide +kernel
theorem dJ13_bitCount_95d88_7 : decode cJ13_bitCount_95d88 7 = .ok (.land, 1) := by decide +kernel
theorem dJ13_bitCount_95d88_8 : decode cJ13_bitCount_95d88 8 = .ok (.lsub, 1) := by decide +kernel
theorem dJ13_bitCount_95d88_9 : decode cJ13_bitCount_95d88 9 = .ok (.lstore_n 0, 1) := by decide +kernel
theorem dJ13_bitCount_95d88_10 : decode cJ13_bitCount_95d88 10 = .ok (.lload_n 0, 1) := by decide +kernel
theorem dJ13_bitCount_95d88_11 : decode cJ13_bitCount_95d88 11 = .ok (.ldc2_w 316, 3) := by decide +kernel
theorem dJ13_bitCount_95d88_14 : decode cJ13_bitCount_95d88 14 = .ok (.land, 1) := by decide +kernel
theorem dJ13_bitCount_95d88_15 : decode cJ13_bitCount_95d88 15 = .ok (.lload_n 0, 1) := by decide +kernel
theorem dJ13_bitCount_95d88_16 : decode cJ13_bitCount_95d88 16 = .ok (.iconst 2, 1) := by decide +kernel
theorem dJ13_bitCount_95d88_17 : decode cJ13_bitCount_95d88 17 = .ok (.lushr, 1) := by decide +kernel
theorem dJ13_bitCount_95d88_18 : decode cJ13_bitCount_95d88 18 = .ok (.ldc2_w 316, 3) := by decide +kernel
theorem dJ13_bitCount_95d88_21 : decode cJ13_bitCount_95d88 21 = .ok (.land, 1) := by decide +kernel
theorem dJ13_bitCount_95d88_22 : decode cJ13_bitCount_95d88 22 = .ok (.ladd, 1) := by decide +kernel
theorem dJ13_bitCount_95d88_23 : decode cJ13_bitCount_95d88 23 = .ok (.lstore_n 0, 1) := by decide +kernel
theorem dJ13_bitCount_95d88_24 : decode cJ13_bitCount_95d88 24 = .ok (.lload_n 0, 1) := by decide +kernel
theorem dJ13_bitCount_95d88_25 : decode cJ13_bitCount_95d88 25 = .ok (.lload_n 0, 1) := by decide +kernel
theorem dJ13_bitCount_95d88_26 : decode cJ13_bitCount_95d88 26 = .ok (.iconst 4, 1) := by decide +kernel
theorem dJ13_bitCount_95d88_27 : decode cJ13_bitCount_95d88 27 = .ok (.lushr, 1) := by decide +kernel
theorem dJ13_bitCount_95d88_28 : decode cJ13_bitCount_95d88 28 = .ok (.ladd, 1) := by decide +kernel
theorem dJ13_bitCount_95d88_29 : decode cJ13_bitCount_95d88 29 = .ok (.ldc2_w 318, 3) := by decide +kernel
theorem dJ13_bitCount_95d88_32 : decode cJ13_bitCount_95d88 32 = .ok (.land, 1) := by decide +kernel
theorem dJ13_bitCount_95d88_33 : decode cJ13_bitCount_95d88 33 = .ok (.lstore_n 0, 1) := by decide +kernel
theorem dJ13_bitCount_95d88_34 : decode cJ13_bitCount_95d88 34 = .ok (.lload_n 0, 1) := by decide +kernel
theorem dJ13_bitCount_95d88_35 : decode cJ13_bitCount_95d88 35 = .ok (.lload_n 0, 1) := by decide +kernel
theorem dJ13_bitCount_95d88_36 : decode cJ13_bitCount_95d88 36 = .ok (.bipush 8, 2) := by decide +kernel
theorem dJ13_bitCount_95d88_38 : decode cJ13_bitCount_95d88 38 = .ok (.lushr, 1) := by decide +kernel
theorem dJ13_bitCount_95d88_39 : decode cJ13_bitCount_95d88 39 = .ok (.ladd, 1) := by decide +kernel
theorem dJ13_bitCount_95d88_40 : decode cJ13_bitCount_95d88 40 = .ok (.lstore_n 0, 1) := by decide +kernel
theorem dJ13_bitCount_95d88_41 : decode cJ13_bitCount_95d88 41 = .ok (.lload_n 0, 1) := by decide +kernel
theorem dJ13_bitCount_95d88_42 : decode cJ13_bitCount_95d88 42 = .ok (.lload_n 0, 1) := by decide +kernel
theorem dJ13_bitCount_95d88_43 : decode cJ13_bitCount_95d88 43 = .ok (.bipush 16, 2) := by decide +kernel
theorem dJ13_bitCount_95d88_45 : decode cJ13_bitCount_95d88 45 = .ok (.lushr, 1) := by decide +kernel
theorem dJ13_bitCount_95d88_46 : decode cJ13_bitCount_95d88 46 = .ok (.ladd, 1) := by decide +kernel
theorem dJ13_bitCount_95d88_47 : decode cJ13_bitCount_95d88 47 = .ok (.lstore_n 0, 1) := by decide +kernel
theorem dJ13_bitCount_95d88_48 : decode cJ13_bitCount_95d88 48 = .ok (.lload_n 0, 1) := by decide +kernel
theorem dJ13_bitCount_95d88_49 : decode cJ13_bitCount_95d88 49 = .ok (.lload_n 0, 1) := by decide +kernel
theorem dJ13_bitCount_95d88_50 : decode cJ13_bitCount_95d88 50 = .ok (.bipush 32, 2) := by decide +kernel
theorem dJ13_bitCount_95d88_52 : decode cJ13_bitCount_95d88 52 = .ok (.lushr, 1) := by decide +kernel
theorem dJ13_bitCount_95d88_53 : decode cJ13_bitCount_95d88 53 = .ok (.ladd, 1) := by decide +kernel
theorem dJ13_bitCount_95d88_54 : decode cJ13_bitCount_95d88 54 = .ok (.lstore_n 0, 1) := by decide +kernel
theorem dJ13_bitCount_95d88_55 : decode cJ13_bitCount_95d88 55 = .ok (.lload_n 0, 1) := by decide +kernel
theorem dJ13_bitCount_95d88_56 : decode cJ13_bitCount_95d88 56 = .ok (.l2i, 1) := by decide +kernel
theorem dJ13_bitCount_95d88_57 : decode cJ13_bitCount_95d88 57 = .ok (.bipush 127, 2) := by decide +kernel
theorem dJ13_bitCount_95d88_59 : decode cJ13_bitCount_95d88 59 = .ok (.iand, 1) := by decide +kernel
theorem dJ13_bitCount_95d88_60 : decode cJ13_bitCount_95d88 60 = .ok (.ireturn, 1) := by decide +kernel
theorem dJ9_max_7cf53_0 : decode cJ9_max_7cf53 0 = .ok (.iload_n 0, 1) := by decide +kernel
theorem dJ9_max_7cf53_1 : decode cJ9_max_7cf53 1 = .ok (.iload_n 1, 1) := by decide +kernel
theorem dJ9_max_7cf53_2 : decode cJ9_max_7cf53 2 = .ok (.if_icmp .lt 7, 3) := by decide +kernel
theorem dJ9_max_7cf53_5 : decode cJ9_max_7cf53 5 = .ok (.iload_n 0, 1) := by decide +kernel
theorem dJ9_max_7cf53_6 : decode cJ9_max_7cf53 6 = .ok (.goto 4, 3) := by decide +kernel
theorem dJ9_max_7cf53_9 : decode cJ9_max_7cf53 9 = .ok (.iload_n 1, 1) := by decide +kernel
theorem dJ9_max_7cf53_10 : decode cJ9_max_7cf53 10 = .ok (.ireturn, 1) := by decide +kernel
theorem dJ9_min_7cf53_0 : decode cJ9_min_7cf53 0 = .ok (.iload_n 0, 1) := by decide +kernel
theorem dJ9_min_7cf53_1 : decode cJ9_min_7cf53 1 = .ok (.iload_n 1, 1) := by decide +kernel
theorem dJ9_min_7cf53_2 : decode cJ9_min_7cf53 2 = .ok (.if_icmp .gt 7, 3) := by decide +kernel
theorem dJ9_min_7cf53_5 : decode cJ9_min_7cf53 5 = .ok (.iload_n 0, 1) := by decide +kernel
theorem dJ9_min_7cf53_6 : decode cJ9_min_7cf53 6 = .ok (.goto 4, 3) := by decide +kernel
theorem dJ9_min_7cf53_9 : decode cJ9_min_7cf53 9 = .ok (.iload_n 1, 1) := by decide +kernel
theorem dJ9_min_7cf53_10 : decode cJ9_min_7cf53 10 = .ok (.ireturn, 1) := by decide +kernel
