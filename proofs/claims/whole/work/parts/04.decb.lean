theorem dX7_copy_33 : decode cX7_copy 33 = .ok (.return_, 1) := by decide +kernel
theorem dX8_isPlace_0 : decode cX8_isPlace 0 = .ok (.iload_n 0, 1) := by decide +kernel
theorem dX8_isPlace_1 : decode cX8_isPlace 1 = .ok (.ifCond .lt 13, 3) := by decide +kernel
theorem dX8_isPlace_4 : decode cX8_isPlace 4 = .ok (.iload_n 0, 1) := by decide +kernel
theorem dX8_isPlace_5 : decode cX8_isPlace 5 = .ok (.bipush 8, 2) := by decide +kernel
theorem dX8_isPlace_7 : decode cX8_isPlace 7 = .ok (.if_icmp .ge 7, 3) := by decide +kernel
theorem dX8_isPlace_10 : decode cX8_isPlace 10 = .ok (.iconst 1, 1) := by decide +kernel
theorem dX8_isPlace_11 : decode cX8_isPlace 11 = .ok (.goto 4, 3) := by decide +kernel
theorem dX8_isPlace_14 : decode cX8_isPlace 14 = .ok (.iconst 0, 1) := by decide +kernel
theorem dX8_isPlace_15 : decode cX8_isPlace 15 = .ok (.ireturn, 1) := by decide +kernel
theorem dX8_shiftOf_0 : decode cX8_shiftOf 0 = .ok (.iconst 5, 1) := by decide +kernel
theorem dX8_shiftOf_1 : decode cX8_shiftOf 1 = .ok (.bipush 7, 2) := by decide +kernel
theorem dX8_shiftOf_3 : decode cX8_shiftOf 3 = .ok (.iload_n 0, 1) := by decide +kernel
theorem dX8_shiftOf_4 : decode cX8_shiftOf 4 = .ok (.isub, 1) := by decide +kernel
theorem dX8_shiftOf_5 : decode cX8_shiftOf 5 = .ok (.imul, 1) := by decide +kernel
theorem dX8_shiftOf_6 : decode cX8_shiftOf 6 = .ok (.ireturn, 1) := by decide +kernel
theorem dX8_codeOf_0 : decode cX8_codeOf 0 = .ok (.iload_n 0, 1) := by decide +kernel
theorem dX8_codeOf_1 : decode cX8_codeOf 1 = .ok (.bipush 36, 2) := by decide +kernel
theorem dX8_codeOf_3 : decode cX8_codeOf 3 = .ok (.if_icmp .ne 7, 3) := by decide +kernel
theorem dX8_codeOf_6 : decode cX8_codeOf 6 = .ok (.iconst 1, 1) := by decide +kernel
theorem dX8_codeOf_7 : decode cX8_codeOf 7 = .ok (.goto 12, 3) := by decide +kernel
theorem dX8_codeOf_10 : decode cX8_codeOf 10 = .ok (.iload_n 0, 1) := by decide +kernel
theorem dX8_codeOf_11 : decode cX8_codeOf 11 = .ok (.bipush 97, 2) := by decide +kernel
theorem dX8_codeOf_13 : decode cX8_codeOf 13 = .ok (.isub, 1) := by decide +kernel
theorem dX8_codeOf_14 : decode cX8_codeOf 14 = .ok (.iconst 2, 1) := by decide +kernel
theorem dX8_codeOf_15 : decode cX8_codeOf 15 = .ok (.iadd, 1) := by decide +kernel
theorem dX8_codeOf_16 : decode cX8_codeOf 16 = .ok (.bipush 31, 2) := by decide +kernel
theorem dX8_codeOf_18 : decode cX8_codeOf 18 = .ok (.iand, 1) := by decide +kernel
theorem dX8_codeOf_19 : decode cX8_codeOf 19 = .ok (.ireturn, 1) := by decide +kernel
set_option maxRecDepth 20000 in
theorem ggX8_put_X8_isPlace : GoodIn wsX8_put wsX8_isPlace := goodIn_r _ [4] (by decide +kernel) (by decide +kernel)
set_option maxRecDepth 20000 in
theorem gX8_put_X8_isPlace : GoodIn wsX8_put (va_wsS RX8 11 yX8_isPlace wsX8_isPlace) := goodIn_app (goodIn_of _ (by decide +kernel)) ggX8_put_X8_isPlace
set_option maxRecDepth 20000 in
theorem ggX8_put_X8_codeOf : GoodIn wsX8_put wsX8_codeOf := goodIn_r _ [7] (by decide +kernel) (by decide +kernel)
set_option maxRecDepth 20000 in
theorem gX8_put_X8_codeOf : GoodIn wsX8_put (va_wsS RX8 15 yX8_codeOf wsX8_codeOf) := goodIn_app (goodIn_of _ (by decide +kernel)) ggX8_put_X8_codeOf
set_option maxRecDepth 20000 in
theorem ggX8_put_X8_shiftOf : GoodIn wsX8_put wsX8_shiftOf := goodIn_r _ [10] (by decide +kernel) (by decide +kernel)
set_option maxRecDepth 20000 in
theorem gX8_put_X8_shiftOf : GoodIn wsX8_put (va_wsS RX8 19 yX8_shiftOf wsX8_shiftOf) := goodIn_app (goodIn_of _ (by decide +kernel)) ggX8_put_X8_shiftOf
theorem dX8_put_0 : decode cX8_put 0 = .ok (.iload_n 2, 1) := by decide +kernel
theorem dX8_put_1 : decode cX8_put 1 = .ok (.invokestatic 11, 3) := by decide +kernel
theorem dX8_put_4 : decode cX8_put 4 = .ok (.ifCond .eq 18, 3) := by decide +kernel
theorem dX8_put_7 : decode cX8_put 7 = .ok (.lload_n 0, 1) := by decide +kernel
theorem dX8_put_8 : decode cX8_put 8 = .ok (.iload_n 3, 1) := by decide +kernel
theorem dX8_put_9 : decode cX8_put 9 = .ok (.invokestatic 15, 3) := by decide +kernel
theorem dX8_put_12 : decode cX8_put 12 = .ok (.i2l, 1) := by decide +kernel
theorem dX8_put_13 : decode cX8_put 13 = .ok (.iload_n 2, 1) := by decide +kernel
theorem dX8_put_14 : decode cX8_put 14 = .ok (.invokestatic 19, 3) := by decide +kernel
theorem dX8_put_17 : decode cX8_put 17 = .ok (.lshl, 1) := by decide +kernel
theorem dX8_put_18 : decode cX8_put 18 = .ok (.lor, 1) := by decide +kernel
theorem dX8_put_19 : decode cX8_put 19 = .ok (.goto 4, 3) := by decide +kernel
theorem dX8_put_22 : decode cX8_put 22 = .ok (.lload_n 0, 1) := by decide +kernel
theorem dX8_put_23 : decode cX8_put 23 = .ok (.lreturn, 1) := by decide +kernel
theorem dX8_codeAt_0 : decode cX8_codeAt 0 = .ok (.iload_n 2, 1) := by decide +kernel
theorem dX8_codeAt_1 : decode cX8_codeAt 1 = .ok (.ifCond .lt 9, 3) := by decide +kernel
theorem dX8_codeAt_4 : decode cX8_codeAt 4 = .ok (.iload_n 2, 1) := by decide +kernel
theorem dX8_codeAt_5 : decode cX8_codeAt 5 = .ok (.bipush 8, 2) := by decide +kernel
theorem dX8_codeAt_7 : decode cX8_codeAt 7 = .ok (.if_icmp .lt 5, 3) := by decide +kernel
theorem dX8_codeAt_10 : decode cX8_codeAt 10 = .ok (.iconst 0, 1) := by decide +kernel
theorem dX8_codeAt_11 : decode cX8_codeAt 11 = .ok (.ireturn, 1) := by decide +kernel
theorem dX8_codeAt_12 : decode cX8_codeAt 12 = .ok (.lload_n 0, 1) := by decide +kernel
theorem dX8_codeAt_13 : decode cX8_codeAt 13 = .ok (.iconst 5, 1) := by decide +kernel
theorem dX8_codeAt_14 : decode cX8_codeAt 14 = .ok (.bipush 7, 2) := by decide +kernel
theorem dX8_codeAt_16 : decode cX8_codeAt 16 = .ok (.iload_n 2, 1) := by decide +kernel
theorem dX8_codeAt_17 : decode cX8_codeAt 17 = .ok (.isub, 1) := by decide +kernel
theorem dX8_codeAt_18 : decode cX8_codeAt 18 = .ok (.imul, 1) := by decide +kernel
theorem dX8_codeAt_19 : decode cX8_codeAt 19 = .ok (.lshr, 1) := by decide +kernel
theorem dX8_codeAt_20 : decode cX8_codeAt 20 = .ok (.l2i, 1) := by decide +kernel
theorem dX8_codeAt_21 : decode cX8_codeAt 21 = .ok (.bipush 31, 2) := by decide +kernel
theorem dX8_codeAt_23 : decode cX8_codeAt 23 = .ok (.iand, 1) := by decide +kernel
theorem dX8_codeAt_24 : decode cX8_codeAt 24 = .ok (.ireturn, 1) := by decide +kernel
set_option maxRecDepth 20000 in
theorem ggX8_signAt_X8_codeAt : GoodIn wsX8_signAt wsX8_codeAt := goodIn_r _ [4] (by decide +kernel) (by decide +kernel)
set_option maxRecDepth 20000 in
theorem gX8_signAt_X8_codeAt : GoodIn wsX8_signAt (va_wsS RX8 22 yX8_codeAt wsX8_codeAt) := goodIn_app (goodIn_of _ (by decide +kernel)) ggX8_signAt_X8_codeAt
theorem dX8_signAt_0 : decode cX8_signAt 0 = .ok (.lload_n 0, 1) := by decide +kernel
theorem dX8_signAt_1 : decode cX8_signAt 1 = .ok (.iload_n 2, 1) := by decide +kernel
theorem dX8_signAt_2 : decode cX8_signAt 2 = .ok (.invokestatic 22, 3) := by decide +kernel
theorem dX8_signAt_5 : decode cX8_signAt 5 = .ok (.istore_n 3, 1) := by decide +kernel
theorem dX8_signAt_6 : decode cX8_signAt 6 = .ok (.iload_n 3, 1) := by decide +kernel
theorem dX8_signAt_7 : decode cX8_signAt 7 = .ok (.ifCond .ne 5, 3) := by decide +kernel
theorem dX8_signAt_10 : decode cX8_signAt 10 = .ok (.iconst (-1), 1) := by decide +kernel
theorem dX8_signAt_11 : decode cX8_signAt 11 = .ok (.ireturn, 1) := by decide +kernel
theorem dX8_signAt_12 : decode cX8_signAt 12 = .ok (.iload_n 3, 1) := by decide +kernel
theorem dX8_signAt_13 : decode cX8_signAt 13 = .ok (.iconst 1, 1) := by decide +kernel
theorem dX8_signAt_14 : decode cX8_signAt 14 = .ok (.if_icmp .ne 8, 3) := by decide +kernel
theorem dX8_signAt_17 : decode cX8_signAt 17 = .ok (.bipush 36, 2) := by decide +kernel
theorem dX8_signAt_19 : decode cX8_signAt 19 = .ok (.goto 9, 3) := by decide +kernel
theorem dX8_signAt_22 : decode cX8_signAt 22 = .ok (.iload_n 3, 1) := by decide +kernel
theorem dX8_signAt_23 : decode cX8_signAt 23 = .ok (.iconst 2, 1) := by decide +kernel
theorem dX8_signAt_24 : decode cX8_signAt 24 = .ok (.isub, 1) := by decide +kernel
theorem dX8_signAt_25 : decode cX8_signAt 25 = .ok (.bipush 97, 2) := by decide +kernel
theorem dX8_signAt_27 : decode cX8_signAt 27 = .ok (.iadd, 1) := by decide +kernel
theorem dX8_signAt_28 : decode cX8_signAt 28 = .ok (.ireturn, 1) := by decide +kernel
set_option maxRecDepth 20000 in
theorem ggX8_length_X8_codeAt : GoodIn wsX8_length wsX8_codeAt := goodIn_r _ [4] (by decide +kernel) (by decide +kernel)
set_option maxRecDepth 20000 in
theorem gX8_length_X8_codeAt : GoodIn wsX8_length (va_wsS RX8 22 yX8_codeAt wsX8_codeAt) := goodIn_app (goodIn_of _ (by decide +kernel)) ggX8_length_X8_codeAt
theorem dX8_length_0 : decode cX8_length 0 = .ok (.iconst 0, 1) := by decide +kernel
theorem dX8_length_1 : decode cX8_length 1 = .ok (.istore_n 2, 1) := by decide +kernel
theorem dX8_length_2 : decode cX8_length 2 = .ok (.iload_n 2, 1) := by decide +kernel
theorem dX8_length_3 : decode cX8_length 3 = .ok (.bipush 8, 2) := by decide +kernel
theorem dX8_length_5 : decode cX8_length 5 = .ok (.if_icmp .ge 17, 3) := by decide +kernel
theorem dX8_length_8 : decode cX8_length 8 = .ok (.lload_n 0, 1) := by decide +kernel
theorem dX8_length_9 : decode cX8_length 9 = .ok (.iload_n 2, 1) := by decide +kernel
theorem dX8_length_10 : decode cX8_length 10 = .ok (.invokestatic 22, 3) := by decide +kernel
theorem dX8_length_13 : decode cX8_length 13 = .ok (.ifCond .eq 9, 3) := by decide +kernel
theorem dX8_length_16 : decode cX8_length 16 = .ok (.iinc 2 1, 3) := by decide +kernel
theorem dX8_length_19 : decode cX8_length 19 = .ok (.goto (-17), 3) := by decide +kernel
theorem dX8_length_22 : decode cX8_length 22 = .ok (.iload_n 2, 1) := by decide +kernel
theorem dX8_length_23 : decode cX8_length 23 = .ok (.ireturn, 1) := by decide +kernel
theorem dX8_head_0 : decode cX8_head 0 = .ok (.iconst 5, 1) := by decide +kernel
theorem dX8_head_1 : decode cX8_head 1 = .ok (.bipush 8, 2) := by decide +kernel
theorem dX8_head_3 : decode cX8_head 3 = .ok (.iconst 0, 1) := by decide +kernel
theorem dX8_head_4 : decode cX8_head 4 = .ok (.iload_n 2, 1) := by decide +kernel
theorem dX8_head_5 : decode cX8_head 5 = .ok (.bipush 8, 2) := by decide +kernel
theorem dX8_head_7 : decode cX8_head 7 = .ok (.invokestatic 26, 3) := by decide +kernel
theorem dX8_head_10 : decode cX8_head 10 = .ok (.invokestatic 32, 3) := by decide +kernel
theorem dX8_head_13 : decode cX8_head 13 = .ok (.isub, 1) := by decide +kernel
theorem dX8_head_14 : decode cX8_head 14 = .ok (.imul, 1) := by decide +kernel
theorem dX8_head_15 : decode cX8_head 15 = .ok (.istore_n 3, 1) := by decide +kernel
theorem dX8_head_16 : decode cX8_head 16 = .ok (.lload_n 0, 1) := by decide +kernel
theorem dX8_head_17 : decode cX8_head 17 = .ok (.iload_n 3, 1) := by decide +kernel
theorem dX8_head_18 : decode cX8_head 18 = .ok (.lshr, 1) := by decide +kernel
theorem dX8_head_19 : decode cX8_head 19 = .ok (.iload_n 3, 1) := by decide +kernel
theorem dX8_head_20 : decode cX8_head 20 = .ok (.lshl, 1) := by decide +kernel
theorem dX8_head_21 : decode cX8_head 21 = .ok (.lreturn, 1) := by decide +kernel
set_option maxRecDepth 20000 in
theorem ggX8_turned_X8_length : GoodIn wsX8_turned wsX8_length := goodIn_r _ [5, 6, 7, 4, 8] (by decide +kernel) (by decide +kernel)
set_option maxRecDepth 20000 in
theorem gX8_turned_X8_length : GoodIn wsX8_turned (va_wsS RX8 35 yX8_length wsX8_length) := goodIn_app (goodIn_of _ (by decide +kernel)) ggX8_turned_X8_length
set_option maxRecDepth 20000 in
theorem ggX8_turned_X8_put : GoodIn wsX8_turned wsX8_put := goodIn_r _ [11, 12, 13, 4, 14, 15, 16, 17, 18, 19, 20] (by decide +kernel) (by decide +kernel)
set_option maxRecDepth 20000 in
theorem gX8_turned_X8_put : GoodIn wsX8_turned (va_wsS RX8 41 yX8_put wsX8_put) := goodIn_app (goodIn_of _ (by decide +kernel)) ggX8_turned_X8_put
set_option maxRecDepth 20000 in
theorem ggX8_turned_X8_head : GoodIn wsX8_turned wsX8_head := goodIn_r _ [23, 24, 25, 26, 27, 28, 29, 30] (by decide +kernel) (by decide +kernel)
set_option maxRecDepth 20000 in
theorem gX8_turned_X8_head : GoodIn wsX8_turned (va_wsS RX8 45 yX8_head wsX8_head) := goodIn_app (goodIn_of _ (by decide +kernel)) ggX8_turned_X8_head
theorem dX8_turned_0 : decode cX8_turned 0 = .ok (.lload_n 0, 1) := by decide +kernel
theorem dX8_turned_1 : decode cX8_turned 1 = .ok (.invokestatic 35, 3) := by decide +kernel
theorem dX8_turned_4 : decode cX8_turned 4 = .ok (.iload_n 2, 1) := by decide +kernel
theorem dX8_turned_5 : decode cX8_turned 5 = .ok (.isub, 1) := by decide +kernel
theorem dX8_turned_6 : decode cX8_turned 6 = .ok (.istore_n 3, 1) := by decide +kernel
theorem dX8_turned_7 : decode cX8_turned 7 = .ok (.lload_n 0, 1) := by decide +kernel
theorem dX8_turned_8 : decode cX8_turned 8 = .ok (.iconst 5, 1) := by decide +kernel
theorem dX8_turned_9 : decode cX8_turned 9 = .ok (.iload_n 2, 1) := by decide +kernel
theorem dX8_turned_10 : decode cX8_turned 10 = .ok (.imul, 1) := by decide +kernel
theorem dX8_turned_11 : decode cX8_turned 11 = .ok (.lshl, 1) := by decide +kernel
theorem dX8_turned_12 : decode cX8_turned 12 = .ok (.ldc2_w 39, 3) := by decide +kernel
theorem dX8_turned_15 : decode cX8_turned 15 = .ok (.land, 1) := by decide +kernel
theorem dX8_turned_16 : decode cX8_turned 16 = .ok (.lstore 4, 2) := by decide +kernel
theorem dX8_turned_18 : decode cX8_turned 18 = .ok (.lload 4, 2) := by decide +kernel
theorem dX8_turned_20 : decode cX8_turned 20 = .ok (.iload_n 3, 1) := by decide +kernel
theorem dX8_turned_21 : decode cX8_turned 21 = .ok (.bipush 36, 2) := by decide +kernel
theorem dX8_turned_23 : decode cX8_turned 23 = .ok (.invokestatic 41, 3) := by decide +kernel
theorem dX8_turned_26 : decode cX8_turned 26 = .ok (.lload_n 0, 1) := by decide +kernel
theorem dX8_turned_27 : decode cX8_turned 27 = .ok (.iload_n 2, 1) := by decide +kernel
theorem dX8_turned_28 : decode cX8_turned 28 = .ok (.invokestatic 45, 3) := by decide +kernel
theorem dX8_turned_31 : decode cX8_turned 31 = .ok (.iconst 5, 1) := by decide +kernel
theorem dX8_turned_32 : decode cX8_turned 32 = .ok (.iload_n 3, 1) := by decide +kernel
theorem dX8_turned_33 : decode cX8_turned 33 = .ok (.iconst 1, 1) := by decide +kernel
theorem dX8_turned_34 : decode cX8_turned 34 = .ok (.iadd, 1) := by decide +kernel
theorem dX8_turned_35 : decode cX8_turned 35 = .ok (.imul, 1) := by decide +kernel
theorem dX8_turned_36 : decode cX8_turned 36 = .ok (.lshr, 1) := by decide +kernel
theorem dX8_turned_37 : decode cX8_turned 37 = .ok (.lor, 1) := by decide +kernel
theorem dX8_turned_38 : decode cX8_turned 38 = .ok (.lreturn, 1) := by decide +kernel
set_option maxRecDepth 20000 in
theorem ggX8_above_X8_isPlace : GoodIn wsX8_above wsX8_isPlace := goodIn_r _ [4] (by decide +kernel) (by decide +kernel)
set_option maxRecDepth 20000 in
theorem gX8_above_X8_isPlace : GoodIn wsX8_above (va_wsS RX8 11 yX8_isPlace wsX8_isPlace) := goodIn_app (goodIn_of _ (by decide +kernel)) ggX8_above_X8_isPlace
set_option maxRecDepth 20000 in
theorem ggX8_above_X8_shiftOf : GoodIn wsX8_above wsX8_shiftOf := goodIn_r _ [7] (by decide +kernel) (by decide +kernel)
set_option maxRecDepth 20000 in
theorem gX8_above_X8_shiftOf : GoodIn wsX8_above (va_wsS RX8 19 yX8_shiftOf wsX8_shiftOf) := goodIn_app (goodIn_of _ (by decide +kernel)) ggX8_above_X8_shiftOf
theorem dX8_above_0 : decode cX8_above 0 = .ok (.iload_n 2, 1) := by decide +kernel
theorem dX8_above_1 : decode cX8_above 1 = .ok (.iconst 1, 1) := by decide +kernel
theorem dX8_above_2 : decode cX8_above 2 = .ok (.isub, 1) := by decide +kernel
theorem dX8_above_3 : decode cX8_above 3 = .ok (.invokestatic 11, 3) := by decide +kernel
theorem dX8_above_6 : decode cX8_above 6 = .ok (.ifCond .eq 16, 3) := by decide +kernel
theorem dX8_above_9 : decode cX8_above 9 = .ok (.lload_n 0, 1) := by decide +kernel
theorem dX8_above_10 : decode cX8_above 10 = .ok (.lconst 1, 1) := by decide +kernel
theorem dX8_above_11 : decode cX8_above 11 = .ok (.iload_n 2, 1) := by decide +kernel
theorem dX8_above_12 : decode cX8_above 12 = .ok (.iconst 1, 1) := by decide +kernel
theorem dX8_above_13 : decode cX8_above 13 = .ok (.isub, 1) := by decide +kernel
theorem dX8_above_14 : decode cX8_above 14 = .ok (.invokestatic 19, 3) := by decide +kernel
theorem dX8_above_17 : decode cX8_above 17 = .ok (.lshl, 1) := by decide +kernel
theorem dX8_above_18 : decode cX8_above 18 = .ok (.ladd, 1) := by decide +kernel
theorem dX8_above_19 : decode cX8_above 19 = .ok (.goto 4, 3) := by decide +kernel
theorem dX8_above_22 : decode cX8_above 22 = .ok (.lload_n 0, 1) := by decide +kernel
theorem dX8_above_23 : decode cX8_above 23 = .ok (.lreturn, 1) := by decide +kernel
set_option maxRecDepth 20000 in
theorem ggX8_placesOf_X8_codeOf : GoodIn wsX8_placesOf wsX8_codeOf := goodIn_r _ [4] (by decide +kernel) (by decide +kernel)
set_option maxRecDepth 20000 in
theorem gX8_placesOf_X8_codeOf : GoodIn wsX8_placesOf (va_wsS RX8 15 yX8_codeOf wsX8_codeOf) := goodIn_app (goodIn_of _ (by decide +kernel)) ggX8_placesOf_X8_codeOf
set_option maxRecDepth 20000 in
theorem ggX8_placesOf_X8_codeAt : GoodIn wsX8_placesOf wsX8_codeAt := goodIn_r _ [7] (by decide +kernel) (by decide +kernel)
set_option maxRecDepth 20000 in
theorem gX8_placesOf_X8_codeAt : GoodIn wsX8_placesOf (va_wsS RX8 22 yX8_codeAt wsX8_codeAt) := goodIn_app (goodIn_of _ (by decide +kernel)) ggX8_placesOf_X8_codeAt
theorem dX8_placesOf_0 : decode cX8_placesOf 0 = .ok (.iload_n 2, 1) := by decide +kernel
theorem dX8_placesOf_1 : decode cX8_placesOf 1 = .ok (.invokestatic 15, 3) := by decide +kernel
theorem dX8_placesOf_4 : decode cX8_placesOf 4 = .ok (.istore_n 3, 1) := by decide +kernel
theorem dX8_placesOf_5 : decode cX8_placesOf 5 = .ok (.iconst 0, 1) := by decide +kernel
theorem dX8_placesOf_6 : decode cX8_placesOf 6 = .ok (.istore 4, 2) := by decide +kernel
theorem dX8_placesOf_8 : decode cX8_placesOf 8 = .ok (.iconst 0, 1) := by decide +kernel
theorem dX8_placesOf_9 : decode cX8_placesOf 9 = .ok (.istore 5, 2) := by decide +kernel
theorem dX8_placesOf_11 : decode cX8_placesOf 11 = .ok (.iload 5, 2) := by decide +kernel
theorem dX8_placesOf_13 : decode cX8_placesOf 13 = .ok (.bipush 8, 2) := by decide +kernel
theorem dX8_placesOf_15 : decode cX8_placesOf 15 = .ok (.if_icmp .ge 28, 3) := by decide +kernel
theorem dX8_placesOf_18 : decode cX8_placesOf 18 = .ok (.lload_n 0, 1) := by decide +kernel
theorem dX8_placesOf_19 : decode cX8_placesOf 19 = .ok (.iload 5, 2) := by decide +kernel
theorem dX8_placesOf_21 : decode cX8_placesOf 21 = .ok (.invokestatic 22, 3) := by decide +kernel
theorem dX8_placesOf_24 : decode cX8_placesOf 24 = .ok (.iload_n 3, 1) := by decide +kernel
theorem dX8_placesOf_25 : decode cX8_placesOf 25 = .ok (.if_icmp .ne 12, 3) := by decide +kernel
theorem dX8_placesOf_28 : decode cX8_placesOf 28 = .ok (.iload 4, 2) := by decide +kernel
theorem dX8_placesOf_30 : decode cX8_placesOf 30 = .ok (.iconst 1, 1) := by decide +kernel
theorem dX8_placesOf_31 : decode cX8_placesOf 31 = .ok (.iload 5, 2) := by decide +kernel
theorem dX8_placesOf_33 : decode cX8_placesOf 33 = .ok (.ishl, 1) := by decide +kernel
theorem dX8_placesOf_34 : decode cX8_placesOf 34 = .ok (.ior, 1) := by decide +kernel
theorem dX8_placesOf_35 : decode cX8_placesOf 35 = .ok (.istore 4, 2) := by decide +kernel
theorem dX8_placesOf_37 : decode cX8_placesOf 37 = .ok (.iinc 5 1, 3) := by decide +kernel
theorem dX8_placesOf_40 : decode cX8_placesOf 40 = .ok (.goto (-29), 3) := by decide +kernel
theorem dX8_placesOf_43 : decode cX8_placesOf 43 = .ok (.iload 4, 2) := by decide +kernel
theorem dX8_placesOf_45 : decode cX8_placesOf 45 = .ok (.ireturn, 1) := by decide +kernel
set_option maxRecDepth 20000 in
theorem ggX8_areNear_X8_codeAt : GoodIn wsX8_areNear wsX8_codeAt := goodIn_r _ [4] (by decide +kernel) (by decide +kernel)
set_option maxRecDepth 20000 in
theorem gX8_areNear_X8_codeAt : GoodIn wsX8_areNear (va_wsS RX8 22 yX8_codeAt wsX8_codeAt) := goodIn_app (goodIn_of _ (by decide +kernel)) ggX8_areNear_X8_codeAt
set_option maxRecDepth 20000 in
theorem ggX8_areNear_X8_length : GoodIn wsX8_areNear wsX8_length := goodIn_r _ [7, 1, 2, 3, 4] (by decide +kernel) (by decide +kernel)
set_option maxRecDepth 20000 in
theorem gX8_areNear_X8_length : GoodIn wsX8_areNear (va_wsS RX8 35 yX8_length wsX8_length) := goodIn_app (goodIn_of _ (by decide +kernel)) ggX8_areNear_X8_length
theorem dX8_areNear_0 : decode cX8_areNear 0 = .ok (.iconst 0, 1) := by decide +kernel
theorem dX8_areNear_1 : decode cX8_areNear 1 = .ok (.istore 4, 2) := by decide +kernel
theorem dX8_areNear_3 : decode cX8_areNear 3 = .ok (.iconst 0, 1) := by decide +kernel
theorem dX8_areNear_4 : decode cX8_areNear 4 = .ok (.istore 5, 2) := by decide +kernel
theorem dX8_areNear_6 : decode cX8_areNear 6 = .ok (.iload 5, 2) := by decide +kernel
theorem dX8_areNear_8 : decode cX8_areNear 8 = .ok (.bipush 8, 2) := by decide +kernel
theorem dX8_areNear_10 : decode cX8_areNear 10 = .ok (.if_icmp .ge 27, 3) := by decide +kernel
theorem dX8_areNear_13 : decode cX8_areNear 13 = .ok (.lload_n 0, 1) := by decide +kernel
theorem dX8_areNear_14 : decode cX8_areNear 14 = .ok (.iload 5, 2) := by decide +kernel
theorem dX8_areNear_16 : decode cX8_areNear 16 = .ok (.invokestatic 22, 3) := by decide +kernel
theorem dX8_areNear_19 : decode cX8_areNear 19 = .ok (.lload_n 2, 1) := by decide +kernel
theorem dX8_areNear_20 : decode cX8_areNear 20 = .ok (.iload 5, 2) := by decide +kernel
theorem dX8_areNear_22 : decode cX8_areNear 22 = .ok (.invokestatic 22, 3) := by decide +kernel
theorem dX8_areNear_25 : decode cX8_areNear 25 = .ok (.if_icmp .eq 6, 3) := by decide +kernel
theorem dX8_areNear_28 : decode cX8_areNear 28 = .ok (.iinc 4 1, 3) := by decide +kernel
theorem dX8_areNear_31 : decode cX8_areNear 31 = .ok (.iinc 5 1, 3) := by decide +kernel
theorem dX8_areNear_34 : decode cX8_areNear 34 = .ok (.goto (-28), 3) := by decide +kernel
theorem dX8_areNear_37 : decode cX8_areNear 37 = .ok (.iload 4, 2) := by decide +kernel
theorem dX8_areNear_39 : decode cX8_areNear 39 = .ok (.iconst 1, 1) := by decide +kernel
theorem dX8_areNear_40 : decode cX8_areNear 40 = .ok (.if_icmp .ne 18, 3) := by decide +kernel
theorem dX8_areNear_43 : decode cX8_areNear 43 = .ok (.lload_n 0, 1) := by decide +kernel
theorem dX8_areNear_44 : decode cX8_areNear 44 = .ok (.invokestatic 35, 3) := by decide +kernel
theorem dX8_areNear_47 : decode cX8_areNear 47 = .ok (.lload_n 2, 1) := by decide +kernel
theorem dX8_areNear_48 : decode cX8_areNear 48 = .ok (.invokestatic 35, 3) := by decide +kernel
theorem dX8_areNear_51 : decode cX8_areNear 51 = .ok (.if_icmp .ne 7, 3) := by decide +kernel
theorem dX8_areNear_54 : decode cX8_areNear 54 = .ok (.iconst 1, 1) := by decide +kernel
theorem dX8_areNear_55 : decode cX8_areNear 55 = .ok (.goto 4, 3) := by decide +kernel
theorem dX8_areNear_58 : decode cX8_areNear 58 = .ok (.iconst 0, 1) := by decide +kernel
theorem dX8_areNear_59 : decode cX8_areNear 59 = .ok (.ireturn, 1) := by decide +kernel
set_option maxRecDepth 20000 in
theorem ggX9_init_X10_init : GoodIn wsX9_init wsX10_init := goodIn_r _ [23, 24, 2, 3, 25, 26, 53, 54] (by decide +kernel) (by decide +kernel)
set_option maxRecDepth 20000 in
theorem gX9_init_X10_init : GoodIn wsX9_init (wsX10_init) := ggX9_init_X10_init
set_option maxRecDepth 20000 in
theorem ggX9_init_X7_init : GoodIn wsX9_init wsX7_init := goodIn_r _ [29, 30, 2, 3, 31, 32, 33, 34, 35, 36, 37, 38, 39, 61, 62] (by decide +kernel) (by decide +kernel)
set_option maxRecDepth 20000 in
theorem gX9_init_X7_init : GoodIn wsX9_init (wsX7_init) := ggX9_init_X7_init
set_option maxRecDepth 20000 in
theorem ggX9_init_X5_init : GoodIn wsX9_init wsX5_init := goodIn_r _ [42, 43, 2, 3, 44, 45, 46, 63, 64] (by decide +kernel) (by decide +kernel)
set_option maxRecDepth 20000 in
theorem gX9_init_X5_init : GoodIn wsX9_init (wsX5_init) := ggX9_init_X5_init
set_option maxRecDepth 20000 in
theorem ggX9_init_X2_init : GoodIn wsX9_init wsX2_init := goodIn_r _ [49, 50, 2, 3, 51, 52, 65, 66] (by decide +kernel) (by decide +kernel)
set_option maxRecDepth 20000 in
theorem gX9_init_X2_init : GoodIn wsX9_init (wsX2_init) := ggX9_init_X2_init
theorem dX9_init_0 : decode cX9_init 0 = .ok (.aload_n 0, 1) := by decide +kernel
theorem dX9_init_1 : decode cX9_init 1 = .ok (.invokespecial 3, 3) := by decide +kernel
theorem dX9_init_4 : decode cX9_init 4 = .ok (.aload_n 0, 1) := by decide +kernel
theorem dX9_init_5 : decode cX9_init 5 = .ok (.new 9, 3) := by decide +kernel
theorem dX9_init_8 : decode cX9_init 8 = .ok (.dup, 1) := by decide +kernel
theorem dX9_init_9 : decode cX9_init 9 = .ok (.invokespecial 11, 3) := by decide +kernel
theorem dX9_init_12 : decode cX9_init 12 = .ok (.putfield 12, 3) := by decide +kernel
theorem dX9_init_15 : decode cX9_init 15 = .ok (.aload_n 0, 1) := by decide +kernel
theorem dX9_init_16 : decode cX9_init 16 = .ok (.new 18, 3) := by decide +kernel
theorem dX9_init_19 : decode cX9_init 19 = .ok (.dup, 1) := by decide +kernel
theorem dX9_init_20 : decode cX9_init 20 = .ok (.bipush 40, 2) := by decide +kernel
theorem dX9_init_22 : decode cX9_init 22 = .ok (.invokespecial 20, 3) := by decide +kernel
theorem dX9_init_25 : decode cX9_init 25 = .ok (.putfield 23, 3) := by decide +kernel
theorem dX9_init_28 : decode cX9_init 28 = .ok (.aload_n 0, 1) := by decide +kernel
theorem dX9_init_29 : decode cX9_init 29 = .ok (.new 18, 3) := by decide +kernel
theorem dX9_init_32 : decode cX9_init 32 = .ok (.dup, 1) := by decide +kernel
theorem dX9_init_33 : decode cX9_init 33 = .ok (.bipush 40, 2) := by decide +kernel
theorem dX9_init_35 : decode cX9_init 35 = .ok (.invokespecial 20, 3) := by decide +kernel
theorem dX9_init_38 : decode cX9_init 38 = .ok (.putfield 27, 3) := by decide +kernel
theorem dX9_init_41 : decode cX9_init 41 = .ok (.aload_n 0, 1) := by decide +kernel
theorem dX9_init_42 : decode cX9_init 42 = .ok (.new 30, 3) := by decide +kernel
theorem dX9_init_45 : decode cX9_init 45 = .ok (.dup, 1) := by decide +kernel
theorem dX9_init_46 : decode cX9_init 46 = .ok (.invokespecial 32, 3) := by decide +kernel
theorem dX9_init_49 : decode cX9_init 49 = .ok (.putfield 33, 3) := by decide +kernel
theorem dX9_init_52 : decode cX9_init 52 = .ok (.aload_n 0, 1) := by decide +kernel
theorem dX9_init_53 : decode cX9_init 53 = .ok (.new 37, 3) := by decide +kernel
theorem dX9_init_56 : decode cX9_init 56 = .ok (.dup, 1) := by decide +kernel
theorem dX9_init_57 : decode cX9_init 57 = .ok (.invokespecial 39, 3) := by decide +kernel
theorem dX9_init_60 : decode cX9_init 60 = .ok (.putfield 40, 3) := by decide +kernel
theorem dX9_init_63 : decode cX9_init 63 = .ok (.return_, 1) := by decide +kernel
set_option maxRecDepth 20000 in
theorem ggX9_emptyBatch_X7_copy : GoodIn wsX9_emptyBatch wsX7_copy := goodIn_r _ [8, 9, 10, 11, 12, 13, 14, 15, 16, 17, 18, 25, 26] (by decide +kernel) (by decide +kernel)
set_option maxRecDepth 20000 in
theorem gX9_emptyBatch_X7_copy : GoodIn wsX9_emptyBatch (wsV RX9 44 RX7 yX7_copy wsX7_copy) := goodIn_app (goodIn_of _ (by decide +kernel)) ggX9_emptyBatch_X7_copy
theorem dX9_emptyBatch_0 : decode cX9_emptyBatch 0 = .ok (.aload_n 0, 1) := by decide +kernel
theorem dX9_emptyBatch_1 : decode cX9_emptyBatch 1 = .ok (.getfield 27, 3) := by decide +kernel
theorem dX9_emptyBatch_4 : decode cX9_emptyBatch 4 = .ok (.aload_n 0, 1) := by decide +kernel
theorem dX9_emptyBatch_5 : decode cX9_emptyBatch 5 = .ok (.getfield 23, 3) := by decide +kernel
theorem dX9_emptyBatch_8 : decode cX9_emptyBatch 8 = .ok (.invokevirtual 44, 3) := by decide +kernel
theorem dX9_emptyBatch_11 : decode cX9_emptyBatch 11 = .ok (.aload_n 0, 1) := by decide +kernel
theorem dX9_emptyBatch_12 : decode cX9_emptyBatch 12 = .ok (.iconst 0, 1) := by decide +kernel
theorem dX9_emptyBatch_13 : decode cX9_emptyBatch 13 = .ok (.putfield 48, 3) := by decide +kernel
theorem dX9_emptyBatch_16 : decode cX9_emptyBatch 16 = .ok (.return_, 1) := by decide +kernel
set_option maxRecDepth 20000 in
theorem ggX9_copy_X10_copy : GoodIn wsX9_copy wsX10_copy := goodIn_r _ [13, 14, 15, 16, 17, 18, 19, 55, 56] (by decide +kernel) (by decide +kernel)
set_option maxRecDepth 20000 in
theorem gX9_copy_X10_copy : GoodIn wsX9_copy (wsV RX9 52 RX10 yX10_copy wsX10_copy) := goodIn_app (goodIn_of _ (by decide +kernel)) ggX9_copy_X10_copy
set_option maxRecDepth 20000 in
theorem ggX9_copy_X7_copy : GoodIn wsX9_copy wsX7_copy := goodIn_r _ [24, 25, 26, 27, 28, 29, 30, 31, 17, 18, 19, 57, 58] (by decide +kernel) (by decide +kernel)
set_option maxRecDepth 20000 in
theorem gX9_copy_X7_copy : GoodIn wsX9_copy (wsV RX9 44 RX7 yX7_copy wsX7_copy) := goodIn_app (goodIn_of _ (by decide +kernel)) ggX9_copy_X7_copy
set_option maxRecDepth 20000 in
theorem ggX9_copy_X5_copy : GoodIn wsX9_copy wsX5_copy := goodIn_r _ [36, 37, 38, 39, 17, 18, 19, 59, 60] (by decide +kernel) (by decide +kernel)
set_option maxRecDepth 20000 in
theorem gX9_copy_X5_copy : GoodIn wsX9_copy (wsV RX9 55 RX5 yX5_copy wsX5_copy) := goodIn_app (goodIn_of _ (by decide +kernel)) ggX9_copy_X5_copy
set_option maxRecDepth 20000 in
theorem ggX9_copy_X2_set : GoodIn wsX9_copy wsX2_set := goodIn_r _ [44, 45, 46, 53, 54] (by decide +kernel) (by decide +kernel)
set_option maxRecDepth 20000 in
theorem gX9_copy_X2_set : GoodIn wsX9_copy (wsV RX9 64 RX2 yX2_set wsX2_set) := goodIn_app (goodIn_of _ (by decide +kernel)) ggX9_copy_X2_set
theorem dX9_copy_0 : decode cX9_copy 0 = .ok (.aload_n 0, 1) := by decide +kernel
theorem dX9_copy_1 : decode cX9_copy 1 = .ok (.getfield 12, 3) := by decide +kernel
theorem dX9_copy_4 : decode cX9_copy 4 = .ok (.aload_n 1, 1) := by decide +kernel
theorem dX9_copy_5 : decode cX9_copy 5 = .ok (.getfield 12, 3) := by decide +kernel
theorem dX9_copy_8 : decode cX9_copy 8 = .ok (.invokevirtual 52, 3) := by decide +kernel
theorem dX9_copy_11 : decode cX9_copy 11 = .ok (.aload_n 0, 1) := by decide +kernel
theorem dX9_copy_12 : decode cX9_copy 12 = .ok (.getfield 23, 3) := by decide +kernel
theorem dX9_copy_15 : decode cX9_copy 15 = .ok (.aload_n 1, 1) := by decide +kernel
theorem dX9_copy_16 : decode cX9_copy 16 = .ok (.getfield 23, 3) := by decide +kernel
theorem dX9_copy_19 : decode cX9_copy 19 = .ok (.invokevirtual 44, 3) := by decide +kernel
theorem dX9_copy_22 : decode cX9_copy 22 = .ok (.aload_n 0, 1) := by decide +kernel
theorem dX9_copy_23 : decode cX9_copy 23 = .ok (.getfield 27, 3) := by decide +kernel
theorem dX9_copy_26 : decode cX9_copy 26 = .ok (.aload_n 1, 1) := by decide +kernel
theorem dX9_copy_27 : decode cX9_copy 27 = .ok (.getfield 27, 3) := by decide +kernel
theorem dX9_copy_30 : decode cX9_copy 30 = .ok (.invokevirtual 44, 3) := by decide +kernel
theorem dX9_copy_33 : decode cX9_copy 33 = .ok (.aload_n 0, 1) := by decide +kernel
theorem dX9_copy_34 : decode cX9_copy 34 = .ok (.getfield 33, 3) := by decide +kernel
theorem dX9_copy_37 : decode cX9_copy 37 = .ok (.aload_n 1, 1) := by decide +kernel
theorem dX9_copy_38 : decode cX9_copy 38 = .ok (.getfield 33, 3) := by decide +kernel
theorem dX9_copy_41 : decode cX9_copy 41 = .ok (.invokevirtual 55, 3) := by decide +kernel
theorem dX9_copy_44 : decode cX9_copy 44 = .ok (.aload_n 0, 1) := by decide +kernel
theorem dX9_copy_45 : decode cX9_copy 45 = .ok (.getfield 40, 3) := by decide +kernel
theorem dX9_copy_48 : decode cX9_copy 48 = .ok (.aload_n 1, 1) := by decide +kernel
theorem dX9_copy_49 : decode cX9_copy 49 = .ok (.getfield 40, 3) := by decide +kernel
theorem dX9_copy_52 : decode cX9_copy 52 = .ok (.getfield 58, 3) := by decide +kernel
theorem dX9_copy_55 : decode cX9_copy 55 = .ok (.aload_n 1, 1) := by decide +kernel
theorem dX9_copy_56 : decode cX9_copy 56 = .ok (.getfield 40, 3) := by decide +kernel
theorem dX9_copy_59 : decode cX9_copy 59 = .ok (.getfield 61, 3) := by decide +kernel
theorem dX9_copy_62 : decode cX9_copy 62 = .ok (.invokevirtual 64, 3) := by decide +kernel
theorem dX9_copy_65 : decode cX9_copy 65 = .ok (.aload_n 0, 1) := by decide +kernel
theorem dX9_copy_66 : decode cX9_copy 66 = .ok (.aload_n 1, 1) := by decide +kernel
theorem dX9_copy_67 : decode cX9_copy 67 = .ok (.getfield 48, 3) := by decide +kernel
theorem dX9_copy_70 : decode cX9_copy 70 = .ok (.putfield 48, 3) := by decide +kernel
theorem dX9_copy_73 : decode cX9_copy 73 = .ok (.return_, 1) := by decide +kernel
theorem dX10_init_0 : decode cX10_init 0 = .ok (.aload_n 0, 1) := by decide +kernel
theorem dX10_init_1 : decode cX10_init 1 = .ok (.invokespecial 3, 3) := by decide +kernel
theorem dX10_init_4 : decode cX10_init 4 = .ok (.aload_n 0, 1) := by decide +kernel
theorem dX10_init_5 : decode cX10_init 5 = .ok (.sipush 400, 3) := by decide +kernel
theorem dX10_init_8 : decode cX10_init 8 = .ok (.newarray .byte, 2) := by decide +kernel
theorem dX10_init_10 : decode cX10_init 10 = .ok (.putfield 9, 3) := by decide +kernel
theorem dX10_init_13 : decode cX10_init 13 = .ok (.return_, 1) := by decide +kernel
theorem dX10_size_0 : decode cX10_size 0 = .ok (.aload_n 0, 1) := by decide +kernel
theorem dX10_size_1 : decode cX10_size 1 = .ok (.getfield 15, 3) := by decide +kernel
theorem dX10_size_4 : decode cX10_size 4 = .ok (.ireturn, 1) := by decide +kernel
theorem dX10_at_0 : decode cX10_at 0 = .ok (.iload_n 1, 1) := by decide +kernel
theorem dX10_at_1 : decode cX10_at 1 = .ok (.ifCond .lt 11, 3) := by decide +kernel
theorem dX10_at_4 : decode cX10_at 4 = .ok (.iload_n 1, 1) := by decide +kernel
theorem dX10_at_5 : decode cX10_at 5 = .ok (.aload_n 0, 1) := by decide +kernel
theorem dX10_at_6 : decode cX10_at 6 = .ok (.getfield 15, 3) := by decide +kernel
theorem dX10_at_9 : decode cX10_at 9 = .ok (.if_icmp .lt 7, 3) := by decide +kernel
theorem dX10_at_12 : decode cX10_at 12 = .ok (.iconst (-1), 1) := by decide +kernel
theorem dX10_at_13 : decode cX10_at 13 = .ok (.goto 13, 3) := by decide +kernel
theorem dX10_at_16 : decode cX10_at 16 = .ok (.aload_n 0, 1) := by decide +kernel
theorem dX10_at_17 : decode cX10_at 17 = .ok (.getfield 9, 3) := by decide +kernel
theorem dX10_at_20 : decode cX10_at 20 = .ok (.iload_n 1, 1) := by decide +kernel
theorem dX10_at_21 : decode cX10_at 21 = .ok (.baload, 1) := by decide +kernel
theorem dX10_at_22 : decode cX10_at 22 = .ok (.sipush 255, 3) := by decide +kernel
theorem dX10_at_25 : decode cX10_at 25 = .ok (.iand, 1) := by decide +kernel
theorem dX10_at_26 : decode cX10_at 26 = .ok (.ireturn, 1) := by decide +kernel
theorem dX10_append_0 : decode cX10_append 0 = .ok (.bipush 24, 2) := by decide +kernel
theorem dX10_append_2 : decode cX10_append 2 = .ok (.istore_n 2, 1) := by decide +kernel
theorem dX10_append_3 : decode cX10_append 3 = .ok (.iload_n 2, 1) := by decide +kernel
theorem dX10_append_4 : decode cX10_append 4 = .ok (.ifCond .lt 44, 3) := by decide +kernel
theorem dX10_append_7 : decode cX10_append 7 = .ok (.aload_n 0, 1) := by decide +kernel
theorem dX10_append_8 : decode cX10_append 8 = .ok (.getfield 15, 3) := by decide +kernel
theorem dX10_append_11 : decode cX10_append 11 = .ok (.aload_n 0, 1) := by decide +kernel
theorem dX10_append_12 : decode cX10_append 12 = .ok (.getfield 9, 3) := by decide +kernel
theorem dX10_append_15 : decode cX10_append 15 = .ok (.arraylength, 1) := by decide +kernel
theorem dX10_append_16 : decode cX10_append 16 = .ok (.if_icmp .ge 32, 3) := by decide +kernel
theorem dX10_append_19 : decode cX10_append 19 = .ok (.aload_n 0, 1) := by decide +kernel
theorem dX10_append_20 : decode cX10_append 20 = .ok (.getfield 9, 3) := by decide +kernel
theorem dX10_append_23 : decode cX10_append 23 = .ok (.aload_n 0, 1) := by decide +kernel
theorem dX10_append_24 : decode cX10_append 24 = .ok (.getfield 15, 3) := by decide +kernel
theorem dX10_append_27 : decode cX10_append 27 = .ok (.iload_n 1, 1) := by decide +kernel
theorem dX10_append_28 : decode cX10_append 28 = .ok (.iload_n 2, 1) := by decide +kernel
theorem dX10_append_29 : decode cX10_append 29 = .ok (.ishr, 1) := by decide +kernel
theorem dX10_append_30 : decode cX10_append 30 = .ok (.i2b, 1) := by decide +kernel
theorem dX10_append_31 : decode cX10_append 31 = .ok (.bastore, 1) := by decide +kernel
theorem dX10_append_32 : decode cX10_append 32 = .ok (.aload_n 0, 1) := by decide +kernel
theorem dX10_append_33 : decode cX10_append 33 = .ok (.dup, 1) := by decide +kernel
theorem dX10_append_34 : decode cX10_append 34 = .ok (.getfield 15, 3) := by decide +kernel
theorem dX10_append_37 : decode cX10_append 37 = .ok (.iconst 1, 1) := by decide +kernel
theorem dX10_append_38 : decode cX10_append 38 = .ok (.iadd, 1) := by decide +kernel
theorem dX10_append_39 : decode cX10_append 39 = .ok (.putfield 15, 3) := by decide +kernel
theorem dX10_append_42 : decode cX10_append 42 = .ok (.iinc 2 (-8), 3) := by decide +kernel
theorem dX10_append_45 : decode cX10_append 45 = .ok (.goto (-42), 3) := by decide +kernel
theorem dX10_append_48 : decode cX10_append 48 = .ok (.return_, 1) := by decide +kernel
theorem dX10_shorten_0 : decode cX10_shorten 0 = .ok (.iload_n 1, 1) := by decide +kernel
theorem dX10_shorten_1 : decode cX10_shorten 1 = .ok (.ifCond .lt 11, 3) := by decide +kernel
theorem dX10_shorten_4 : decode cX10_shorten 4 = .ok (.iload_n 1, 1) := by decide +kernel
theorem dX10_shorten_5 : decode cX10_shorten 5 = .ok (.aload_n 0, 1) := by decide +kernel
theorem dX10_shorten_6 : decode cX10_shorten 6 = .ok (.getfield 15, 3) := by decide +kernel
theorem dX10_shorten_9 : decode cX10_shorten 9 = .ok (.if_icmp .le 5, 3) := by decide +kernel
theorem dX10_shorten_12 : decode cX10_shorten 12 = .ok (.iconst 0, 1) := by decide +kernel
theorem dX10_shorten_13 : decode cX10_shorten 13 = .ok (.ireturn, 1) := by decide +kernel
theorem dX10_shorten_14 : decode cX10_shorten 14 = .ok (.aload_n 0, 1) := by decide +kernel
theorem dX10_shorten_15 : decode cX10_shorten 15 = .ok (.iload_n 1, 1) := by decide +kernel
theorem dX10_shorten_16 : decode cX10_shorten 16 = .ok (.putfield 15, 3) := by decide +kernel
theorem dX10_shorten_19 : decode cX10_shorten 19 = .ok (.iconst 1, 1) := by decide +kernel
theorem dX10_shorten_20 : decode cX10_shorten 20 = .ok (.ireturn, 1) := by decide +kernel
theorem dX10_copy_0 : decode cX10_copy 0 = .ok (.aload_n 0, 1) := by decide +kernel
theorem dX10_copy_1 : decode cX10_copy 1 = .ok (.aload_n 1, 1) := by decide +kernel
theorem dX10_copy_2 : decode cX10_copy 2 = .ok (.getfield 15, 3) := by decide +kernel
theorem dX10_copy_5 : decode cX10_copy 5 = .ok (.putfield 15, 3) := by decide +kernel
theorem dX10_copy_8 : decode cX10_copy 8 = .ok (.aload_n 1, 1) := by decide +kernel
theorem dX10_copy_9 : decode cX10_copy 9 = .ok (.getfield 9, 3) := by decide +kernel
theorem dX10_copy_12 : decode cX10_copy 12 = .ok (.iconst 0, 1) := by decide +kernel
theorem dX10_copy_13 : decode cX10_copy 13 = .ok (.aload_n 0, 1) := by decide +kernel
theorem dX10_copy_14 : decode cX10_copy 14 = .ok (.getfield 9, 3) := by decide +kernel
theorem dX10_copy_17 : decode cX10_copy 17 = .ok (.iconst 0, 1) := by decide +kernel
theorem dX10_copy_18 : decode cX10_copy 18 = .ok (.aload_n 0, 1) := by decide +kernel
theorem dX10_copy_19 : decode cX10_copy 19 = .ok (.getfield 15, 3) := by decide +kernel
theorem dX10_copy_22 : decode cX10_copy 22 = .ok (.invokestatic 19, 3) := by decide +kernel
theorem dX10_copy_25 : decode cX10_copy 25 = .ok (.return_, 1) := by decide +kernel
set_option maxRecDepth 20000 in
theorem ggX11_init_X9_init : GoodIn wsX11_init wsX9_init := goodIn_r _ [35, 36, 2, 3, 37, 38, 39, 40, 41, 24, 25, 42, 43, 44, 28, 29, 45, 46, 47, 48, 49, 50, 51, 52, 53, 54, 55, 56, 57, 58, 59, 60, 61, 62, 63, 64, 65, 66, 67, 68, 69, 70, 71, 72, 31, 73, 74, 75, 76, 77, 78, 79, 80, 196, 197, 165, 166, 167, 168, 169, 170, 192, 193, 194, 195, 198, 199] (by decide +kernel) (by decide +kernel)
set_option maxRecDepth 20000 in
theorem gX11_init_X9_init : GoodIn wsX11_init (wsX9_init) := ggX11_init_X9_init
set_option maxRecDepth 20000 in
theorem ggX11_init_X4_init : GoodIn wsX11_init wsX4_init := goodIn_r _ [83, 84, 2, 3, 85, 86, 24, 25, 87, 57, 58, 59, 60, 61, 62, 63, 64, 65, 66, 67, 68, 180, 181, 192, 193] (by decide +kernel) (by decide +kernel)
set_option maxRecDepth 20000 in
theorem gX11_init_X4_init : GoodIn wsX11_init (wsX4_init) := ggX11_init_X4_init
set_option maxRecDepth 20000 in
theorem ggX11_init_X1_init : GoodIn wsX11_init wsX1_init := goodIn_r _ [90, 91, 2, 3, 31, 92, 93, 94, 95, 67, 96, 182, 183, 184, 185, 186, 187, 188, 189, 190] (by decide +kernel) (by decide +kernel)
set_option maxRecDepth 20000 in
theorem gX11_init_X1_init : GoodIn wsX11_init (wsX1_init) := ggX11_init_X1_init
set_option maxRecDepth 20000 in
theorem ggX11_init_X1_lay : GoodIn wsX11_init wsX1_lay := goodIn_r _ [100, 101, 102, 103, 104, 105, 15, 106, 107, 108, 109, 29, 110, 74, 111, 112, 113, 114, 73, 115, 116, 117, 118, 119, 120, 121, 122, 123, 124, 125, 126, 127, 128, 129, 130, 131, 132, 133, 134, 92, 96, 94, 135, 136, 137, 138, 93, 95, 139, 140, 141, 142, 143, 144, 145, 146, 147, 148, 149, 150, 151, 152, 153, 154, 155, 182, 183, 184, 185, 186, 187, 188, 189, 190, 194, 195] (by decide +kernel) (by decide +kernel)
set_option maxRecDepth 20000 in
theorem gX11_init_X1_lay : GoodIn wsX11_init (wsV RX11 38 RX1 yX1_lay wsX1_lay) := goodIn_app (goodIn_of _ (by decide +kernel)) ggX11_init_X1_lay
set_option maxRecDepth 20000 in
theorem ggX11_init_X3_init : GoodIn wsX11_init wsX3_init := goodIn_r _ [158, 159, 2, 3, 160, 24, 25, 161, 162, 57, 58, 59, 60, 61, 62, 63, 64, 65, 66, 67, 68, 192, 193, 191] (by decide +kernel) (by decide +kernel)
set_option maxRecDepth 20000 in
theorem gX11_init_X3_init : GoodIn wsX11_init (wsX3_init) := ggX11_init_X3_init
set_option maxRecDepth 20000 in
theorem ggX11_init_X7_init : GoodIn wsX11_init wsX7_init := goodIn_r _ [58, 59, 2, 3, 60, 61, 62, 63, 64, 65, 66, 67, 68, 192, 193] (by decide +kernel) (by decide +kernel)
set_option maxRecDepth 20000 in
theorem gX11_init_X7_init : GoodIn wsX11_init (wsX7_init) := ggX11_init_X7_init
set_option maxRecDepth 20000 in
theorem ggX11_init_X5_init : GoodIn wsX11_init wsX5_init := goodIn_r _ [71, 72, 2, 3, 31, 73, 74, 194, 195] (by decide +kernel) (by decide +kernel)
set_option maxRecDepth 20000 in
theorem gX11_init_X5_init : GoodIn wsX11_init (wsX5_init) := ggX11_init_X5_init
theorem dX11_init_0 : decode cX11_init 0 = .ok (.aload_n 0, 1) := by decide +kernel
theorem dX11_init_1 : decode cX11_init 1 = .ok (.invokespecial 3, 3) := by decide +kernel
theorem dX11_init_4 : decode cX11_init 4 = .ok (.aload_n 0, 1) := by decide +kernel
theorem dX11_init_5 : decode cX11_init 5 = .ok (.new 9, 3) := by decide +kernel
theorem dX11_init_8 : decode cX11_init 8 = .ok (.dup, 1) := by decide +kernel
theorem dX11_init_9 : decode cX11_init 9 = .ok (.invokespecial 11, 3) := by decide +kernel
theorem dX11_init_12 : decode cX11_init 12 = .ok (.putfield 12, 3) := by decide +kernel
theorem dX11_init_15 : decode cX11_init 15 = .ok (.aload_n 0, 1) := by decide +kernel
theorem dX11_init_16 : decode cX11_init 16 = .ok (.iconst 3, 1) := by decide +kernel
theorem dX11_init_17 : decode cX11_init 17 = .ok (.anewarray 9, 3) := by decide +kernel
theorem dX11_init_20 : decode cX11_init 20 = .ok (.putfield 16, 3) := by decide +kernel
theorem dX11_init_23 : decode cX11_init 23 = .ok (.aload_n 0, 1) := by decide +kernel
theorem dX11_init_24 : decode cX11_init 24 = .ok (.new 20, 3) := by decide +kernel
theorem dX11_init_27 : decode cX11_init 27 = .ok (.dup, 1) := by decide +kernel
theorem dX11_init_28 : decode cX11_init 28 = .ok (.invokespecial 22, 3) := by decide +kernel
theorem dX11_init_31 : decode cX11_init 31 = .ok (.putfield 23, 3) := by decide +kernel
theorem dX11_init_34 : decode cX11_init 34 = .ok (.aload_n 0, 1) := by decide +kernel
theorem dX11_init_35 : decode cX11_init 35 = .ok (.new 27, 3) := by decide +kernel
theorem dX11_init_38 : decode cX11_init 38 = .ok (.dup, 1) := by decide +kernel
theorem dX11_init_39 : decode cX11_init 39 = .ok (.invokespecial 29, 3) := by decide +kernel
theorem dX11_init_42 : decode cX11_init 42 = .ok (.putfield 30, 3) := by decide +kernel
theorem dX11_init_45 : decode cX11_init 45 = .ok (.aload_n 0, 1) := by decide +kernel
theorem dX11_init_46 : decode cX11_init 46 = .ok (.getfield 30, 3) := by decide +kernel
theorem dX11_init_49 : decode cX11_init 49 = .ok (.aload_n 0, 1) := by decide +kernel
theorem dX11_init_50 : decode cX11_init 50 = .ok (.getfield 12, 3) := by decide +kernel
theorem dX11_init_53 : decode cX11_init 53 = .ok (.getfield 34, 3) := by decide +kernel
theorem dX11_init_56 : decode cX11_init 56 = .ok (.invokevirtual 38, 3) := by decide +kernel
theorem dX11_init_59 : decode cX11_init 59 = .ok (.aload_n 0, 1) := by decide +kernel
theorem dX11_init_60 : decode cX11_init 60 = .ok (.new 42, 3) := by decide +kernel
theorem dX11_init_63 : decode cX11_init 63 = .ok (.dup, 1) := by decide +kernel
theorem dX11_init_64 : decode cX11_init 64 = .ok (.invokespecial 44, 3) := by decide +kernel
theorem dX11_init_67 : decode cX11_init 67 = .ok (.putfield 45, 3) := by decide +kernel
theorem dX11_init_70 : decode cX11_init 70 = .ok (.aload_n 0, 1) := by decide +kernel
theorem dX11_init_71 : decode cX11_init 71 = .ok (.new 42, 3) := by decide +kernel
theorem dX11_init_74 : decode cX11_init 74 = .ok (.dup, 1) := by decide +kernel
theorem dX11_init_75 : decode cX11_init 75 = .ok (.invokespecial 44, 3) := by decide +kernel
theorem dX11_init_78 : decode cX11_init 78 = .ok (.putfield 49, 3) := by decide +kernel
theorem dX11_init_81 : decode cX11_init 81 = .ok (.aload_n 0, 1) := by decide +kernel
theorem dX11_init_82 : decode cX11_init 82 = .ok (.new 52, 3) := by decide +kernel
theorem dX11_init_85 : decode cX11_init 85 = .ok (.dup, 1) := by decide +kernel
theorem dX11_init_86 : decode cX11_init 86 = .ok (.bipush 40, 2) := by decide +kernel
theorem dX11_init_88 : decode cX11_init 88 = .ok (.invokespecial 54, 3) := by decide +kernel
theorem dX11_init_91 : decode cX11_init 91 = .ok (.putfield 57, 3) := by decide +kernel
theorem dX11_init_94 : decode cX11_init 94 = .ok (.aload_n 0, 1) := by decide +kernel
theorem dX11_init_95 : decode cX11_init 95 = .ok (.new 61, 3) := by decide +kernel
theorem dX11_init_98 : decode cX11_init 98 = .ok (.dup, 1) := by decide +kernel
theorem dX11_init_99 : decode cX11_init 99 = .ok (.invokespecial 63, 3) := by decide +kernel
theorem dX11_init_102 : decode cX11_init 102 = .ok (.putfield 64, 3) := by decide +kernel
theorem dX11_init_105 : decode cX11_init 105 = .ok (.aload_n 0, 1) := by decide +kernel
theorem dX11_init_106 : decode cX11_init 106 = .ok (.bipush 32, 2) := by decide +kernel
theorem dX11_init_108 : decode cX11_init 108 = .ok (.newarray .int, 2) := by decide +kernel
theorem dX11_init_110 : decode cX11_init 110 = .ok (.putfield 69, 3) := by decide +kernel
theorem dX11_init_113 : decode cX11_init 113 = .ok (.return_, 1) := by decide +kernel
set_option maxRecDepth 20000 in
theorem ggX11_feed_X10_size : GoodIn wsX11_feed wsX10_size := goodIn_r _ [7, 8, 29, 30] (by decide +kernel) (by decide +kernel)
set_option maxRecDepth 20000 in
theorem gX11_feed_X10_size : GoodIn wsX11_feed (wsV RX11 77 RX10 yX10_size wsX10_size) := goodIn_app (goodIn_of _ (by decide +kernel)) ggX11_feed_X10_size
set_option maxRecDepth 20000 in
theorem ggX11_feed_X10_append : GoodIn wsX11_feed wsX10_append := goodIn_r _ [12, 8, 13, 29, 30] (by decide +kernel) (by decide +kernel)
set_option maxRecDepth 20000 in
theorem gX11_feed_X10_append : GoodIn wsX11_feed (wsV RX11 83 RX10 yX10_append wsX10_append) := goodIn_app (goodIn_of _ (by decide +kernel)) ggX11_feed_X10_append
theorem dX11_feed_0 : decode cX11_feed 0 = .ok (.aload_n 0, 1) := by decide +kernel
theorem dX11_feed_1 : decode cX11_feed 1 = .ok (.getfield 12, 3) := by decide +kernel
theorem dX11_feed_4 : decode cX11_feed 4 = .ok (.getfield 73, 3) := by decide +kernel
theorem dX11_feed_7 : decode cX11_feed 7 = .ok (.astore 6, 2) := by decide +kernel
theorem dX11_feed_9 : decode cX11_feed 9 = .ok (.aload 6, 2) := by decide +kernel
theorem dX11_feed_11 : decode cX11_feed 11 = .ok (.invokevirtual 77, 3) := by decide +kernel
theorem dX11_feed_14 : decode cX11_feed 14 = .ok (.bipush 20, 2) := by decide +kernel
theorem dX11_feed_16 : decode cX11_feed 16 = .ok (.iadd, 1) := by decide +kernel
theorem dX11_feed_17 : decode cX11_feed 17 = .ok (.sipush 400, 3) := by decide +kernel
theorem dX11_feed_20 : decode cX11_feed 20 = .ok (.if_icmp .le 5, 3) := by decide +kernel
theorem dX11_feed_23 : decode cX11_feed 23 = .ok (.iconst (-1), 1) := by decide +kernel
theorem dX11_feed_24 : decode cX11_feed 24 = .ok (.ireturn, 1) := by decide +kernel
theorem dX11_feed_25 : decode cX11_feed 25 = .ok (.aload 6, 2) := by decide +kernel
theorem dX11_feed_27 : decode cX11_feed 27 = .ok (.iload_n 1, 1) := by decide +kernel
theorem dX11_feed_28 : decode cX11_feed 28 = .ok (.invokevirtual 83, 3) := by decide +kernel
theorem dX11_feed_31 : decode cX11_feed 31 = .ok (.aload 6, 2) := by decide +kernel
theorem dX11_feed_33 : decode cX11_feed 33 = .ok (.iload_n 2, 1) := by decide +kernel
theorem dX11_feed_34 : decode cX11_feed 34 = .ok (.invokevirtual 83, 3) := by decide +kernel
theorem dX11_feed_37 : decode cX11_feed 37 = .ok (.aload 6, 2) := by decide +kernel
theorem dX11_feed_39 : decode cX11_feed 39 = .ok (.iload_n 3, 1) := by decide +kernel
theorem dX11_feed_40 : decode cX11_feed 40 = .ok (.invokevirtual 83, 3) := by decide +kernel
theorem dX11_feed_43 : decode cX11_feed 43 = .ok (.aload 6, 2) := by decide +kernel
theorem dX11_feed_45 : decode cX11_feed 45 = .ok (.iload 4, 2) := by decide +kernel
theorem dX11_feed_47 : decode cX11_feed 47 = .ok (.invokevirtual 83, 3) := by decide +kernel
theorem dX11_feed_50 : decode cX11_feed 50 = .ok (.aload 6, 2) := by decide +kernel
theorem dX11_feed_52 : decode cX11_feed 52 = .ok (.iload 5, 2) := by decide +kernel
theorem dX11_feed_54 : decode cX11_feed 54 = .ok (.invokevirtual 83, 3) := by decide +kernel
theorem dX11_feed_57 : decode cX11_feed 57 = .ok (.aload 6, 2) := by decide +kernel
theorem dX11_feed_59 : decode cX11_feed 59 = .ok (.invokevirtual 77, 3) := by decide +kernel
theorem dX11_feed_62 : decode cX11_feed 62 = .ok (.ireturn, 1) := by decide +kernel
set_option maxRecDepth 20000 in
theorem ggX11_end_X10_shorten : GoodIn wsX11_end wsX10_shorten := goodIn_r _ [7, 8, 24, 25] (by decide +kernel) (by decide +kernel)
set_option maxRecDepth 20000 in
theorem gX11_end_X10_shorten : GoodIn wsX11_end (wsV RX11 86 RX10 yX10_shorten wsX10_shorten) := goodIn_app (goodIn_of _ (by decide +kernel)) ggX11_end_X10_shorten
theorem dX11_end_0 : decode cX11_end 0 = .ok (.aload_n 0, 1) := by decide +kernel
theorem dX11_end_1 : decode cX11_end 1 = .ok (.getfield 12, 3) := by decide +kernel
theorem dX11_end_4 : decode cX11_end 4 = .ok (.getfield 73, 3) := by decide +kernel
theorem dX11_end_7 : decode cX11_end 7 = .ok (.iload_n 1, 1) := by decide +kernel
theorem dX11_end_8 : decode cX11_end 8 = .ok (.invokevirtual 86, 3) := by decide +kernel
theorem dX11_end_11 : decode cX11_end 11 = .ok (.ifCond .eq 7, 3) := by decide +kernel
theorem dX11_end_14 : decode cX11_end 14 = .ok (.iload_n 1, 1) := by decide +kernel
theorem dX11_end_15 : decode cX11_end 15 = .ok (.goto 4, 3) := by decide +kernel
theorem dX11_end_18 : decode cX11_end 18 = .ok (.iconst (-1), 1) := by decide +kernel
theorem dX11_end_19 : decode cX11_end 19 = .ok (.ireturn, 1) := by decide +kernel
set_option maxRecDepth 20000 in
theorem ggX11_words_X6_readWords : GoodIn wsX11_words wsX6_readWords := goodIn_r _ [10, 11, 12, 13, 14, 15, 16, 17, 18, 19, 20, 21, 22, 23, 24, 25, 26, 27, 28, 29, 30, 31, 32, 33, 34, 35, 36, 37, 38, 39, 9, 40, 41, 42, 43, 44, 45, 46, 47, 48, 49, 50, 51, 52, 53, 54, 55, 56, 57, 58, 59, 60, 61, 62, 63, 64, 65, 66, 67, 68, 69, 70, 71, 72, 73, 74, 75, 76, 77, 78, 79, 80, 81, 82, 83, 84, 85, 86, 87, 88, 89, 90, 91, 182, 183, 184, 185, 186, 187] (by decide +kernel) (by decide +kernel)
set_option maxRecDepth 20000 in
theorem gX11_words_X6_readWords : GoodIn wsX11_words (va_wsS RX11 94 yX6_readWords wsX6_readWords) := goodIn_app (goodIn_of _ (by decide +kernel)) ggX11_words_X6_readWords
set_option maxRecDepth 20000 in
theorem ggX11_words_X10_shorten : GoodIn wsX11_words wsX10_shorten := goodIn_r _ [95, 33, 186, 187] (by decide +kernel) (by decide +kernel)
set_option maxRecDepth 20000 in
theorem gX11_words_X10_shorten : GoodIn wsX11_words (wsV RX11 86 RX10 yX10_shorten wsX10_shorten) := goodIn_app (goodIn_of _ (by decide +kernel)) ggX11_words_X10_shorten
set_option maxRecDepth 20000 in
theorem ggX11_words_X2_isThere : GoodIn wsX11_words wsX2_isThere := goodIn_r _ [37, 26, 184, 185] (by decide +kernel) (by decide +kernel)
set_option maxRecDepth 20000 in
theorem gX11_words_X2_isThere : GoodIn wsX11_words (wsV RX11 99 RX2 yX2_isThere wsX2_isThere) := goodIn_app (goodIn_of _ (by decide +kernel)) ggX11_words_X2_isThere
set_option maxRecDepth 20000 in
theorem ggX11_words_X4_clear : GoodIn wsX11_words wsX4_clear := goodIn_r _ [101, 102, 188, 189] (by decide +kernel) (by decide +kernel)
set_option maxRecDepth 20000 in
theorem gX11_words_X4_clear : GoodIn wsX11_words (wsV RX11 105 RX4 yX4_clear wsX4_clear) := goodIn_app (goodIn_of _ (by decide +kernel)) ggX11_words_X4_clear
set_option maxRecDepth 20000 in
theorem ggX11_words_X11_setDictionary : GoodIn wsX11_words wsX11_setDictionary := goodIn_r _ [106, 1, 6, 107, 108, 109, 18, 110, 20, 79, 111, 112, 13, 113, 80, 81, 82, 83, 114, 115, 116, 117, 118, 119, 120, 121, 122, 123, 124, 125, 47, 126, 127, 128, 129, 130, 131, 132, 133, 134, 135, 16, 17, 19, 136, 56, 57, 58, 137, 138, 139, 140, 141, 142, 143, 144, 145, 146, 64, 147, 148, 149, 150, 151, 152, 153, 154, 155, 156, 63, 65, 66, 67, 68, 69, 70, 71, 72, 73, 74, 157, 158, 159, 160, 161, 12, 14, 162, 163, 164, 165, 76, 77, 78, 84, 85, 86, 87, 88, 89, 90, 91, 167, 168, 169, 170, 171, 172, 173, 174, 175, 176, 177, 178, 179, 180, 181, 182, 183, 190] (by decide +kernel) (by decide +kernel)
set_option maxRecDepth 20000 in
theorem gX11_words_X11_setDictionary : GoodIn wsX11_words (wsV RX11 108 RX11 yX11_setDictionary wsX11_setDictionary) := goodIn_app (goodIn_of _ (by decide +kernel)) ggX11_words_X11_setDictionary
set_option maxRecDepth 20000 in
theorem ggX11_words_X7_size : GoodIn wsX11_words wsX7_size := goodIn_r _ [58, 20, 182, 183] (by decide +kernel) (by decide +kernel)
set_option maxRecDepth 20000 in
theorem gX11_words_X7_size : GoodIn wsX11_words (wsV RX11 115 RX7 yX7_size wsX7_size) := goodIn_app (goodIn_of _ (by decide +kernel)) ggX11_words_X7_size
theorem dX11_words_0 : decode cX11_words 0 = .ok (.aload_n 0, 1) := by decide +kernel
theorem dX11_words_1 : decode cX11_words 1 = .ok (.getfield 12, 3) := by decide +kernel
theorem dX11_words_4 : decode cX11_words 4 = .ok (.getfield 73, 3) := by decide +kernel
theorem dX11_words_7 : decode cX11_words 7 = .ok (.aload_n 0, 1) := by decide +kernel
theorem dX11_words_8 : decode cX11_words 8 = .ok (.getfield 57, 3) := by decide +kernel
theorem dX11_words_11 : decode cX11_words 11 = .ok (.aload_n 0, 1) := by decide +kernel
theorem dX11_words_12 : decode cX11_words 12 = .ok (.getfield 12, 3) := by decide +kernel
theorem dX11_words_15 : decode cX11_words 15 = .ok (.getfield 90, 3) := by decide +kernel
theorem dX11_words_18 : decode cX11_words 18 = .ok (.invokestatic 94, 3) := by decide +kernel
theorem dX11_words_21 : decode cX11_words 21 = .ok (.aload_n 0, 1) := by decide +kernel
theorem dX11_words_22 : decode cX11_words 22 = .ok (.getfield 12, 3) := by decide +kernel
theorem dX11_words_25 : decode cX11_words 25 = .ok (.getfield 73, 3) := by decide +kernel
theorem dX11_words_28 : decode cX11_words 28 = .ok (.iconst 0, 1) := by decide +kernel
theorem dX11_words_29 : decode cX11_words 29 = .ok (.invokevirtual 86, 3) := by decide +kernel
theorem dX11_words_32 : decode cX11_words 32 = .ok (.pop, 1) := by decide +kernel
theorem dX11_words_33 : decode cX11_words 33 = .ok (.aload_n 0, 1) := by decide +kernel
theorem dX11_words_34 : decode cX11_words 34 = .ok (.getfield 12, 3) := by decide +kernel
theorem dX11_words_37 : decode cX11_words 37 = .ok (.getfield 90, 3) := by decide +kernel
theorem dX11_words_40 : decode cX11_words 40 = .ok (.invokevirtual 99, 3) := by decide +kernel
theorem dX11_words_43 : decode cX11_words 43 = .ok (.ifCond .eq 5, 3) := by decide +kernel
theorem dX11_words_46 : decode cX11_words 46 = .ok (.iconst (-1), 1) := by decide +kernel
theorem dX11_words_47 : decode cX11_words 47 = .ok (.ireturn, 1) := by decide +kernel
theorem dX11_words_48 : decode cX11_words 48 = .ok (.aload_n 0, 1) := by decide +kernel
theorem dX11_words_49 : decode cX11_words 49 = .ok (.getfield 23, 3) := by decide +kernel
theorem dX11_words_52 : decode cX11_words 52 = .ok (.invokevirtual 105, 3) := by decide +kernel
theorem dX11_words_55 : decode cX11_words 55 = .ok (.aload_n 0, 1) := by decide +kernel
theorem dX11_words_56 : decode cX11_words 56 = .ok (.aload_n 0, 1) := by decide +kernel
theorem dX11_words_57 : decode cX11_words 57 = .ok (.getfield 57, 3) := by decide +kernel
theorem dX11_words_60 : decode cX11_words 60 = .ok (.invokevirtual 108, 3) := by decide +kernel
theorem dX11_words_63 : decode cX11_words 63 = .ok (.aload_n 0, 1) := by decide +kernel
theorem dX11_words_64 : decode cX11_words 64 = .ok (.getfield 12, 3) := by decide +kernel
theorem dX11_words_67 : decode cX11_words 67 = .ok (.getfield 112, 3) := by decide +kernel
theorem dX11_words_70 : decode cX11_words 70 = .ok (.invokevirtual 115, 3) := by decide +kernel
theorem dX11_words_73 : decode cX11_words 73 = .ok (.ireturn, 1) := by decide +kernel
set_option maxRecDepth 20000 in
theorem ggX11_pattern_X6_checkPattern : GoodIn wsX11_pattern wsX6_checkPattern := goodIn_r _ [9, 10, 11, 12, 13, 14, 15, 16, 17, 18, 19, 20, 21, 22, 23, 24, 25, 26, 27, 28, 29, 30, 31, 32, 33, 34, 35, 36, 37, 38, 140, 141, 142, 143] (by decide +kernel) (by decide +kernel)
set_option maxRecDepth 20000 in
theorem gX11_pattern_X6_checkPattern : GoodIn wsX11_pattern (va_wsS RX11 116 yX6_checkPattern wsX6_checkPattern) := goodIn_app (goodIn_of _ (by decide +kernel)) ggX11_pattern_X6_checkPattern
set_option maxRecDepth 20000 in
theorem ggX11_pattern_X2_isThere : GoodIn wsX11_pattern wsX2_isThere := goodIn_r _ [26, 21, 142, 143] (by decide +kernel) (by decide +kernel)
set_option maxRecDepth 20000 in
theorem gX11_pattern_X2_isThere : GoodIn wsX11_pattern (wsV RX11 99 RX2 yX2_isThere wsX2_isThere) := goodIn_app (goodIn_of _ (by decide +kernel)) ggX11_pattern_X2_isThere
set_option maxRecDepth 20000 in
theorem ggX11_pattern_X5_take : GoodIn wsX11_pattern wsX5_take := goodIn_r _ [43, 44, 45, 46, 47, 48, 49, 50, 11, 12, 13, 14, 15, 51, 28, 29, 30, 31, 144, 145, 140, 141] (by decide +kernel) (by decide +kernel)
set_option maxRecDepth 20000 in
theorem gX11_pattern_X5_take : GoodIn wsX11_pattern (wsV RX11 120 RX5 yX5_take wsX5_take) := goodIn_app (goodIn_of _ (by decide +kernel)) ggX11_pattern_X5_take
set_option maxRecDepth 20000 in
theorem ggX11_pattern_X1_lay : GoodIn wsX11_pattern wsX1_lay := goodIn_r _ [56, 57, 58, 59, 60, 61, 55, 62, 63, 64, 65, 34, 66, 48, 67, 68, 69, 70, 49, 71, 72, 73, 74, 75, 76, 77, 78, 79, 80, 81, 82, 83, 84, 85, 86, 87, 88, 89, 90, 91, 92, 93, 94, 95, 96, 97, 98, 99, 100, 101, 102, 103, 104, 105, 106, 107, 108, 109, 110, 111, 112, 113, 114, 115, 116, 146, 147, 148, 149, 150, 151, 152, 153, 154, 144, 145] (by decide +kernel) (by decide +kernel)
set_option maxRecDepth 20000 in
theorem gX11_pattern_X1_lay : GoodIn wsX11_pattern (wsV RX11 38 RX1 yX1_lay wsX1_lay) := goodIn_app (goodIn_of _ (by decide +kernel)) ggX11_pattern_X1_lay
set_option maxRecDepth 20000 in
theorem ggX11_pattern_X10_shorten : GoodIn wsX11_pattern wsX10_shorten := goodIn_r _ [120, 15, 140, 141] (by decide +kernel) (by decide +kernel)
set_option maxRecDepth 20000 in
theorem gX11_pattern_X10_shorten : GoodIn wsX11_pattern (wsV RX11 86 RX10 yX10_shorten wsX10_shorten) := goodIn_app (goodIn_of _ (by decide +kernel)) ggX11_pattern_X10_shorten
set_option maxRecDepth 20000 in
theorem ggX11_pattern_X1_pieces : GoodIn wsX11_pattern wsX1_pieces := goodIn_r _ [124, 59, 146, 147, 148, 149, 150, 151, 152, 153, 154] (by decide +kernel) (by decide +kernel)
set_option maxRecDepth 20000 in
theorem gX11_pattern_X1_pieces : GoodIn wsX11_pattern (wsV RX11 124 RX1 yX1_pieces wsX1_pieces) := goodIn_app (goodIn_of _ (by decide +kernel)) ggX11_pattern_X1_pieces
theorem dX11_pattern_0 : decode cX11_pattern 0 = .ok (.aload_n 0, 1) := by decide +kernel
theorem dX11_pattern_1 : decode cX11_pattern 1 = .ok (.getfield 12, 3) := by decide +kernel
theorem dX11_pattern_4 : decode cX11_pattern 4 = .ok (.getfield 73, 3) := by decide +kernel
theorem dX11_pattern_7 : decode cX11_pattern 7 = .ok (.aload_n 0, 1) := by decide +kernel
theorem dX11_pattern_8 : decode cX11_pattern 8 = .ok (.getfield 12, 3) := by decide +kernel
theorem dX11_pattern_11 : decode cX11_pattern 11 = .ok (.getfield 90, 3) := by decide +kernel
theorem dX11_pattern_14 : decode cX11_pattern 14 = .ok (.invokestatic 116, 3) := by decide +kernel
theorem dX11_pattern_17 : decode cX11_pattern 17 = .ok (.aload_n 0, 1) := by decide +kernel
theorem dX11_pattern_18 : decode cX11_pattern 18 = .ok (.getfield 12, 3) := by decide +kernel
theorem dX11_pattern_21 : decode cX11_pattern 21 = .ok (.getfield 90, 3) := by decide +kernel
theorem dX11_pattern_24 : decode cX11_pattern 24 = .ok (.invokevirtual 99, 3) := by decide +kernel
theorem dX11_pattern_27 : decode cX11_pattern 27 = .ok (.ifCond .ne 34, 3) := by decide +kernel
theorem dX11_pattern_30 : decode cX11_pattern 30 = .ok (.aload_n 0, 1) := by decide +kernel
theorem dX11_pattern_31 : decode cX11_pattern 31 = .ok (.getfield 12, 3) := by decide +kernel
theorem dX11_pattern_34 : decode cX11_pattern 34 = .ok (.getfield 34, 3) := by decide +kernel
theorem dX11_pattern_37 : decode cX11_pattern 37 = .ok (.aload_n 0, 1) := by decide +kernel
theorem dX11_pattern_38 : decode cX11_pattern 38 = .ok (.getfield 12, 3) := by decide +kernel
theorem dX11_pattern_41 : decode cX11_pattern 41 = .ok (.getfield 73, 3) := by decide +kernel
theorem dX11_pattern_44 : decode cX11_pattern 44 = .ok (.invokevirtual 120, 3) := by decide +kernel
theorem dX11_pattern_47 : decode cX11_pattern 47 = .ok (.aload_n 0, 1) := by decide +kernel
theorem dX11_pattern_48 : decode cX11_pattern 48 = .ok (.getfield 30, 3) := by decide +kernel
theorem dX11_pattern_51 : decode cX11_pattern 51 = .ok (.aload_n 0, 1) := by decide +kernel
theorem dX11_pattern_52 : decode cX11_pattern 52 = .ok (.getfield 12, 3) := by decide +kernel
theorem dX11_pattern_55 : decode cX11_pattern 55 = .ok (.getfield 34, 3) := by decide +kernel
theorem dX11_pattern_58 : decode cX11_pattern 58 = .ok (.invokevirtual 38, 3) := by decide +kernel
theorem dX11_pattern_61 : decode cX11_pattern 61 = .ok (.aload_n 0, 1) := by decide +kernel
theorem dX11_pattern_62 : decode cX11_pattern 62 = .ok (.getfield 12, 3) := by decide +kernel
theorem dX11_pattern_65 : decode cX11_pattern 65 = .ok (.getfield 73, 3) := by decide +kernel
theorem dX11_pattern_68 : decode cX11_pattern 68 = .ok (.iconst 0, 1) := by decide +kernel
theorem dX11_pattern_69 : decode cX11_pattern 69 = .ok (.invokevirtual 86, 3) := by decide +kernel
theorem dX11_pattern_72 : decode cX11_pattern 72 = .ok (.pop, 1) := by decide +kernel
theorem dX11_pattern_73 : decode cX11_pattern 73 = .ok (.aload_n 0, 1) := by decide +kernel
theorem dX11_pattern_74 : decode cX11_pattern 74 = .ok (.getfield 12, 3) := by decide +kernel
theorem dX11_pattern_77 : decode cX11_pattern 77 = .ok (.getfield 90, 3) := by decide +kernel
theorem dX11_pattern_80 : decode cX11_pattern 80 = .ok (.invokevirtual 99, 3) := by decide +kernel
theorem dX11_pattern_83 : decode cX11_pattern 83 = .ok (.ifCond .eq 7, 3) := by decide +kernel
theorem dX11_pattern_86 : decode cX11_pattern 86 = .ok (.iconst (-1), 1) := by decide +kernel
theorem dX11_pattern_87 : decode cX11_pattern 87 = .ok (.goto 10, 3) := by decide +kernel
theorem dX11_pattern_90 : decode cX11_pattern 90 = .ok (.aload_n 0, 1) := by decide +kernel
theorem dX11_pattern_91 : decode cX11_pattern 91 = .ok (.getfield 30, 3) := by decide +kernel
theorem dX11_pattern_94 : decode cX11_pattern 94 = .ok (.invokevirtual 124, 3) := by decide +kernel
theorem dX11_pattern_97 : decode cX11_pattern 97 = .ok (.ireturn, 1) := by decide +kernel
theorem dX11_fault_0 : decode cX11_fault 0 = .ok (.iload_n 1, 1) := by decide +kernel
theorem dX11_fault_1 : decode cX11_fault 1 = .ok (.lookupswitch 49 #[(0, 27), (1, 38)], 27) := by decide +kernel
theorem dX11_fault_28 : decode cX11_fault 28 = .ok (.aload_n 0, 1) := by decide +kernel
theorem dX11_fault_29 : decode cX11_fault 29 = .ok (.getfield 12, 3) := by decide +kernel
theorem dX11_fault_32 : decode cX11_fault 32 = .ok (.getfield 90, 3) := by decide +kernel
theorem dX11_fault_35 : decode cX11_fault 35 = .ok (.getfield 127, 3) := by decide +kernel
theorem dX11_fault_38 : decode cX11_fault 38 = .ok (.ireturn, 1) := by decide +kernel
theorem dX11_fault_39 : decode cX11_fault 39 = .ok (.aload_n 0, 1) := by decide +kernel
theorem dX11_fault_40 : decode cX11_fault 40 = .ok (.getfield 12, 3) := by decide +kernel
theorem dX11_fault_43 : decode cX11_fault 43 = .ok (.getfield 90, 3) := by decide +kernel
theorem dX11_fault_46 : decode cX11_fault 46 = .ok (.getfield 131, 3) := by decide +kernel
theorem dX11_fault_49 : decode cX11_fault 49 = .ok (.ireturn, 1) := by decide +kernel
theorem dX11_fault_50 : decode cX11_fault 50 = .ok (.iconst (-1), 1) := by decide +kernel
theorem dX11_fault_51 : decode cX11_fault 51 = .ok (.ireturn, 1) := by decide +kernel
set_option maxRecDepth 20000 in
theorem ggX11_edit_X6_onlyWord : GoodIn wsX11_edit wsX6_onlyWord := goodIn_r _ [8, 9, 10, 7, 11, 12, 13, 14, 15, 16, 17, 18, 19, 20, 21, 22, 23, 24, 25, 26, 27, 28, 29, 30, 31, 32, 33, 34, 35, 36, 37, 38, 39, 40, 41, 84, 85] (by decide +kernel) (by decide +kernel)
set_option maxRecDepth 20000 in
theorem gX11_edit_X6_onlyWord : GoodIn wsX11_edit (va_wsS RX11 134 yX6_onlyWord wsX6_onlyWord) := goodIn_app (goodIn_of _ (by decide +kernel)) ggX11_edit_X6_onlyWord
set_option maxRecDepth 20000 in
theorem ggX11_edit_X10_shorten : GoodIn wsX11_edit wsX10_shorten := goodIn_r _ [45, 17, 84, 85] (by decide +kernel) (by decide +kernel)
set_option maxRecDepth 20000 in
theorem gX11_edit_X10_shorten : GoodIn wsX11_edit (wsV RX11 86 RX10 yX10_shorten wsX10_shorten) := goodIn_app (goodIn_of _ (by decide +kernel)) ggX11_edit_X10_shorten
set_option maxRecDepth 20000 in
theorem ggX11_edit_X7_drop : GoodIn wsX11_edit wsX7_drop := goodIn_r _ [50, 51, 52, 53, 54, 55, 56, 57, 58, 59, 49, 60, 61, 62, 63, 64, 86, 87] (by decide +kernel) (by decide +kernel)
set_option maxRecDepth 20000 in
theorem gX11_edit_X7_drop : GoodIn wsX11_edit (wsV RX11 144 RX7 yX7_drop wsX7_drop) := goodIn_app (goodIn_of _ (by decide +kernel)) ggX11_edit_X7_drop
set_option maxRecDepth 20000 in
theorem ggX11_edit_X7_add : GoodIn wsX11_edit wsX7_add := goodIn_r _ [68, 51, 52, 53, 54, 55, 56, 57, 58, 59, 49, 60, 61, 62, 63, 64, 86, 87] (by decide +kernel) (by decide +kernel)
set_option maxRecDepth 20000 in
theorem gX11_edit_X7_add : GoodIn wsX11_edit (wsV RX11 148 RX7 yX7_add wsX7_add) := goodIn_app (goodIn_of _ (by decide +kernel)) ggX11_edit_X7_add
theorem dX11_edit_0 : decode cX11_edit 0 = .ok (.aload_n 0, 1) := by decide +kernel
theorem dX11_edit_1 : decode cX11_edit 1 = .ok (.getfield 12, 3) := by decide +kernel
theorem dX11_edit_4 : decode cX11_edit 4 = .ok (.getfield 73, 3) := by decide +kernel
theorem dX11_edit_7 : decode cX11_edit 7 = .ok (.invokestatic 134, 3) := by decide +kernel
theorem dX11_edit_10 : decode cX11_edit 10 = .ok (.lstore_n 2, 1) := by decide +kernel
theorem dX11_edit_11 : decode cX11_edit 11 = .ok (.aload_n 0, 1) := by decide +kernel
theorem dX11_edit_12 : decode cX11_edit 12 = .ok (.getfield 12, 3) := by decide +kernel
theorem dX11_edit_15 : decode cX11_edit 15 = .ok (.getfield 73, 3) := by decide +kernel
theorem dX11_edit_18 : decode cX11_edit 18 = .ok (.iconst 0, 1) := by decide +kernel
theorem dX11_edit_19 : decode cX11_edit 19 = .ok (.invokevirtual 86, 3) := by decide +kernel
theorem dX11_edit_22 : decode cX11_edit 22 = .ok (.pop, 1) := by decide +kernel
theorem dX11_edit_23 : decode cX11_edit 23 = .ok (.lload_n 2, 1) := by decide +kernel
theorem dX11_edit_24 : decode cX11_edit 24 = .ok (.lconst 0, 1) := by decide +kernel
theorem dX11_edit_25 : decode cX11_edit 25 = .ok (.lcmp, 1) := by decide +kernel
theorem dX11_edit_26 : decode cX11_edit 26 = .ok (.ifCond .eq 15, 3) := by decide +kernel
theorem dX11_edit_29 : decode cX11_edit 29 = .ok (.aload_n 0, 1) := by decide +kernel
theorem dX11_edit_30 : decode cX11_edit 30 = .ok (.getfield 12, 3) := by decide +kernel
theorem dX11_edit_33 : decode cX11_edit 33 = .ok (.getfield 138, 3) := by decide +kernel
theorem dX11_edit_36 : decode cX11_edit 36 = .ok (.bipush 12, 2) := by decide +kernel
theorem dX11_edit_38 : decode cX11_edit 38 = .ok (.if_icmp .lt 5, 3) := by decide +kernel
theorem dX11_edit_41 : decode cX11_edit 41 = .ok (.iconst (-1), 1) := by decide +kernel
theorem dX11_edit_42 : decode cX11_edit 42 = .ok (.ireturn, 1) := by decide +kernel
theorem dX11_edit_43 : decode cX11_edit 43 = .ok (.iload_n 1, 1) := by decide +kernel
theorem dX11_edit_44 : decode cX11_edit 44 = .ok (.ifCond .eq 17, 3) := by decide +kernel
theorem dX11_edit_47 : decode cX11_edit 47 = .ok (.aload_n 0, 1) := by decide +kernel
theorem dX11_edit_48 : decode cX11_edit 48 = .ok (.getfield 12, 3) := by decide +kernel
theorem dX11_edit_51 : decode cX11_edit 51 = .ok (.getfield 141, 3) := by decide +kernel
theorem dX11_edit_54 : decode cX11_edit 54 = .ok (.lload_n 2, 1) := by decide +kernel
theorem dX11_edit_55 : decode cX11_edit 55 = .ok (.invokevirtual 144, 3) := by decide +kernel
theorem dX11_edit_58 : decode cX11_edit 58 = .ok (.goto 14, 3) := by decide +kernel
theorem dX11_edit_61 : decode cX11_edit 61 = .ok (.aload_n 0, 1) := by decide +kernel
theorem dX11_edit_62 : decode cX11_edit 62 = .ok (.getfield 12, 3) := by decide +kernel
theorem dX11_edit_65 : decode cX11_edit 65 = .ok (.getfield 141, 3) := by decide +kernel
theorem dX11_edit_68 : decode cX11_edit 68 = .ok (.lload_n 2, 1) := by decide +kernel
theorem dX11_edit_69 : decode cX11_edit 69 = .ok (.invokevirtual 148, 3) := by decide +kernel
theorem dX11_edit_72 : decode cX11_edit 72 = .ok (.istore 4, 2) := by decide +kernel
theorem dX11_edit_74 : decode cX11_edit 74 = .ok (.iload 4, 2) := by decide +kernel
theorem dX11_edit_76 : decode cX11_edit 76 = .ok (.ifCond .ne 5, 3) := by decide +kernel
theorem dX11_edit_79 : decode cX11_edit 79 = .ok (.iconst (-1), 1) := by decide +kernel
theorem dX11_edit_80 : decode cX11_edit 80 = .ok (.ireturn, 1) := by decide +kernel
theorem dX11_edit_81 : decode cX11_edit 81 = .ok (.aload_n 0, 1) := by decide +kernel
theorem dX11_edit_82 : decode cX11_edit 82 = .ok (.getfield 12, 3) := by decide +kernel
theorem dX11_edit_85 : decode cX11_edit 85 = .ok (.dup, 1) := by decide +kernel
theorem dX11_edit_86 : decode cX11_edit 86 = .ok (.getfield 138, 3) := by decide +kernel
theorem dX11_edit_89 : decode cX11_edit 89 = .ok (.iconst 1, 1) := by decide +kernel
theorem dX11_edit_90 : decode cX11_edit 90 = .ok (.iadd, 1) := by decide +kernel
theorem dX11_edit_91 : decode cX11_edit 91 = .ok (.putfield 138, 3) := by decide +kernel
theorem dX11_edit_94 : decode cX11_edit 94 = .ok (.aload_n 0, 1) := by decide +kernel
theorem dX11_edit_95 : decode cX11_edit 95 = .ok (.getfield 12, 3) := by decide +kernel
theorem dX11_edit_98 : decode cX11_edit 98 = .ok (.getfield 138, 3) := by decide +kernel
theorem dX11_edit_101 : decode cX11_edit 101 = .ok (.ireturn, 1) := by decide +kernel
set_option maxRecDepth 20000 in
theorem ggX11_cancel_X9_emptyBatch : GoodIn wsX11_cancel wsX9_emptyBatch := goodIn_r _ [7, 8, 9, 10, 11, 12, 13, 14, 15, 16, 17, 18, 19, 20, 21, 22, 23, 24, 25, 35, 36, 37, 38, 39, 40, 41, 42] (by decide +kernel) (by decide +kernel)
set_option maxRecDepth 20000 in
theorem gX11_cancel_X9_emptyBatch : GoodIn wsX11_cancel (wsV RX11 151 RX9 yX9_emptyBatch wsX9_emptyBatch) := goodIn_app (goodIn_of _ (by decide +kernel)) ggX11_cancel_X9_emptyBatch
theorem dX11_cancel_0 : decode cX11_cancel 0 = .ok (.aload_n 0, 1) := by decide +kernel
theorem dX11_cancel_1 : decode cX11_cancel 1 = .ok (.getfield 12, 3) := by decide +kernel
theorem dX11_cancel_4 : decode cX11_cancel 4 = .ok (.getfield 138, 3) := by decide +kernel
theorem dX11_cancel_7 : decode cX11_cancel 7 = .ok (.istore_n 1, 1) := by decide +kernel
theorem dX11_cancel_8 : decode cX11_cancel 8 = .ok (.aload_n 0, 1) := by decide +kernel
theorem dX11_cancel_9 : decode cX11_cancel 9 = .ok (.getfield 12, 3) := by decide +kernel
theorem dX11_cancel_12 : decode cX11_cancel 12 = .ok (.invokevirtual 151, 3) := by decide +kernel
theorem dX11_cancel_15 : decode cX11_cancel 15 = .ok (.iload_n 1, 1) := by decide +kernel
theorem dX11_cancel_16 : decode cX11_cancel 16 = .ok (.ireturn, 1) := by decide +kernel
set_option maxRecDepth 20000 in
theorem ggX11_merge_X4_keep : GoodIn wsX11_merge wsX4_keep := goodIn_r _ [11, 12, 13, 14, 15, 16, 10, 17, 18, 19, 20, 21, 22, 23, 24, 25, 26, 27, 28, 29, 30, 31, 32, 147, 148, 149, 150] (by decide +kernel) (by decide +kernel)
set_option maxRecDepth 20000 in
theorem gX11_merge_X4_keep : GoodIn wsX11_merge (wsV RX11 154 RX4 yX4_keep wsX4_keep) := goodIn_app (goodIn_of _ (by decide +kernel)) ggX11_merge_X4_keep
set_option maxRecDepth 20000 in
theorem ggX11_merge_X11_setDictionary : GoodIn wsX11_merge wsX11_setDictionary := goodIn_r _ [37, 1, 4, 38, 19, 20, 21, 22, 23, 24, 25, 26, 27, 28, 29, 30, 31, 32, 39, 40, 41, 42, 43, 44, 45, 46, 47, 48, 49, 50, 36, 51, 5, 52, 53, 54, 55, 56, 57, 58, 59, 60, 61, 62, 63, 64, 65, 66, 67, 68, 69, 70, 71, 72, 73, 74, 75, 76, 77, 78, 79, 80, 81, 82, 83, 84, 85, 86, 87, 88, 89, 90, 91, 92, 93, 94, 95, 96, 97, 98, 99, 100, 101, 102, 103, 104, 105, 106, 107, 108, 109, 110, 111, 112, 113, 114, 115, 116, 117, 118, 119, 120, 132, 133, 134, 135, 136, 137, 138, 139, 140, 141, 142, 143, 144, 145, 146, 149, 150, 151] (by decide +kernel) (by decide +kernel)
set_option maxRecDepth 20000 in
theorem gX11_merge_X11_setDictionary : GoodIn wsX11_merge (wsV RX11 108 RX11 yX11_setDictionary wsX11_setDictionary) := goodIn_app (goodIn_of _ (by decide +kernel)) ggX11_merge_X11_setDictionary
set_option maxRecDepth 20000 in
theorem ggX11_merge_X3_moved : GoodIn wsX11_merge wsX3_moved := goodIn_r _ [123, 124, 125, 126, 56, 127, 58, 63, 64, 65, 21, 66, 23, 128, 129, 130, 131, 67, 68, 69, 70, 24, 71, 72, 73, 74, 151, 149, 150] (by decide +kernel) (by decide +kernel)
set_option maxRecDepth 20000 in
theorem gX11_merge_X3_moved : GoodIn wsX11_merge (va_wsS RX11 157 yX3_moved wsX3_moved) := goodIn_app (goodIn_of _ (by decide +kernel)) ggX11_merge_X3_moved
theorem dX11_merge_0 : decode cX11_merge 0 = .ok (.aload_n 0, 1) := by decide +kernel
theorem dX11_merge_1 : decode cX11_merge 1 = .ok (.getfield 12, 3) := by decide +kernel
theorem dX11_merge_4 : decode cX11_merge 4 = .ok (.getfield 138, 3) := by decide +kernel
theorem dX11_merge_7 : decode cX11_merge 7 = .ok (.ifCond .ne 5, 3) := by decide +kernel
theorem dX11_merge_10 : decode cX11_merge 10 = .ok (.iconst 0, 1) := by decide +kernel
theorem dX11_merge_11 : decode cX11_merge 11 = .ok (.ireturn, 1) := by decide +kernel
theorem dX11_merge_12 : decode cX11_merge 12 = .ok (.aload_n 0, 1) := by decide +kernel
theorem dX11_merge_13 : decode cX11_merge 13 = .ok (.getfield 23, 3) := by decide +kernel
theorem dX11_merge_16 : decode cX11_merge 16 = .ok (.aload_n 0, 1) := by decide +kernel
theorem dX11_merge_17 : decode cX11_merge 17 = .ok (.getfield 12, 3) := by decide +kernel
theorem dX11_merge_20 : decode cX11_merge 20 = .ok (.getfield 112, 3) := by decide +kernel
theorem dX11_merge_23 : decode cX11_merge 23 = .ok (.invokevirtual 154, 3) := by decide +kernel
theorem dX11_merge_26 : decode cX11_merge 26 = .ok (.aload_n 0, 1) := by decide +kernel
theorem dX11_merge_27 : decode cX11_merge 27 = .ok (.getfield 45, 3) := by decide +kernel
theorem dX11_merge_30 : decode cX11_merge 30 = .ok (.astore_n 1, 1) := by decide +kernel
theorem dX11_merge_31 : decode cX11_merge 31 = .ok (.aload_n 0, 1) := by decide +kernel
theorem dX11_merge_32 : decode cX11_merge 32 = .ok (.aload_n 0, 1) := by decide +kernel
theorem dX11_merge_33 : decode cX11_merge 33 = .ok (.getfield 12, 3) := by decide +kernel
theorem dX11_merge_36 : decode cX11_merge 36 = .ok (.getfield 141, 3) := by decide +kernel
theorem dX11_merge_39 : decode cX11_merge 39 = .ok (.invokevirtual 108, 3) := by decide +kernel
theorem dX11_merge_42 : decode cX11_merge 42 = .ok (.aload_n 1, 1) := by decide +kernel
theorem dX11_merge_43 : decode cX11_merge 43 = .ok (.aload_n 0, 1) := by decide +kernel
theorem dX11_merge_44 : decode cX11_merge 44 = .ok (.getfield 45, 3) := by decide +kernel
theorem dX11_merge_47 : decode cX11_merge 47 = .ok (.invokestatic 157, 3) := by decide +kernel
theorem dX11_merge_50 : decode cX11_merge 50 = .ok (.ireturn, 1) := by decide +kernel
set_option maxRecDepth 20000 in
theorem ggX11_undo_X4_size : GoodIn wsX11_undo wsX4_size := goodIn_r _ [6, 7, 128, 129] (by decide +kernel) (by decide +kernel)
set_option maxRecDepth 20000 in
theorem gX11_undo_X4_size : GoodIn wsX11_undo (wsV RX11 161 RX4 yX4_size wsX4_size) := goodIn_app (goodIn_of _ (by decide +kernel)) ggX11_undo_X4_size
set_option maxRecDepth 20000 in
theorem ggX11_undo_X4_takeLatest : GoodIn wsX11_undo wsX4_takeLatest := goodIn_r _ [11, 7, 12, 13, 14, 15, 16, 128, 129] (by decide +kernel) (by decide +kernel)
set_option maxRecDepth 20000 in
theorem gX11_undo_X4_takeLatest : GoodIn wsX11_undo (wsV RX11 162 RX4 yX4_takeLatest wsX4_takeLatest) := goodIn_app (goodIn_of _ (by decide +kernel)) ggX11_undo_X4_takeLatest
set_option maxRecDepth 20000 in
theorem ggX11_undo_X11_setDictionary : GoodIn wsX11_undo wsX11_setDictionary := goodIn_r _ [21, 22, 23, 24, 25, 26, 27, 28, 29, 30, 31, 32, 14, 33, 34, 35, 36, 37, 38, 39, 40, 41, 42, 43, 44, 45, 46, 47, 48, 49, 20, 50, 51, 52, 53, 54, 55, 56, 57, 58, 59, 60, 61, 62, 63, 64, 65, 66, 67, 68, 69, 70, 71, 72, 73, 74, 75, 76, 77, 78, 79, 80, 81, 82, 83, 84, 85, 86, 87, 88, 89, 90, 91, 92, 93, 94, 95, 96, 97, 98, 99, 100, 101, 102, 103, 13, 15, 104, 105, 106, 107, 108, 109, 110, 111, 112, 113, 114, 115, 116, 117, 118, 119, 120, 121, 122, 123, 124, 125, 126, 127, 130, 131, 132, 133, 134, 135, 136, 137, 138] (by decide +kernel) (by decide +kernel)
set_option maxRecDepth 20000 in
theorem gX11_undo_X11_setDictionary : GoodIn wsX11_undo (wsV RX11 108 RX11 yX11_setDictionary wsX11_setDictionary) := goodIn_app (goodIn_of _ (by decide +kernel)) ggX11_undo_X11_setDictionary
theorem dX11_undo_0 : decode cX11_undo 0 = .ok (.aload_n 0, 1) := by decide +kernel
theorem dX11_undo_1 : decode cX11_undo 1 = .ok (.getfield 23, 3) := by decide +kernel
theorem dX11_undo_4 : decode cX11_undo 4 = .ok (.invokevirtual 161, 3) := by decide +kernel
theorem dX11_undo_7 : decode cX11_undo 7 = .ok (.ifCond .ne 5, 3) := by decide +kernel
theorem dX11_undo_10 : decode cX11_undo 10 = .ok (.iconst (-1), 1) := by decide +kernel
theorem dX11_undo_11 : decode cX11_undo 11 = .ok (.ireturn, 1) := by decide +kernel
theorem dX11_undo_12 : decode cX11_undo 12 = .ok (.aload_n 0, 1) := by decide +kernel
theorem dX11_undo_13 : decode cX11_undo 13 = .ok (.aload_n 0, 1) := by decide +kernel
theorem dX11_undo_14 : decode cX11_undo 14 = .ok (.getfield 23, 3) := by decide +kernel
theorem dX11_undo_17 : decode cX11_undo 17 = .ok (.invokevirtual 162, 3) := by decide +kernel
theorem dX11_undo_20 : decode cX11_undo 20 = .ok (.invokevirtual 108, 3) := by decide +kernel
theorem dX11_undo_23 : decode cX11_undo 23 = .ok (.aload_n 0, 1) := by decide +kernel
theorem dX11_undo_24 : decode cX11_undo 24 = .ok (.getfield 23, 3) := by decide +kernel
theorem dX11_undo_27 : decode cX11_undo 27 = .ok (.invokevirtual 161, 3) := by decide +kernel
theorem dX11_undo_30 : decode cX11_undo 30 = .ok (.ireturn, 1) := by decide +kernel
set_option maxRecDepth 20000 in
theorem ggX11_count_X7_size : GoodIn wsX11_count wsX7_size := goodIn_r _ [12, 13, 210, 211] (by decide +kernel) (by decide +kernel)
set_option maxRecDepth 20000 in
theorem gX11_count_X7_size : GoodIn wsX11_count (wsV RX11 115 RX7 yX7_size wsX7_size) := goodIn_app (goodIn_of _ (by decide +kernel)) ggX11_count_X7_size
set_option maxRecDepth 20000 in
theorem ggX11_count_X3_size : GoodIn wsX11_count wsX3_size := goodIn_r _ [18, 19, 20, 9, 10, 11, 12, 13, 212, 210, 211] (by decide +kernel) (by decide +kernel)
set_option maxRecDepth 20000 in
theorem gX11_count_X3_size : GoodIn wsX11_count (wsV RX11 166 RX3 yX3_size wsX3_size) := goodIn_app (goodIn_of _ (by decide +kernel)) ggX11_count_X3_size
set_option maxRecDepth 20000 in
theorem ggX11_count_X11_answersOf : GoodIn wsX11_count wsX11_answersOf := goodIn_r _ [24, 8, 9, 10, 11, 12, 13, 25, 26, 27, 28, 29, 30, 31, 32, 33, 34, 35, 36, 37, 38, 39, 40, 41, 42, 43, 44, 45, 46, 47, 48, 49, 50, 51, 52, 53, 54, 55, 56, 57, 58, 59, 60, 210, 211, 213, 214] (by decide +kernel) (by decide +kernel)
set_option maxRecDepth 20000 in
theorem gX11_count_X11_answersOf : GoodIn wsX11_count (va_wsS RX11 167 yX11_answersOf wsX11_answersOf) := goodIn_app (goodIn_of _ (by decide +kernel)) ggX11_count_X11_answersOf
set_option maxRecDepth 20000 in
theorem ggX11_count_J13_bitCount_95d88 : GoodIn wsX11_count wsJ13_bitCount_95d88 := goodIn_r _ [64, 65, 66, 67] (by decide +kernel) (by decide +kernel)
set_option maxRecDepth 20000 in
theorem gX11_count_J13_bitCount_95d88 : GoodIn wsX11_count (va_wsS RX11 171 yJ13_bitCount_95d88 wsJ13_bitCount_95d88) := goodIn_app (goodIn_of _ (by decide +kernel)) ggX11_count_J13_bitCount_95d88
set_option maxRecDepth 20000 in
theorem ggX11_count_X1_pieces : GoodIn wsX11_count wsX1_pieces := goodIn_r _ [72, 73, 215, 216, 217, 218, 219, 220, 221, 222, 223] (by decide +kernel) (by decide +kernel)
set_option maxRecDepth 20000 in
theorem gX11_count_X1_pieces : GoodIn wsX11_count (wsV RX11 124 RX1 yX1_pieces wsX1_pieces) := goodIn_app (goodIn_of _ (by decide +kernel)) ggX11_count_X1_pieces
set_option maxRecDepth 20000 in
theorem ggX11_count_X1_runs : GoodIn wsX11_count wsX1_runs := goodIn_r _ [77, 78, 215, 216, 217, 218, 219, 220, 221, 222, 223] (by decide +kernel) (by decide +kernel)
set_option maxRecDepth 20000 in
theorem gX11_count_X1_runs : GoodIn wsX11_count (wsV RX11 177 RX1 yX1_runs wsX1_runs) := goodIn_app (goodIn_of _ (by decide +kernel)) ggX11_count_X1_runs
set_option maxRecDepth 20000 in
theorem ggX11_count_X11_longestRun : GoodIn wsX11_count wsX11_longestRun := goodIn_r _ [82, 7, 74, 75, 76, 71, 77, 78, 83, 84, 85, 86, 87, 88, 89, 90, 91, 195, 196, 197, 198, 199, 200, 201, 202, 203, 215, 216, 217, 218, 219, 220, 221, 222, 223] (by decide +kernel) (by decide +kernel)
set_option maxRecDepth 20000 in
theorem gX11_count_X11_longestRun : GoodIn wsX11_count (wsV RX11 180 RX11 yX11_longestRun wsX11_longestRun) := goodIn_app (goodIn_of _ (by decide +kernel)) ggX11_count_X11_longestRun
set_option maxRecDepth 20000 in
theorem ggX11_count_X11_narrowestRun : GoodIn wsX11_count wsX11_narrowestRun := goodIn_r _ [95, 7, 74, 75, 76, 71, 77, 78, 96, 97, 98, 23, 99, 3, 100, 101, 102, 103, 104, 88, 89, 90, 91, 83, 84, 85, 86, 87, 105, 106, 107, 17, 108, 109, 110, 43, 111, 112, 113, 114, 115, 116, 117, 118, 119, 120, 121, 19, 122, 123, 124, 11, 125, 13, 29, 126, 195, 196, 197, 198, 199, 200, 201, 202, 203, 215, 216, 217, 218, 219, 220, 221, 222, 223, 212, 210, 211] (by decide +kernel) (by decide +kernel)
set_option maxRecDepth 20000 in
theorem gX11_count_X11_narrowestRun : GoodIn wsX11_count (wsV RX11 183 RX11 yX11_narrowestRun wsX11_narrowestRun) := goodIn_app (goodIn_of _ (by decide +kernel)) ggX11_count_X11_narrowestRun
set_option maxRecDepth 20000 in
theorem ggX11_count_X11_sharedWords : GoodIn wsX11_count wsX11_sharedWords := goodIn_r _ [130, 7, 131, 132, 133, 23, 134, 3, 100, 101, 102, 71, 103, 104, 88, 89, 90, 91, 78, 83, 84, 85, 86, 87, 135, 136, 137, 17, 138, 139, 106, 107, 108, 109, 110, 43, 111, 112, 113, 114, 115, 116, 117, 118, 119, 120, 121, 19, 122, 123, 124, 11, 125, 13, 29, 140, 141, 142, 143, 144, 26, 27, 28, 30, 31, 32, 33, 145, 58, 59, 60, 74, 75, 76, 77, 195, 196, 197, 198, 199, 200, 201, 202, 203, 215, 216, 217, 218, 219, 220, 221, 222, 223, 212, 210, 211] (by decide +kernel) (by decide +kernel)
set_option maxRecDepth 20000 in
theorem gX11_count_X11_sharedWords : GoodIn wsX11_count (wsV RX11 186 RX11 yX11_sharedWords wsX11_sharedWords) := goodIn_app (goodIn_of _ (by decide +kernel)) ggX11_count_X11_sharedWords
set_option maxRecDepth 20000 in
theorem ggX11_count_X11_countMore : GoodIn wsX11_count wsX11_countMore := goodIn_r _ [149, 1, 2, 6, 150, 151, 3, 21, 22, 23, 24, 8, 9, 10, 11, 12, 13, 25, 26, 27, 28, 29, 30, 31, 32, 33, 34, 35, 36, 37, 38, 39, 40, 41, 42, 43, 44, 45, 46, 47, 48, 49, 50, 51, 52, 53, 54, 55, 56, 57, 58, 59, 60, 152, 153, 154, 155, 61, 62, 63, 64, 65, 66, 67, 156, 157, 158, 159, 160, 161, 162, 163, 164, 165, 166, 167, 168, 169, 170, 171, 172, 173, 174, 175, 176, 177, 178, 179, 180, 181, 182, 183, 184, 185, 186, 187, 188, 189, 190, 14, 15, 16, 17, 18, 19, 20, 191, 192, 193, 194, 195, 196, 197, 198, 199, 200, 201, 202, 203, 204, 205, 206, 207, 208, 209, 210, 211, 213, 214, 224, 225, 226, 227, 212] (by decide +kernel) (by decide +kernel)
set_option maxRecDepth 20000 in
theorem gX11_count_X11_countMore : GoodIn wsX11_count (wsV RX11 190 RX11 yX11_countMore wsX11_countMore) := goodIn_app (goodIn_of _ (by decide +kernel)) ggX11_count_X11_countMore
theorem dX11_count_0 : decode cX11_count 0 = .ok (.iload_n 1, 1) := by decide +kernel
theorem dX11_count_1 : decode cX11_count 1 = .ok (.tableswitch 173 0 10 #[59, 70, 78, 86, 97, 118, 139, 147, 155, 160, 165], 59) := by decide +kernel
theorem dX11_count_60 : decode cX11_count 60 = .ok (.aload_n 0, 1) := by decide +kernel
theorem dX11_count_61 : decode cX11_count 61 = .ok (.getfield 12, 3) := by decide +kernel
theorem dX11_count_64 : decode cX11_count 64 = .ok (.getfield 112, 3) := by decide +kernel
theorem dX11_count_67 : decode cX11_count 67 = .ok (.invokevirtual 115, 3) := by decide +kernel
theorem dX11_count_70 : decode cX11_count 70 = .ok (.ireturn, 1) := by decide +kernel
theorem dX11_count_71 : decode cX11_count 71 = .ok (.aload_n 0, 1) := by decide +kernel
theorem dX11_count_72 : decode cX11_count 72 = .ok (.getfield 45, 3) := by decide +kernel
theorem dX11_count_75 : decode cX11_count 75 = .ok (.invokevirtual 166, 3) := by decide +kernel
theorem dX11_count_78 : decode cX11_count 78 = .ok (.ireturn, 1) := by decide +kernel
theorem dX11_count_79 : decode cX11_count 79 = .ok (.aload_n 0, 1) := by decide +kernel
theorem dX11_count_80 : decode cX11_count 80 = .ok (.getfield 12, 3) := by decide +kernel
theorem dX11_count_83 : decode cX11_count 83 = .ok (.getfield 138, 3) := by decide +kernel
theorem dX11_count_86 : decode cX11_count 86 = .ok (.ireturn, 1) := by decide +kernel
theorem dX11_count_87 : decode cX11_count 87 = .ok (.aload_n 0, 1) := by decide +kernel
theorem dX11_count_88 : decode cX11_count 88 = .ok (.getfield 12, 3) := by decide +kernel
theorem dX11_count_91 : decode cX11_count 91 = .ok (.getfield 141, 3) := by decide +kernel
theorem dX11_count_94 : decode cX11_count 94 = .ok (.invokevirtual 115, 3) := by decide +kernel
theorem dX11_count_97 : decode cX11_count 97 = .ok (.ireturn, 1) := by decide +kernel
theorem dX11_count_98 : decode cX11_count 98 = .ok (.aload_n 0, 1) := by decide +kernel
theorem dX11_count_99 : decode cX11_count 99 = .ok (.getfield 12, 3) := by decide +kernel
theorem dX11_count_102 : decode cX11_count 102 = .ok (.getfield 112, 3) := by decide +kernel
theorem dX11_count_105 : decode cX11_count 105 = .ok (.aload_n 0, 1) := by decide +kernel
theorem dX11_count_106 : decode cX11_count 106 = .ok (.getfield 12, 3) := by decide +kernel
theorem dX11_count_109 : decode cX11_count 109 = .ok (.getfield 34, 3) := by decide +kernel
theorem dX11_count_112 : decode cX11_count 112 = .ok (.invokestatic 167, 3) := by decide +kernel
theorem dX11_count_115 : decode cX11_count 115 = .ok (.invokestatic 171, 3) := by decide +kernel
theorem dX11_count_118 : decode cX11_count 118 = .ok (.ireturn, 1) := by decide +kernel
theorem dX11_count_119 : decode cX11_count 119 = .ok (.aload_n 0, 1) := by decide +kernel
theorem dX11_count_120 : decode cX11_count 120 = .ok (.getfield 12, 3) := by decide +kernel
theorem dX11_count_123 : decode cX11_count 123 = .ok (.getfield 141, 3) := by decide +kernel
theorem dX11_count_126 : decode cX11_count 126 = .ok (.aload_n 0, 1) := by decide +kernel
theorem dX11_count_127 : decode cX11_count 127 = .ok (.getfield 12, 3) := by decide +kernel
theorem dX11_count_130 : decode cX11_count 130 = .ok (.getfield 34, 3) := by decide +kernel
theorem dX11_count_133 : decode cX11_count 133 = .ok (.invokestatic 167, 3) := by decide +kernel
theorem dX11_count_136 : decode cX11_count 136 = .ok (.invokestatic 171, 3) := by decide +kernel
theorem dX11_count_139 : decode cX11_count 139 = .ok (.ireturn, 1) := by decide +kernel
theorem dX11_count_140 : decode cX11_count 140 = .ok (.aload_n 0, 1) := by decide +kernel
theorem dX11_count_141 : decode cX11_count 141 = .ok (.getfield 30, 3) := by decide +kernel
theorem dX11_count_144 : decode cX11_count 144 = .ok (.invokevirtual 124, 3) := by decide +kernel
theorem dX11_count_147 : decode cX11_count 147 = .ok (.ireturn, 1) := by decide +kernel
theorem dX11_count_148 : decode cX11_count 148 = .ok (.aload_n 0, 1) := by decide +kernel
theorem dX11_count_149 : decode cX11_count 149 = .ok (.getfield 30, 3) := by decide +kernel
theorem dX11_count_152 : decode cX11_count 152 = .ok (.invokevirtual 177, 3) := by decide +kernel
theorem dX11_count_155 : decode cX11_count 155 = .ok (.ireturn, 1) := by decide +kernel
theorem dX11_count_156 : decode cX11_count 156 = .ok (.aload_n 0, 1) := by decide +kernel
theorem dX11_count_157 : decode cX11_count 157 = .ok (.invokevirtual 180, 3) := by decide +kernel
theorem dX11_count_160 : decode cX11_count 160 = .ok (.ireturn, 1) := by decide +kernel
theorem dX11_count_161 : decode cX11_count 161 = .ok (.aload_n 0, 1) := by decide +kernel
theorem dX11_count_162 : decode cX11_count 162 = .ok (.invokevirtual 183, 3) := by decide +kernel
theorem dX11_count_165 : decode cX11_count 165 = .ok (.ireturn, 1) := by decide +kernel
theorem dX11_count_166 : decode cX11_count 166 = .ok (.aload_n 0, 1) := by decide +kernel
theorem dX11_count_167 : decode cX11_count 167 = .ok (.invokevirtual 186, 3) := by decide +kernel
theorem dX11_count_170 : decode cX11_count 170 = .ok (.invokestatic 171, 3) := by decide +kernel
theorem dX11_count_173 : decode cX11_count 173 = .ok (.ireturn, 1) := by decide +kernel
theorem dX11_count_174 : decode cX11_count 174 = .ok (.aload_n 0, 1) := by decide +kernel
theorem dX11_count_175 : decode cX11_count 175 = .ok (.iload_n 1, 1) := by decide +kernel
theorem dX11_count_176 : decode cX11_count 176 = .ok (.invokevirtual 190, 3) := by decide +kernel
theorem dX11_count_179 : decode cX11_count 179 = .ok (.ireturn, 1) := by decide +kernel
set_option maxRecDepth 20000 in
theorem ggX11_word_X11_listOf : GoodIn wsX11_word wsX11_listOf := goodIn_r _ [7, 1, 8, 9, 49, 50, 51, 52, 53, 54, 55, 56, 57, 58, 59, 60, 61, 62, 63] (by decide +kernel) (by decide +kernel)
set_option maxRecDepth 20000 in
theorem gX11_word_X11_listOf : GoodIn wsX11_word (wsV RX11 194 RX11 yX11_listOf wsX11_listOf) := goodIn_app (goodIn_of _ (by decide +kernel)) ggX11_word_X11_listOf
set_option maxRecDepth 20000 in
theorem ggX11_word_X7_hasNumber : GoodIn wsX11_word wsX7_hasNumber := goodIn_r _ [14, 15, 64, 65] (by decide +kernel) (by decide +kernel)
set_option maxRecDepth 20000 in
theorem gX11_word_X7_hasNumber : GoodIn wsX11_word (wsV RX11 198 RX7 yX7_hasNumber wsX7_hasNumber) := goodIn_app (goodIn_of _ (by decide +kernel)) ggX11_word_X7_hasNumber
set_option maxRecDepth 20000 in
theorem ggX11_word_X7_at : GoodIn wsX11_word wsX7_at := goodIn_r _ [19, 20, 21, 11, 12, 13, 14, 15, 64, 65] (by decide +kernel) (by decide +kernel)
set_option maxRecDepth 20000 in
theorem gX11_word_X7_at : GoodIn wsX11_word (wsV RX11 201 RX7 yX7_at wsX7_at) := goodIn_app (goodIn_of _ (by decide +kernel)) ggX11_word_X7_at
set_option maxRecDepth 20000 in
theorem ggX11_word_X8_length : GoodIn wsX11_word wsX8_length := goodIn_r _ [25, 26, 27, 24, 28] (by decide +kernel) (by decide +kernel)
set_option maxRecDepth 20000 in
theorem gX11_word_X8_length : GoodIn wsX11_word (va_wsS RX11 205 yX8_length wsX8_length) := goodIn_app (goodIn_of _ (by decide +kernel)) ggX11_word_X8_length
set_option maxRecDepth 20000 in
theorem ggX11_word_X5_isMetBy : GoodIn wsX11_word wsX5_isMetBy := goodIn_r _ [33, 34, 35, 36, 23, 24, 25, 26, 27, 28, 37, 38, 32, 39, 40, 41, 42, 43, 44, 45, 66, 67] (by decide +kernel) (by decide +kernel)
set_option maxRecDepth 20000 in
theorem gX11_word_X5_isMetBy : GoodIn wsX11_word (wsV RX11 208 RX5 yX5_isMetBy wsX5_isMetBy) := goodIn_app (goodIn_of _ (by decide +kernel)) ggX11_word_X5_isMetBy
set_option maxRecDepth 20000 in
theorem ggX11_word_X8_signAt : GoodIn wsX11_word wsX8_signAt := goodIn_r _ [48, 26, 27, 24, 28] (by decide +kernel) (by decide +kernel)
set_option maxRecDepth 20000 in
theorem gX11_word_X8_signAt : GoodIn wsX11_word (va_wsS RX11 211 yX8_signAt wsX8_signAt) := goodIn_app (goodIn_of _ (by decide +kernel)) ggX11_word_X8_signAt
theorem dX11_word_0 : decode cX11_word 0 = .ok (.aload_n 0, 1) := by decide +kernel
theorem dX11_word_1 : decode cX11_word 1 = .ok (.iload_n 2, 1) := by decide +kernel
theorem dX11_word_2 : decode cX11_word 2 = .ok (.invokevirtual 194, 3) := by decide +kernel
theorem dX11_word_5 : decode cX11_word 5 = .ok (.astore 4, 2) := by decide +kernel
theorem dX11_word_7 : decode cX11_word 7 = .ok (.aload 4, 2) := by decide +kernel
theorem dX11_word_9 : decode cX11_word 9 = .ok (.iload_n 1, 1) := by decide +kernel
theorem dX11_word_10 : decode cX11_word 10 = .ok (.invokevirtual 198, 3) := by decide +kernel
theorem dX11_word_13 : decode cX11_word 13 = .ok (.ifCond .ne 5, 3) := by decide +kernel
theorem dX11_word_16 : decode cX11_word 16 = .ok (.iconst (-1), 1) := by decide +kernel
theorem dX11_word_17 : decode cX11_word 17 = .ok (.ireturn, 1) := by decide +kernel
theorem dX11_word_18 : decode cX11_word 18 = .ok (.aload 4, 2) := by decide +kernel
theorem dX11_word_20 : decode cX11_word 20 = .ok (.iload_n 1, 1) := by decide +kernel
theorem dX11_word_21 : decode cX11_word 21 = .ok (.invokevirtual 201, 3) := by decide +kernel
theorem dX11_word_24 : decode cX11_word 24 = .ok (.lstore 5, 2) := by decide +kernel
theorem dX11_word_26 : decode cX11_word 26 = .ok (.iload_n 3, 1) := by decide +kernel
theorem dX11_word_27 : decode cX11_word 27 = .ok (.ifCond .ne 9, 3) := by decide +kernel
theorem dX11_word_30 : decode cX11_word 30 = .ok (.lload 5, 2) := by decide +kernel
theorem dX11_word_32 : decode cX11_word 32 = .ok (.invokestatic 205, 3) := by decide +kernel
theorem dX11_word_35 : decode cX11_word 35 = .ok (.ireturn, 1) := by decide +kernel
theorem dX11_word_36 : decode cX11_word 36 = .ok (.iload_n 3, 1) := by decide +kernel
theorem dX11_word_37 : decode cX11_word 37 = .ok (.bipush 10, 2) := by decide +kernel
theorem dX11_word_39 : decode cX11_word 39 = .ok (.if_icmp .ne 24, 3) := by decide +kernel
theorem dX11_word_42 : decode cX11_word 42 = .ok (.aload_n 0, 1) := by decide +kernel
theorem dX11_word_43 : decode cX11_word 43 = .ok (.getfield 12, 3) := by decide +kernel
theorem dX11_word_46 : decode cX11_word 46 = .ok (.getfield 34, 3) := by decide +kernel
theorem dX11_word_49 : decode cX11_word 49 = .ok (.lload 5, 2) := by decide +kernel
theorem dX11_word_51 : decode cX11_word 51 = .ok (.invokevirtual 208, 3) := by decide +kernel
theorem dX11_word_54 : decode cX11_word 54 = .ok (.ifCond .eq 7, 3) := by decide +kernel
theorem dX11_word_57 : decode cX11_word 57 = .ok (.iconst 1, 1) := by decide +kernel
theorem dX11_word_58 : decode cX11_word 58 = .ok (.goto 4, 3) := by decide +kernel
theorem dX11_word_61 : decode cX11_word 61 = .ok (.iconst 0, 1) := by decide +kernel
theorem dX11_word_62 : decode cX11_word 62 = .ok (.ireturn, 1) := by decide +kernel
theorem dX11_word_63 : decode cX11_word 63 = .ok (.iload_n 3, 1) := by decide +kernel
theorem dX11_word_64 : decode cX11_word 64 = .ok (.ifCond .ge 7, 3) := by decide +kernel
theorem dX11_word_67 : decode cX11_word 67 = .ok (.iconst (-1), 1) := by decide +kernel
theorem dX11_word_68 : decode cX11_word 68 = .ok (.goto 11, 3) := by decide +kernel
theorem dX11_word_71 : decode cX11_word 71 = .ok (.lload 5, 2) := by decide +kernel
theorem dX11_word_73 : decode cX11_word 73 = .ok (.iload_n 3, 1) := by decide +kernel
theorem dX11_word_74 : decode cX11_word 74 = .ok (.iconst 1, 1) := by decide +kernel
theorem dX11_word_75 : decode cX11_word 75 = .ok (.isub, 1) := by decide +kernel
theorem dX11_word_76 : decode cX11_word 76 = .ok (.invokestatic 211, 3) := by decide +kernel
theorem dX11_word_79 : decode cX11_word 79 = .ok (.ireturn, 1) := by decide +kernel
set_option maxRecDepth 20000 in
theorem ggX11_answer_X11_listOf : GoodIn wsX11_answer wsX11_listOf := goodIn_r _ [7, 1, 8, 9, 62, 63, 64, 65, 66, 67, 68, 69, 70, 71, 72, 73, 74, 75, 76] (by decide +kernel) (by decide +kernel)
set_option maxRecDepth 20000 in
theorem gX11_answer_X11_listOf : GoodIn wsX11_answer (wsV RX11 194 RX11 yX11_listOf wsX11_listOf) := goodIn_app (goodIn_of _ (by decide +kernel)) ggX11_answer_X11_listOf
set_option maxRecDepth 20000 in
theorem ggX11_answer_X11_answersOf : GoodIn wsX11_answer wsX11_answersOf := goodIn_r _ [12, 13, 14, 15, 16, 17, 18, 19, 20, 21, 22, 23, 24, 25, 26, 27, 28, 29, 30, 31, 32, 33, 34, 35, 36, 37, 38, 39, 40, 41, 42, 43, 44, 45, 46, 47, 48, 49, 50, 51, 52, 53, 54, 77, 78, 79, 80] (by decide +kernel) (by decide +kernel)
set_option maxRecDepth 20000 in
theorem gX11_answer_X11_answersOf : GoodIn wsX11_answer (va_wsS RX11 167 yX11_answersOf wsX11_answersOf) := goodIn_app (goodIn_of _ (by decide +kernel)) ggX11_answer_X11_answersOf
set_option maxRecDepth 20000 in
theorem ggX11_answer_X0_numberOf : GoodIn wsX11_answer wsX0_numberOf := goodIn_r _ [57, 58, 59, 53, 60, 61, 52, 54] (by decide +kernel) (by decide +kernel)
set_option maxRecDepth 20000 in
theorem gX11_answer_X0_numberOf : GoodIn wsX11_answer (va_wsS RX11 215 yX0_numberOf wsX0_numberOf) := goodIn_app (goodIn_of _ (by decide +kernel)) ggX11_answer_X0_numberOf
theorem dX11_answer_0 : decode cX11_answer 0 = .ok (.aload_n 0, 1) := by decide +kernel
theorem dX11_answer_1 : decode cX11_answer 1 = .ok (.iload_n 2, 1) := by decide +kernel
theorem dX11_answer_2 : decode cX11_answer 2 = .ok (.invokevirtual 194, 3) := by decide +kernel
theorem dX11_answer_5 : decode cX11_answer 5 = .ok (.aload_n 0, 1) := by decide +kernel
theorem dX11_answer_6 : decode cX11_answer 6 = .ok (.getfield 12, 3) := by decide +kernel
theorem dX11_answer_9 : decode cX11_answer 9 = .ok (.getfield 34, 3) := by decide +kernel
theorem dX11_answer_12 : decode cX11_answer 12 = .ok (.invokestatic 167, 3) := by decide +kernel
theorem dX11_answer_15 : decode cX11_answer 15 = .ok (.iload_n 1, 1) := by decide +kernel
theorem dX11_answer_16 : decode cX11_answer 16 = .ok (.invokestatic 215, 3) := by decide +kernel
theorem dX11_answer_19 : decode cX11_answer 19 = .ok (.ireturn, 1) := by decide +kernel
set_option maxRecDepth 20000 in
theorem ggX11_turn_X3_size : GoodIn wsX11_turn wsX3_size := goodIn_r _ [6, 7, 8, 9, 10, 11, 12, 13, 51, 52, 53] (by decide +kernel) (by decide +kernel)
set_option maxRecDepth 20000 in
theorem gX11_turn_X3_size : GoodIn wsX11_turn (wsV RX11 166 RX3 yX3_size wsX3_size) := goodIn_app (goodIn_of _ (by decide +kernel)) ggX11_turn_X3_size
set_option maxRecDepth 20000 in
theorem ggX11_turn_X3_wordAt : GoodIn wsX11_turn wsX3_wordAt := goodIn_r _ [17, 7, 18, 19, 20, 11, 21, 22, 23, 24, 25, 26, 13, 51, 52, 53] (by decide +kernel) (by decide +kernel)
set_option maxRecDepth 20000 in
theorem gX11_turn_X3_wordAt : GoodIn wsX11_turn (wsV RX11 220 RX3 yX3_wordAt wsX3_wordAt) := goodIn_app (goodIn_of _ (by decide +kernel)) ggX11_turn_X3_wordAt
set_option maxRecDepth 20000 in
theorem ggX11_turn_X3_numberAt : GoodIn wsX11_turn wsX3_numberAt := goodIn_r _ [30, 7, 18, 19, 20, 11, 21, 22, 23, 24, 25, 26, 13, 51, 52, 53] (by decide +kernel) (by decide +kernel)
set_option maxRecDepth 20000 in
theorem gX11_turn_X3_numberAt : GoodIn wsX11_turn (wsV RX11 223 RX3 yX3_numberAt wsX3_numberAt) := goodIn_app (goodIn_of _ (by decide +kernel)) ggX11_turn_X3_numberAt
set_option maxRecDepth 20000 in
theorem ggX11_turn_X3_signsAt : GoodIn wsX11_turn wsX3_signsAt := goodIn_r _ [34, 7, 18, 19, 20, 11, 21, 22, 23, 24, 25, 26, 13, 51, 52, 53] (by decide +kernel) (by decide +kernel)
set_option maxRecDepth 20000 in
theorem gX11_turn_X3_signsAt : GoodIn wsX11_turn (wsV RX11 226 RX3 yX3_signsAt wsX3_signsAt) := goodIn_app (goodIn_of _ (by decide +kernel)) ggX11_turn_X3_signsAt
set_option maxRecDepth 20000 in
theorem ggX11_turn_X8_signAt : GoodIn wsX11_turn wsX8_signAt := goodIn_r _ [38, 39, 40, 37, 41] (by decide +kernel) (by decide +kernel)
set_option maxRecDepth 20000 in
theorem gX11_turn_X8_signAt : GoodIn wsX11_turn (va_wsS RX11 211 yX8_signAt wsX8_signAt) := goodIn_app (goodIn_of _ (by decide +kernel)) ggX11_turn_X8_signAt
theorem dX11_turn_0 : decode cX11_turn 0 = .ok (.iload_n 1, 1) := by decide +kernel
theorem dX11_turn_1 : decode cX11_turn 1 = .ok (.ifCond .lt 18, 3) := by decide +kernel
theorem dX11_turn_4 : decode cX11_turn 4 = .ok (.iload_n 1, 1) := by decide +kernel
theorem dX11_turn_5 : decode cX11_turn 5 = .ok (.aload_n 0, 1) := by decide +kernel
theorem dX11_turn_6 : decode cX11_turn 6 = .ok (.getfield 45, 3) := by decide +kernel
theorem dX11_turn_9 : decode cX11_turn 9 = .ok (.invokevirtual 166, 3) := by decide +kernel
theorem dX11_turn_12 : decode cX11_turn 12 = .ok (.if_icmp .ge 7, 3) := by decide +kernel
theorem dX11_turn_15 : decode cX11_turn 15 = .ok (.iload_n 2, 1) := by decide +kernel
theorem dX11_turn_16 : decode cX11_turn 16 = .ok (.ifCond .ge 5, 3) := by decide +kernel
theorem dX11_turn_19 : decode cX11_turn 19 = .ok (.iconst (-1), 1) := by decide +kernel
theorem dX11_turn_20 : decode cX11_turn 20 = .ok (.ireturn, 1) := by decide +kernel
theorem dX11_turn_21 : decode cX11_turn 21 = .ok (.iload_n 2, 1) := by decide +kernel
theorem dX11_turn_22 : decode cX11_turn 22 = .ok (.lookupswitch 44 #[(0, 26), (1, 35)], 26) := by decide +kernel
theorem dX11_turn_48 : decode cX11_turn 48 = .ok (.aload_n 0, 1) := by decide +kernel
theorem dX11_turn_49 : decode cX11_turn 49 = .ok (.getfield 45, 3) := by decide +kernel
theorem dX11_turn_52 : decode cX11_turn 52 = .ok (.iload_n 1, 1) := by decide +kernel
theorem dX11_turn_53 : decode cX11_turn 53 = .ok (.invokevirtual 220, 3) := by decide +kernel
theorem dX11_turn_56 : decode cX11_turn 56 = .ok (.ireturn, 1) := by decide +kernel
theorem dX11_turn_57 : decode cX11_turn 57 = .ok (.aload_n 0, 1) := by decide +kernel
theorem dX11_turn_58 : decode cX11_turn 58 = .ok (.getfield 45, 3) := by decide +kernel
theorem dX11_turn_61 : decode cX11_turn 61 = .ok (.iload_n 1, 1) := by decide +kernel
theorem dX11_turn_62 : decode cX11_turn 62 = .ok (.invokevirtual 223, 3) := by decide +kernel
theorem dX11_turn_65 : decode cX11_turn 65 = .ok (.ireturn, 1) := by decide +kernel
theorem dX11_turn_66 : decode cX11_turn 66 = .ok (.aload_n 0, 1) := by decide +kernel
theorem dX11_turn_67 : decode cX11_turn 67 = .ok (.getfield 45, 3) := by decide +kernel
theorem dX11_turn_70 : decode cX11_turn 70 = .ok (.iload_n 1, 1) := by decide +kernel
theorem dX11_turn_71 : decode cX11_turn 71 = .ok (.invokevirtual 226, 3) := by decide +kernel
theorem dX11_turn_74 : decode cX11_turn 74 = .ok (.iload_n 2, 1) := by decide +kernel
theorem dX11_turn_75 : decode cX11_turn 75 = .ok (.iconst 2, 1) := by decide +kernel
theorem dX11_turn_76 : decode cX11_turn 76 = .ok (.isub, 1) := by decide +kernel
theorem dX11_turn_77 : decode cX11_turn 77 = .ok (.invokestatic 211, 3) := by decide +kernel
theorem dX11_turn_80 : decode cX11_turn 80 = .ok (.ireturn, 1) := by decide +kernel
set_option maxRecDepth 20000 in
theorem ggX11_run_X1_hasRun : GoodIn wsX11_run wsX1_hasRun := goodIn_r _ [7, 8, 106, 107, 108, 109, 110, 111, 112, 113, 114] (by decide +kernel) (by decide +kernel)
set_option maxRecDepth 20000 in
theorem gX11_run_X1_hasRun : GoodIn wsX11_run (wsV RX11 229 RX1 yX1_hasRun wsX1_hasRun) := goodIn_app (goodIn_of _ (by decide +kernel)) ggX11_run_X1_hasRun
set_option maxRecDepth 20000 in
theorem ggX11_run_X1_lengthOf : GoodIn wsX11_run wsX1_lengthOf := goodIn_r _ [12, 13, 14, 4, 5, 6, 7, 8, 106, 107, 108, 109, 110, 111, 112, 113, 114] (by decide +kernel) (by decide +kernel)
set_option maxRecDepth 20000 in
theorem gX11_run_X1_lengthOf : GoodIn wsX11_run (wsV RX11 232 RX1 yX1_lengthOf wsX1_lengthOf) := goodIn_app (goodIn_of _ (by decide +kernel)) ggX11_run_X1_lengthOf
set_option maxRecDepth 20000 in
theorem ggX11_run_X1_pieceOf : GoodIn wsX11_run wsX1_pieceOf := goodIn_r _ [18, 19, 14, 4, 5, 6, 7, 8, 106, 107, 108, 109, 110, 111, 112, 113, 114] (by decide +kernel) (by decide +kernel)
set_option maxRecDepth 20000 in
theorem gX11_run_X1_pieceOf : GoodIn wsX11_run (wsV RX11 235 RX1 yX1_pieceOf wsX1_pieceOf) := goodIn_app (goodIn_of _ (by decide +kernel)) ggX11_run_X1_pieceOf
set_option maxRecDepth 20000 in
theorem ggX11_run_X11_rangeSize : GoodIn wsX11_run wsX11_rangeSize := goodIn_r _ [24, 2, 1, 25, 26, 27, 6, 28, 29, 14, 4, 5, 7, 8, 9, 10, 11, 12, 13, 30, 31, 32, 33, 34, 35, 36, 37, 38, 39, 40, 41, 42, 43, 44, 45, 46, 47, 48, 49, 50, 51, 52, 53, 54, 55, 56, 57, 97, 98, 99, 100, 101, 102, 103, 104, 105, 106, 107, 108, 109, 110, 111, 112, 113, 114, 115, 116, 117] (by decide +kernel) (by decide +kernel)
set_option maxRecDepth 20000 in
theorem gX11_run_X11_rangeSize : GoodIn wsX11_run (wsV RX11 238 RX11 yX11_rangeSize wsX11_rangeSize) := goodIn_app (goodIn_of _ (by decide +kernel)) ggX11_run_X11_rangeSize
set_option maxRecDepth 20000 in
theorem ggX11_run_X1_headOf : GoodIn wsX11_run wsX1_headOf := goodIn_r _ [28, 29, 14, 4, 5, 6, 7, 8, 106, 107, 108, 109, 110, 111, 112, 113, 114] (by decide +kernel) (by decide +kernel)
set_option maxRecDepth 20000 in
theorem gX11_run_X1_headOf : GoodIn wsX11_run (wsV RX11 241 RX1 yX1_headOf wsX1_headOf) := goodIn_app (goodIn_of _ (by decide +kernel)) ggX11_run_X1_headOf
set_option maxRecDepth 20000 in
theorem ggX11_run_X3_from : GoodIn wsX11_run wsX3_from := goodIn_r _ [48, 49, 50, 51, 52, 53, 54, 55, 56, 115, 116, 117] (by decide +kernel) (by decide +kernel)
set_option maxRecDepth 20000 in
theorem gX11_run_X3_from : GoodIn wsX11_run (wsV RX11 244 RX3 yX3_from wsX3_from) := goodIn_app (goodIn_of _ (by decide +kernel)) ggX11_run_X3_from
set_option maxRecDepth 20000 in
theorem ggX11_run_X11_wordsOfRun : GoodIn wsX11_run wsX11_wordsOfRun := goodIn_r _ [61, 2, 1, 25, 26, 27, 6, 28, 29, 14, 4, 5, 7, 8, 9, 10, 11, 12, 13, 62, 63, 64, 33, 65, 66, 31, 32, 34, 35, 36, 37, 38, 39, 40, 41, 42, 43, 44, 45, 46, 47, 48, 49, 50, 51, 52, 53, 54, 55, 56, 67, 68, 69, 70, 71, 72, 73, 74, 75, 76, 77, 78, 79, 80, 81, 82, 97, 98, 99, 100, 101, 102, 103, 104, 105, 106, 107, 108, 109, 110, 111, 112, 113, 114, 115, 116, 117] (by decide +kernel) (by decide +kernel)
set_option maxRecDepth 20000 in
theorem gX11_run_X11_wordsOfRun : GoodIn wsX11_run (wsV RX11 247 RX11 yX11_wordsOfRun wsX11_wordsOfRun) := goodIn_app (goodIn_of _ (by decide +kernel)) ggX11_run_X11_wordsOfRun
set_option maxRecDepth 20000 in
theorem ggX11_run_J13_bitCount_95d88 : GoodIn wsX11_run wsJ13_bitCount_95d88 := goodIn_r _ [86, 87, 88, 89] (by decide +kernel) (by decide +kernel)
set_option maxRecDepth 20000 in
theorem gX11_run_J13_bitCount_95d88 : GoodIn wsX11_run (va_wsS RX11 171 yJ13_bitCount_95d88 wsJ13_bitCount_95d88) := goodIn_app (goodIn_of _ (by decide +kernel)) ggX11_run_J13_bitCount_95d88
set_option maxRecDepth 20000 in
theorem ggX11_run_X1_signOf : GoodIn wsX11_run wsX1_signOf := goodIn_r _ [93, 94, 95, 96, 10, 11, 6, 12, 13, 14, 4, 5, 7, 8, 106, 107, 108, 109, 110, 111, 112, 113, 114] (by decide +kernel) (by decide +kernel)
set_option maxRecDepth 20000 in
theorem gX11_run_X1_signOf : GoodIn wsX11_run (wsV RX11 250 RX1 yX1_signOf wsX1_signOf) := goodIn_app (goodIn_of _ (by decide +kernel)) ggX11_run_X1_signOf
theorem dX11_run_0 : decode cX11_run 0 = .ok (.aload_n 0, 1) := by decide +kernel
theorem dX11_run_1 : decode cX11_run 1 = .ok (.getfield 30, 3) := by decide +kernel
theorem dX11_run_4 : decode cX11_run 4 = .ok (.iload_n 1, 1) := by decide +kernel
theorem dX11_run_5 : decode cX11_run 5 = .ok (.invokevirtual 229, 3) := by decide +kernel
theorem dX11_run_8 : decode cX11_run 8 = .ok (.ifCond .eq 7, 3) := by decide +kernel
theorem dX11_run_11 : decode cX11_run 11 = .ok (.iload_n 2, 1) := by decide +kernel
theorem dX11_run_12 : decode cX11_run 12 = .ok (.ifCond .ge 5, 3) := by decide +kernel
theorem dX11_run_15 : decode cX11_run 15 = .ok (.iconst (-1), 1) := by decide +kernel
theorem dX11_run_16 : decode cX11_run 16 = .ok (.ireturn, 1) := by decide +kernel
theorem dX11_run_17 : decode cX11_run 17 = .ok (.iload_n 2, 1) := by decide +kernel
theorem dX11_run_18 : decode cX11_run 18 = .ok (.tableswitch 95 0 4 #[34, 43, 52, 80, 86], 34) := by decide +kernel
theorem dX11_run_52 : decode cX11_run 52 = .ok (.aload_n 0, 1) := by decide +kernel
theorem dX11_run_53 : decode cX11_run 53 = .ok (.getfield 30, 3) := by decide +kernel
theorem dX11_run_56 : decode cX11_run 56 = .ok (.iload_n 1, 1) := by decide +kernel
theorem dX11_run_57 : decode cX11_run 57 = .ok (.invokevirtual 232, 3) := by decide +kernel
theorem dX11_run_60 : decode cX11_run 60 = .ok (.ireturn, 1) := by decide +kernel
theorem dX11_run_61 : decode cX11_run 61 = .ok (.aload_n 0, 1) := by decide +kernel
theorem dX11_run_62 : decode cX11_run 62 = .ok (.getfield 30, 3) := by decide +kernel
theorem dX11_run_65 : decode cX11_run 65 = .ok (.iload_n 1, 1) := by decide +kernel
theorem dX11_run_66 : decode cX11_run 66 = .ok (.invokevirtual 235, 3) := by decide +kernel
theorem dX11_run_69 : decode cX11_run 69 = .ok (.ireturn, 1) := by decide +kernel
theorem dX11_run_70 : decode cX11_run 70 = .ok (.aload_n 0, 1) := by decide +kernel
theorem dX11_run_71 : decode cX11_run 71 = .ok (.iload_n 1, 1) := by decide +kernel
theorem dX11_run_72 : decode cX11_run 72 = .ok (.invokevirtual 238, 3) := by decide +kernel
theorem dX11_run_75 : decode cX11_run 75 = .ok (.ifCond .ne 7, 3) := by decide +kernel
theorem dX11_run_78 : decode cX11_run 78 = .ok (.iconst (-1), 1) := by decide +kernel
theorem dX11_run_79 : decode cX11_run 79 = .ok (.goto 18, 3) := by decide +kernel
theorem dX11_run_82 : decode cX11_run 82 = .ok (.aload_n 0, 1) := by decide +kernel
theorem dX11_run_83 : decode cX11_run 83 = .ok (.getfield 45, 3) := by decide +kernel
theorem dX11_run_86 : decode cX11_run 86 = .ok (.aload_n 0, 1) := by decide +kernel
theorem dX11_run_87 : decode cX11_run 87 = .ok (.getfield 30, 3) := by decide +kernel
theorem dX11_run_90 : decode cX11_run 90 = .ok (.iload_n 1, 1) := by decide +kernel
theorem dX11_run_91 : decode cX11_run 91 = .ok (.invokevirtual 241, 3) := by decide +kernel
theorem dX11_run_94 : decode cX11_run 94 = .ok (.invokevirtual 244, 3) := by decide +kernel
theorem dX11_run_97 : decode cX11_run 97 = .ok (.ireturn, 1) := by decide +kernel
theorem dX11_run_98 : decode cX11_run 98 = .ok (.aload_n 0, 1) := by decide +kernel
theorem dX11_run_99 : decode cX11_run 99 = .ok (.iload_n 1, 1) := by decide +kernel
theorem dX11_run_100 : decode cX11_run 100 = .ok (.invokevirtual 238, 3) := by decide +kernel
theorem dX11_run_103 : decode cX11_run 103 = .ok (.ireturn, 1) := by decide +kernel
theorem dX11_run_104 : decode cX11_run 104 = .ok (.aload_n 0, 1) := by decide +kernel
theorem dX11_run_105 : decode cX11_run 105 = .ok (.iload_n 1, 1) := by decide +kernel
theorem dX11_run_106 : decode cX11_run 106 = .ok (.invokevirtual 247, 3) := by decide +kernel
theorem dX11_run_109 : decode cX11_run 109 = .ok (.invokestatic 171, 3) := by decide +kernel
theorem dX11_run_112 : decode cX11_run 112 = .ok (.ireturn, 1) := by decide +kernel
theorem dX11_run_113 : decode cX11_run 113 = .ok (.aload_n 0, 1) := by decide +kernel
theorem dX11_run_114 : decode cX11_run 114 = .ok (.getfield 30, 3) := by decide +kernel
theorem dX11_run_117 : decode cX11_run 117 = .ok (.iload_n 1, 1) := by decide +kernel
theorem dX11_run_118 : decode cX11_run 118 = .ok (.iload_n 2, 1) := by decide +kernel
theorem dX11_run_119 : decode cX11_run 119 = .ok (.iconst 5, 1) := by decide +kernel
theorem dX11_run_120 : decode cX11_run 120 = .ok (.isub, 1) := by decide +kernel
theorem dX11_run_121 : decode cX11_run 121 = .ok (.invokevirtual 250, 3) := by decide +kernel
theorem dX11_run_124 : decode cX11_run 124 = .ok (.ireturn, 1) := by decide +kernel
set_option maxRecDepth 20000 in
theorem ggX11_of_X1_hasRun : GoodIn wsX11_of wsX1_hasRun := goodIn_r _ [6, 7, 88, 89, 90, 91, 92, 93, 94, 95, 96] (by decide +kernel) (by decide +kernel)
set_option maxRecDepth 20000 in
theorem gX11_of_X1_hasRun : GoodIn wsX11_of (wsV RX11 229 RX1 yX1_hasRun wsX1_hasRun) := goodIn_app (goodIn_of _ (by decide +kernel)) ggX11_of_X1_hasRun
set_option maxRecDepth 20000 in
theorem ggX11_of_X11_wordsOfRun : GoodIn wsX11_of wsX11_wordsOfRun := goodIn_r _ [12, 13, 1, 14, 15, 16, 5, 17, 18, 19, 3, 4, 6, 7, 20, 21, 22, 23, 24, 25, 26, 27, 28, 29, 30, 31, 32, 33, 34, 35, 36, 37, 38, 39, 40, 41, 42, 43, 44, 45, 46, 47, 48, 49, 50, 51, 52, 53, 54, 55, 56, 57, 58, 59, 60, 61, 62, 63, 64, 65, 66, 67, 68, 69, 70, 71, 79, 80, 81, 82, 83, 84, 85, 86, 87, 88, 89, 90, 91, 92, 93, 94, 95, 96, 97, 98, 99] (by decide +kernel) (by decide +kernel)
set_option maxRecDepth 20000 in
theorem gX11_of_X11_wordsOfRun : GoodIn wsX11_of (wsV RX11 247 RX11 yX11_wordsOfRun wsX11_wordsOfRun) := goodIn_app (goodIn_of _ (by decide +kernel)) ggX11_of_X11_wordsOfRun
set_option maxRecDepth 20000 in
theorem ggX11_of_X0_numberOf : GoodIn wsX11_of wsX0_numberOf := goodIn_r _ [74, 75, 76, 70, 77, 78, 69, 71] (by decide +kernel) (by decide +kernel)
set_option maxRecDepth 20000 in
theorem gX11_of_X0_numberOf : GoodIn wsX11_of (va_wsS RX11 215 yX0_numberOf wsX0_numberOf) := goodIn_app (goodIn_of _ (by decide +kernel)) ggX11_of_X0_numberOf
theorem dX11_of_0 : decode cX11_of 0 = .ok (.aload_n 0, 1) := by decide +kernel
theorem dX11_of_1 : decode cX11_of 1 = .ok (.getfield 30, 3) := by decide +kernel
theorem dX11_of_4 : decode cX11_of 4 = .ok (.iload_n 1, 1) := by decide +kernel
theorem dX11_of_5 : decode cX11_of 5 = .ok (.invokevirtual 229, 3) := by decide +kernel
theorem dX11_of_8 : decode cX11_of 8 = .ok (.ifCond .eq 15, 3) := by decide +kernel
theorem dX11_of_11 : decode cX11_of 11 = .ok (.aload_n 0, 1) := by decide +kernel
theorem dX11_of_12 : decode cX11_of 12 = .ok (.iload_n 1, 1) := by decide +kernel
theorem dX11_of_13 : decode cX11_of 13 = .ok (.invokevirtual 247, 3) := by decide +kernel
theorem dX11_of_16 : decode cX11_of 16 = .ok (.iload_n 2, 1) := by decide +kernel
theorem dX11_of_17 : decode cX11_of 17 = .ok (.invokestatic 215, 3) := by decide +kernel
theorem dX11_of_20 : decode cX11_of 20 = .ok (.goto 4, 3) := by decide +kernel
theorem dX11_of_23 : decode cX11_of 23 = .ok (.iconst (-1), 1) := by decide +kernel
theorem dX11_of_24 : decode cX11_of 24 = .ok (.ireturn, 1) := by decide +kernel
set_option maxRecDepth 20000 in
theorem ggX11_shared_X11_sharedWords : GoodIn wsX11_shared wsX11_sharedWords := goodIn_r _ [5, 6, 7, 8, 9, 4, 10, 11, 12, 13, 14, 15, 16, 17, 18, 19, 20, 21, 22, 23, 24, 25, 26, 27, 28, 29, 30, 31, 32, 33, 34, 35, 36, 37, 38, 39, 40, 41, 42, 43, 44, 45, 46, 47, 48, 49, 50, 51, 52, 53, 54, 55, 56, 57, 58, 59, 60, 61, 62, 63, 64, 65, 66, 67, 68, 69, 70, 71, 72, 73, 74, 75, 76, 77, 78, 86, 87, 88, 89, 90, 91, 92, 93, 94, 95, 96, 97, 98, 99, 100, 101, 102, 103, 104, 105, 106] (by decide +kernel) (by decide +kernel)
set_option maxRecDepth 20000 in
theorem gX11_shared_X11_sharedWords : GoodIn wsX11_shared (wsV RX11 186 RX11 yX11_sharedWords wsX11_sharedWords) := goodIn_app (goodIn_of _ (by decide +kernel)) ggX11_shared_X11_sharedWords
set_option maxRecDepth 20000 in
theorem ggX11_shared_X0_numberOf : GoodIn wsX11_shared wsX0_numberOf := goodIn_r _ [81, 82, 83, 73, 84, 85, 72, 74] (by decide +kernel) (by decide +kernel)
set_option maxRecDepth 20000 in
theorem gX11_shared_X0_numberOf : GoodIn wsX11_shared (va_wsS RX11 215 yX0_numberOf wsX0_numberOf) := goodIn_app (goodIn_of _ (by decide +kernel)) ggX11_shared_X0_numberOf
theorem dX11_shared_0 : decode cX11_shared 0 = .ok (.aload_n 0, 1) := by decide +kernel
theorem dX11_shared_1 : decode cX11_shared 1 = .ok (.invokevirtual 186, 3) := by decide +kernel
theorem dX11_shared_4 : decode cX11_shared 4 = .ok (.iload_n 1, 1) := by decide +kernel
theorem dX11_shared_5 : decode cX11_shared 5 = .ok (.invokestatic 215, 3) := by decide +kernel
theorem dX11_shared_8 : decode cX11_shared 8 = .ok (.ireturn, 1) := by decide +kernel
set_option maxRecDepth 20000 in
theorem ggX11_alone_X7_hasNumber : GoodIn wsX11_alone wsX7_hasNumber := goodIn_r _ [8, 9, 111, 112] (by decide +kernel) (by decide +kernel)
set_option maxRecDepth 20000 in
theorem gX11_alone_X7_hasNumber : GoodIn wsX11_alone (wsV RX11 198 RX7 yX7_hasNumber wsX7_hasNumber) := goodIn_app (goodIn_of _ (by decide +kernel)) ggX11_alone_X7_hasNumber
set_option maxRecDepth 20000 in
theorem ggX11_alone_X7_at : GoodIn wsX11_alone wsX7_at := goodIn_r _ [13, 14, 15, 5, 6, 7, 8, 9, 111, 112] (by decide +kernel) (by decide +kernel)
set_option maxRecDepth 20000 in
theorem gX11_alone_X7_at : GoodIn wsX11_alone (wsV RX11 201 RX7 yX7_at wsX7_at) := goodIn_app (goodIn_of _ (by decide +kernel)) ggX11_alone_X7_at
set_option maxRecDepth 20000 in
theorem ggX11_alone_X3_firstAlone : GoodIn wsX11_alone wsX3_firstAlone := goodIn_r _ [20, 21, 22, 23, 24, 25, 26, 27, 28, 29, 30, 31, 32, 33, 34, 35, 36, 37, 38, 39, 40, 41, 42, 43, 44, 45, 46, 47, 48, 49, 50, 51, 52, 53, 54, 55, 56, 57, 58, 19, 59, 60, 61, 62, 63, 64, 65, 66, 67, 68, 69, 70, 71, 72, 73, 74, 7, 75, 9, 14, 76, 77, 78, 79, 80, 11, 12, 13, 15, 5, 6, 8, 81, 82, 83, 84, 85, 86, 87, 88, 89, 90, 91, 113, 111, 112] (by decide +kernel) (by decide +kernel)
set_option maxRecDepth 20000 in
theorem gX11_alone_X3_firstAlone : GoodIn wsX11_alone (wsV RX11 254 RX3 yX3_firstAlone wsX3_firstAlone) := goodIn_app (goodIn_of _ (by decide +kernel)) ggX11_alone_X3_firstAlone
set_option maxRecDepth 20000 in
theorem ggX11_alone_X3_placeOf : GoodIn wsX11_alone wsX3_placeOf := goodIn_r _ [95, 28, 29, 23, 30, 31, 32, 22, 24, 25, 26, 27, 33, 34, 35, 36, 37, 38, 39, 40, 41, 42, 43, 44, 45, 46, 47, 48, 49, 50, 51, 52, 53, 54, 67, 68, 69, 19, 70, 71, 72, 73, 74, 7, 75, 9, 14, 113, 111, 112] (by decide +kernel) (by decide +kernel)
set_option maxRecDepth 20000 in
theorem gX11_alone_X3_placeOf : GoodIn wsX11_alone (wsV RX11 257 RX3 yX3_placeOf wsX3_placeOf) := goodIn_app (goodIn_of _ (by decide +kernel)) ggX11_alone_X3_placeOf
theorem dX11_alone_0 : decode cX11_alone 0 = .ok (.aload_n 0, 1) := by decide +kernel
theorem dX11_alone_1 : decode cX11_alone 1 = .ok (.getfield 12, 3) := by decide +kernel
theorem dX11_alone_4 : decode cX11_alone 4 = .ok (.getfield 112, 3) := by decide +kernel
theorem dX11_alone_7 : decode cX11_alone 7 = .ok (.iload_n 1, 1) := by decide +kernel
theorem dX11_alone_8 : decode cX11_alone 8 = .ok (.invokevirtual 198, 3) := by decide +kernel
theorem dX11_alone_11 : decode cX11_alone 11 = .ok (.ifCond .eq 12, 3) := by decide +kernel
theorem dX11_alone_14 : decode cX11_alone 14 = .ok (.iload_n 2, 1) := by decide +kernel
theorem dX11_alone_15 : decode cX11_alone 15 = .ok (.ifCond .lt 8, 3) := by decide +kernel
theorem dX11_alone_18 : decode cX11_alone 18 = .ok (.iload_n 2, 1) := by decide +kernel
theorem dX11_alone_19 : decode cX11_alone 19 = .ok (.iconst 2, 1) := by decide +kernel
theorem dX11_alone_20 : decode cX11_alone 20 = .ok (.if_icmp .le 5, 3) := by decide +kernel
theorem dX11_alone_23 : decode cX11_alone 23 = .ok (.iconst (-1), 1) := by decide +kernel
theorem dX11_alone_24 : decode cX11_alone 24 = .ok (.ireturn, 1) := by decide +kernel
theorem dX11_alone_25 : decode cX11_alone 25 = .ok (.aload_n 0, 1) := by decide +kernel
theorem dX11_alone_26 : decode cX11_alone 26 = .ok (.getfield 12, 3) := by decide +kernel
theorem dX11_alone_29 : decode cX11_alone 29 = .ok (.getfield 112, 3) := by decide +kernel
theorem dX11_alone_32 : decode cX11_alone 32 = .ok (.iload_n 1, 1) := by decide +kernel
theorem dX11_alone_33 : decode cX11_alone 33 = .ok (.invokevirtual 201, 3) := by decide +kernel
theorem dX11_alone_36 : decode cX11_alone 36 = .ok (.lstore_n 3, 1) := by decide +kernel
theorem dX11_alone_37 : decode cX11_alone 37 = .ok (.iconst 1, 1) := by decide +kernel
theorem dX11_alone_38 : decode cX11_alone 38 = .ok (.istore 5, 2) := by decide +kernel
theorem dX11_alone_40 : decode cX11_alone 40 = .ok (.iload 5, 2) := by decide +kernel
theorem dX11_alone_42 : decode cX11_alone 42 = .ok (.bipush 8, 2) := by decide +kernel
theorem dX11_alone_44 : decode cX11_alone 44 = .ok (.if_icmp .gt 57, 3) := by decide +kernel
theorem dX11_alone_47 : decode cX11_alone 47 = .ok (.aload_n 0, 1) := by decide +kernel
theorem dX11_alone_48 : decode cX11_alone 48 = .ok (.getfield 45, 3) := by decide +kernel
theorem dX11_alone_51 : decode cX11_alone 51 = .ok (.lload_n 3, 1) := by decide +kernel
theorem dX11_alone_52 : decode cX11_alone 52 = .ok (.iload 5, 2) := by decide +kernel
theorem dX11_alone_54 : decode cX11_alone 54 = .ok (.invokevirtual 254, 3) := by decide +kernel
theorem dX11_alone_57 : decode cX11_alone 57 = .ok (.istore 6, 2) := by decide +kernel
theorem dX11_alone_59 : decode cX11_alone 59 = .ok (.iload 6, 2) := by decide +kernel
theorem dX11_alone_61 : decode cX11_alone 61 = .ok (.iconst (-1), 1) := by decide +kernel
theorem dX11_alone_62 : decode cX11_alone 62 = .ok (.if_icmp .eq 33, 3) := by decide +kernel
theorem dX11_alone_65 : decode cX11_alone 65 = .ok (.iload_n 2, 1) := by decide +kernel
theorem dX11_alone_66 : decode cX11_alone 66 = .ok (.ifCond .ne 8, 3) := by decide +kernel
theorem dX11_alone_69 : decode cX11_alone 69 = .ok (.iload 5, 2) := by decide +kernel
theorem dX11_alone_71 : decode cX11_alone 71 = .ok (.goto 23, 3) := by decide +kernel
theorem dX11_alone_74 : decode cX11_alone 74 = .ok (.iload_n 2, 1) := by decide +kernel
theorem dX11_alone_75 : decode cX11_alone 75 = .ok (.iconst 1, 1) := by decide +kernel
theorem dX11_alone_76 : decode cX11_alone 76 = .ok (.if_icmp .ne 8, 3) := by decide +kernel
theorem dX11_alone_79 : decode cX11_alone 79 = .ok (.iload 6, 2) := by decide +kernel
theorem dX11_alone_81 : decode cX11_alone 81 = .ok (.goto 13, 3) := by decide +kernel
theorem dX11_alone_84 : decode cX11_alone 84 = .ok (.aload_n 0, 1) := by decide +kernel
theorem dX11_alone_85 : decode cX11_alone 85 = .ok (.getfield 45, 3) := by decide +kernel
theorem dX11_alone_88 : decode cX11_alone 88 = .ok (.lload_n 3, 1) := by decide +kernel
theorem dX11_alone_89 : decode cX11_alone 89 = .ok (.iload 6, 2) := by decide +kernel
theorem dX11_alone_91 : decode cX11_alone 91 = .ok (.invokevirtual 257, 3) := by decide +kernel
theorem dX11_alone_94 : decode cX11_alone 94 = .ok (.ireturn, 1) := by decide +kernel
theorem dX11_alone_95 : decode cX11_alone 95 = .ok (.iinc 5 1, 3) := by decide +kernel
theorem dX11_alone_98 : decode cX11_alone 98 = .ok (.goto (-58), 3) := by decide +kernel
theorem dX11_alone_101 : decode cX11_alone 101 = .ok (.bipush (-2), 2) := by decide +kernel
theorem dX11_alone_103 : decode cX11_alone 103 = .ok (.ireturn, 1) := by decide +kernel
set_option maxRecDepth 20000 in
theorem ggX11_near_X7_hasNumber : GoodIn wsX11_near wsX7_hasNumber := goodIn_r _ [7, 8, 67, 68] (by decide +kernel) (by decide +kernel)
set_option maxRecDepth 20000 in
theorem gX11_near_X7_hasNumber : GoodIn wsX11_near (wsV RX11 198 RX7 yX7_hasNumber wsX7_hasNumber) := goodIn_app (goodIn_of _ (by decide +kernel)) ggX11_near_X7_hasNumber
set_option maxRecDepth 20000 in
theorem ggX11_near_X7_at : GoodIn wsX11_near wsX7_at := goodIn_r _ [12, 13, 14, 4, 5, 6, 7, 8, 67, 68] (by decide +kernel) (by decide +kernel)
set_option maxRecDepth 20000 in
theorem gX11_near_X7_at : GoodIn wsX11_near (wsV RX11 201 RX7 yX7_at wsX7_at) := goodIn_app (goodIn_of _ (by decide +kernel)) ggX11_near_X7_at
set_option maxRecDepth 20000 in
theorem ggX11_near_X11_nearWords : GoodIn wsX11_near wsX11_nearWords := goodIn_r _ [19, 1, 2, 20, 21, 22, 6, 23, 8, 9, 10, 11, 12, 13, 14, 4, 5, 7, 24, 25, 26, 27, 28, 29, 30, 31, 32, 33, 34, 35, 36, 37, 52, 53, 54, 55, 56, 57, 58, 59, 60, 61, 62, 63, 64, 65, 66, 67, 68] (by decide +kernel) (by decide +kernel)
set_option maxRecDepth 20000 in
theorem gX11_near_X11_nearWords : GoodIn wsX11_near (wsV RX11 260 RX11 yX11_nearWords wsX11_nearWords) := goodIn_app (goodIn_of _ (by decide +kernel)) ggX11_near_X11_nearWords
set_option maxRecDepth 20000 in
theorem ggX11_near_J13_bitCount_95d88 : GoodIn wsX11_near wsJ13_bitCount_95d88 := goodIn_r _ [41, 42, 43, 44] (by decide +kernel) (by decide +kernel)
set_option maxRecDepth 20000 in
theorem gX11_near_J13_bitCount_95d88 : GoodIn wsX11_near (va_wsS RX11 171 yJ13_bitCount_95d88 wsJ13_bitCount_95d88) := goodIn_app (goodIn_of _ (by decide +kernel)) ggX11_near_J13_bitCount_95d88
set_option maxRecDepth 20000 in
theorem ggX11_near_X0_numberOf : GoodIn wsX11_near wsX0_numberOf := goodIn_r _ [47, 48, 49, 36, 50, 51, 35, 37] (by decide +kernel) (by decide +kernel)
set_option maxRecDepth 20000 in
theorem gX11_near_X0_numberOf : GoodIn wsX11_near (va_wsS RX11 215 yX0_numberOf wsX0_numberOf) := goodIn_app (goodIn_of _ (by decide +kernel)) ggX11_near_X0_numberOf
theorem dX11_near_0 : decode cX11_near 0 = .ok (.aload_n 0, 1) := by decide +kernel
theorem dX11_near_1 : decode cX11_near 1 = .ok (.getfield 12, 3) := by decide +kernel
theorem dX11_near_4 : decode cX11_near 4 = .ok (.getfield 112, 3) := by decide +kernel
theorem dX11_near_7 : decode cX11_near 7 = .ok (.iload_n 1, 1) := by decide +kernel
theorem dX11_near_8 : decode cX11_near 8 = .ok (.invokevirtual 198, 3) := by decide +kernel
theorem dX11_near_11 : decode cX11_near 11 = .ok (.ifCond .ne 6, 3) := by decide +kernel
theorem dX11_near_14 : decode cX11_near 14 = .ok (.bipush (-2), 2) := by decide +kernel
theorem dX11_near_16 : decode cX11_near 16 = .ok (.ireturn, 1) := by decide +kernel
theorem dX11_near_17 : decode cX11_near 17 = .ok (.aload_n 0, 1) := by decide +kernel
theorem dX11_near_18 : decode cX11_near 18 = .ok (.aload_n 0, 1) := by decide +kernel
theorem dX11_near_19 : decode cX11_near 19 = .ok (.getfield 12, 3) := by decide +kernel
theorem dX11_near_22 : decode cX11_near 22 = .ok (.getfield 112, 3) := by decide +kernel
theorem dX11_near_25 : decode cX11_near 25 = .ok (.iload_n 1, 1) := by decide +kernel
theorem dX11_near_26 : decode cX11_near 26 = .ok (.invokevirtual 201, 3) := by decide +kernel
theorem dX11_near_29 : decode cX11_near 29 = .ok (.invokevirtual 260, 3) := by decide +kernel
theorem dX11_near_32 : decode cX11_near 32 = .ok (.lstore_n 3, 1) := by decide +kernel
theorem dX11_near_33 : decode cX11_near 33 = .ok (.iload_n 2, 1) := by decide +kernel
theorem dX11_near_34 : decode cX11_near 34 = .ok (.iconst (-1), 1) := by decide +kernel
theorem dX11_near_35 : decode cX11_near 35 = .ok (.if_icmp .ne 8, 3) := by decide +kernel
theorem dX11_near_38 : decode cX11_near 38 = .ok (.lload_n 3, 1) := by decide +kernel
theorem dX11_near_39 : decode cX11_near 39 = .ok (.invokestatic 171, 3) := by decide +kernel
theorem dX11_near_42 : decode cX11_near 42 = .ok (.ireturn, 1) := by decide +kernel
theorem dX11_near_43 : decode cX11_near 43 = .ok (.lload_n 3, 1) := by decide +kernel
theorem dX11_near_44 : decode cX11_near 44 = .ok (.iload_n 2, 1) := by decide +kernel
theorem dX11_near_45 : decode cX11_near 45 = .ok (.invokestatic 215, 3) := by decide +kernel
theorem dX11_near_48 : decode cX11_near 48 = .ok (.istore 5, 2) := by decide +kernel
theorem dX11_near_50 : decode cX11_near 50 = .ok (.iload 5, 2) := by decide +kernel
theorem dX11_near_52 : decode cX11_near 52 = .ok (.iconst (-1), 1) := by decide +kernel
theorem dX11_near_53 : decode cX11_near 53 = .ok (.if_icmp .ne 8, 3) := by decide +kernel
theorem dX11_near_56 : decode cX11_near 56 = .ok (.bipush (-2), 2) := by decide +kernel
theorem dX11_near_58 : decode cX11_near 58 = .ok (.goto 5, 3) := by decide +kernel
theorem dX11_near_61 : decode cX11_near 61 = .ok (.iload 5, 2) := by decide +kernel
theorem dX11_near_63 : decode cX11_near 63 = .ok (.ireturn, 1) := by decide +kernel
set_option maxRecDepth 20000 in
theorem ggX11_tally_X11_isLetter : GoodIn wsX11_tally wsX11_isLetter := goodIn_r _ [4] (by decide +kernel) (by decide +kernel)
set_option maxRecDepth 20000 in
theorem gX11_tally_X11_isLetter : GoodIn wsX11_tally (va_wsS RX11 264 yX11_isLetter wsX11_isLetter) := goodIn_app (goodIn_of _ (by decide +kernel)) ggX11_tally_X11_isLetter
set_option maxRecDepth 20000 in
theorem ggX11_tally_X11_wordsWithLetter : GoodIn wsX11_tally wsX11_wordsWithLetter := goodIn_r _ [8, 9, 10, 11, 12, 13, 14, 15, 16, 17, 18, 19, 20, 21, 22, 23, 24, 25, 26, 27, 28, 29, 30, 31, 32, 33, 34, 35, 43, 44, 45, 46, 47, 48, 49, 50, 51, 52, 53, 54, 55, 56, 57, 58, 59] (by decide +kernel) (by decide +kernel)
set_option maxRecDepth 20000 in
theorem gX11_tally_X11_wordsWithLetter : GoodIn wsX11_tally (wsV RX11 267 RX11 yX11_wordsWithLetter wsX11_wordsWithLetter) := goodIn_app (goodIn_of _ (by decide +kernel)) ggX11_tally_X11_wordsWithLetter
set_option maxRecDepth 20000 in
theorem ggX11_tally_X11_wordsOfLength : GoodIn wsX11_tally wsX11_wordsOfLength := goodIn_r _ [39, 9, 10, 11, 12, 13, 14, 15, 16, 17, 18, 19, 20, 21, 22, 23, 24, 25, 40, 41, 28, 42, 33, 34, 35, 43, 44, 45, 46, 47, 48, 49, 50, 51, 52, 53, 54, 55, 56, 57, 58, 59] (by decide +kernel) (by decide +kernel)
set_option maxRecDepth 20000 in
theorem gX11_tally_X11_wordsOfLength : GoodIn wsX11_tally (wsV RX11 270 RX11 yX11_wordsOfLength wsX11_wordsOfLength) := goodIn_app (goodIn_of _ (by decide +kernel)) ggX11_tally_X11_wordsOfLength
theorem dX11_tally_0 : decode cX11_tally 0 = .ok (.iload_n 2, 1) := by decide +kernel
theorem dX11_tally_1 : decode cX11_tally 1 = .ok (.ifCond .eq 20, 3) := by decide +kernel
theorem dX11_tally_4 : decode cX11_tally 4 = .ok (.iload_n 1, 1) := by decide +kernel
theorem dX11_tally_5 : decode cX11_tally 5 = .ok (.invokestatic 264, 3) := by decide +kernel
theorem dX11_tally_8 : decode cX11_tally 8 = .ok (.ifCond .eq 11, 3) := by decide +kernel
theorem dX11_tally_11 : decode cX11_tally 11 = .ok (.aload_n 0, 1) := by decide +kernel
theorem dX11_tally_12 : decode cX11_tally 12 = .ok (.iload_n 1, 1) := by decide +kernel
theorem dX11_tally_13 : decode cX11_tally 13 = .ok (.invokevirtual 267, 3) := by decide +kernel
theorem dX11_tally_16 : decode cX11_tally 16 = .ok (.goto 4, 3) := by decide +kernel
theorem dX11_tally_19 : decode cX11_tally 19 = .ok (.iconst (-1), 1) := by decide +kernel
theorem dX11_tally_20 : decode cX11_tally 20 = .ok (.ireturn, 1) := by decide +kernel
theorem dX11_tally_21 : decode cX11_tally 21 = .ok (.iload_n 1, 1) := by decide +kernel
theorem dX11_tally_22 : decode cX11_tally 22 = .ok (.iconst 1, 1) := by decide +kernel
theorem dX11_tally_23 : decode cX11_tally 23 = .ok (.if_icmp .lt 17, 3) := by decide +kernel
theorem dX11_tally_26 : decode cX11_tally 26 = .ok (.iload_n 1, 1) := by decide +kernel
theorem dX11_tally_27 : decode cX11_tally 27 = .ok (.bipush 7, 2) := by decide +kernel
theorem dX11_tally_29 : decode cX11_tally 29 = .ok (.if_icmp .gt 11, 3) := by decide +kernel
theorem dX11_tally_32 : decode cX11_tally 32 = .ok (.aload_n 0, 1) := by decide +kernel
theorem dX11_tally_33 : decode cX11_tally 33 = .ok (.iload_n 1, 1) := by decide +kernel
theorem dX11_tally_34 : decode cX11_tally 34 = .ok (.invokevirtual 270, 3) := by decide +kernel
theorem dX11_tally_37 : decode cX11_tally 37 = .ok (.goto 4, 3) := by decide +kernel
theorem dX11_tally_40 : decode cX11_tally 40 = .ok (.iconst (-1), 1) := by decide +kernel
theorem dX11_tally_41 : decode cX11_tally 41 = .ok (.ireturn, 1) := by decide +kernel
set_option maxRecDepth 20000 in
theorem ggX11_places_X7_hasNumber : GoodIn wsX11_places wsX7_hasNumber := goodIn_r _ [7, 8, 44, 45] (by decide +kernel) (by decide +kernel)
set_option maxRecDepth 20000 in
theorem gX11_places_X7_hasNumber : GoodIn wsX11_places (wsV RX11 198 RX7 yX7_hasNumber wsX7_hasNumber) := goodIn_app (goodIn_of _ (by decide +kernel)) ggX11_places_X7_hasNumber
set_option maxRecDepth 20000 in
theorem ggX11_places_X11_isLetter : GoodIn wsX11_places wsX11_isLetter := goodIn_r _ [12] (by decide +kernel) (by decide +kernel)
set_option maxRecDepth 20000 in
theorem gX11_places_X11_isLetter : GoodIn wsX11_places (va_wsS RX11 264 yX11_isLetter wsX11_isLetter) := goodIn_app (goodIn_of _ (by decide +kernel)) ggX11_places_X11_isLetter
set_option maxRecDepth 20000 in
theorem ggX11_places_X7_at : GoodIn wsX11_places wsX7_at := goodIn_r _ [16, 17, 18, 4, 5, 6, 7, 8, 44, 45] (by decide +kernel) (by decide +kernel)
set_option maxRecDepth 20000 in
theorem gX11_places_X7_at : GoodIn wsX11_places (wsV RX11 201 RX7 yX7_at wsX7_at) := goodIn_app (goodIn_of _ (by decide +kernel)) ggX11_places_X7_at
set_option maxRecDepth 20000 in
theorem ggX11_places_X8_placesOf : GoodIn wsX11_places wsX8_placesOf := goodIn_r _ [22, 23, 24, 21, 25, 26, 27, 28] (by decide +kernel) (by decide +kernel)
set_option maxRecDepth 20000 in
theorem gX11_places_X8_placesOf : GoodIn wsX11_places (va_wsS RX11 273 yX8_placesOf wsX8_placesOf) := goodIn_app (goodIn_of _ (by decide +kernel)) ggX11_places_X8_placesOf
theorem dX11_places_0 : decode cX11_places 0 = .ok (.aload_n 0, 1) := by decide +kernel
theorem dX11_places_1 : decode cX11_places 1 = .ok (.getfield 12, 3) := by decide +kernel
theorem dX11_places_4 : decode cX11_places 4 = .ok (.getfield 112, 3) := by decide +kernel
theorem dX11_places_7 : decode cX11_places 7 = .ok (.iload_n 1, 1) := by decide +kernel
theorem dX11_places_8 : decode cX11_places 8 = .ok (.invokevirtual 198, 3) := by decide +kernel
theorem dX11_places_11 : decode cX11_places 11 = .ok (.ifCond .eq 10, 3) := by decide +kernel
theorem dX11_places_14 : decode cX11_places 14 = .ok (.iload_n 2, 1) := by decide +kernel
theorem dX11_places_15 : decode cX11_places 15 = .ok (.invokestatic 264, 3) := by decide +kernel
theorem dX11_places_18 : decode cX11_places 18 = .ok (.ifCond .ne 5, 3) := by decide +kernel
theorem dX11_places_21 : decode cX11_places 21 = .ok (.iconst (-1), 1) := by decide +kernel
theorem dX11_places_22 : decode cX11_places 22 = .ok (.ireturn, 1) := by decide +kernel
theorem dX11_places_23 : decode cX11_places 23 = .ok (.aload_n 0, 1) := by decide +kernel
theorem dX11_places_24 : decode cX11_places 24 = .ok (.getfield 12, 3) := by decide +kernel
theorem dX11_places_27 : decode cX11_places 27 = .ok (.getfield 112, 3) := by decide +kernel
theorem dX11_places_30 : decode cX11_places 30 = .ok (.iload_n 1, 1) := by decide +kernel
theorem dX11_places_31 : decode cX11_places 31 = .ok (.invokevirtual 201, 3) := by decide +kernel
theorem dX11_places_34 : decode cX11_places 34 = .ok (.iload_n 2, 1) := by decide +kernel
theorem dX11_places_35 : decode cX11_places 35 = .ok (.invokestatic 273, 3) := by decide +kernel
theorem dX11_places_38 : decode cX11_places 38 = .ok (.ireturn, 1) := by decide +kernel
set_option maxRecDepth 20000 in
theorem ggX11_instead_X5_hasPlace : GoodIn wsX11_instead wsX5_hasPlace := goodIn_r _ [9, 10, 95, 96] (by decide +kernel) (by decide +kernel)
set_option maxRecDepth 20000 in
theorem gX11_instead_X5_hasPlace : GoodIn wsX11_instead (wsV RX11 276 RX5 yX5_hasPlace wsX5_hasPlace) := goodIn_app (goodIn_of _ (by decide +kernel)) ggX11_instead_X5_hasPlace
set_option maxRecDepth 20000 in
theorem ggX11_instead_X5_isSign : GoodIn wsX11_instead wsX5_isSign := goodIn_r _ [13, 14, 15, 16] (by decide +kernel) (by decide +kernel)
set_option maxRecDepth 20000 in
theorem gX11_instead_X5_isSign : GoodIn wsX11_instead (va_wsS RX11 279 yX5_isSign wsX5_isSign) := goodIn_app (goodIn_of _ (by decide +kernel)) ggX11_instead_X5_isSign
set_option maxRecDepth 20000 in
theorem ggX11_instead_X5_copy : GoodIn wsX11_instead wsX5_copy := goodIn_r _ [20, 10, 21, 22, 23, 24, 25, 95, 96] (by decide +kernel) (by decide +kernel)
set_option maxRecDepth 20000 in
theorem gX11_instead_X5_copy : GoodIn wsX11_instead (wsV RX11 282 RX5 yX5_copy wsX5_copy) := goodIn_app (goodIn_of _ (by decide +kernel)) ggX11_instead_X5_copy
set_option maxRecDepth 20000 in
theorem ggX11_instead_X5_put : GoodIn wsX11_instead wsX5_put := goodIn_r _ [29, 21, 30, 6, 7, 8, 9, 10, 95, 96] (by decide +kernel) (by decide +kernel)
set_option maxRecDepth 20000 in
theorem gX11_instead_X5_put : GoodIn wsX11_instead (wsV RX11 285 RX5 yX5_put wsX5_put) := goodIn_app (goodIn_of _ (by decide +kernel)) ggX11_instead_X5_put
set_option maxRecDepth 20000 in
theorem ggX11_instead_X11_answersOf : GoodIn wsX11_instead wsX11_answersOf := goodIn_r _ [33, 34, 35, 36, 37, 38, 39, 40, 41, 42, 43, 44, 45, 46, 47, 48, 49, 50, 51, 8, 52, 10, 21, 53, 54, 55, 56, 57, 58, 59, 60, 61, 62, 63, 64, 65, 66, 67, 68, 69, 70, 71, 72, 97, 98, 95, 96] (by decide +kernel) (by decide +kernel)
set_option maxRecDepth 20000 in
theorem gX11_instead_X11_answersOf : GoodIn wsX11_instead (va_wsS RX11 167 yX11_answersOf wsX11_answersOf) := goodIn_app (goodIn_of _ (by decide +kernel)) ggX11_instead_X11_answersOf
set_option maxRecDepth 20000 in
theorem ggX11_instead_J13_bitCount_95d88 : GoodIn wsX11_instead wsJ13_bitCount_95d88 := goodIn_r _ [76, 77, 78, 79] (by decide +kernel) (by decide +kernel)
set_option maxRecDepth 20000 in
theorem gX11_instead_J13_bitCount_95d88 : GoodIn wsX11_instead (va_wsS RX11 171 yJ13_bitCount_95d88 wsJ13_bitCount_95d88) := goodIn_app (goodIn_of _ (by decide +kernel)) ggX11_instead_J13_bitCount_95d88
theorem dX11_instead_0 : decode cX11_instead 0 = .ok (.aload_n 0, 1) := by decide +kernel
theorem dX11_instead_1 : decode cX11_instead 1 = .ok (.getfield 12, 3) := by decide +kernel
theorem dX11_instead_4 : decode cX11_instead 4 = .ok (.getfield 34, 3) := by decide +kernel
theorem dX11_instead_7 : decode cX11_instead 7 = .ok (.iload_n 1, 1) := by decide +kernel
theorem dX11_instead_8 : decode cX11_instead 8 = .ok (.invokevirtual 276, 3) := by decide +kernel
theorem dX11_instead_11 : decode cX11_instead 11 = .ok (.ifCond .eq 10, 3) := by decide +kernel
theorem dX11_instead_14 : decode cX11_instead 14 = .ok (.iload_n 2, 1) := by decide +kernel
theorem dX11_instead_15 : decode cX11_instead 15 = .ok (.invokestatic 279, 3) := by decide +kernel
theorem dX11_instead_18 : decode cX11_instead 18 = .ok (.ifCond .ne 5, 3) := by decide +kernel
theorem dX11_instead_21 : decode cX11_instead 21 = .ok (.iconst (-1), 1) := by decide +kernel
theorem dX11_instead_22 : decode cX11_instead 22 = .ok (.ireturn, 1) := by decide +kernel
theorem dX11_instead_23 : decode cX11_instead 23 = .ok (.aload_n 0, 1) := by decide +kernel
theorem dX11_instead_24 : decode cX11_instead 24 = .ok (.getfield 64, 3) := by decide +kernel
theorem dX11_instead_27 : decode cX11_instead 27 = .ok (.aload_n 0, 1) := by decide +kernel
theorem dX11_instead_28 : decode cX11_instead 28 = .ok (.getfield 12, 3) := by decide +kernel
theorem dX11_instead_31 : decode cX11_instead 31 = .ok (.getfield 34, 3) := by decide +kernel
theorem dX11_instead_34 : decode cX11_instead 34 = .ok (.invokevirtual 282, 3) := by decide +kernel
theorem dX11_instead_37 : decode cX11_instead 37 = .ok (.aload_n 0, 1) := by decide +kernel
theorem dX11_instead_38 : decode cX11_instead 38 = .ok (.getfield 64, 3) := by decide +kernel
theorem dX11_instead_41 : decode cX11_instead 41 = .ok (.iload_n 1, 1) := by decide +kernel
theorem dX11_instead_42 : decode cX11_instead 42 = .ok (.iload_n 2, 1) := by decide +kernel
theorem dX11_instead_43 : decode cX11_instead 43 = .ok (.invokevirtual 285, 3) := by decide +kernel
theorem dX11_instead_46 : decode cX11_instead 46 = .ok (.aload_n 0, 1) := by decide +kernel
theorem dX11_instead_47 : decode cX11_instead 47 = .ok (.getfield 12, 3) := by decide +kernel
theorem dX11_instead_50 : decode cX11_instead 50 = .ok (.getfield 112, 3) := by decide +kernel
theorem dX11_instead_53 : decode cX11_instead 53 = .ok (.aload_n 0, 1) := by decide +kernel
theorem dX11_instead_54 : decode cX11_instead 54 = .ok (.getfield 64, 3) := by decide +kernel
theorem dX11_instead_57 : decode cX11_instead 57 = .ok (.invokestatic 167, 3) := by decide +kernel
theorem dX11_instead_60 : decode cX11_instead 60 = .ok (.invokestatic 171, 3) := by decide +kernel
theorem dX11_instead_63 : decode cX11_instead 63 = .ok (.ireturn, 1) := by decide +kernel
set_option maxRecDepth 20000 in
theorem ggX11_image_X9_init : GoodIn wsX11_image wsX9_init := goodIn_r _ [8, 9, 10, 11, 12, 13, 14, 15, 16, 17, 18, 19, 20, 21, 22, 23, 24, 25, 26, 27, 28, 29, 30, 31, 32, 33, 34, 35, 36, 37, 38, 39, 40, 41, 42, 43, 44, 45, 46, 47, 48, 49, 50, 51, 52, 53, 54, 55, 56, 57, 58, 59, 60, 107, 108, 101, 102, 103, 104, 105, 106, 109, 110, 111, 112, 113, 114] (by decide +kernel) (by decide +kernel)
set_option maxRecDepth 20000 in
theorem gX11_image_X9_init : GoodIn wsX11_image (wsX9_init) := ggX11_image_X9_init
set_option maxRecDepth 20000 in
theorem ggX11_image_X9_copy : GoodIn wsX11_image wsX9_copy := goodIn_r _ [64, 15, 19, 20, 24, 28, 65, 66, 67, 68, 69, 70, 14, 71, 72, 34, 73, 74, 75, 76, 77, 78, 79, 18, 80, 81, 47, 39, 40, 41, 42, 82, 83, 84, 85, 23, 86, 54, 53, 87, 88, 89, 90, 27, 91, 59, 60, 101, 102, 103, 104, 105, 106, 113, 114, 107, 108, 109, 110, 111, 112] (by decide +kernel) (by decide +kernel)
set_option maxRecDepth 20000 in
theorem gX11_image_X9_copy : GoodIn wsX11_image (wsV RX11 289 RX9 yX9_copy wsX9_copy) := goodIn_app (goodIn_of _ (by decide +kernel)) ggX11_image_X9_copy
theorem dX11_image_0 : decode cX11_image 0 = .ok (.iload_n 1, 1) := by decide +kernel
theorem dX11_image_1 : decode cX11_image 1 = .ok (.ifCond .lt 8, 3) := by decide +kernel
theorem dX11_image_4 : decode cX11_image 4 = .ok (.iload_n 1, 1) := by decide +kernel
theorem dX11_image_5 : decode cX11_image 5 = .ok (.iconst 3, 1) := by decide +kernel
theorem dX11_image_6 : decode cX11_image 6 = .ok (.if_icmp .lt 5, 3) := by decide +kernel
theorem dX11_image_9 : decode cX11_image 9 = .ok (.iconst 0, 1) := by decide +kernel
theorem dX11_image_10 : decode cX11_image 10 = .ok (.ireturn, 1) := by decide +kernel
theorem dX11_image_11 : decode cX11_image 11 = .ok (.aload_n 0, 1) := by decide +kernel
theorem dX11_image_12 : decode cX11_image 12 = .ok (.getfield 16, 3) := by decide +kernel
theorem dX11_image_15 : decode cX11_image 15 = .ok (.iload_n 1, 1) := by decide +kernel
theorem dX11_image_16 : decode cX11_image 16 = .ok (.aaload, 1) := by decide +kernel
theorem dX11_image_17 : decode cX11_image 17 = .ok (.ifnonnull 16, 3) := by decide +kernel
theorem dX11_image_20 : decode cX11_image 20 = .ok (.aload_n 0, 1) := by decide +kernel
theorem dX11_image_21 : decode cX11_image 21 = .ok (.getfield 16, 3) := by decide +kernel
theorem dX11_image_24 : decode cX11_image 24 = .ok (.iload_n 1, 1) := by decide +kernel
theorem dX11_image_25 : decode cX11_image 25 = .ok (.new 9, 3) := by decide +kernel
theorem dX11_image_28 : decode cX11_image 28 = .ok (.dup, 1) := by decide +kernel
theorem dX11_image_29 : decode cX11_image 29 = .ok (.invokespecial 11, 3) := by decide +kernel
theorem dX11_image_32 : decode cX11_image 32 = .ok (.aastore, 1) := by decide +kernel
theorem dX11_image_33 : decode cX11_image 33 = .ok (.aload_n 0, 1) := by decide +kernel
theorem dX11_image_34 : decode cX11_image 34 = .ok (.getfield 16, 3) := by decide +kernel
theorem dX11_image_37 : decode cX11_image 37 = .ok (.iload_n 1, 1) := by decide +kernel
theorem dX11_image_38 : decode cX11_image 38 = .ok (.aaload, 1) := by decide +kernel
theorem dX11_image_39 : decode cX11_image 39 = .ok (.aload_n 0, 1) := by decide +kernel
theorem dX11_image_40 : decode cX11_image 40 = .ok (.getfield 12, 3) := by decide +kernel
theorem dX11_image_43 : decode cX11_image 43 = .ok (.invokevirtual 289, 3) := by decide +kernel
theorem dX11_image_46 : decode cX11_image 46 = .ok (.iconst 1, 1) := by decide +kernel
theorem dX11_image_47 : decode cX11_image 47 = .ok (.ireturn, 1) := by decide +kernel
set_option maxRecDepth 20000 in
theorem ggX11_again_X9_copy : GoodIn wsX11_again wsX9_copy := goodIn_r _ [10, 11, 12, 13, 14, 15, 16, 17, 18, 19, 20, 21, 22, 23, 24, 25, 26, 27, 28, 29, 30, 31, 32, 33, 34, 35, 36, 37, 38, 39, 40, 41, 42, 43, 44, 45, 46, 47, 48, 49, 50, 51, 52, 53, 54, 55, 56, 201, 202, 203, 204, 205, 206, 207, 208, 209, 210, 211, 212, 213, 214] (by decide +kernel) (by decide +kernel)
set_option maxRecDepth 20000 in
theorem gX11_again_X9_copy : GoodIn wsX11_again (wsV RX11 289 RX9 yX9_copy wsX9_copy) := goodIn_app (goodIn_of _ (by decide +kernel)) ggX11_again_X9_copy
set_option maxRecDepth 20000 in
theorem ggX11_again_X4_clear : GoodIn wsX11_again wsX4_clear := goodIn_r _ [61, 62, 215, 216] (by decide +kernel) (by decide +kernel)
set_option maxRecDepth 20000 in
theorem gX11_again_X4_clear : GoodIn wsX11_again (wsV RX11 105 RX4 yX4_clear wsX4_clear) := goodIn_app (goodIn_of _ (by decide +kernel)) ggX11_again_X4_clear
set_option maxRecDepth 20000 in
theorem ggX11_again_X1_lay : GoodIn wsX11_again wsX1_lay := goodIn_r _ [67, 68, 69, 70, 71, 72, 66, 73, 74, 75, 76, 45, 77, 47, 78, 79, 80, 81, 48, 82, 83, 84, 85, 86, 87, 88, 89, 90, 91, 92, 93, 94, 95, 96, 97, 98, 99, 100, 101, 102, 103, 104, 105, 106, 107, 108, 109, 110, 111, 112, 113, 114, 115, 116, 117, 118, 119, 120, 121, 122, 123, 124, 125, 126, 127, 217, 218, 219, 220, 221, 222, 223, 224, 225, 213, 214] (by decide +kernel) (by decide +kernel)
set_option maxRecDepth 20000 in
theorem gX11_again_X1_lay : GoodIn wsX11_again (wsV RX11 38 RX1 yX1_lay wsX1_lay) := goodIn_app (goodIn_of _ (by decide +kernel)) ggX11_again_X1_lay
set_option maxRecDepth 20000 in
theorem ggX11_again_X11_layIndex : GoodIn wsX11_again wsX11_layIndex := goodIn_r _ [132, 133, 134, 2, 135, 136, 137, 138, 139, 140, 141, 142, 143, 144, 33, 145, 35, 146, 147, 148, 149, 150, 151, 152, 153, 36, 154, 155, 156, 157, 158, 159, 113, 160, 161, 162, 163, 164, 165, 166, 167, 168, 169, 112, 114, 115, 116, 117, 118, 119, 120, 121, 122, 123, 170, 171, 172, 173, 38, 39, 40, 174, 175, 176, 177, 178, 179, 180, 181, 182, 183, 41, 27, 28, 29, 184, 185, 186, 187, 188, 189, 190, 191, 192, 193, 194, 195, 196, 197, 198, 199, 200, 201, 202, 203, 204, 205, 206, 226, 211, 212] (by decide +kernel) (by decide +kernel)
set_option maxRecDepth 20000 in
theorem gX11_again_X11_layIndex : GoodIn wsX11_again (wsV RX11 292 RX11 yX11_layIndex wsX11_layIndex) := goodIn_app (goodIn_of _ (by decide +kernel)) ggX11_again_X11_layIndex
theorem dX11_again_0 : decode cX11_again 0 = .ok (.iload_n 1, 1) := by decide +kernel
theorem dX11_again_1 : decode cX11_again 1 = .ok (.ifCond .lt 17, 3) := by decide +kernel
theorem dX11_again_4 : decode cX11_again 4 = .ok (.iload_n 1, 1) := by decide +kernel
theorem dX11_again_5 : decode cX11_again 5 = .ok (.iconst 3, 1) := by decide +kernel
theorem dX11_again_6 : decode cX11_again 6 = .ok (.if_icmp .ge 12, 3) := by decide +kernel
theorem dX11_again_9 : decode cX11_again 9 = .ok (.aload_n 0, 1) := by decide +kernel
theorem dX11_again_10 : decode cX11_again 10 = .ok (.getfield 16, 3) := by decide +kernel
theorem dX11_again_13 : decode cX11_again 13 = .ok (.iload_n 1, 1) := by decide +kernel
theorem dX11_again_14 : decode cX11_again 14 = .ok (.aaload, 1) := by decide +kernel
theorem dX11_again_15 : decode cX11_again 15 = .ok (.ifnonnull 5, 3) := by decide +kernel
theorem dX11_again_18 : decode cX11_again 18 = .ok (.iconst 0, 1) := by decide +kernel
theorem dX11_again_19 : decode cX11_again 19 = .ok (.ireturn, 1) := by decide +kernel
theorem dX11_again_20 : decode cX11_again 20 = .ok (.aload_n 0, 1) := by decide +kernel
theorem dX11_again_21 : decode cX11_again 21 = .ok (.getfield 12, 3) := by decide +kernel
theorem dX11_again_24 : decode cX11_again 24 = .ok (.aload_n 0, 1) := by decide +kernel
theorem dX11_again_25 : decode cX11_again 25 = .ok (.getfield 16, 3) := by decide +kernel
theorem dX11_again_28 : decode cX11_again 28 = .ok (.iload_n 1, 1) := by decide +kernel
theorem dX11_again_29 : decode cX11_again 29 = .ok (.aaload, 1) := by decide +kernel
theorem dX11_again_30 : decode cX11_again 30 = .ok (.invokevirtual 289, 3) := by decide +kernel
theorem dX11_again_33 : decode cX11_again 33 = .ok (.aload_n 0, 1) := by decide +kernel
theorem dX11_again_34 : decode cX11_again 34 = .ok (.getfield 23, 3) := by decide +kernel
theorem dX11_again_37 : decode cX11_again 37 = .ok (.invokevirtual 105, 3) := by decide +kernel
theorem dX11_again_40 : decode cX11_again 40 = .ok (.aload_n 0, 1) := by decide +kernel
theorem dX11_again_41 : decode cX11_again 41 = .ok (.getfield 30, 3) := by decide +kernel
theorem dX11_again_44 : decode cX11_again 44 = .ok (.aload_n 0, 1) := by decide +kernel
theorem dX11_again_45 : decode cX11_again 45 = .ok (.getfield 12, 3) := by decide +kernel
theorem dX11_again_48 : decode cX11_again 48 = .ok (.getfield 34, 3) := by decide +kernel
theorem dX11_again_51 : decode cX11_again 51 = .ok (.invokevirtual 38, 3) := by decide +kernel
theorem dX11_again_54 : decode cX11_again 54 = .ok (.aload_n 0, 1) := by decide +kernel
theorem dX11_again_55 : decode cX11_again 55 = .ok (.invokevirtual 292, 3) := by decide +kernel
theorem dX11_again_58 : decode cX11_again 58 = .ok (.iconst 1, 1) := by decide +kernel
theorem dX11_again_59 : decode cX11_again 59 = .ok (.ireturn, 1) := by decide +kernel
theorem dX11_isLetter_0 : decode cX11_isLetter 0 = .ok (.iload_n 0, 1) := by decide +kernel
theorem dX11_isLetter_1 : decode cX11_isLetter 1 = .ok (.bipush 97, 2) := by decide +kernel
theorem dX11_isLetter_3 : decode cX11_isLetter 3 = .ok (.if_icmp .lt 13, 3) := by decide +kernel
theorem dX11_isLetter_6 : decode cX11_isLetter 6 = .ok (.iload_n 0, 1) := by decide +kernel
theorem dX11_isLetter_7 : decode cX11_isLetter 7 = .ok (.bipush 122, 2) := by decide +kernel
theorem dX11_isLetter_9 : decode cX11_isLetter 9 = .ok (.if_icmp .gt 7, 3) := by decide +kernel
theorem dX11_isLetter_12 : decode cX11_isLetter 12 = .ok (.iconst 1, 1) := by decide +kernel
theorem dX11_isLetter_13 : decode cX11_isLetter 13 = .ok (.goto 4, 3) := by decide +kernel
theorem dX11_isLetter_16 : decode cX11_isLetter 16 = .ok (.iconst 0, 1) := by decide +kernel
theorem dX11_isLetter_17 : decode cX11_isLetter 17 = .ok (.ireturn, 1) := by decide +kernel
set_option maxRecDepth 20000 in
theorem ggX11_setDictionary_X7_copy : GoodIn wsX11_setDictionary wsX7_copy := goodIn_r _ [7, 8, 9, 10, 11, 12, 13, 14, 15, 16, 17, 117, 118] (by decide +kernel) (by decide +kernel)
set_option maxRecDepth 20000 in
theorem gX11_setDictionary_X7_copy : GoodIn wsX11_setDictionary (wsV RX11 295 RX7 yX7_copy wsX7_copy) := goodIn_app (goodIn_of _ (by decide +kernel)) ggX11_setDictionary_X7_copy
set_option maxRecDepth 20000 in
theorem ggX11_setDictionary_X9_emptyBatch : GoodIn wsX11_setDictionary wsX9_emptyBatch := goodIn_r _ [22, 23, 24, 25, 26, 4, 5, 6, 7, 8, 9, 10, 11, 12, 13, 14, 15, 16, 17, 111, 112, 113, 114, 115, 116, 117, 118] (by decide +kernel) (by decide +kernel)
set_option maxRecDepth 20000 in
theorem gX11_setDictionary_X9_emptyBatch : GoodIn wsX11_setDictionary (wsV RX11 151 RX9 yX9_emptyBatch wsX9_emptyBatch) := goodIn_app (goodIn_of _ (by decide +kernel)) ggX11_setDictionary_X9_emptyBatch
set_option maxRecDepth 20000 in
theorem ggX11_setDictionary_X11_layIndex : GoodIn wsX11_setDictionary wsX11_layIndex := goodIn_r _ [31, 32, 33, 1, 2, 34, 35, 36, 37, 38, 39, 40, 41, 42, 6, 43, 8, 44, 45, 46, 47, 48, 49, 50, 51, 9, 52, 53, 54, 55, 56, 57, 58, 59, 60, 61, 62, 63, 64, 65, 66, 67, 68, 69, 70, 71, 72, 73, 74, 75, 76, 77, 78, 79, 80, 81, 82, 83, 11, 12, 13, 84, 85, 86, 87, 88, 89, 90, 91, 92, 93, 14, 15, 16, 17, 94, 95, 96, 97, 98, 99, 100, 101, 102, 103, 104, 105, 106, 107, 108, 109, 110, 111, 112, 113, 114, 115, 116, 119, 117, 118] (by decide +kernel) (by decide +kernel)
set_option maxRecDepth 20000 in
theorem gX11_setDictionary_X11_layIndex : GoodIn wsX11_setDictionary (wsV RX11 292 RX11 yX11_layIndex wsX11_layIndex) := goodIn_app (goodIn_of _ (by decide +kernel)) ggX11_setDictionary_X11_layIndex
theorem dX11_setDictionary_0 : decode cX11_setDictionary 0 = .ok (.aload_n 0, 1) := by decide +kernel
theorem dX11_setDictionary_1 : decode cX11_setDictionary 1 = .ok (.getfield 12, 3) := by decide +kernel
theorem dX11_setDictionary_4 : decode cX11_setDictionary 4 = .ok (.getfield 112, 3) := by decide +kernel
theorem dX11_setDictionary_7 : decode cX11_setDictionary 7 = .ok (.aload_n 1, 1) := by decide +kernel
theorem dX11_setDictionary_8 : decode cX11_setDictionary 8 = .ok (.invokevirtual 295, 3) := by decide +kernel
theorem dX11_setDictionary_11 : decode cX11_setDictionary 11 = .ok (.aload_n 0, 1) := by decide +kernel
theorem dX11_setDictionary_12 : decode cX11_setDictionary 12 = .ok (.getfield 12, 3) := by decide +kernel
theorem dX11_setDictionary_15 : decode cX11_setDictionary 15 = .ok (.invokevirtual 151, 3) := by decide +kernel
theorem dX11_setDictionary_18 : decode cX11_setDictionary 18 = .ok (.aload_n 0, 1) := by decide +kernel
theorem dX11_setDictionary_19 : decode cX11_setDictionary 19 = .ok (.invokevirtual 292, 3) := by decide +kernel
theorem dX11_setDictionary_22 : decode cX11_setDictionary 22 = .ok (.return_, 1) := by decide +kernel
set_option maxRecDepth 20000 in
theorem ggX11_layIndex_X3_lay : GoodIn wsX11_layIndex wsX3_lay := goodIn_r _ [9, 10, 11, 12, 13, 14, 15, 16, 17, 18, 19, 20, 21, 22, 23, 24, 25, 26, 27, 28, 29, 30, 31, 32, 33, 34, 35, 36, 37, 38, 39, 40, 41, 42, 43, 44, 45, 46, 47, 48, 49, 50, 51, 52, 53, 54, 55, 56, 57, 58, 59, 60, 61, 62, 63, 64, 65, 8, 66, 67, 68, 69, 70, 71, 72, 73, 74, 75, 76, 77, 78, 79, 80, 81, 82, 98, 99, 100] (by decide +kernel) (by decide +kernel)
set_option maxRecDepth 20000 in
theorem gX11_layIndex_X3_lay : GoodIn wsX11_layIndex (wsV RX11 297 RX3 yX3_lay wsX3_lay) := goodIn_app (goodIn_of _ (by decide +kernel)) ggX11_layIndex_X3_lay
theorem dX11_layIndex_0 : decode cX11_layIndex 0 = .ok (.aload_n 0, 1) := by decide +kernel
theorem dX11_layIndex_1 : decode cX11_layIndex 1 = .ok (.getfield 45, 3) := by decide +kernel
theorem dX11_layIndex_4 : decode cX11_layIndex 4 = .ok (.astore_n 1, 1) := by decide +kernel
theorem dX11_layIndex_5 : decode cX11_layIndex 5 = .ok (.aload_n 0, 1) := by decide +kernel
theorem dX11_layIndex_6 : decode cX11_layIndex 6 = .ok (.aload_n 0, 1) := by decide +kernel
theorem dX11_layIndex_7 : decode cX11_layIndex 7 = .ok (.getfield 49, 3) := by decide +kernel
theorem dX11_layIndex_10 : decode cX11_layIndex 10 = .ok (.putfield 45, 3) := by decide +kernel
theorem dX11_layIndex_13 : decode cX11_layIndex 13 = .ok (.aload_n 0, 1) := by decide +kernel
theorem dX11_layIndex_14 : decode cX11_layIndex 14 = .ok (.aload_n 1, 1) := by decide +kernel
theorem dX11_layIndex_15 : decode cX11_layIndex 15 = .ok (.putfield 49, 3) := by decide +kernel
theorem dX11_layIndex_18 : decode cX11_layIndex 18 = .ok (.aload_n 0, 1) := by decide +kernel
theorem dX11_layIndex_19 : decode cX11_layIndex 19 = .ok (.getfield 45, 3) := by decide +kernel
theorem dX11_layIndex_22 : decode cX11_layIndex 22 = .ok (.aload_n 0, 1) := by decide +kernel
theorem dX11_layIndex_23 : decode cX11_layIndex 23 = .ok (.getfield 12, 3) := by decide +kernel
theorem dX11_layIndex_26 : decode cX11_layIndex 26 = .ok (.getfield 112, 3) := by decide +kernel
theorem dX11_layIndex_29 : decode cX11_layIndex 29 = .ok (.invokevirtual 297, 3) := by decide +kernel
theorem dX11_layIndex_32 : decode cX11_layIndex 32 = .ok (.return_, 1) := by decide +kernel
theorem dX11_listOf_0 : decode cX11_listOf 0 = .ok (.iload_n 1, 1) := by decide +kernel
theorem dX11_listOf_1 : decode cX11_listOf 1 = .ok (.ifCond .eq 13, 3) := by decide +kernel
theorem dX11_listOf_4 : decode cX11_listOf 4 = .ok (.aload_n 0, 1) := by decide +kernel
theorem dX11_listOf_5 : decode cX11_listOf 5 = .ok (.getfield 12, 3) := by decide +kernel
theorem dX11_listOf_8 : decode cX11_listOf 8 = .ok (.getfield 141, 3) := by decide +kernel
theorem dX11_listOf_11 : decode cX11_listOf 11 = .ok (.goto 10, 3) := by decide +kernel
theorem dX11_listOf_14 : decode cX11_listOf 14 = .ok (.aload_n 0, 1) := by decide +kernel
theorem dX11_listOf_15 : decode cX11_listOf 15 = .ok (.getfield 12, 3) := by decide +kernel
theorem dX11_listOf_18 : decode cX11_listOf 18 = .ok (.getfield 112, 3) := by decide +kernel
theorem dX11_listOf_21 : decode cX11_listOf 21 = .ok (.areturn, 1) := by decide +kernel
set_option maxRecDepth 20000 in
theorem ggX11_countMore_X11_answersOf : GoodIn wsX11_countMore wsX11_answersOf := goodIn_r _ [10, 11, 12, 13, 14, 15, 16, 17, 18, 19, 20, 21, 22, 23, 24, 25, 26, 27, 28, 29, 30, 31, 32, 33, 34, 35, 36, 37, 38, 39, 40, 41, 42, 43, 44, 45, 46, 47, 48, 49, 50, 51, 52, 125, 126, 127, 128] (by decide +kernel) (by decide +kernel)
set_option maxRecDepth 20000 in
theorem gX11_countMore_X11_answersOf : GoodIn wsX11_countMore (va_wsS RX11 167 yX11_answersOf wsX11_answersOf) := goodIn_app (goodIn_of _ (by decide +kernel)) ggX11_countMore_X11_answersOf
set_option maxRecDepth 20000 in
theorem ggX11_countMore_X11_stem : GoodIn wsX11_countMore wsX11_stem := goodIn_r _ [56, 1, 2, 57, 58, 59, 60, 61, 62, 63, 64, 65, 51, 66, 67, 68, 69, 70, 50, 52, 17, 18, 19, 14, 20, 21, 22, 23, 24, 25, 16, 71, 34, 35, 36, 37, 38, 39, 72, 110, 111, 112, 113, 114, 115, 116, 117, 118, 119, 120, 121, 122, 123, 124, 125, 126] (by decide +kernel) (by decide +kernel)
set_option maxRecDepth 20000 in
theorem gX11_countMore_X11_stem : GoodIn wsX11_countMore (wsV RX11 299 RX11 yX11_stem wsX11_stem) := goodIn_app (goodIn_of _ (by decide +kernel)) ggX11_countMore_X11_stem
set_option maxRecDepth 20000 in
theorem ggX11_countMore_X11_placeToAsk : GoodIn wsX11_countMore wsX11_placeToAsk := goodIn_r _ [76, 77, 78, 79, 9, 80, 81, 1, 2, 82, 83, 84, 85, 11, 12, 13, 14, 15, 16, 17, 18, 19, 20, 21, 22, 23, 24, 25, 72, 38, 35, 39, 86, 68, 51, 69, 70, 50, 52, 110, 111, 112, 113, 114, 115, 116, 117, 118, 119, 120, 121, 122, 123, 124, 125, 126] (by decide +kernel) (by decide +kernel)
set_option maxRecDepth 20000 in
theorem gX11_countMore_X11_placeToAsk : GoodIn wsX11_countMore (wsV RX11 302 RX11 yX11_placeToAsk wsX11_placeToAsk) := goodIn_app (goodIn_of _ (by decide +kernel)) ggX11_countMore_X11_placeToAsk
set_option maxRecDepth 20000 in
theorem ggX11_countMore_X4_size : GoodIn wsX11_countMore wsX4_size := goodIn_r _ [91, 92, 129, 130] (by decide +kernel) (by decide +kernel)
set_option maxRecDepth 20000 in
theorem gX11_countMore_X4_size : GoodIn wsX11_countMore (wsV RX11 161 RX4 yX4_size wsX4_size) := goodIn_app (goodIn_of _ (by decide +kernel)) ggX11_countMore_X4_size
set_option maxRecDepth 20000 in
theorem ggX11_countMore_X10_size : GoodIn wsX11_countMore wsX10_size := goodIn_r _ [97, 98, 131, 132] (by decide +kernel) (by decide +kernel)
set_option maxRecDepth 20000 in
theorem gX11_countMore_X10_size : GoodIn wsX11_countMore (wsV RX11 77 RX10 yX10_size wsX10_size) := goodIn_app (goodIn_of _ (by decide +kernel)) ggX11_countMore_X10_size
set_option maxRecDepth 20000 in
theorem ggX11_countMore_X3_size : GoodIn wsX11_countMore wsX3_size := goodIn_r _ [103, 104, 105, 12, 13, 14, 15, 16, 133, 125, 126] (by decide +kernel) (by decide +kernel)
set_option maxRecDepth 20000 in
theorem gX11_countMore_X3_size : GoodIn wsX11_countMore (wsV RX11 166 RX3 yX3_size wsX3_size) := goodIn_app (goodIn_of _ (by decide +kernel)) ggX11_countMore_X3_size
set_option maxRecDepth 20000 in
theorem ggX11_countMore_X7_size : GoodIn wsX11_countMore wsX7_size := goodIn_r _ [15, 16, 125, 126] (by decide +kernel) (by decide +kernel)
set_option maxRecDepth 20000 in
theorem gX11_countMore_X7_size : GoodIn wsX11_countMore (wsV RX11 115 RX7 yX7_size wsX7_size) := goodIn_app (goodIn_of _ (by decide +kernel)) ggX11_countMore_X7_size
set_option maxRecDepth 20000 in
theorem ggX11_countMore_X11_wordsThatBeginAlone : GoodIn wsX11_countMore wsX11_wordsThatBeginAlone := goodIn_r _ [109, 1, 2, 11, 12, 13, 14, 15, 16, 17, 18, 19, 20, 21, 22, 23, 24, 25, 72, 38, 35, 39, 110, 111, 112, 113, 114, 115, 116, 117, 118, 119, 120, 121, 122, 123, 124, 125, 126] (by decide +kernel) (by decide +kernel)
set_option maxRecDepth 20000 in
theorem gX11_countMore_X11_wordsThatBeginAlone : GoodIn wsX11_countMore (wsV RX11 305 RX11 yX11_wordsThatBeginAlone wsX11_wordsThatBeginAlone) := goodIn_app (goodIn_of _ (by decide +kernel)) ggX11_countMore_X11_wordsThatBeginAlone
theorem dX11_countMore_0 : decode cX11_countMore 0 = .ok (.iload_n 1, 1) := by decide +kernel
theorem dX11_countMore_1 : decode cX11_countMore 1 = .ok (.tableswitch 126 11 16 #[39, 61, 83, 91, 102, 121], 39) := by decide +kernel
theorem dX11_countMore_40 : decode cX11_countMore 40 = .ok (.aload_n 0, 1) := by decide +kernel
theorem dX11_countMore_41 : decode cX11_countMore 41 = .ok (.aload_n 0, 1) := by decide +kernel
theorem dX11_countMore_42 : decode cX11_countMore 42 = .ok (.getfield 12, 3) := by decide +kernel
theorem dX11_countMore_45 : decode cX11_countMore 45 = .ok (.getfield 112, 3) := by decide +kernel
theorem dX11_countMore_48 : decode cX11_countMore 48 = .ok (.aload_n 0, 1) := by decide +kernel
theorem dX11_countMore_49 : decode cX11_countMore 49 = .ok (.getfield 12, 3) := by decide +kernel
theorem dX11_countMore_52 : decode cX11_countMore 52 = .ok (.getfield 34, 3) := by decide +kernel
theorem dX11_countMore_55 : decode cX11_countMore 55 = .ok (.invokestatic 167, 3) := by decide +kernel
theorem dX11_countMore_58 : decode cX11_countMore 58 = .ok (.invokevirtual 299, 3) := by decide +kernel
theorem dX11_countMore_61 : decode cX11_countMore 61 = .ok (.ireturn, 1) := by decide +kernel
theorem dX11_countMore_62 : decode cX11_countMore 62 = .ok (.aload_n 0, 1) := by decide +kernel
theorem dX11_countMore_63 : decode cX11_countMore 63 = .ok (.aload_n 0, 1) := by decide +kernel
theorem dX11_countMore_64 : decode cX11_countMore 64 = .ok (.getfield 12, 3) := by decide +kernel
theorem dX11_countMore_67 : decode cX11_countMore 67 = .ok (.getfield 112, 3) := by decide +kernel
theorem dX11_countMore_70 : decode cX11_countMore 70 = .ok (.aload_n 0, 1) := by decide +kernel
theorem dX11_countMore_71 : decode cX11_countMore 71 = .ok (.getfield 12, 3) := by decide +kernel
theorem dX11_countMore_74 : decode cX11_countMore 74 = .ok (.getfield 34, 3) := by decide +kernel
theorem dX11_countMore_77 : decode cX11_countMore 77 = .ok (.invokestatic 167, 3) := by decide +kernel
theorem dX11_countMore_80 : decode cX11_countMore 80 = .ok (.invokevirtual 302, 3) := by decide +kernel
theorem dX11_countMore_83 : decode cX11_countMore 83 = .ok (.ireturn, 1) := by decide +kernel
theorem dX11_countMore_84 : decode cX11_countMore 84 = .ok (.aload_n 0, 1) := by decide +kernel
theorem dX11_countMore_85 : decode cX11_countMore 85 = .ok (.getfield 23, 3) := by decide +kernel
theorem dX11_countMore_88 : decode cX11_countMore 88 = .ok (.invokevirtual 161, 3) := by decide +kernel
theorem dX11_countMore_91 : decode cX11_countMore 91 = .ok (.ireturn, 1) := by decide +kernel
theorem dX11_countMore_92 : decode cX11_countMore 92 = .ok (.aload_n 0, 1) := by decide +kernel
theorem dX11_countMore_93 : decode cX11_countMore 93 = .ok (.getfield 12, 3) := by decide +kernel
theorem dX11_countMore_96 : decode cX11_countMore 96 = .ok (.getfield 73, 3) := by decide +kernel
theorem dX11_countMore_99 : decode cX11_countMore 99 = .ok (.invokevirtual 77, 3) := by decide +kernel
theorem dX11_countMore_102 : decode cX11_countMore 102 = .ok (.ireturn, 1) := by decide +kernel
theorem dX11_countMore_103 : decode cX11_countMore 103 = .ok (.aload_n 0, 1) := by decide +kernel
theorem dX11_countMore_104 : decode cX11_countMore 104 = .ok (.getfield 45, 3) := by decide +kernel
theorem dX11_countMore_107 : decode cX11_countMore 107 = .ok (.invokevirtual 166, 3) := by decide +kernel
theorem dX11_countMore_110 : decode cX11_countMore 110 = .ok (.aload_n 0, 1) := by decide +kernel
theorem dX11_countMore_111 : decode cX11_countMore 111 = .ok (.getfield 12, 3) := by decide +kernel
theorem dX11_countMore_114 : decode cX11_countMore 114 = .ok (.getfield 112, 3) := by decide +kernel
theorem dX11_countMore_117 : decode cX11_countMore 117 = .ok (.invokevirtual 115, 3) := by decide +kernel
theorem dX11_countMore_120 : decode cX11_countMore 120 = .ok (.isub, 1) := by decide +kernel
theorem dX11_countMore_121 : decode cX11_countMore 121 = .ok (.ireturn, 1) := by decide +kernel
theorem dX11_countMore_122 : decode cX11_countMore 122 = .ok (.aload_n 0, 1) := by decide +kernel
theorem dX11_countMore_123 : decode cX11_countMore 123 = .ok (.invokevirtual 305, 3) := by decide +kernel
theorem dX11_countMore_126 : decode cX11_countMore 126 = .ok (.ireturn, 1) := by decide +kernel
theorem dX11_countMore_127 : decode cX11_countMore 127 = .ok (.iconst (-1), 1) := by decide +kernel
theorem dX11_countMore_128 : decode cX11_countMore 128 = .ok (.ireturn, 1) := by decide +kernel
set_option maxRecDepth 20000 in
theorem ggX11_answersOf_X7_size : GoodIn wsX11_answersOf wsX7_size := goodIn_r _ [5, 6, 43, 44] (by decide +kernel) (by decide +kernel)
set_option maxRecDepth 20000 in
theorem gX11_answersOf_X7_size : GoodIn wsX11_answersOf (wsV RX11 115 RX7 yX7_size wsX7_size) := goodIn_app (goodIn_of _ (by decide +kernel)) ggX11_answersOf_X7_size
set_option maxRecDepth 20000 in
theorem ggX11_answersOf_X7_at : GoodIn wsX11_answersOf wsX7_at := goodIn_r _ [10, 11, 12, 13, 14, 4, 15, 6, 43, 44] (by decide +kernel) (by decide +kernel)
set_option maxRecDepth 20000 in
theorem gX11_answersOf_X7_at : GoodIn wsX11_answersOf (wsV RX11 201 RX7 yX7_at wsX7_at) := goodIn_app (goodIn_of _ (by decide +kernel)) ggX11_answersOf_X7_at
set_option maxRecDepth 20000 in
theorem ggX11_answersOf_X5_isMetBy : GoodIn wsX11_answersOf wsX5_isMetBy := goodIn_r _ [20, 21, 22, 23, 24, 25, 26, 27, 28, 29, 30, 31, 19, 32, 33, 34, 35, 36, 37, 38, 45, 46] (by decide +kernel) (by decide +kernel)
set_option maxRecDepth 20000 in
theorem gX11_answersOf_X5_isMetBy : GoodIn wsX11_answersOf (wsV RX11 208 RX5 yX5_isMetBy wsX5_isMetBy) := goodIn_app (goodIn_of _ (by decide +kernel)) ggX11_answersOf_X5_isMetBy
set_option maxRecDepth 20000 in
theorem ggX11_answersOf_X0_bit : GoodIn wsX11_answersOf wsX0_bit := goodIn_r _ [42] (by decide +kernel) (by decide +kernel)
set_option maxRecDepth 20000 in
theorem gX11_answersOf_X0_bit : GoodIn wsX11_answersOf (va_wsS RX11 308 yX0_bit wsX0_bit) := goodIn_app (goodIn_of _ (by decide +kernel)) ggX11_answersOf_X0_bit
theorem dX11_answersOf_0 : decode cX11_answersOf 0 = .ok (.lconst 0, 1) := by decide +kernel
theorem dX11_answersOf_1 : decode cX11_answersOf 1 = .ok (.lstore_n 2, 1) := by decide +kernel
theorem dX11_answersOf_2 : decode cX11_answersOf 2 = .ok (.iconst 0, 1) := by decide +kernel
theorem dX11_answersOf_3 : decode cX11_answersOf 3 = .ok (.istore 4, 2) := by decide +kernel
theorem dX11_answersOf_5 : decode cX11_answersOf 5 = .ok (.iload 4, 2) := by decide +kernel
theorem dX11_answersOf_7 : decode cX11_answersOf 7 = .ok (.aload_n 0, 1) := by decide +kernel
theorem dX11_answersOf_8 : decode cX11_answersOf 8 = .ok (.invokevirtual 115, 3) := by decide +kernel
theorem dX11_answersOf_11 : decode cX11_answersOf 11 = .ok (.if_icmp .ge 30, 3) := by decide +kernel
theorem dX11_answersOf_14 : decode cX11_answersOf 14 = .ok (.aload_n 1, 1) := by decide +kernel
theorem dX11_answersOf_15 : decode cX11_answersOf 15 = .ok (.aload_n 0, 1) := by decide +kernel
theorem dX11_answersOf_16 : decode cX11_answersOf 16 = .ok (.iload 4, 2) := by decide +kernel
theorem dX11_answersOf_18 : decode cX11_answersOf 18 = .ok (.invokevirtual 201, 3) := by decide +kernel
theorem dX11_answersOf_21 : decode cX11_answersOf 21 = .ok (.invokevirtual 208, 3) := by decide +kernel
theorem dX11_answersOf_24 : decode cX11_answersOf 24 = .ok (.ifCond .eq 11, 3) := by decide +kernel
theorem dX11_answersOf_27 : decode cX11_answersOf 27 = .ok (.lload_n 2, 1) := by decide +kernel
theorem dX11_answersOf_28 : decode cX11_answersOf 28 = .ok (.iload 4, 2) := by decide +kernel
theorem dX11_answersOf_30 : decode cX11_answersOf 30 = .ok (.invokestatic 308, 3) := by decide +kernel
theorem dX11_answersOf_33 : decode cX11_answersOf 33 = .ok (.lor, 1) := by decide +kernel
theorem dX11_answersOf_34 : decode cX11_answersOf 34 = .ok (.lstore_n 2, 1) := by decide +kernel
theorem dX11_answersOf_35 : decode cX11_answersOf 35 = .ok (.iinc 4 1, 3) := by decide +kernel
theorem dX11_answersOf_38 : decode cX11_answersOf 38 = .ok (.goto (-33), 3) := by decide +kernel
theorem dX11_answersOf_41 : decode cX11_answersOf 41 = .ok (.lload_n 2, 1) := by decide +kernel
theorem dX11_answersOf_42 : decode cX11_answersOf 42 = .ok (.lreturn, 1) := by decide +kernel
set_option maxRecDepth 20000 in
theorem ggX11_rangeSize_X1_headOf : GoodIn wsX11_rangeSize wsX1_headOf := goodIn_r _ [7, 8, 9, 10, 11, 6, 12, 13, 56, 57, 58, 59, 60, 61, 62, 63, 64] (by decide +kernel) (by decide +kernel)
set_option maxRecDepth 20000 in
theorem gX11_rangeSize_X1_headOf : GoodIn wsX11_rangeSize (wsV RX11 241 RX1 yX1_headOf wsX1_headOf) := goodIn_app (goodIn_of _ (by decide +kernel)) ggX11_rangeSize_X1_headOf
set_option maxRecDepth 20000 in
theorem ggX11_rangeSize_X1_lengthOf : GoodIn wsX11_rangeSize wsX1_lengthOf := goodIn_r _ [17, 18, 9, 10, 11, 6, 12, 13, 56, 57, 58, 59, 60, 61, 62, 63, 64] (by decide +kernel) (by decide +kernel)
set_option maxRecDepth 20000 in
theorem gX11_rangeSize_X1_lengthOf : GoodIn wsX11_rangeSize (wsV RX11 232 RX1 yX1_lengthOf wsX1_lengthOf) := goodIn_app (goodIn_of _ (by decide +kernel)) ggX11_rangeSize_X1_lengthOf
set_option maxRecDepth 20000 in
theorem ggX11_rangeSize_X3_to : GoodIn wsX11_rangeSize wsX3_to := goodIn_r _ [23, 24, 25, 26, 27, 28, 29, 30, 31, 32, 33, 34, 35, 36, 22, 37, 38, 39, 40, 41, 42, 43, 44, 45, 65, 66, 67] (by decide +kernel) (by decide +kernel)
set_option maxRecDepth 20000 in
theorem gX11_rangeSize_X3_to : GoodIn wsX11_rangeSize (wsV RX11 311 RX3 yX3_to wsX3_to) := goodIn_app (goodIn_of _ (by decide +kernel)) ggX11_rangeSize_X3_to
set_option maxRecDepth 20000 in
theorem ggX11_rangeSize_X3_from : GoodIn wsX11_rangeSize wsX3_from := goodIn_r _ [37, 38, 39, 40, 41, 42, 43, 44, 45, 65, 66, 67] (by decide +kernel) (by decide +kernel)
set_option maxRecDepth 20000 in
theorem gX11_rangeSize_X3_from : GoodIn wsX11_rangeSize (wsV RX11 244 RX3 yX3_from wsX3_from) := goodIn_app (goodIn_of _ (by decide +kernel)) ggX11_rangeSize_X3_from
theorem dX11_rangeSize_0 : decode cX11_rangeSize 0 = .ok (.aload_n 0, 1) := by decide +kernel
theorem dX11_rangeSize_1 : decode cX11_rangeSize 1 = .ok (.getfield 45, 3) := by decide +kernel
theorem dX11_rangeSize_4 : decode cX11_rangeSize 4 = .ok (.aload_n 0, 1) := by decide +kernel
theorem dX11_rangeSize_5 : decode cX11_rangeSize 5 = .ok (.getfield 30, 3) := by decide +kernel
theorem dX11_rangeSize_8 : decode cX11_rangeSize 8 = .ok (.iload_n 1, 1) := by decide +kernel
theorem dX11_rangeSize_9 : decode cX11_rangeSize 9 = .ok (.invokevirtual 241, 3) := by decide +kernel
theorem dX11_rangeSize_12 : decode cX11_rangeSize 12 = .ok (.aload_n 0, 1) := by decide +kernel
theorem dX11_rangeSize_13 : decode cX11_rangeSize 13 = .ok (.getfield 30, 3) := by decide +kernel
theorem dX11_rangeSize_16 : decode cX11_rangeSize 16 = .ok (.iload_n 1, 1) := by decide +kernel
theorem dX11_rangeSize_17 : decode cX11_rangeSize 17 = .ok (.invokevirtual 232, 3) := by decide +kernel
theorem dX11_rangeSize_20 : decode cX11_rangeSize 20 = .ok (.invokevirtual 311, 3) := by decide +kernel
theorem dX11_rangeSize_23 : decode cX11_rangeSize 23 = .ok (.aload_n 0, 1) := by decide +kernel
theorem dX11_rangeSize_24 : decode cX11_rangeSize 24 = .ok (.getfield 45, 3) := by decide +kernel
theorem dX11_rangeSize_27 : decode cX11_rangeSize 27 = .ok (.aload_n 0, 1) := by decide +kernel
theorem dX11_rangeSize_28 : decode cX11_rangeSize 28 = .ok (.getfield 30, 3) := by decide +kernel
theorem dX11_rangeSize_31 : decode cX11_rangeSize 31 = .ok (.iload_n 1, 1) := by decide +kernel
theorem dX11_rangeSize_32 : decode cX11_rangeSize 32 = .ok (.invokevirtual 241, 3) := by decide +kernel
theorem dX11_rangeSize_35 : decode cX11_rangeSize 35 = .ok (.invokevirtual 244, 3) := by decide +kernel
theorem dX11_rangeSize_38 : decode cX11_rangeSize 38 = .ok (.isub, 1) := by decide +kernel
theorem dX11_rangeSize_39 : decode cX11_rangeSize 39 = .ok (.ireturn, 1) := by decide +kernel
set_option maxRecDepth 20000 in
theorem ggX11_wordsOfRun_X1_headOf : GoodIn wsX11_wordsOfRun wsX1_headOf := goodIn_r _ [7, 8, 9, 10, 11, 6, 12, 13, 75, 76, 77, 78, 79, 80, 81, 82, 83] (by decide +kernel) (by decide +kernel)
set_option maxRecDepth 20000 in
theorem gX11_wordsOfRun_X1_headOf : GoodIn wsX11_wordsOfRun (wsV RX11 241 RX1 yX1_headOf wsX1_headOf) := goodIn_app (goodIn_of _ (by decide +kernel)) ggX11_wordsOfRun_X1_headOf
set_option maxRecDepth 20000 in
theorem ggX11_wordsOfRun_X1_lengthOf : GoodIn wsX11_wordsOfRun wsX1_lengthOf := goodIn_r _ [17, 18, 9, 10, 11, 6, 12, 13, 75, 76, 77, 78, 79, 80, 81, 82, 83] (by decide +kernel) (by decide +kernel)
set_option maxRecDepth 20000 in
theorem gX11_wordsOfRun_X1_lengthOf : GoodIn wsX11_wordsOfRun (wsV RX11 232 RX1 yX1_lengthOf wsX1_lengthOf) := goodIn_app (goodIn_of _ (by decide +kernel)) ggX11_wordsOfRun_X1_lengthOf
set_option maxRecDepth 20000 in
theorem ggX11_wordsOfRun_X3_wordsThatTurnTo : GoodIn wsX11_wordsOfRun wsX3_wordsThatTurnTo := goodIn_r _ [23, 24, 25, 26, 22, 27, 28, 29, 30, 31, 32, 33, 34, 35, 36, 37, 38, 39, 40, 41, 42, 43, 44, 45, 46, 47, 48, 49, 50, 51, 52, 53, 54, 55, 56, 57, 58, 59, 60, 61, 62, 63, 64, 65, 84, 85, 86] (by decide +kernel) (by decide +kernel)
set_option maxRecDepth 20000 in
theorem gX11_wordsOfRun_X3_wordsThatTurnTo : GoodIn wsX11_wordsOfRun (wsV RX11 314 RX3 yX3_wordsThatTurnTo wsX3_wordsThatTurnTo) := goodIn_app (goodIn_of _ (by decide +kernel)) ggX11_wordsOfRun_X3_wordsThatTurnTo
theorem dX11_wordsOfRun_0 : decode cX11_wordsOfRun 0 = .ok (.aload_n 0, 1) := by decide +kernel
theorem dX11_wordsOfRun_1 : decode cX11_wordsOfRun 1 = .ok (.getfield 45, 3) := by decide +kernel
theorem dX11_wordsOfRun_4 : decode cX11_wordsOfRun 4 = .ok (.aload_n 0, 1) := by decide +kernel
theorem dX11_wordsOfRun_5 : decode cX11_wordsOfRun 5 = .ok (.getfield 30, 3) := by decide +kernel
theorem dX11_wordsOfRun_8 : decode cX11_wordsOfRun 8 = .ok (.iload_n 1, 1) := by decide +kernel
theorem dX11_wordsOfRun_9 : decode cX11_wordsOfRun 9 = .ok (.invokevirtual 241, 3) := by decide +kernel
theorem dX11_wordsOfRun_12 : decode cX11_wordsOfRun 12 = .ok (.aload_n 0, 1) := by decide +kernel
theorem dX11_wordsOfRun_13 : decode cX11_wordsOfRun 13 = .ok (.getfield 30, 3) := by decide +kernel
theorem dX11_wordsOfRun_16 : decode cX11_wordsOfRun 16 = .ok (.iload_n 1, 1) := by decide +kernel
theorem dX11_wordsOfRun_17 : decode cX11_wordsOfRun 17 = .ok (.invokevirtual 232, 3) := by decide +kernel
theorem dX11_wordsOfRun_20 : decode cX11_wordsOfRun 20 = .ok (.invokevirtual 314, 3) := by decide +kernel
theorem dX11_wordsOfRun_23 : decode cX11_wordsOfRun 23 = .ok (.lreturn, 1) := by decide +kernel
set_option maxRecDepth 20000 in
theorem ggX11_longestRun_X1_runs : GoodIn wsX11_longestRun wsX1_runs := goodIn_r _ [6, 7, 26, 27, 28, 29, 30, 31, 32, 33, 34] (by decide +kernel) (by decide +kernel)
set_option maxRecDepth 20000 in
theorem gX11_longestRun_X1_runs : GoodIn wsX11_longestRun (wsV RX11 177 RX1 yX1_runs wsX1_runs) := goodIn_app (goodIn_of _ (by decide +kernel)) ggX11_longestRun_X1_runs
set_option maxRecDepth 20000 in
theorem ggX11_longestRun_X1_lengthOf : GoodIn wsX11_longestRun wsX1_lengthOf := goodIn_r _ [11, 12, 13, 14, 15, 5, 16, 7, 26, 27, 28, 29, 30, 31, 32, 33, 34] (by decide +kernel) (by decide +kernel)
set_option maxRecDepth 20000 in
theorem gX11_longestRun_X1_lengthOf : GoodIn wsX11_longestRun (wsV RX11 232 RX1 yX1_lengthOf wsX1_lengthOf) := goodIn_app (goodIn_of _ (by decide +kernel)) ggX11_longestRun_X1_lengthOf
theorem dX11_longestRun_0 : decode cX11_longestRun 0 = .ok (.iconst 0, 1) := by decide +kernel
theorem dX11_longestRun_1 : decode cX11_longestRun 1 = .ok (.istore_n 1, 1) := by decide +kernel
theorem dX11_longestRun_2 : decode cX11_longestRun 2 = .ok (.iconst 1, 1) := by decide +kernel
theorem dX11_longestRun_3 : decode cX11_longestRun 3 = .ok (.istore_n 2, 1) := by decide +kernel
theorem dX11_longestRun_4 : decode cX11_longestRun 4 = .ok (.iload_n 2, 1) := by decide +kernel
theorem dX11_longestRun_5 : decode cX11_longestRun 5 = .ok (.aload_n 0, 1) := by decide +kernel
theorem dX11_longestRun_6 : decode cX11_longestRun 6 = .ok (.getfield 30, 3) := by decide +kernel
theorem dX11_longestRun_9 : decode cX11_longestRun 9 = .ok (.invokevirtual 177, 3) := by decide +kernel
theorem dX11_longestRun_12 : decode cX11_longestRun 12 = .ok (.if_icmp .ge 30, 3) := by decide +kernel
theorem dX11_longestRun_15 : decode cX11_longestRun 15 = .ok (.aload_n 0, 1) := by decide +kernel
theorem dX11_longestRun_16 : decode cX11_longestRun 16 = .ok (.getfield 30, 3) := by decide +kernel
theorem dX11_longestRun_19 : decode cX11_longestRun 19 = .ok (.iload_n 2, 1) := by decide +kernel
theorem dX11_longestRun_20 : decode cX11_longestRun 20 = .ok (.invokevirtual 232, 3) := by decide +kernel
theorem dX11_longestRun_23 : decode cX11_longestRun 23 = .ok (.aload_n 0, 1) := by decide +kernel
theorem dX11_longestRun_24 : decode cX11_longestRun 24 = .ok (.getfield 30, 3) := by decide +kernel
theorem dX11_longestRun_27 : decode cX11_longestRun 27 = .ok (.iload_n 1, 1) := by decide +kernel
theorem dX11_longestRun_28 : decode cX11_longestRun 28 = .ok (.invokevirtual 232, 3) := by decide +kernel
theorem dX11_longestRun_31 : decode cX11_longestRun 31 = .ok (.if_icmp .le 5, 3) := by decide +kernel
theorem dX11_longestRun_34 : decode cX11_longestRun 34 = .ok (.iload_n 2, 1) := by decide +kernel
theorem dX11_longestRun_35 : decode cX11_longestRun 35 = .ok (.istore_n 1, 1) := by decide +kernel
theorem dX11_longestRun_36 : decode cX11_longestRun 36 = .ok (.iinc 2 1, 3) := by decide +kernel
theorem dX11_longestRun_39 : decode cX11_longestRun 39 = .ok (.goto (-35), 3) := by decide +kernel
theorem dX11_longestRun_42 : decode cX11_longestRun 42 = .ok (.iload_n 1, 1) := by decide +kernel
theorem dX11_longestRun_43 : decode cX11_longestRun 43 = .ok (.ireturn, 1) := by decide +kernel
set_option maxRecDepth 20000 in
theorem ggX11_narrowestRun_X1_runs : GoodIn wsX11_narrowestRun wsX1_runs := goodIn_r _ [6, 7, 65, 66, 67, 68, 69, 70, 71, 72, 73] (by decide +kernel) (by decide +kernel)
set_option maxRecDepth 20000 in
theorem gX11_narrowestRun_X1_runs : GoodIn wsX11_narrowestRun (wsV RX11 177 RX1 yX1_runs wsX1_runs) := goodIn_app (goodIn_of _ (by decide +kernel)) ggX11_narrowestRun_X1_runs
set_option maxRecDepth 20000 in
theorem ggX11_narrowestRun_X11_rangeSize : GoodIn wsX11_narrowestRun wsX11_rangeSize := goodIn_r _ [12, 13, 1, 14, 15, 16, 5, 17, 18, 19, 20, 21, 22, 7, 23, 24, 25, 26, 27, 28, 29, 30, 31, 32, 33, 34, 35, 36, 37, 38, 39, 40, 41, 42, 43, 44, 45, 46, 47, 48, 49, 50, 51, 52, 53, 54, 55, 56, 57, 58, 59, 60, 61, 62, 63, 64, 65, 66, 67, 68, 69, 70, 71, 72, 73, 74, 75, 76] (by decide +kernel) (by decide +kernel)
set_option maxRecDepth 20000 in
theorem gX11_narrowestRun_X11_rangeSize : GoodIn wsX11_narrowestRun (wsV RX11 238 RX11 yX11_rangeSize wsX11_rangeSize) := goodIn_app (goodIn_of _ (by decide +kernel)) ggX11_narrowestRun_X11_rangeSize
theorem dX11_narrowestRun_0 : decode cX11_narrowestRun 0 = .ok (.iconst 0, 1) := by decide +kernel
theorem dX11_narrowestRun_1 : decode cX11_narrowestRun 1 = .ok (.istore_n 1, 1) := by decide +kernel
theorem dX11_narrowestRun_2 : decode cX11_narrowestRun 2 = .ok (.iconst 1, 1) := by decide +kernel
theorem dX11_narrowestRun_3 : decode cX11_narrowestRun 3 = .ok (.istore_n 2, 1) := by decide +kernel
theorem dX11_narrowestRun_4 : decode cX11_narrowestRun 4 = .ok (.iload_n 2, 1) := by decide +kernel
theorem dX11_narrowestRun_5 : decode cX11_narrowestRun 5 = .ok (.aload_n 0, 1) := by decide +kernel
theorem dX11_narrowestRun_6 : decode cX11_narrowestRun 6 = .ok (.getfield 30, 3) := by decide +kernel
theorem dX11_narrowestRun_9 : decode cX11_narrowestRun 9 = .ok (.invokevirtual 177, 3) := by decide +kernel
theorem dX11_narrowestRun_12 : decode cX11_narrowestRun 12 = .ok (.if_icmp .ge 24, 3) := by decide +kernel
theorem dX11_narrowestRun_15 : decode cX11_narrowestRun 15 = .ok (.aload_n 0, 1) := by decide +kernel
theorem dX11_narrowestRun_16 : decode cX11_narrowestRun 16 = .ok (.iload_n 2, 1) := by decide +kernel
theorem dX11_narrowestRun_17 : decode cX11_narrowestRun 17 = .ok (.invokevirtual 238, 3) := by decide +kernel
theorem dX11_narrowestRun_20 : decode cX11_narrowestRun 20 = .ok (.aload_n 0, 1) := by decide +kernel
theorem dX11_narrowestRun_21 : decode cX11_narrowestRun 21 = .ok (.iload_n 1, 1) := by decide +kernel
theorem dX11_narrowestRun_22 : decode cX11_narrowestRun 22 = .ok (.invokevirtual 238, 3) := by decide +kernel
theorem dX11_narrowestRun_25 : decode cX11_narrowestRun 25 = .ok (.if_icmp .ge 5, 3) := by decide +kernel
theorem dX11_narrowestRun_28 : decode cX11_narrowestRun 28 = .ok (.iload_n 2, 1) := by decide +kernel
theorem dX11_narrowestRun_29 : decode cX11_narrowestRun 29 = .ok (.istore_n 1, 1) := by decide +kernel
theorem dX11_narrowestRun_30 : decode cX11_narrowestRun 30 = .ok (.iinc 2 1, 3) := by decide +kernel
theorem dX11_narrowestRun_33 : decode cX11_narrowestRun 33 = .ok (.goto (-29), 3) := by decide +kernel
theorem dX11_narrowestRun_36 : decode cX11_narrowestRun 36 = .ok (.iload_n 1, 1) := by decide +kernel
theorem dX11_narrowestRun_37 : decode cX11_narrowestRun 37 = .ok (.ireturn, 1) := by decide +kernel
set_option maxRecDepth 20000 in
theorem ggX11_sharedWords_X11_wordsOfRun : GoodIn wsX11_sharedWords wsX11_wordsOfRun := goodIn_r _ [6, 7, 1, 8, 9, 10, 11, 12, 13, 14, 15, 16, 17, 18, 19, 20, 21, 22, 23, 24, 25, 26, 27, 28, 29, 30, 31, 32, 33, 34, 35, 36, 37, 38, 39, 40, 41, 42, 43, 44, 45, 46, 47, 48, 49, 50, 51, 52, 53, 54, 55, 56, 57, 58, 59, 60, 61, 62, 63, 64, 65, 66, 67, 68, 69, 70, 75, 76, 77, 78, 79, 80, 81, 82, 83, 84, 85, 86, 87, 88, 89, 90, 91, 92, 93, 94, 95] (by decide +kernel) (by decide +kernel)
set_option maxRecDepth 20000 in
theorem gX11_sharedWords_X11_wordsOfRun : GoodIn wsX11_sharedWords (wsV RX11 247 RX11 yX11_wordsOfRun wsX11_wordsOfRun) := goodIn_app (goodIn_of _ (by decide +kernel)) ggX11_sharedWords_X11_wordsOfRun
set_option maxRecDepth 20000 in
theorem ggX11_sharedWords_X1_runs : GoodIn wsX11_sharedWords wsX1_runs := goodIn_r _ [74, 18, 84, 85, 86, 87, 88, 89, 90, 91, 92] (by decide +kernel) (by decide +kernel)
set_option maxRecDepth 20000 in
theorem gX11_sharedWords_X1_runs : GoodIn wsX11_sharedWords (wsV RX11 177 RX1 yX1_runs wsX1_runs) := goodIn_app (goodIn_of _ (by decide +kernel)) ggX11_sharedWords_X1_runs
theorem dX11_sharedWords_0 : decode cX11_sharedWords 0 = .ok (.aload_n 0, 1) := by decide +kernel
theorem dX11_sharedWords_1 : decode cX11_sharedWords 1 = .ok (.iconst 0, 1) := by decide +kernel
theorem dX11_sharedWords_2 : decode cX11_sharedWords 2 = .ok (.invokevirtual 247, 3) := by decide +kernel
theorem dX11_sharedWords_5 : decode cX11_sharedWords 5 = .ok (.lstore_n 1, 1) := by decide +kernel
theorem dX11_sharedWords_6 : decode cX11_sharedWords 6 = .ok (.iconst 1, 1) := by decide +kernel
theorem dX11_sharedWords_7 : decode cX11_sharedWords 7 = .ok (.istore_n 3, 1) := by decide +kernel
theorem dX11_sharedWords_8 : decode cX11_sharedWords 8 = .ok (.iload_n 3, 1) := by decide +kernel
theorem dX11_sharedWords_9 : decode cX11_sharedWords 9 = .ok (.aload_n 0, 1) := by decide +kernel
theorem dX11_sharedWords_10 : decode cX11_sharedWords 10 = .ok (.getfield 30, 3) := by decide +kernel
theorem dX11_sharedWords_13 : decode cX11_sharedWords 13 = .ok (.invokevirtual 177, 3) := by decide +kernel
theorem dX11_sharedWords_16 : decode cX11_sharedWords 16 = .ok (.if_icmp .ge 17, 3) := by decide +kernel
theorem dX11_sharedWords_19 : decode cX11_sharedWords 19 = .ok (.lload_n 1, 1) := by decide +kernel
theorem dX11_sharedWords_20 : decode cX11_sharedWords 20 = .ok (.aload_n 0, 1) := by decide +kernel
theorem dX11_sharedWords_21 : decode cX11_sharedWords 21 = .ok (.iload_n 3, 1) := by decide +kernel
theorem dX11_sharedWords_22 : decode cX11_sharedWords 22 = .ok (.invokevirtual 247, 3) := by decide +kernel
theorem dX11_sharedWords_25 : decode cX11_sharedWords 25 = .ok (.land, 1) := by decide +kernel
theorem dX11_sharedWords_26 : decode cX11_sharedWords 26 = .ok (.lstore_n 1, 1) := by decide +kernel
theorem dX11_sharedWords_27 : decode cX11_sharedWords 27 = .ok (.iinc 3 1, 3) := by decide +kernel
theorem dX11_sharedWords_30 : decode cX11_sharedWords 30 = .ok (.goto (-22), 3) := by decide +kernel
theorem dX11_sharedWords_33 : decode cX11_sharedWords 33 = .ok (.lload_n 1, 1) := by decide +kernel
theorem dX11_sharedWords_34 : decode cX11_sharedWords 34 = .ok (.lreturn, 1) := by decide +kernel
set_option maxRecDepth 20000 in
theorem ggX11_stem_J13_bitCount_95d88 : GoodIn wsX11_stem wsJ13_bitCount_95d88 := goodIn_r _ [6, 7, 8, 9] (by decide +kernel) (by decide +kernel)
set_option maxRecDepth 20000 in
theorem gX11_stem_J13_bitCount_95d88 : GoodIn wsX11_stem (va_wsS RX11 171 yJ13_bitCount_95d88 wsJ13_bitCount_95d88) := goodIn_app (goodIn_of _ (by decide +kernel)) ggX11_stem_J13_bitCount_95d88
set_option maxRecDepth 20000 in
theorem ggX11_stem_X0_numberOf : GoodIn wsX11_stem wsX0_numberOf := goodIn_r _ [13, 14, 15, 12, 16, 17, 18, 19] (by decide +kernel) (by decide +kernel)
set_option maxRecDepth 20000 in
theorem gX11_stem_X0_numberOf : GoodIn wsX11_stem (va_wsS RX11 215 yX0_numberOf wsX0_numberOf) := goodIn_app (goodIn_of _ (by decide +kernel)) ggX11_stem_X0_numberOf
set_option maxRecDepth 20000 in
theorem ggX11_stem_X7_at : GoodIn wsX11_stem wsX7_at := goodIn_r _ [24, 25, 26, 27, 28, 23, 29, 30, 54, 55] (by decide +kernel) (by decide +kernel)
set_option maxRecDepth 20000 in
theorem gX11_stem_X7_at : GoodIn wsX11_stem (wsV RX11 201 RX7 yX7_at wsX7_at) := goodIn_app (goodIn_of _ (by decide +kernel)) ggX11_stem_X7_at
set_option maxRecDepth 20000 in
theorem ggX11_stem_X8_length : GoodIn wsX11_stem wsX8_length := goodIn_r _ [34, 35, 36, 33, 37] (by decide +kernel) (by decide +kernel)
set_option maxRecDepth 20000 in
theorem gX11_stem_X8_length : GoodIn wsX11_stem (va_wsS RX11 205 yX8_length wsX8_length) := goodIn_app (goodIn_of _ (by decide +kernel)) ggX11_stem_X8_length
set_option maxRecDepth 20000 in
theorem ggX11_stem_X8_codeAt : GoodIn wsX11_stem wsX8_codeAt := goodIn_r _ [37] (by decide +kernel) (by decide +kernel)
set_option maxRecDepth 20000 in
theorem gX11_stem_X8_codeAt : GoodIn wsX11_stem (va_wsS RX11 318 yX8_codeAt wsX8_codeAt) := goodIn_app (goodIn_of _ (by decide +kernel)) ggX11_stem_X8_codeAt
theorem dX11_stem_0 : decode cX11_stem 0 = .ok (.lload_n 1, 1) := by decide +kernel
theorem dX11_stem_1 : decode cX11_stem 1 = .ok (.invokestatic 171, 3) := by decide +kernel
theorem dX11_stem_4 : decode cX11_stem 4 = .ok (.istore_n 3, 1) := by decide +kernel
theorem dX11_stem_5 : decode cX11_stem 5 = .ok (.iload_n 3, 1) := by decide +kernel
theorem dX11_stem_6 : decode cX11_stem 6 = .ok (.ifCond .ne 5, 3) := by decide +kernel
theorem dX11_stem_9 : decode cX11_stem 9 = .ok (.iconst 0, 1) := by decide +kernel
theorem dX11_stem_10 : decode cX11_stem 10 = .ok (.ireturn, 1) := by decide +kernel
theorem dX11_stem_11 : decode cX11_stem 11 = .ok (.aload_n 0, 1) := by decide +kernel
theorem dX11_stem_12 : decode cX11_stem 12 = .ok (.getfield 12, 3) := by decide +kernel
theorem dX11_stem_15 : decode cX11_stem 15 = .ok (.getfield 112, 3) := by decide +kernel
theorem dX11_stem_18 : decode cX11_stem 18 = .ok (.lload_n 1, 1) := by decide +kernel
theorem dX11_stem_19 : decode cX11_stem 19 = .ok (.iconst 0, 1) := by decide +kernel
theorem dX11_stem_20 : decode cX11_stem 20 = .ok (.invokestatic 215, 3) := by decide +kernel
theorem dX11_stem_23 : decode cX11_stem 23 = .ok (.invokevirtual 201, 3) := by decide +kernel
theorem dX11_stem_26 : decode cX11_stem 26 = .ok (.lstore 4, 2) := by decide +kernel
theorem dX11_stem_28 : decode cX11_stem 28 = .ok (.aload_n 0, 1) := by decide +kernel
theorem dX11_stem_29 : decode cX11_stem 29 = .ok (.getfield 12, 3) := by decide +kernel
theorem dX11_stem_32 : decode cX11_stem 32 = .ok (.getfield 112, 3) := by decide +kernel
theorem dX11_stem_35 : decode cX11_stem 35 = .ok (.lload_n 1, 1) := by decide +kernel
theorem dX11_stem_36 : decode cX11_stem 36 = .ok (.iload_n 3, 1) := by decide +kernel
theorem dX11_stem_37 : decode cX11_stem 37 = .ok (.iconst 1, 1) := by decide +kernel
theorem dX11_stem_38 : decode cX11_stem 38 = .ok (.isub, 1) := by decide +kernel
theorem dX11_stem_39 : decode cX11_stem 39 = .ok (.invokestatic 215, 3) := by decide +kernel
theorem dX11_stem_42 : decode cX11_stem 42 = .ok (.invokevirtual 201, 3) := by decide +kernel
theorem dX11_stem_45 : decode cX11_stem 45 = .ok (.lstore 6, 2) := by decide +kernel
theorem dX11_stem_47 : decode cX11_stem 47 = .ok (.iconst 0, 1) := by decide +kernel
theorem dX11_stem_48 : decode cX11_stem 48 = .ok (.istore 8, 2) := by decide +kernel
theorem dX11_stem_50 : decode cX11_stem 50 = .ok (.iload 8, 2) := by decide +kernel
theorem dX11_stem_52 : decode cX11_stem 52 = .ok (.lload 4, 2) := by decide +kernel
theorem dX11_stem_54 : decode cX11_stem 54 = .ok (.invokestatic 205, 3) := by decide +kernel
theorem dX11_stem_57 : decode cX11_stem 57 = .ok (.if_icmp .ge 26, 3) := by decide +kernel
theorem dX11_stem_60 : decode cX11_stem 60 = .ok (.lload 4, 2) := by decide +kernel
theorem dX11_stem_62 : decode cX11_stem 62 = .ok (.iload 8, 2) := by decide +kernel
theorem dX11_stem_64 : decode cX11_stem 64 = .ok (.invokestatic 318, 3) := by decide +kernel
theorem dX11_stem_67 : decode cX11_stem 67 = .ok (.lload 6, 2) := by decide +kernel
theorem dX11_stem_69 : decode cX11_stem 69 = .ok (.iload 8, 2) := by decide +kernel
theorem dX11_stem_71 : decode cX11_stem 71 = .ok (.invokestatic 318, 3) := by decide +kernel
theorem dX11_stem_74 : decode cX11_stem 74 = .ok (.if_icmp .ne 9, 3) := by decide +kernel
theorem dX11_stem_77 : decode cX11_stem 77 = .ok (.iinc 8 1, 3) := by decide +kernel
theorem dX11_stem_80 : decode cX11_stem 80 = .ok (.goto (-30), 3) := by decide +kernel
theorem dX11_stem_83 : decode cX11_stem 83 = .ok (.iload 8, 2) := by decide +kernel
theorem dX11_stem_85 : decode cX11_stem 85 = .ok (.ireturn, 1) := by decide +kernel
set_option maxRecDepth 20000 in
theorem ggX11_placeToAsk_X11_mostAlike : GoodIn wsX11_placeToAsk wsX11_mostAlike := goodIn_r _ [5, 6, 7, 8, 9, 10, 11, 12, 13, 14, 15, 16, 17, 18, 19, 20, 21, 22, 23, 24, 25, 26, 27, 28, 29, 30, 31, 32, 33, 34, 35, 36, 37, 38, 39, 40, 41, 42, 43, 44, 45, 46, 47, 48, 49, 50, 51, 52, 53, 54, 55] (by decide +kernel) (by decide +kernel)
set_option maxRecDepth 20000 in
theorem gX11_placeToAsk_X11_mostAlike : GoodIn wsX11_placeToAsk (wsV RX11 321 RX11 yX11_mostAlike wsX11_mostAlike) := goodIn_app (goodIn_of _ (by decide +kernel)) ggX11_placeToAsk_X11_mostAlike
theorem dX11_placeToAsk_0 : decode cX11_placeToAsk 0 = .ok (.lload_n 1, 1) := by decide +kernel
theorem dX11_placeToAsk_1 : decode cX11_placeToAsk 1 = .ok (.lconst 0, 1) := by decide +kernel
theorem dX11_placeToAsk_2 : decode cX11_placeToAsk 2 = .ok (.lcmp, 1) := by decide +kernel
theorem dX11_placeToAsk_3 : decode cX11_placeToAsk 3 = .ok (.ifCond .ne 5, 3) := by decide +kernel
theorem dX11_placeToAsk_6 : decode cX11_placeToAsk 6 = .ok (.iconst (-1), 1) := by decide +kernel
theorem dX11_placeToAsk_7 : decode cX11_placeToAsk 7 = .ok (.ireturn, 1) := by decide +kernel
theorem dX11_placeToAsk_8 : decode cX11_placeToAsk 8 = .ok (.iconst 0, 1) := by decide +kernel
theorem dX11_placeToAsk_9 : decode cX11_placeToAsk 9 = .ok (.istore_n 3, 1) := by decide +kernel
theorem dX11_placeToAsk_10 : decode cX11_placeToAsk 10 = .ok (.aload_n 0, 1) := by decide +kernel
theorem dX11_placeToAsk_11 : decode cX11_placeToAsk 11 = .ok (.lload_n 1, 1) := by decide +kernel
theorem dX11_placeToAsk_12 : decode cX11_placeToAsk 12 = .ok (.iconst 0, 1) := by decide +kernel
theorem dX11_placeToAsk_13 : decode cX11_placeToAsk 13 = .ok (.invokevirtual 321, 3) := by decide +kernel
theorem dX11_placeToAsk_16 : decode cX11_placeToAsk 16 = .ok (.istore 4, 2) := by decide +kernel
theorem dX11_placeToAsk_18 : decode cX11_placeToAsk 18 = .ok (.iconst 1, 1) := by decide +kernel
theorem dX11_placeToAsk_19 : decode cX11_placeToAsk 19 = .ok (.istore 5, 2) := by decide +kernel
theorem dX11_placeToAsk_21 : decode cX11_placeToAsk 21 = .ok (.iload 5, 2) := by decide +kernel
theorem dX11_placeToAsk_23 : decode cX11_placeToAsk 23 = .ok (.bipush 7, 2) := by decide +kernel
theorem dX11_placeToAsk_25 : decode cX11_placeToAsk 25 = .ok (.if_icmp .ge 32, 3) := by decide +kernel
theorem dX11_placeToAsk_28 : decode cX11_placeToAsk 28 = .ok (.aload_n 0, 1) := by decide +kernel
theorem dX11_placeToAsk_29 : decode cX11_placeToAsk 29 = .ok (.lload_n 1, 1) := by decide +kernel
theorem dX11_placeToAsk_30 : decode cX11_placeToAsk 30 = .ok (.iload 5, 2) := by decide +kernel
theorem dX11_placeToAsk_32 : decode cX11_placeToAsk 32 = .ok (.invokevirtual 321, 3) := by decide +kernel
theorem dX11_placeToAsk_35 : decode cX11_placeToAsk 35 = .ok (.istore 6, 2) := by decide +kernel
theorem dX11_placeToAsk_37 : decode cX11_placeToAsk 37 = .ok (.iload 6, 2) := by decide +kernel
theorem dX11_placeToAsk_39 : decode cX11_placeToAsk 39 = .ok (.iload 4, 2) := by decide +kernel
theorem dX11_placeToAsk_41 : decode cX11_placeToAsk 41 = .ok (.if_icmp .ge 10, 3) := by decide +kernel
theorem dX11_placeToAsk_44 : decode cX11_placeToAsk 44 = .ok (.iload 5, 2) := by decide +kernel
theorem dX11_placeToAsk_46 : decode cX11_placeToAsk 46 = .ok (.istore_n 3, 1) := by decide +kernel
theorem dX11_placeToAsk_47 : decode cX11_placeToAsk 47 = .ok (.iload 6, 2) := by decide +kernel
theorem dX11_placeToAsk_49 : decode cX11_placeToAsk 49 = .ok (.istore 4, 2) := by decide +kernel
theorem dX11_placeToAsk_51 : decode cX11_placeToAsk 51 = .ok (.iinc 5 1, 3) := by decide +kernel
theorem dX11_placeToAsk_54 : decode cX11_placeToAsk 54 = .ok (.goto (-33), 3) := by decide +kernel
theorem dX11_placeToAsk_57 : decode cX11_placeToAsk 57 = .ok (.iload_n 3, 1) := by decide +kernel
theorem dX11_placeToAsk_58 : decode cX11_placeToAsk 58 = .ok (.ireturn, 1) := by decide +kernel
set_option maxRecDepth 20000 in
theorem ggX11_mostAlike_X7_size : GoodIn wsX11_mostAlike wsX7_size := goodIn_r _ [12, 13, 49, 50] (by decide +kernel) (by decide +kernel)
set_option maxRecDepth 20000 in
theorem gX11_mostAlike_X7_size : GoodIn wsX11_mostAlike (wsV RX11 115 RX7 yX7_size wsX7_size) := goodIn_app (goodIn_of _ (by decide +kernel)) ggX11_mostAlike_X7_size
set_option maxRecDepth 20000 in
theorem ggX11_mostAlike_X7_at : GoodIn wsX11_mostAlike wsX7_at := goodIn_r _ [17, 18, 19, 20, 21, 11, 22, 13, 49, 50] (by decide +kernel) (by decide +kernel)
set_option maxRecDepth 20000 in
theorem gX11_mostAlike_X7_at : GoodIn wsX11_mostAlike (wsV RX11 201 RX7 yX7_at wsX7_at) := goodIn_app (goodIn_of _ (by decide +kernel)) ggX11_mostAlike_X7_at
set_option maxRecDepth 20000 in
theorem ggX11_mostAlike_X8_codeAt : GoodIn wsX11_mostAlike wsX8_codeAt := goodIn_r _ [26] (by decide +kernel) (by decide +kernel)
set_option maxRecDepth 20000 in
theorem gX11_mostAlike_X8_codeAt : GoodIn wsX11_mostAlike (va_wsS RX11 318 yX8_codeAt wsX8_codeAt) := goodIn_app (goodIn_of _ (by decide +kernel)) ggX11_mostAlike_X8_codeAt
set_option maxRecDepth 20000 in
theorem ggX11_mostAlike_X0_has : GoodIn wsX11_mostAlike wsX0_has := goodIn_r _ [30, 31, 32, 29, 33] (by decide +kernel) (by decide +kernel)
set_option maxRecDepth 20000 in
theorem gX11_mostAlike_X0_has : GoodIn wsX11_mostAlike (va_wsS RX11 324 yX0_has wsX0_has) := goodIn_app (goodIn_of _ (by decide +kernel)) ggX11_mostAlike_X0_has
theorem dX11_mostAlike_0 : decode cX11_mostAlike 0 = .ok (.iconst 0, 1) := by decide +kernel
theorem dX11_mostAlike_1 : decode cX11_mostAlike 1 = .ok (.istore 4, 2) := by decide +kernel
theorem dX11_mostAlike_3 : decode cX11_mostAlike 3 = .ok (.iload 4, 2) := by decide +kernel
theorem dX11_mostAlike_5 : decode cX11_mostAlike 5 = .ok (.aload_n 0, 1) := by decide +kernel
theorem dX11_mostAlike_6 : decode cX11_mostAlike 6 = .ok (.getfield 69, 3) := by decide +kernel
theorem dX11_mostAlike_9 : decode cX11_mostAlike 9 = .ok (.arraylength, 1) := by decide +kernel
theorem dX11_mostAlike_10 : decode cX11_mostAlike 10 = .ok (.if_icmp .ge 17, 3) := by decide +kernel
theorem dX11_mostAlike_13 : decode cX11_mostAlike 13 = .ok (.aload_n 0, 1) := by decide +kernel
theorem dX11_mostAlike_14 : decode cX11_mostAlike 14 = .ok (.getfield 69, 3) := by decide +kernel
theorem dX11_mostAlike_17 : decode cX11_mostAlike 17 = .ok (.iload 4, 2) := by decide +kernel
theorem dX11_mostAlike_19 : decode cX11_mostAlike 19 = .ok (.iconst 0, 1) := by decide +kernel
theorem dX11_mostAlike_20 : decode cX11_mostAlike 20 = .ok (.iastore, 1) := by decide +kernel
theorem dX11_mostAlike_21 : decode cX11_mostAlike 21 = .ok (.iinc 4 1, 3) := by decide +kernel
theorem dX11_mostAlike_24 : decode cX11_mostAlike 24 = .ok (.goto (-21), 3) := by decide +kernel
theorem dX11_mostAlike_27 : decode cX11_mostAlike 27 = .ok (.iconst 0, 1) := by decide +kernel
theorem dX11_mostAlike_28 : decode cX11_mostAlike 28 = .ok (.istore 4, 2) := by decide +kernel
theorem dX11_mostAlike_30 : decode cX11_mostAlike 30 = .ok (.iconst 0, 1) := by decide +kernel
theorem dX11_mostAlike_31 : decode cX11_mostAlike 31 = .ok (.istore 5, 2) := by decide +kernel
theorem dX11_mostAlike_33 : decode cX11_mostAlike 33 = .ok (.iload 5, 2) := by decide +kernel
theorem dX11_mostAlike_35 : decode cX11_mostAlike 35 = .ok (.aload_n 0, 1) := by decide +kernel
theorem dX11_mostAlike_36 : decode cX11_mostAlike 36 = .ok (.getfield 12, 3) := by decide +kernel
theorem dX11_mostAlike_39 : decode cX11_mostAlike 39 = .ok (.getfield 112, 3) := by decide +kernel
theorem dX11_mostAlike_42 : decode cX11_mostAlike 42 = .ok (.invokevirtual 115, 3) := by decide +kernel
theorem dX11_mostAlike_45 : decode cX11_mostAlike 45 = .ok (.if_icmp .ge 76, 3) := by decide +kernel
theorem dX11_mostAlike_48 : decode cX11_mostAlike 48 = .ok (.aload_n 0, 1) := by decide +kernel
theorem dX11_mostAlike_49 : decode cX11_mostAlike 49 = .ok (.getfield 12, 3) := by decide +kernel
theorem dX11_mostAlike_52 : decode cX11_mostAlike 52 = .ok (.getfield 112, 3) := by decide +kernel
theorem dX11_mostAlike_55 : decode cX11_mostAlike 55 = .ok (.iload 5, 2) := by decide +kernel
theorem dX11_mostAlike_57 : decode cX11_mostAlike 57 = .ok (.invokevirtual 201, 3) := by decide +kernel
theorem dX11_mostAlike_60 : decode cX11_mostAlike 60 = .ok (.iload_n 3, 1) := by decide +kernel
theorem dX11_mostAlike_61 : decode cX11_mostAlike 61 = .ok (.invokestatic 318, 3) := by decide +kernel
theorem dX11_mostAlike_64 : decode cX11_mostAlike 64 = .ok (.istore 6, 2) := by decide +kernel
theorem dX11_mostAlike_66 : decode cX11_mostAlike 66 = .ok (.lload_n 1, 1) := by decide +kernel
theorem dX11_mostAlike_67 : decode cX11_mostAlike 67 = .ok (.iload 5, 2) := by decide +kernel
theorem dX11_mostAlike_69 : decode cX11_mostAlike 69 = .ok (.invokestatic 324, 3) := by decide +kernel
theorem dX11_mostAlike_72 : decode cX11_mostAlike 72 = .ok (.ifCond .eq 43, 3) := by decide +kernel
theorem dX11_mostAlike_75 : decode cX11_mostAlike 75 = .ok (.iload 6, 2) := by decide +kernel
theorem dX11_mostAlike_77 : decode cX11_mostAlike 77 = .ok (.ifCond .lt 38, 3) := by decide +kernel
theorem dX11_mostAlike_80 : decode cX11_mostAlike 80 = .ok (.iload 6, 2) := by decide +kernel
theorem dX11_mostAlike_82 : decode cX11_mostAlike 82 = .ok (.aload_n 0, 1) := by decide +kernel
theorem dX11_mostAlike_83 : decode cX11_mostAlike 83 = .ok (.getfield 69, 3) := by decide +kernel
theorem dX11_mostAlike_86 : decode cX11_mostAlike 86 = .ok (.arraylength, 1) := by decide +kernel
theorem dX11_mostAlike_87 : decode cX11_mostAlike 87 = .ok (.if_icmp .ge 28, 3) := by decide +kernel
theorem dX11_mostAlike_90 : decode cX11_mostAlike 90 = .ok (.aload_n 0, 1) := by decide +kernel
theorem dX11_mostAlike_91 : decode cX11_mostAlike 91 = .ok (.getfield 69, 3) := by decide +kernel
theorem dX11_mostAlike_94 : decode cX11_mostAlike 94 = .ok (.iload 6, 2) := by decide +kernel
theorem dX11_mostAlike_96 : decode cX11_mostAlike 96 = .ok (.dup2, 1) := by decide +kernel
theorem dX11_mostAlike_97 : decode cX11_mostAlike 97 = .ok (.iaload, 1) := by decide +kernel
theorem dX11_mostAlike_98 : decode cX11_mostAlike 98 = .ok (.iconst 1, 1) := by decide +kernel
theorem dX11_mostAlike_99 : decode cX11_mostAlike 99 = .ok (.iadd, 1) := by decide +kernel
theorem dX11_mostAlike_100 : decode cX11_mostAlike 100 = .ok (.iastore, 1) := by decide +kernel
theorem dX11_mostAlike_101 : decode cX11_mostAlike 101 = .ok (.iload 4, 2) := by decide +kernel
theorem dX11_mostAlike_103 : decode cX11_mostAlike 103 = .ok (.aload_n 0, 1) := by decide +kernel
theorem dX11_mostAlike_104 : decode cX11_mostAlike 104 = .ok (.getfield 69, 3) := by decide +kernel
theorem dX11_mostAlike_107 : decode cX11_mostAlike 107 = .ok (.iload 6, 2) := by decide +kernel
theorem dX11_mostAlike_109 : decode cX11_mostAlike 109 = .ok (.iaload, 1) := by decide +kernel
theorem dX11_mostAlike_110 : decode cX11_mostAlike 110 = .ok (.invokestatic 328, 3) := by decide +kernel
theorem dX11_mostAlike_113 : decode cX11_mostAlike 113 = .ok (.istore 4, 2) := by decide +kernel
theorem dX11_mostAlike_115 : decode cX11_mostAlike 115 = .ok (.iinc 5 1, 3) := by decide +kernel
theorem dX11_mostAlike_118 : decode cX11_mostAlike 118 = .ok (.goto (-85), 3) := by decide +kernel
theorem dX11_mostAlike_121 : decode cX11_mostAlike 121 = .ok (.iload 4, 2) := by decide +kernel
theorem dX11_mostAlike_123 : decode cX11_mostAlike 123 = .ok (.ireturn, 1) := by decide +kernel
set_option maxRecDepth 20000 in
theorem ggX11_wordsThatBeginAlone_X7_size : GoodIn wsX11_wordsThatBeginAlone wsX7_size := goodIn_r _ [7, 8, 37, 38] (by decide +kernel) (by decide +kernel)
set_option maxRecDepth 20000 in
theorem gX11_wordsThatBeginAlone_X7_size : GoodIn wsX11_wordsThatBeginAlone (wsV RX11 115 RX7 yX7_size wsX7_size) := goodIn_app (goodIn_of _ (by decide +kernel)) ggX11_wordsThatBeginAlone_X7_size
set_option maxRecDepth 20000 in
theorem ggX11_wordsThatBeginAlone_X7_at : GoodIn wsX11_wordsThatBeginAlone wsX7_at := goodIn_r _ [12, 13, 14, 15, 16, 6, 17, 8, 37, 38] (by decide +kernel) (by decide +kernel)
set_option maxRecDepth 20000 in
theorem gX11_wordsThatBeginAlone_X7_at : GoodIn wsX11_wordsThatBeginAlone (wsV RX11 201 RX7 yX7_at wsX7_at) := goodIn_app (goodIn_of _ (by decide +kernel)) ggX11_wordsThatBeginAlone_X7_at
set_option maxRecDepth 20000 in
theorem ggX11_wordsThatBeginAlone_X8_codeAt : GoodIn wsX11_wordsThatBeginAlone wsX8_codeAt := goodIn_r _ [21] (by decide +kernel) (by decide +kernel)
set_option maxRecDepth 20000 in
theorem gX11_wordsThatBeginAlone_X8_codeAt : GoodIn wsX11_wordsThatBeginAlone (va_wsS RX11 318 yX8_codeAt wsX8_codeAt) := goodIn_app (goodIn_of _ (by decide +kernel)) ggX11_wordsThatBeginAlone_X8_codeAt
theorem dX11_wordsThatBeginAlone_0 : decode cX11_wordsThatBeginAlone 0 = .ok (.iconst 0, 1) := by decide +kernel
theorem dX11_wordsThatBeginAlone_1 : decode cX11_wordsThatBeginAlone 1 = .ok (.istore_n 1, 1) := by decide +kernel
theorem dX11_wordsThatBeginAlone_2 : decode cX11_wordsThatBeginAlone 2 = .ok (.iconst 0, 1) := by decide +kernel
theorem dX11_wordsThatBeginAlone_3 : decode cX11_wordsThatBeginAlone 3 = .ok (.istore_n 2, 1) := by decide +kernel
theorem dX11_wordsThatBeginAlone_4 : decode cX11_wordsThatBeginAlone 4 = .ok (.iload_n 2, 1) := by decide +kernel
theorem dX11_wordsThatBeginAlone_5 : decode cX11_wordsThatBeginAlone 5 = .ok (.aload_n 0, 1) := by decide +kernel
theorem dX11_wordsThatBeginAlone_6 : decode cX11_wordsThatBeginAlone 6 = .ok (.getfield 12, 3) := by decide +kernel
theorem dX11_wordsThatBeginAlone_9 : decode cX11_wordsThatBeginAlone 9 = .ok (.getfield 112, 3) := by decide +kernel
theorem dX11_wordsThatBeginAlone_12 : decode cX11_wordsThatBeginAlone 12 = .ok (.invokevirtual 115, 3) := by decide +kernel
theorem dX11_wordsThatBeginAlone_15 : decode cX11_wordsThatBeginAlone 15 = .ok (.if_icmp .ge 70, 3) := by decide +kernel
theorem dX11_wordsThatBeginAlone_18 : decode cX11_wordsThatBeginAlone 18 = .ok (.aload_n 0, 1) := by decide +kernel
theorem dX11_wordsThatBeginAlone_19 : decode cX11_wordsThatBeginAlone 19 = .ok (.getfield 12, 3) := by decide +kernel
theorem dX11_wordsThatBeginAlone_22 : decode cX11_wordsThatBeginAlone 22 = .ok (.getfield 112, 3) := by decide +kernel
theorem dX11_wordsThatBeginAlone_25 : decode cX11_wordsThatBeginAlone 25 = .ok (.iload_n 2, 1) := by decide +kernel
theorem dX11_wordsThatBeginAlone_26 : decode cX11_wordsThatBeginAlone 26 = .ok (.invokevirtual 201, 3) := by decide +kernel
theorem dX11_wordsThatBeginAlone_29 : decode cX11_wordsThatBeginAlone 29 = .ok (.iconst 0, 1) := by decide +kernel
theorem dX11_wordsThatBeginAlone_30 : decode cX11_wordsThatBeginAlone 30 = .ok (.invokestatic 318, 3) := by decide +kernel
theorem dX11_wordsThatBeginAlone_33 : decode cX11_wordsThatBeginAlone 33 = .ok (.istore_n 3, 1) := by decide +kernel
theorem dX11_wordsThatBeginAlone_34 : decode cX11_wordsThatBeginAlone 34 = .ok (.iload_n 3, 1) := by decide +kernel
theorem dX11_wordsThatBeginAlone_35 : decode cX11_wordsThatBeginAlone 35 = .ok (.aload_n 0, 1) := by decide +kernel
theorem dX11_wordsThatBeginAlone_36 : decode cX11_wordsThatBeginAlone 36 = .ok (.getfield 12, 3) := by decide +kernel
theorem dX11_wordsThatBeginAlone_39 : decode cX11_wordsThatBeginAlone 39 = .ok (.getfield 112, 3) := by decide +kernel
theorem dX11_wordsThatBeginAlone_42 : decode cX11_wordsThatBeginAlone 42 = .ok (.iload_n 2, 1) := by decide +kernel
theorem dX11_wordsThatBeginAlone_43 : decode cX11_wordsThatBeginAlone 43 = .ok (.iconst 1, 1) := by decide +kernel
theorem dX11_wordsThatBeginAlone_44 : decode cX11_wordsThatBeginAlone 44 = .ok (.isub, 1) := by decide +kernel
theorem dX11_wordsThatBeginAlone_45 : decode cX11_wordsThatBeginAlone 45 = .ok (.invokevirtual 201, 3) := by decide +kernel
theorem dX11_wordsThatBeginAlone_48 : decode cX11_wordsThatBeginAlone 48 = .ok (.iconst 0, 1) := by decide +kernel
theorem dX11_wordsThatBeginAlone_49 : decode cX11_wordsThatBeginAlone 49 = .ok (.invokestatic 318, 3) := by decide +kernel
theorem dX11_wordsThatBeginAlone_52 : decode cX11_wordsThatBeginAlone 52 = .ok (.if_icmp .eq 27, 3) := by decide +kernel
theorem dX11_wordsThatBeginAlone_55 : decode cX11_wordsThatBeginAlone 55 = .ok (.iload_n 3, 1) := by decide +kernel
theorem dX11_wordsThatBeginAlone_56 : decode cX11_wordsThatBeginAlone 56 = .ok (.aload_n 0, 1) := by decide +kernel
theorem dX11_wordsThatBeginAlone_57 : decode cX11_wordsThatBeginAlone 57 = .ok (.getfield 12, 3) := by decide +kernel
theorem dX11_wordsThatBeginAlone_60 : decode cX11_wordsThatBeginAlone 60 = .ok (.getfield 112, 3) := by decide +kernel
theorem dX11_wordsThatBeginAlone_63 : decode cX11_wordsThatBeginAlone 63 = .ok (.iload_n 2, 1) := by decide +kernel
theorem dX11_wordsThatBeginAlone_64 : decode cX11_wordsThatBeginAlone 64 = .ok (.iconst 1, 1) := by decide +kernel
theorem dX11_wordsThatBeginAlone_65 : decode cX11_wordsThatBeginAlone 65 = .ok (.iadd, 1) := by decide +kernel
theorem dX11_wordsThatBeginAlone_66 : decode cX11_wordsThatBeginAlone 66 = .ok (.invokevirtual 201, 3) := by decide +kernel
theorem dX11_wordsThatBeginAlone_69 : decode cX11_wordsThatBeginAlone 69 = .ok (.iconst 0, 1) := by decide +kernel
theorem dX11_wordsThatBeginAlone_70 : decode cX11_wordsThatBeginAlone 70 = .ok (.invokestatic 318, 3) := by decide +kernel
theorem dX11_wordsThatBeginAlone_73 : decode cX11_wordsThatBeginAlone 73 = .ok (.if_icmp .eq 6, 3) := by decide +kernel
theorem dX11_wordsThatBeginAlone_76 : decode cX11_wordsThatBeginAlone 76 = .ok (.iinc 1 1, 3) := by decide +kernel
theorem dX11_wordsThatBeginAlone_79 : decode cX11_wordsThatBeginAlone 79 = .ok (.iinc 2 1, 3) := by decide +kernel
theorem dX11_wordsThatBeginAlone_82 : decode cX11_wordsThatBeginAlone 82 = .ok (.goto (-78), 3) := by decide +kernel
theorem dX11_wordsThatBeginAlone_85 : decode cX11_wordsThatBeginAlone 85 = .ok (.iload_n 1, 1) := by decide +kernel
theorem dX11_wordsThatBeginAlone_86 : decode cX11_wordsThatBeginAlone 86 = .ok (.ireturn, 1) := by decide +kernel
set_option maxRecDepth 20000 in
theorem ggX11_nearWords_X7_size : GoodIn wsX11_nearWords wsX7_size := goodIn_r _ [7, 8, 47, 48] (by decide +kernel) (by decide +kernel)
set_option maxRecDepth 20000 in
theorem gX11_nearWords_X7_size : GoodIn wsX11_nearWords (wsV RX11 115 RX7 yX7_size wsX7_size) := goodIn_app (goodIn_of _ (by decide +kernel)) ggX11_nearWords_X7_size
set_option maxRecDepth 20000 in
theorem ggX11_nearWords_X7_at : GoodIn wsX11_nearWords wsX7_at := goodIn_r _ [12, 13, 14, 15, 16, 6, 17, 8, 47, 48] (by decide +kernel) (by decide +kernel)
set_option maxRecDepth 20000 in
theorem gX11_nearWords_X7_at : GoodIn wsX11_nearWords (wsV RX11 201 RX7 yX7_at wsX7_at) := goodIn_app (goodIn_of _ (by decide +kernel)) ggX11_nearWords_X7_at
set_option maxRecDepth 20000 in
theorem ggX11_nearWords_X8_areNear : GoodIn wsX11_nearWords wsX8_areNear := goodIn_r _ [21, 22, 23, 20, 24, 25, 26, 27] (by decide +kernel) (by decide +kernel)
set_option maxRecDepth 20000 in
theorem gX11_nearWords_X8_areNear : GoodIn wsX11_nearWords (va_wsS RX11 333 yX8_areNear wsX8_areNear) := goodIn_app (goodIn_of _ (by decide +kernel)) ggX11_nearWords_X8_areNear
set_option maxRecDepth 20000 in
theorem ggX11_nearWords_X0_bit : GoodIn wsX11_nearWords wsX0_bit := goodIn_r _ [31] (by decide +kernel) (by decide +kernel)
set_option maxRecDepth 20000 in
theorem gX11_nearWords_X0_bit : GoodIn wsX11_nearWords (va_wsS RX11 308 yX0_bit wsX0_bit) := goodIn_app (goodIn_of _ (by decide +kernel)) ggX11_nearWords_X0_bit
theorem dX11_nearWords_0 : decode cX11_nearWords 0 = .ok (.lconst 0, 1) := by decide +kernel
theorem dX11_nearWords_1 : decode cX11_nearWords 1 = .ok (.lstore_n 3, 1) := by decide +kernel
theorem dX11_nearWords_2 : decode cX11_nearWords 2 = .ok (.iconst 0, 1) := by decide +kernel
theorem dX11_nearWords_3 : decode cX11_nearWords 3 = .ok (.istore 5, 2) := by decide +kernel
theorem dX11_nearWords_5 : decode cX11_nearWords 5 = .ok (.iload 5, 2) := by decide +kernel
theorem dX11_nearWords_7 : decode cX11_nearWords 7 = .ok (.aload_n 0, 1) := by decide +kernel
theorem dX11_nearWords_8 : decode cX11_nearWords 8 = .ok (.getfield 12, 3) := by decide +kernel
theorem dX11_nearWords_11 : decode cX11_nearWords 11 = .ok (.getfield 112, 3) := by decide +kernel
theorem dX11_nearWords_14 : decode cX11_nearWords 14 = .ok (.invokevirtual 115, 3) := by decide +kernel
theorem dX11_nearWords_17 : decode cX11_nearWords 17 = .ok (.if_icmp .ge 36, 3) := by decide +kernel
theorem dX11_nearWords_20 : decode cX11_nearWords 20 = .ok (.lload_n 1, 1) := by decide +kernel
theorem dX11_nearWords_21 : decode cX11_nearWords 21 = .ok (.aload_n 0, 1) := by decide +kernel
theorem dX11_nearWords_22 : decode cX11_nearWords 22 = .ok (.getfield 12, 3) := by decide +kernel
theorem dX11_nearWords_25 : decode cX11_nearWords 25 = .ok (.getfield 112, 3) := by decide +kernel
theorem dX11_nearWords_28 : decode cX11_nearWords 28 = .ok (.iload 5, 2) := by decide +kernel
theorem dX11_nearWords_30 : decode cX11_nearWords 30 = .ok (.invokevirtual 201, 3) := by decide +kernel
theorem dX11_nearWords_33 : decode cX11_nearWords 33 = .ok (.invokestatic 333, 3) := by decide +kernel
theorem dX11_nearWords_36 : decode cX11_nearWords 36 = .ok (.ifCond .eq 11, 3) := by decide +kernel
theorem dX11_nearWords_39 : decode cX11_nearWords 39 = .ok (.lload_n 3, 1) := by decide +kernel
theorem dX11_nearWords_40 : decode cX11_nearWords 40 = .ok (.iload 5, 2) := by decide +kernel
theorem dX11_nearWords_42 : decode cX11_nearWords 42 = .ok (.invokestatic 308, 3) := by decide +kernel
theorem dX11_nearWords_45 : decode cX11_nearWords 45 = .ok (.lor, 1) := by decide +kernel
theorem dX11_nearWords_46 : decode cX11_nearWords 46 = .ok (.lstore_n 3, 1) := by decide +kernel
theorem dX11_nearWords_47 : decode cX11_nearWords 47 = .ok (.iinc 5 1, 3) := by decide +kernel
theorem dX11_nearWords_50 : decode cX11_nearWords 50 = .ok (.goto (-45), 3) := by decide +kernel
theorem dX11_nearWords_53 : decode cX11_nearWords 53 = .ok (.lload_n 3, 1) := by decide +kernel
theorem dX11_nearWords_54 : decode cX11_nearWords 54 = .ok (.lreturn, 1) := by decide +kernel
set_option maxRecDepth 20000 in
theorem ggX11_wordsWithLetter_X7_size : GoodIn wsX11_wordsWithLetter wsX7_size := goodIn_r _ [7, 8, 43, 44] (by decide +kernel) (by decide +kernel)
set_option maxRecDepth 20000 in
theorem gX11_wordsWithLetter_X7_size : GoodIn wsX11_wordsWithLetter (wsV RX11 115 RX7 yX7_size wsX7_size) := goodIn_app (goodIn_of _ (by decide +kernel)) ggX11_wordsWithLetter_X7_size
set_option maxRecDepth 20000 in
theorem ggX11_wordsWithLetter_X7_at : GoodIn wsX11_wordsWithLetter wsX7_at := goodIn_r _ [12, 13, 14, 15, 16, 6, 17, 8, 43, 44] (by decide +kernel) (by decide +kernel)
set_option maxRecDepth 20000 in
theorem gX11_wordsWithLetter_X7_at : GoodIn wsX11_wordsWithLetter (wsV RX11 201 RX7 yX7_at wsX7_at) := goodIn_app (goodIn_of _ (by decide +kernel)) ggX11_wordsWithLetter_X7_at
set_option maxRecDepth 20000 in
theorem ggX11_wordsWithLetter_X8_placesOf : GoodIn wsX11_wordsWithLetter wsX8_placesOf := goodIn_r _ [21, 22, 23, 20, 24, 25, 26, 27] (by decide +kernel) (by decide +kernel)
set_option maxRecDepth 20000 in
theorem gX11_wordsWithLetter_X8_placesOf : GoodIn wsX11_wordsWithLetter (va_wsS RX11 273 yX8_placesOf wsX8_placesOf) := goodIn_app (goodIn_of _ (by decide +kernel)) ggX11_wordsWithLetter_X8_placesOf
theorem dX11_wordsWithLetter_0 : decode cX11_wordsWithLetter 0 = .ok (.iconst 0, 1) := by decide +kernel
theorem dX11_wordsWithLetter_1 : decode cX11_wordsWithLetter 1 = .ok (.istore_n 2, 1) := by decide +kernel
theorem dX11_wordsWithLetter_2 : decode cX11_wordsWithLetter 2 = .ok (.iconst 0, 1) := by decide +kernel
theorem dX11_wordsWithLetter_3 : decode cX11_wordsWithLetter 3 = .ok (.istore_n 3, 1) := by decide +kernel
theorem dX11_wordsWithLetter_4 : decode cX11_wordsWithLetter 4 = .ok (.iload_n 3, 1) := by decide +kernel
theorem dX11_wordsWithLetter_5 : decode cX11_wordsWithLetter 5 = .ok (.aload_n 0, 1) := by decide +kernel
theorem dX11_wordsWithLetter_6 : decode cX11_wordsWithLetter 6 = .ok (.getfield 12, 3) := by decide +kernel
theorem dX11_wordsWithLetter_9 : decode cX11_wordsWithLetter 9 = .ok (.getfield 112, 3) := by decide +kernel
theorem dX11_wordsWithLetter_12 : decode cX11_wordsWithLetter 12 = .ok (.invokevirtual 115, 3) := by decide +kernel
theorem dX11_wordsWithLetter_15 : decode cX11_wordsWithLetter 15 = .ok (.if_icmp .ge 30, 3) := by decide +kernel
theorem dX11_wordsWithLetter_18 : decode cX11_wordsWithLetter 18 = .ok (.aload_n 0, 1) := by decide +kernel
theorem dX11_wordsWithLetter_19 : decode cX11_wordsWithLetter 19 = .ok (.getfield 12, 3) := by decide +kernel
theorem dX11_wordsWithLetter_22 : decode cX11_wordsWithLetter 22 = .ok (.getfield 112, 3) := by decide +kernel
theorem dX11_wordsWithLetter_25 : decode cX11_wordsWithLetter 25 = .ok (.iload_n 3, 1) := by decide +kernel
theorem dX11_wordsWithLetter_26 : decode cX11_wordsWithLetter 26 = .ok (.invokevirtual 201, 3) := by decide +kernel
theorem dX11_wordsWithLetter_29 : decode cX11_wordsWithLetter 29 = .ok (.iload_n 1, 1) := by decide +kernel
theorem dX11_wordsWithLetter_30 : decode cX11_wordsWithLetter 30 = .ok (.invokestatic 273, 3) := by decide +kernel
theorem dX11_wordsWithLetter_33 : decode cX11_wordsWithLetter 33 = .ok (.ifCond .eq 6, 3) := by decide +kernel
theorem dX11_wordsWithLetter_36 : decode cX11_wordsWithLetter 36 = .ok (.iinc 2 1, 3) := by decide +kernel
theorem dX11_wordsWithLetter_39 : decode cX11_wordsWithLetter 39 = .ok (.iinc 3 1, 3) := by decide +kernel
theorem dX11_wordsWithLetter_42 : decode cX11_wordsWithLetter 42 = .ok (.goto (-38), 3) := by decide +kernel
theorem dX11_wordsWithLetter_45 : decode cX11_wordsWithLetter 45 = .ok (.iload_n 2, 1) := by decide +kernel
theorem dX11_wordsWithLetter_46 : decode cX11_wordsWithLetter 46 = .ok (.ireturn, 1) := by decide +kernel
set_option maxRecDepth 20000 in
theorem ggX11_wordsOfLength_X7_size : GoodIn wsX11_wordsOfLength wsX7_size := goodIn_r _ [7, 8, 40, 41] (by decide +kernel) (by decide +kernel)
set_option maxRecDepth 20000 in
theorem gX11_wordsOfLength_X7_size : GoodIn wsX11_wordsOfLength (wsV RX11 115 RX7 yX7_size wsX7_size) := goodIn_app (goodIn_of _ (by decide +kernel)) ggX11_wordsOfLength_X7_size
set_option maxRecDepth 20000 in
theorem ggX11_wordsOfLength_X7_at : GoodIn wsX11_wordsOfLength wsX7_at := goodIn_r _ [12, 13, 14, 15, 16, 6, 17, 8, 40, 41] (by decide +kernel) (by decide +kernel)
set_option maxRecDepth 20000 in
theorem gX11_wordsOfLength_X7_at : GoodIn wsX11_wordsOfLength (wsV RX11 201 RX7 yX7_at wsX7_at) := goodIn_app (goodIn_of _ (by decide +kernel)) ggX11_wordsOfLength_X7_at
set_option maxRecDepth 20000 in
theorem ggX11_wordsOfLength_X8_length : GoodIn wsX11_wordsOfLength wsX8_length := goodIn_r _ [21, 22, 23, 20, 24] (by decide +kernel) (by decide +kernel)
set_option maxRecDepth 20000 in
theorem gX11_wordsOfLength_X8_length : GoodIn wsX11_wordsOfLength (va_wsS RX11 205 yX8_length wsX8_length) := goodIn_app (goodIn_of _ (by decide +kernel)) ggX11_wordsOfLength_X8_length
theorem dX11_wordsOfLength_0 : decode cX11_wordsOfLength 0 = .ok (.iconst 0, 1) := by decide +kernel
theorem dX11_wordsOfLength_1 : decode cX11_wordsOfLength 1 = .ok (.istore_n 2, 1) := by decide +kernel
theorem dX11_wordsOfLength_2 : decode cX11_wordsOfLength 2 = .ok (.iconst 0, 1) := by decide +kernel
theorem dX11_wordsOfLength_3 : decode cX11_wordsOfLength 3 = .ok (.istore_n 3, 1) := by decide +kernel
theorem dX11_wordsOfLength_4 : decode cX11_wordsOfLength 4 = .ok (.iload_n 3, 1) := by decide +kernel
theorem dX11_wordsOfLength_5 : decode cX11_wordsOfLength 5 = .ok (.aload_n 0, 1) := by decide +kernel
theorem dX11_wordsOfLength_6 : decode cX11_wordsOfLength 6 = .ok (.getfield 12, 3) := by decide +kernel
theorem dX11_wordsOfLength_9 : decode cX11_wordsOfLength 9 = .ok (.getfield 112, 3) := by decide +kernel
theorem dX11_wordsOfLength_12 : decode cX11_wordsOfLength 12 = .ok (.invokevirtual 115, 3) := by decide +kernel
theorem dX11_wordsOfLength_15 : decode cX11_wordsOfLength 15 = .ok (.if_icmp .ge 30, 3) := by decide +kernel
theorem dX11_wordsOfLength_18 : decode cX11_wordsOfLength 18 = .ok (.aload_n 0, 1) := by decide +kernel
theorem dX11_wordsOfLength_19 : decode cX11_wordsOfLength 19 = .ok (.getfield 12, 3) := by decide +kernel
theorem dX11_wordsOfLength_22 : decode cX11_wordsOfLength 22 = .ok (.getfield 112, 3) := by decide +kernel
theorem dX11_wordsOfLength_25 : decode cX11_wordsOfLength 25 = .ok (.iload_n 3, 1) := by decide +kernel
theorem dX11_wordsOfLength_26 : decode cX11_wordsOfLength 26 = .ok (.invokevirtual 201, 3) := by decide +kernel
theorem dX11_wordsOfLength_29 : decode cX11_wordsOfLength 29 = .ok (.invokestatic 205, 3) := by decide +kernel
theorem dX11_wordsOfLength_32 : decode cX11_wordsOfLength 32 = .ok (.iload_n 1, 1) := by decide +kernel
theorem dX11_wordsOfLength_33 : decode cX11_wordsOfLength 33 = .ok (.if_icmp .ne 6, 3) := by decide +kernel
theorem dX11_wordsOfLength_36 : decode cX11_wordsOfLength 36 = .ok (.iinc 2 1, 3) := by decide +kernel
theorem dX11_wordsOfLength_39 : decode cX11_wordsOfLength 39 = .ok (.iinc 3 1, 3) := by decide +kernel
theorem dX11_wordsOfLength_42 : decode cX11_wordsOfLength 42 = .ok (.goto (-38), 3) := by decide +kernel
theorem dX11_wordsOfLength_45 : decode cX11_wordsOfLength 45 = .ok (.iload_n 2, 1) := by decide +kernel
theorem dX11_wordsOfLength_46 : decode cX11_wordsOfLength 46 = .ok (.ireturn, 1) := by decide +kernel
