theorem dX7_warmthOf_30 : decode cX7_warmthOf 30 = .ok (.iconst 3, 1) := by decide +kernel
theorem dX7_warmthOf_31 : decode cX7_warmthOf 31 = .ok (.iload_n 3, 1) := by decide +kernel
theorem dX7_warmthOf_32 : decode cX7_warmthOf 32 = .ok (.imul, 1) := by decide +kernel
theorem dX7_warmthOf_33 : decode cX7_warmthOf 33 = .ok (.iadd, 1) := by decide +kernel
theorem dX7_warmthOf_34 : decode cX7_warmthOf 34 = .ok (.iconst 1, 1) := by decide +kernel
theorem dX7_warmthOf_35 : decode cX7_warmthOf 35 = .ok (.iadd, 1) := by decide +kernel
theorem dX7_warmthOf_36 : decode cX7_warmthOf 36 = .ok (.iaload, 1) := by decide +kernel
theorem dX7_warmthOf_37 : decode cX7_warmthOf 37 = .ok (.iload_n 1, 1) := by decide +kernel
theorem dX7_warmthOf_38 : decode cX7_warmthOf 38 = .ok (.aload_n 0, 1) := by decide +kernel
theorem dX7_warmthOf_39 : decode cX7_warmthOf 39 = .ok (.getfield 9, 3) := by decide +kernel
theorem dX7_warmthOf_42 : decode cX7_warmthOf 42 = .ok (.bipush 6, 2) := by decide +kernel
theorem dX7_warmthOf_44 : decode cX7_warmthOf 44 = .ok (.iconst 3, 1) := by decide +kernel
theorem dX7_warmthOf_45 : decode cX7_warmthOf 45 = .ok (.iload_n 3, 1) := by decide +kernel
theorem dX7_warmthOf_46 : decode cX7_warmthOf 46 = .ok (.imul, 1) := by decide +kernel
theorem dX7_warmthOf_47 : decode cX7_warmthOf 47 = .ok (.iadd, 1) := by decide +kernel
theorem dX7_warmthOf_48 : decode cX7_warmthOf 48 = .ok (.iaload, 1) := by decide +kernel
theorem dX7_warmthOf_49 : decode cX7_warmthOf 49 = .ok (.invokestatic 134, 3) := by decide +kernel
theorem dX7_warmthOf_52 : decode cX7_warmthOf 52 = .ok (.iconst 1, 1) := by decide +kernel
theorem dX7_warmthOf_53 : decode cX7_warmthOf 53 = .ok (.iadd, 1) := by decide +kernel
theorem dX7_warmthOf_54 : decode cX7_warmthOf 54 = .ok (.idiv, 1) := by decide +kernel
theorem dX7_warmthOf_55 : decode cX7_warmthOf 55 = .ok (.goto 4, 3) := by decide +kernel
theorem dX7_warmthOf_58 : decode cX7_warmthOf 58 = .ok (.iconst 0, 1) := by decide +kernel
theorem dX7_warmthOf_59 : decode cX7_warmthOf 59 = .ok (.iadd, 1) := by decide +kernel
theorem dX7_warmthOf_60 : decode cX7_warmthOf 60 = .ok (.istore_n 2, 1) := by decide +kernel
theorem dX7_warmthOf_61 : decode cX7_warmthOf 61 = .ok (.iinc 3 1, 3) := by decide +kernel
theorem dX7_warmthOf_64 : decode cX7_warmthOf 64 = .ok (.goto (-55), 3) := by decide +kernel
theorem dX7_warmthOf_67 : decode cX7_warmthOf 67 = .ok (.iload_n 2, 1) := by decide +kernel
theorem dX7_warmthOf_68 : decode cX7_warmthOf 68 = .ok (.ireturn, 1) := by decide +kernel
set_option maxRecDepth 20000 in
theorem ggX7_water_X7_isBlock : GoodIn wsX7_water wsX7_isBlock := goodIn_r _ [7, 8, 9, 10, 6, 11, 48, 49, 50, 51, 52, 53, 54, 55, 56, 57, 58, 59, 60, 61, 62, 63, 64, 65] (by decide +kernel) (by decide +kernel)
set_option maxRecDepth 20000 in
theorem gX7_water_X7_isBlock : GoodIn wsX7_water (wsV RX7 114 RX7 yX7_isBlock wsX7_isBlock) := goodIn_app (goodIn_of _ (by decide +kernel)) ggX7_water_X7_isBlock
set_option maxRecDepth 20000 in
theorem ggX7_water_X7_isSome : GoodIn wsX7_water wsX7_isSome := goodIn_r _ [14, 15, 9, 10, 6, 11] (by decide +kernel) (by decide +kernel)
set_option maxRecDepth 20000 in
theorem gX7_water_X7_isSome : GoodIn wsX7_water (va_wsS RX7 71 yX7_isSome wsX7_isSome) := goodIn_app (goodIn_of _ (by decide +kernel)) ggX7_water_X7_isSome
set_option maxRecDepth 20000 in
theorem ggX7_water_X7_finds : GoodIn wsX7_water wsX7_finds := goodIn_r _ [19, 20, 1, 48, 49, 50, 51, 52, 53, 54, 55, 56, 57, 58, 59, 60, 61, 62, 63, 64, 65] (by decide +kernel) (by decide +kernel)
set_option maxRecDepth 20000 in
theorem gX7_water_X7_finds : GoodIn wsX7_water (wsV RX7 45 RX7 yX7_finds wsX7_finds) := goodIn_app (goodIn_of _ (by decide +kernel)) ggX7_water_X7_finds
set_option maxRecDepth 20000 in
theorem ggX7_water_X7_isGone : GoodIn wsX7_water wsX7_isGone := goodIn_r _ [24, 25, 26, 27, 6, 28, 8, 48, 49, 50, 51, 52, 53, 54, 55, 56, 57, 58, 59, 60, 61, 62, 63, 64, 65] (by decide +kernel) (by decide +kernel)
set_option maxRecDepth 20000 in
theorem gX7_water_X7_isGone : GoodIn wsX7_water (wsV RX7 105 RX7 yX7_isGone wsX7_isGone) := goodIn_app (goodIn_of _ (by decide +kernel)) ggX7_water_X7_isGone
set_option maxRecDepth 20000 in
theorem ggX7_water_X7_cellOf : GoodIn wsX7_water wsX7_cellOf := goodIn_r _ [28, 8, 48, 49, 50, 51, 52, 53, 54, 55, 56, 57, 58, 59, 60, 61, 62, 63, 64, 65] (by decide +kernel) (by decide +kernel)
set_option maxRecDepth 20000 in
theorem gX7_water_X7_cellOf : GoodIn wsX7_water (wsV RX7 61 RX7 yX7_cellOf wsX7_cellOf) := goodIn_app (goodIn_of _ (by decide +kernel)) ggX7_water_X7_cellOf
set_option maxRecDepth 20000 in
theorem ggX7_water_X7_warmthOf : GoodIn wsX7_water wsX7_warmthOf := goodIn_r _ [32, 8, 33, 34, 35, 6, 36, 37, 38, 39, 48, 49, 50, 51, 52, 53, 54, 55, 56, 57, 58, 59, 60, 61, 62, 63, 64, 65] (by decide +kernel) (by decide +kernel)
set_option maxRecDepth 20000 in
theorem gX7_water_X7_warmthOf : GoodIn wsX7_water (wsV RX7 137 RX7 yX7_warmthOf wsX7_warmthOf) := goodIn_app (goodIn_of _ (by decide +kernel)) ggX7_water_X7_warmthOf
set_option maxRecDepth 20000 in
theorem ggX7_water_X7_grains : GoodIn wsX7_water wsX7_grains := goodIn_r _ [43, 8, 48, 49, 50, 51, 52, 53, 54, 55, 56, 57, 58, 59, 60, 61, 62, 63, 64, 65] (by decide +kernel) (by decide +kernel)
set_option maxRecDepth 20000 in
theorem gX7_water_X7_grains : GoodIn wsX7_water (wsV RX7 111 RX7 yX7_grains wsX7_grains) := goodIn_app (goodIn_of _ (by decide +kernel)) ggX7_water_X7_grains
set_option maxRecDepth 20000 in
theorem ggX7_water_X7_makes : GoodIn wsX7_water wsX7_makes := goodIn_r _ [47, 8, 48, 49, 50, 51, 52, 53, 54, 55, 56, 57, 58, 59, 60, 61, 62, 63, 64, 65] (by decide +kernel) (by decide +kernel)
set_option maxRecDepth 20000 in
theorem gX7_water_X7_makes : GoodIn wsX7_water (wsV RX7 140 RX7 yX7_makes wsX7_makes) := goodIn_app (goodIn_of _ (by decide +kernel)) ggX7_water_X7_makes
theorem dX7_water_0 : decode cX7_water 0 = .ok (.aload_n 0, 1) := by decide +kernel
theorem dX7_water_1 : decode cX7_water 1 = .ok (.iload_n 1, 1) := by decide +kernel
theorem dX7_water_2 : decode cX7_water 2 = .ok (.invokevirtual 114, 3) := by decide +kernel
theorem dX7_water_5 : decode cX7_water 5 = .ok (.ifCond .eq 10, 3) := by decide +kernel
theorem dX7_water_8 : decode cX7_water 8 = .ok (.iload_n 2, 1) := by decide +kernel
theorem dX7_water_9 : decode cX7_water 9 = .ok (.invokestatic 71, 3) := by decide +kernel
theorem dX7_water_12 : decode cX7_water 12 = .ok (.ifCond .ne 10, 3) := by decide +kernel
theorem dX7_water_15 : decode cX7_water 15 = .ok (.aload_n 0, 1) := by decide +kernel
theorem dX7_water_16 : decode cX7_water 16 = .ok (.ldc 43, 2) := by decide +kernel
theorem dX7_water_18 : decode cX7_water 18 = .ok (.invokevirtual 45, 3) := by decide +kernel
theorem dX7_water_21 : decode cX7_water 21 = .ok (.ireturn, 1) := by decide +kernel
theorem dX7_water_22 : decode cX7_water 22 = .ok (.aload_n 0, 1) := by decide +kernel
theorem dX7_water_23 : decode cX7_water 23 = .ok (.iload_n 1, 1) := by decide +kernel
theorem dX7_water_24 : decode cX7_water 24 = .ok (.invokevirtual 105, 3) := by decide +kernel
theorem dX7_water_27 : decode cX7_water 27 = .ok (.ifCond .ne 15, 3) := by decide +kernel
theorem dX7_water_30 : decode cX7_water 30 = .ok (.aload_n 0, 1) := by decide +kernel
theorem dX7_water_31 : decode cX7_water 31 = .ok (.aload_n 0, 1) := by decide +kernel
theorem dX7_water_32 : decode cX7_water 32 = .ok (.iload_n 1, 1) := by decide +kernel
theorem dX7_water_33 : decode cX7_water 33 = .ok (.invokevirtual 61, 3) := by decide +kernel
theorem dX7_water_36 : decode cX7_water 36 = .ok (.invokevirtual 137, 3) := by decide +kernel
theorem dX7_water_39 : decode cX7_water 39 = .ok (.ifCond .lt 10, 3) := by decide +kernel
theorem dX7_water_42 : decode cX7_water 42 = .ok (.aload_n 0, 1) := by decide +kernel
theorem dX7_water_43 : decode cX7_water 43 = .ok (.ldc 78, 2) := by decide +kernel
theorem dX7_water_45 : decode cX7_water 45 = .ok (.invokevirtual 45, 3) := by decide +kernel
theorem dX7_water_48 : decode cX7_water 48 = .ok (.ireturn, 1) := by decide +kernel
theorem dX7_water_49 : decode cX7_water 49 = .ok (.bipush 99, 2) := by decide +kernel
theorem dX7_water_51 : decode cX7_water 51 = .ok (.aload_n 0, 1) := by decide +kernel
theorem dX7_water_52 : decode cX7_water 52 = .ok (.iload_n 1, 1) := by decide +kernel
theorem dX7_water_53 : decode cX7_water 53 = .ok (.invokevirtual 111, 3) := by decide +kernel
theorem dX7_water_56 : decode cX7_water 56 = .ok (.isub, 1) := by decide +kernel
theorem dX7_water_57 : decode cX7_water 57 = .ok (.istore_n 3, 1) := by decide +kernel
theorem dX7_water_58 : decode cX7_water 58 = .ok (.iload_n 2, 1) := by decide +kernel
theorem dX7_water_59 : decode cX7_water 59 = .ok (.iload_n 3, 1) := by decide +kernel
theorem dX7_water_60 : decode cX7_water 60 = .ok (.if_icmp .ge 7, 3) := by decide +kernel
theorem dX7_water_63 : decode cX7_water 63 = .ok (.iload_n 2, 1) := by decide +kernel
theorem dX7_water_64 : decode cX7_water 64 = .ok (.goto 4, 3) := by decide +kernel
theorem dX7_water_67 : decode cX7_water 67 = .ok (.iload_n 3, 1) := by decide +kernel
theorem dX7_water_68 : decode cX7_water 68 = .ok (.istore 4, 2) := by decide +kernel
theorem dX7_water_70 : decode cX7_water 70 = .ok (.aload_n 0, 1) := by decide +kernel
theorem dX7_water_71 : decode cX7_water 71 = .ok (.iload_n 1, 1) := by decide +kernel
theorem dX7_water_72 : decode cX7_water 72 = .ok (.aload_n 0, 1) := by decide +kernel
theorem dX7_water_73 : decode cX7_water 73 = .ok (.iload_n 1, 1) := by decide +kernel
theorem dX7_water_74 : decode cX7_water 74 = .ok (.invokevirtual 111, 3) := by decide +kernel
theorem dX7_water_77 : decode cX7_water 77 = .ok (.iload 4, 2) := by decide +kernel
theorem dX7_water_79 : decode cX7_water 79 = .ok (.iadd, 1) := by decide +kernel
theorem dX7_water_80 : decode cX7_water 80 = .ok (.invokevirtual 140, 3) := by decide +kernel
theorem dX7_water_83 : decode cX7_water 83 = .ok (.iload 4, 2) := by decide +kernel
theorem dX7_water_85 : decode cX7_water 85 = .ok (.ireturn, 1) := by decide +kernel
set_option maxRecDepth 20000 in
theorem ggX7_candle_X7_isCell : GoodIn wsX7_candle wsX7_isCell := goodIn_r _ [6, 7, 8, 9, 5, 10] (by decide +kernel) (by decide +kernel)
set_option maxRecDepth 20000 in
theorem gX7_candle_X7_isCell : GoodIn wsX7_candle (va_wsS RX7 68 yX7_isCell wsX7_isCell) := goodIn_app (goodIn_of _ (by decide +kernel)) ggX7_candle_X7_isCell
set_option maxRecDepth 20000 in
theorem ggX7_candle_X7_in : GoodIn wsX7_candle wsX7_in := goodIn_r _ [10] (by decide +kernel) (by decide +kernel)
set_option maxRecDepth 20000 in
theorem gX7_candle_X7_in : GoodIn wsX7_candle (va_wsS RX7 51 yX7_in wsX7_in) := goodIn_app (goodIn_of _ (by decide +kernel)) ggX7_candle_X7_in
set_option maxRecDepth 20000 in
theorem ggX7_candle_X7_isCandle : GoodIn wsX7_candle wsX7_isCandle := goodIn_r _ [13, 14, 8, 9, 5, 10] (by decide +kernel) (by decide +kernel)
set_option maxRecDepth 20000 in
theorem gX7_candle_X7_isCandle : GoodIn wsX7_candle (va_wsS RX7 146 yX7_isCandle wsX7_isCandle) := goodIn_app (goodIn_of _ (by decide +kernel)) ggX7_candle_X7_isCandle
set_option maxRecDepth 20000 in
theorem ggX7_candle_X7_becomes : GoodIn wsX7_candle wsX7_becomes := goodIn_r _ [18, 19, 25, 26, 27, 28, 29, 30, 31, 32, 33, 34, 35, 36, 37, 38, 39, 40, 41, 42] (by decide +kernel) (by decide +kernel)
set_option maxRecDepth 20000 in
theorem gX7_candle_X7_becomes : GoodIn wsX7_candle (wsV RX7 127 RX7 yX7_becomes wsX7_becomes) := goodIn_app (goodIn_of _ (by decide +kernel)) ggX7_candle_X7_becomes
set_option maxRecDepth 20000 in
theorem ggX7_candle_X7_finds : GoodIn wsX7_candle wsX7_finds := goodIn_r _ [23, 24, 2, 25, 26, 27, 28, 29, 30, 31, 32, 33, 34, 35, 36, 37, 38, 39, 40, 41, 42] (by decide +kernel) (by decide +kernel)
set_option maxRecDepth 20000 in
theorem gX7_candle_X7_finds : GoodIn wsX7_candle (wsV RX7 45 RX7 yX7_finds wsX7_finds) := goodIn_app (goodIn_of _ (by decide +kernel)) ggX7_candle_X7_finds
theorem dX7_candle_0 : decode cX7_candle 0 = .ok (.iload_n 2, 1) := by decide +kernel
theorem dX7_candle_1 : decode cX7_candle 1 = .ok (.ifCond .ne 10, 3) := by decide +kernel
theorem dX7_candle_4 : decode cX7_candle 4 = .ok (.iload_n 3, 1) := by decide +kernel
theorem dX7_candle_5 : decode cX7_candle 5 = .ok (.invokestatic 68, 3) := by decide +kernel
theorem dX7_candle_8 : decode cX7_candle 8 = .ok (.goto 25, 3) := by decide +kernel
theorem dX7_candle_11 : decode cX7_candle 11 = .ok (.iload_n 2, 1) := by decide +kernel
theorem dX7_candle_12 : decode cX7_candle 12 = .ok (.iconst 1, 1) := by decide +kernel
theorem dX7_candle_13 : decode cX7_candle 13 = .ok (.if_icmp .ne 19, 3) := by decide +kernel
theorem dX7_candle_16 : decode cX7_candle 16 = .ok (.iload_n 3, 1) := by decide +kernel
theorem dX7_candle_17 : decode cX7_candle 17 = .ok (.i2l, 1) := by decide +kernel
theorem dX7_candle_18 : decode cX7_candle 18 = .ok (.lconst 0, 1) := by decide +kernel
theorem dX7_candle_19 : decode cX7_candle 19 = .ok (.ldc2_w 144, 3) := by decide +kernel
theorem dX7_candle_22 : decode cX7_candle 22 = .ok (.invokestatic 51, 3) := by decide +kernel
theorem dX7_candle_25 : decode cX7_candle 25 = .ok (.ifCond .eq 7, 3) := by decide +kernel
theorem dX7_candle_28 : decode cX7_candle 28 = .ok (.iconst 1, 1) := by decide +kernel
theorem dX7_candle_29 : decode cX7_candle 29 = .ok (.goto 4, 3) := by decide +kernel
theorem dX7_candle_32 : decode cX7_candle 32 = .ok (.iconst 0, 1) := by decide +kernel
theorem dX7_candle_33 : decode cX7_candle 33 = .ok (.istore 4, 2) := by decide +kernel
theorem dX7_candle_35 : decode cX7_candle 35 = .ok (.iload_n 1, 1) := by decide +kernel
theorem dX7_candle_36 : decode cX7_candle 36 = .ok (.invokestatic 146, 3) := by decide +kernel
theorem dX7_candle_39 : decode cX7_candle 39 = .ok (.ifCond .eq 24, 3) := by decide +kernel
theorem dX7_candle_42 : decode cX7_candle 42 = .ok (.iload 4, 2) := by decide +kernel
theorem dX7_candle_44 : decode cX7_candle 44 = .ok (.ifCond .eq 19, 3) := by decide +kernel
theorem dX7_candle_47 : decode cX7_candle 47 = .ok (.aload_n 0, 1) := by decide +kernel
theorem dX7_candle_48 : decode cX7_candle 48 = .ok (.bipush 6, 2) := by decide +kernel
theorem dX7_candle_50 : decode cX7_candle 50 = .ok (.iconst 3, 1) := by decide +kernel
theorem dX7_candle_51 : decode cX7_candle 51 = .ok (.iload_n 1, 1) := by decide +kernel
theorem dX7_candle_52 : decode cX7_candle 52 = .ok (.imul, 1) := by decide +kernel
theorem dX7_candle_53 : decode cX7_candle 53 = .ok (.iadd, 1) := by decide +kernel
theorem dX7_candle_54 : decode cX7_candle 54 = .ok (.iload_n 2, 1) := by decide +kernel
theorem dX7_candle_55 : decode cX7_candle 55 = .ok (.iadd, 1) := by decide +kernel
theorem dX7_candle_56 : decode cX7_candle 56 = .ok (.iload_n 3, 1) := by decide +kernel
theorem dX7_candle_57 : decode cX7_candle 57 = .ok (.invokevirtual 127, 3) := by decide +kernel
theorem dX7_candle_60 : decode cX7_candle 60 = .ok (.goto 9, 3) := by decide +kernel
theorem dX7_candle_63 : decode cX7_candle 63 = .ok (.aload_n 0, 1) := by decide +kernel
theorem dX7_candle_64 : decode cX7_candle 64 = .ok (.ldc 43, 2) := by decide +kernel
theorem dX7_candle_66 : decode cX7_candle 66 = .ok (.invokevirtual 45, 3) := by decide +kernel
theorem dX7_candle_69 : decode cX7_candle 69 = .ok (.ireturn, 1) := by decide +kernel
set_option maxRecDepth 20000 in
theorem ggX7_lit_X7_isCandle : GoodIn wsX7_lit wsX7_isCandle := goodIn_r _ [5, 6, 7, 8, 4, 9] (by decide +kernel) (by decide +kernel)
set_option maxRecDepth 20000 in
theorem gX7_lit_X7_isCandle : GoodIn wsX7_lit (va_wsS RX7 146 yX7_isCandle wsX7_isCandle) := goodIn_app (goodIn_of _ (by decide +kernel)) ggX7_lit_X7_isCandle
set_option maxRecDepth 20000 in
theorem ggX7_lit_X7_becomes : GoodIn wsX7_lit wsX7_becomes := goodIn_r _ [13, 14, 20, 21, 22, 23, 24, 25, 26, 27, 28, 29, 30, 31, 32, 33, 34, 35, 36, 37] (by decide +kernel) (by decide +kernel)
set_option maxRecDepth 20000 in
theorem gX7_lit_X7_becomes : GoodIn wsX7_lit (wsV RX7 127 RX7 yX7_becomes wsX7_becomes) := goodIn_app (goodIn_of _ (by decide +kernel)) ggX7_lit_X7_becomes
set_option maxRecDepth 20000 in
theorem ggX7_lit_X7_finds : GoodIn wsX7_lit wsX7_finds := goodIn_r _ [18, 19, 1, 20, 21, 22, 23, 24, 25, 26, 27, 28, 29, 30, 31, 32, 33, 34, 35, 36, 37] (by decide +kernel) (by decide +kernel)
set_option maxRecDepth 20000 in
theorem gX7_lit_X7_finds : GoodIn wsX7_lit (wsV RX7 45 RX7 yX7_finds wsX7_finds) := goodIn_app (goodIn_of _ (by decide +kernel)) ggX7_lit_X7_finds
theorem dX7_lit_0 : decode cX7_lit 0 = .ok (.iload_n 1, 1) := by decide +kernel
theorem dX7_lit_1 : decode cX7_lit 1 = .ok (.invokestatic 146, 3) := by decide +kernel
theorem dX7_lit_4 : decode cX7_lit 4 = .ok (.ifCond .eq 27, 3) := by decide +kernel
theorem dX7_lit_7 : decode cX7_lit 7 = .ok (.aload_n 0, 1) := by decide +kernel
theorem dX7_lit_8 : decode cX7_lit 8 = .ok (.bipush 6, 2) := by decide +kernel
theorem dX7_lit_10 : decode cX7_lit 10 = .ok (.iconst 3, 1) := by decide +kernel
theorem dX7_lit_11 : decode cX7_lit 11 = .ok (.iload_n 1, 1) := by decide +kernel
theorem dX7_lit_12 : decode cX7_lit 12 = .ok (.imul, 1) := by decide +kernel
theorem dX7_lit_13 : decode cX7_lit 13 = .ok (.iadd, 1) := by decide +kernel
theorem dX7_lit_14 : decode cX7_lit 14 = .ok (.iconst 2, 1) := by decide +kernel
theorem dX7_lit_15 : decode cX7_lit 15 = .ok (.iadd, 1) := by decide +kernel
theorem dX7_lit_16 : decode cX7_lit 16 = .ok (.iload_n 2, 1) := by decide +kernel
theorem dX7_lit_17 : decode cX7_lit 17 = .ok (.ifCond .eq 7, 3) := by decide +kernel
theorem dX7_lit_20 : decode cX7_lit 20 = .ok (.iconst 1, 1) := by decide +kernel
theorem dX7_lit_21 : decode cX7_lit 21 = .ok (.goto 4, 3) := by decide +kernel
theorem dX7_lit_24 : decode cX7_lit 24 = .ok (.iconst 0, 1) := by decide +kernel
theorem dX7_lit_25 : decode cX7_lit 25 = .ok (.invokevirtual 127, 3) := by decide +kernel
theorem dX7_lit_28 : decode cX7_lit 28 = .ok (.goto 9, 3) := by decide +kernel
theorem dX7_lit_31 : decode cX7_lit 31 = .ok (.aload_n 0, 1) := by decide +kernel
theorem dX7_lit_32 : decode cX7_lit 32 = .ok (.ldc 43, 2) := by decide +kernel
theorem dX7_lit_34 : decode cX7_lit 34 = .ok (.invokevirtual 45, 3) := by decide +kernel
theorem dX7_lit_37 : decode cX7_lit 37 = .ok (.ireturn, 1) := by decide +kernel
set_option maxRecDepth 20000 in
theorem ggX7_cold_X7_in : GoodIn wsX7_cold wsX7_in := goodIn_r _ [7] (by decide +kernel) (by decide +kernel)
set_option maxRecDepth 20000 in
theorem gX7_cold_X7_in : GoodIn wsX7_cold (va_wsS RX7 51 yX7_in wsX7_in) := goodIn_app (goodIn_of _ (by decide +kernel)) ggX7_cold_X7_in
set_option maxRecDepth 20000 in
theorem ggX7_cold_X7_becomes : GoodIn wsX7_cold wsX7_becomes := goodIn_r _ [11, 12, 18, 19, 20, 21, 22, 23, 24, 25, 26, 27, 28, 29, 30, 31, 32, 33, 34, 35] (by decide +kernel) (by decide +kernel)
set_option maxRecDepth 20000 in
theorem gX7_cold_X7_becomes : GoodIn wsX7_cold (wsV RX7 127 RX7 yX7_becomes wsX7_becomes) := goodIn_app (goodIn_of _ (by decide +kernel)) ggX7_cold_X7_becomes
set_option maxRecDepth 20000 in
theorem ggX7_cold_X7_finds : GoodIn wsX7_cold wsX7_finds := goodIn_r _ [16, 17, 3, 18, 19, 20, 21, 22, 23, 24, 25, 26, 27, 28, 29, 30, 31, 32, 33, 34, 35] (by decide +kernel) (by decide +kernel)
set_option maxRecDepth 20000 in
theorem gX7_cold_X7_finds : GoodIn wsX7_cold (wsV RX7 45 RX7 yX7_finds wsX7_finds) := goodIn_app (goodIn_of _ (by decide +kernel)) ggX7_cold_X7_finds
theorem dX7_cold_0 : decode cX7_cold 0 = .ok (.iload_n 1, 1) := by decide +kernel
theorem dX7_cold_1 : decode cX7_cold 1 = .ok (.i2l, 1) := by decide +kernel
theorem dX7_cold_2 : decode cX7_cold 2 = .ok (.ldc2_w 149, 3) := by decide +kernel
theorem dX7_cold_5 : decode cX7_cold 5 = .ok (.ldc2_w 151, 3) := by decide +kernel
theorem dX7_cold_8 : decode cX7_cold 8 = .ok (.invokestatic 51, 3) := by decide +kernel
theorem dX7_cold_11 : decode cX7_cold 11 = .ok (.ifCond .eq 12, 3) := by decide +kernel
theorem dX7_cold_14 : decode cX7_cold 14 = .ok (.aload_n 0, 1) := by decide +kernel
theorem dX7_cold_15 : decode cX7_cold 15 = .ok (.iconst 1, 1) := by decide +kernel
theorem dX7_cold_16 : decode cX7_cold 16 = .ok (.iload_n 1, 1) := by decide +kernel
theorem dX7_cold_17 : decode cX7_cold 17 = .ok (.invokevirtual 127, 3) := by decide +kernel
theorem dX7_cold_20 : decode cX7_cold 20 = .ok (.goto 9, 3) := by decide +kernel
theorem dX7_cold_23 : decode cX7_cold 23 = .ok (.aload_n 0, 1) := by decide +kernel
theorem dX7_cold_24 : decode cX7_cold 24 = .ok (.ldc 43, 2) := by decide +kernel
theorem dX7_cold_26 : decode cX7_cold 26 = .ok (.invokevirtual 45, 3) := by decide +kernel
theorem dX7_cold_29 : decode cX7_cold 29 = .ok (.ireturn, 1) := by decide +kernel
set_option maxRecDepth 20000 in
theorem ggX7_warmth_X7_isCell : GoodIn wsX7_warmth wsX7_isCell := goodIn_r _ [5, 6, 7, 8, 4, 9] (by decide +kernel) (by decide +kernel)
set_option maxRecDepth 20000 in
theorem gX7_warmth_X7_isCell : GoodIn wsX7_warmth (va_wsS RX7 68 yX7_isCell wsX7_isCell) := goodIn_app (goodIn_of _ (by decide +kernel)) ggX7_warmth_X7_isCell
set_option maxRecDepth 20000 in
theorem ggX7_warmth_X7_warmthOf : GoodIn wsX7_warmth wsX7_warmthOf := goodIn_r _ [13, 14, 15, 16, 17, 4, 18, 19, 20, 21, 27, 28, 29, 30, 31, 32, 33, 34, 35, 36, 37, 38, 39, 40, 41, 42, 43, 44] (by decide +kernel) (by decide +kernel)
set_option maxRecDepth 20000 in
theorem gX7_warmth_X7_warmthOf : GoodIn wsX7_warmth (wsV RX7 137 RX7 yX7_warmthOf wsX7_warmthOf) := goodIn_app (goodIn_of _ (by decide +kernel)) ggX7_warmth_X7_warmthOf
set_option maxRecDepth 20000 in
theorem ggX7_warmth_X7_finds : GoodIn wsX7_warmth wsX7_finds := goodIn_r _ [25, 26, 1, 27, 28, 29, 30, 31, 32, 33, 34, 35, 36, 37, 38, 39, 40, 41, 42, 43, 44] (by decide +kernel) (by decide +kernel)
set_option maxRecDepth 20000 in
theorem gX7_warmth_X7_finds : GoodIn wsX7_warmth (wsV RX7 45 RX7 yX7_finds wsX7_finds) := goodIn_app (goodIn_of _ (by decide +kernel)) ggX7_warmth_X7_finds
theorem dX7_warmth_0 : decode cX7_warmth 0 = .ok (.iload_n 1, 1) := by decide +kernel
theorem dX7_warmth_1 : decode cX7_warmth 1 = .ok (.invokestatic 68, 3) := by decide +kernel
theorem dX7_warmth_4 : decode cX7_warmth 4 = .ok (.ifCond .eq 11, 3) := by decide +kernel
theorem dX7_warmth_7 : decode cX7_warmth 7 = .ok (.aload_n 0, 1) := by decide +kernel
theorem dX7_warmth_8 : decode cX7_warmth 8 = .ok (.iload_n 1, 1) := by decide +kernel
theorem dX7_warmth_9 : decode cX7_warmth 9 = .ok (.invokevirtual 137, 3) := by decide +kernel
theorem dX7_warmth_12 : decode cX7_warmth 12 = .ok (.goto 9, 3) := by decide +kernel
theorem dX7_warmth_15 : decode cX7_warmth 15 = .ok (.aload_n 0, 1) := by decide +kernel
theorem dX7_warmth_16 : decode cX7_warmth 16 = .ok (.ldc 43, 2) := by decide +kernel
theorem dX7_warmth_18 : decode cX7_warmth 18 = .ok (.invokevirtual 45, 3) := by decide +kernel
theorem dX7_warmth_21 : decode cX7_warmth 21 = .ok (.ireturn, 1) := by decide +kernel
set_option maxRecDepth 20000 in
theorem ggX7_light_X7_isLit : GoodIn wsX7_light wsX7_isLit := goodIn_r _ [6, 1, 7, 8, 9, 10, 11, 12, 13, 14, 15, 16, 17, 18, 19, 20, 21, 22, 23, 24] (by decide +kernel) (by decide +kernel)
set_option maxRecDepth 20000 in
theorem gX7_light_X7_isLit : GoodIn wsX7_light (wsV RX7 131 RX7 yX7_isLit wsX7_isLit) := goodIn_app (goodIn_of _ (by decide +kernel)) ggX7_light_X7_isLit
theorem dX7_light_0 : decode cX7_light 0 = .ok (.iconst 0, 1) := by decide +kernel
theorem dX7_light_1 : decode cX7_light 1 = .ok (.istore_n 1, 1) := by decide +kernel
theorem dX7_light_2 : decode cX7_light 2 = .ok (.iconst 0, 1) := by decide +kernel
theorem dX7_light_3 : decode cX7_light 3 = .ok (.istore_n 2, 1) := by decide +kernel
theorem dX7_light_4 : decode cX7_light 4 = .ok (.iload_n 2, 1) := by decide +kernel
theorem dX7_light_5 : decode cX7_light 5 = .ok (.bipush 6, 2) := by decide +kernel
theorem dX7_light_7 : decode cX7_light 7 = .ok (.if_icmp .ge 37, 3) := by decide +kernel
theorem dX7_light_10 : decode cX7_light 10 = .ok (.iload_n 1, 1) := by decide +kernel
theorem dX7_light_11 : decode cX7_light 11 = .ok (.aload_n 0, 1) := by decide +kernel
theorem dX7_light_12 : decode cX7_light 12 = .ok (.iload_n 2, 1) := by decide +kernel
theorem dX7_light_13 : decode cX7_light 13 = .ok (.invokevirtual 131, 3) := by decide +kernel
theorem dX7_light_16 : decode cX7_light 16 = .ok (.ifCond .eq 19, 3) := by decide +kernel
theorem dX7_light_19 : decode cX7_light 19 = .ok (.aload_n 0, 1) := by decide +kernel
theorem dX7_light_20 : decode cX7_light 20 = .ok (.getfield 9, 3) := by decide +kernel
theorem dX7_light_23 : decode cX7_light 23 = .ok (.bipush 6, 2) := by decide +kernel
theorem dX7_light_25 : decode cX7_light 25 = .ok (.iconst 3, 1) := by decide +kernel
theorem dX7_light_26 : decode cX7_light 26 = .ok (.iload_n 2, 1) := by decide +kernel
theorem dX7_light_27 : decode cX7_light 27 = .ok (.imul, 1) := by decide +kernel
theorem dX7_light_28 : decode cX7_light 28 = .ok (.iadd, 1) := by decide +kernel
theorem dX7_light_29 : decode cX7_light 29 = .ok (.iconst 1, 1) := by decide +kernel
theorem dX7_light_30 : decode cX7_light 30 = .ok (.iadd, 1) := by decide +kernel
theorem dX7_light_31 : decode cX7_light 31 = .ok (.iaload, 1) := by decide +kernel
theorem dX7_light_32 : decode cX7_light 32 = .ok (.goto 4, 3) := by decide +kernel
theorem dX7_light_35 : decode cX7_light 35 = .ok (.iconst 0, 1) := by decide +kernel
theorem dX7_light_36 : decode cX7_light 36 = .ok (.iadd, 1) := by decide +kernel
theorem dX7_light_37 : decode cX7_light 37 = .ok (.istore_n 1, 1) := by decide +kernel
theorem dX7_light_38 : decode cX7_light 38 = .ok (.iinc 2 1, 3) := by decide +kernel
theorem dX7_light_41 : decode cX7_light 41 = .ok (.goto (-37), 3) := by decide +kernel
theorem dX7_light_44 : decode cX7_light 44 = .ok (.iload_n 1, 1) := by decide +kernel
theorem dX7_light_45 : decode cX7_light 45 = .ok (.ireturn, 1) := by decide +kernel
set_option maxRecDepth 20000 in
theorem ggX7_melts_X7_grains : GoodIn wsX7_melts wsX7_grains := goodIn_r _ [8, 3, 17, 18, 19, 20, 21, 22, 23, 24, 25, 26, 27, 28, 29, 30, 31, 32, 33, 34] (by decide +kernel) (by decide +kernel)
set_option maxRecDepth 20000 in
theorem gX7_melts_X7_grains : GoodIn wsX7_melts (wsV RX7 111 RX7 yX7_grains wsX7_grains) := goodIn_app (goodIn_of _ (by decide +kernel)) ggX7_melts_X7_grains
set_option maxRecDepth 20000 in
theorem ggX7_melts_X7_makes : GoodIn wsX7_melts wsX7_makes := goodIn_r _ [12, 3, 17, 18, 19, 20, 21, 22, 23, 24, 25, 26, 27, 28, 29, 30, 31, 32, 33, 34] (by decide +kernel) (by decide +kernel)
set_option maxRecDepth 20000 in
theorem gX7_melts_X7_makes : GoodIn wsX7_melts (wsV RX7 140 RX7 yX7_makes wsX7_makes) := goodIn_app (goodIn_of _ (by decide +kernel)) ggX7_melts_X7_makes
set_option maxRecDepth 20000 in
theorem ggX7_melts_X7_cellOf : GoodIn wsX7_melts wsX7_cellOf := goodIn_r _ [16, 3, 17, 18, 19, 20, 21, 22, 23, 24, 25, 26, 27, 28, 29, 30, 31, 32, 33, 34] (by decide +kernel) (by decide +kernel)
set_option maxRecDepth 20000 in
theorem gX7_melts_X7_cellOf : GoodIn wsX7_melts (wsV RX7 61 RX7 yX7_cellOf wsX7_cellOf) := goodIn_app (goodIn_of _ (by decide +kernel)) ggX7_melts_X7_cellOf
theorem dX7_melts_0 : decode cX7_melts 0 = .ok (.aload_n 0, 1) := by decide +kernel
theorem dX7_melts_1 : decode cX7_melts 1 = .ok (.getfield 25, 3) := by decide +kernel
theorem dX7_melts_4 : decode cX7_melts 4 = .ok (.iload_n 1, 1) := by decide +kernel
theorem dX7_melts_5 : decode cX7_melts 5 = .ok (.iaload, 1) := by decide +kernel
theorem dX7_melts_6 : decode cX7_melts 6 = .ok (.ifCond .le 78, 3) := by decide +kernel
theorem dX7_melts_9 : decode cX7_melts 9 = .ok (.aload_n 0, 1) := by decide +kernel
theorem dX7_melts_10 : decode cX7_melts 10 = .ok (.getfield 25, 3) := by decide +kernel
theorem dX7_melts_13 : decode cX7_melts 13 = .ok (.iload_n 1, 1) := by decide +kernel
theorem dX7_melts_14 : decode cX7_melts 14 = .ok (.iaload, 1) := by decide +kernel
theorem dX7_melts_15 : decode cX7_melts 15 = .ok (.aload_n 0, 1) := by decide +kernel
theorem dX7_melts_16 : decode cX7_melts 16 = .ok (.iload_n 1, 1) := by decide +kernel
theorem dX7_melts_17 : decode cX7_melts 17 = .ok (.invokevirtual 111, 3) := by decide +kernel
theorem dX7_melts_20 : decode cX7_melts 20 = .ok (.if_icmp .ge 12, 3) := by decide +kernel
theorem dX7_melts_23 : decode cX7_melts 23 = .ok (.aload_n 0, 1) := by decide +kernel
theorem dX7_melts_24 : decode cX7_melts 24 = .ok (.getfield 25, 3) := by decide +kernel
theorem dX7_melts_27 : decode cX7_melts 27 = .ok (.iload_n 1, 1) := by decide +kernel
theorem dX7_melts_28 : decode cX7_melts 28 = .ok (.iaload, 1) := by decide +kernel
theorem dX7_melts_29 : decode cX7_melts 29 = .ok (.goto 8, 3) := by decide +kernel
theorem dX7_melts_32 : decode cX7_melts 32 = .ok (.aload_n 0, 1) := by decide +kernel
theorem dX7_melts_33 : decode cX7_melts 33 = .ok (.iload_n 1, 1) := by decide +kernel
theorem dX7_melts_34 : decode cX7_melts 34 = .ok (.invokevirtual 111, 3) := by decide +kernel
theorem dX7_melts_37 : decode cX7_melts 37 = .ok (.istore_n 2, 1) := by decide +kernel
theorem dX7_melts_38 : decode cX7_melts 38 = .ok (.aload_n 0, 1) := by decide +kernel
theorem dX7_melts_39 : decode cX7_melts 39 = .ok (.iload_n 1, 1) := by decide +kernel
theorem dX7_melts_40 : decode cX7_melts 40 = .ok (.aload_n 0, 1) := by decide +kernel
theorem dX7_melts_41 : decode cX7_melts 41 = .ok (.iload_n 1, 1) := by decide +kernel
theorem dX7_melts_42 : decode cX7_melts 42 = .ok (.invokevirtual 111, 3) := by decide +kernel
theorem dX7_melts_45 : decode cX7_melts 45 = .ok (.iload_n 2, 1) := by decide +kernel
theorem dX7_melts_46 : decode cX7_melts 46 = .ok (.isub, 1) := by decide +kernel
theorem dX7_melts_47 : decode cX7_melts 47 = .ok (.invokevirtual 140, 3) := by decide +kernel
theorem dX7_melts_50 : decode cX7_melts 50 = .ok (.aload_n 0, 1) := by decide +kernel
theorem dX7_melts_51 : decode cX7_melts 51 = .ok (.getfield 28, 3) := by decide +kernel
theorem dX7_melts_54 : decode cX7_melts 54 = .ok (.aload_n 0, 1) := by decide +kernel
theorem dX7_melts_55 : decode cX7_melts 55 = .ok (.iload_n 1, 1) := by decide +kernel
theorem dX7_melts_56 : decode cX7_melts 56 = .ok (.invokevirtual 61, 3) := by decide +kernel
theorem dX7_melts_59 : decode cX7_melts 59 = .ok (.bipush 8, 2) := by decide +kernel
theorem dX7_melts_61 : decode cX7_melts 61 = .ok (.irem, 1) := by decide +kernel
theorem dX7_melts_62 : decode cX7_melts 62 = .ok (.dup2, 1) := by decide +kernel
theorem dX7_melts_63 : decode cX7_melts 63 = .ok (.iaload, 1) := by decide +kernel
theorem dX7_melts_64 : decode cX7_melts 64 = .ok (.iload_n 2, 1) := by decide +kernel
theorem dX7_melts_65 : decode cX7_melts 65 = .ok (.iconst 2, 1) := by decide +kernel
theorem dX7_melts_66 : decode cX7_melts 66 = .ok (.idiv, 1) := by decide +kernel
theorem dX7_melts_67 : decode cX7_melts 67 = .ok (.iadd, 1) := by decide +kernel
theorem dX7_melts_68 : decode cX7_melts 68 = .ok (.iastore, 1) := by decide +kernel
theorem dX7_melts_69 : decode cX7_melts 69 = .ok (.aload_n 0, 1) := by decide +kernel
theorem dX7_melts_70 : decode cX7_melts 70 = .ok (.getfield 9, 3) := by decide +kernel
theorem dX7_melts_73 : decode cX7_melts 73 = .ok (.iconst 2, 1) := by decide +kernel
theorem dX7_melts_74 : decode cX7_melts 74 = .ok (.dup2, 1) := by decide +kernel
theorem dX7_melts_75 : decode cX7_melts 75 = .ok (.iaload, 1) := by decide +kernel
theorem dX7_melts_76 : decode cX7_melts 76 = .ok (.iload_n 2, 1) := by decide +kernel
theorem dX7_melts_77 : decode cX7_melts 77 = .ok (.iload_n 2, 1) := by decide +kernel
theorem dX7_melts_78 : decode cX7_melts 78 = .ok (.iconst 2, 1) := by decide +kernel
theorem dX7_melts_79 : decode cX7_melts 79 = .ok (.idiv, 1) := by decide +kernel
theorem dX7_melts_80 : decode cX7_melts 80 = .ok (.isub, 1) := by decide +kernel
theorem dX7_melts_81 : decode cX7_melts 81 = .ok (.iadd, 1) := by decide +kernel
theorem dX7_melts_82 : decode cX7_melts 82 = .ok (.iastore, 1) := by decide +kernel
theorem dX7_melts_83 : decode cX7_melts 83 = .ok (.return_, 1) := by decide +kernel
theorem dX7_melts_84 : decode cX7_melts 84 = .ok (.aload_n 0, 1) := by decide +kernel
theorem dX7_melts_85 : decode cX7_melts 85 = .ok (.getfield 25, 3) := by decide +kernel
theorem dX7_melts_88 : decode cX7_melts 88 = .ok (.iload_n 1, 1) := by decide +kernel
theorem dX7_melts_89 : decode cX7_melts 89 = .ok (.iaload, 1) := by decide +kernel
theorem dX7_melts_90 : decode cX7_melts 90 = .ok (.ineg, 1) := by decide +kernel
theorem dX7_melts_91 : decode cX7_melts 91 = .ok (.iconst 2, 1) := by decide +kernel
theorem dX7_melts_92 : decode cX7_melts 92 = .ok (.idiv, 1) := by decide +kernel
theorem dX7_melts_93 : decode cX7_melts 93 = .ok (.istore_n 2, 1) := by decide +kernel
theorem dX7_melts_94 : decode cX7_melts 94 = .ok (.iload_n 2, 1) := by decide +kernel
theorem dX7_melts_95 : decode cX7_melts 95 = .ok (.aload_n 0, 1) := by decide +kernel
theorem dX7_melts_96 : decode cX7_melts 96 = .ok (.getfield 9, 3) := by decide +kernel
theorem dX7_melts_99 : decode cX7_melts 99 = .ok (.iconst 2, 1) := by decide +kernel
theorem dX7_melts_100 : decode cX7_melts 100 = .ok (.iaload, 1) := by decide +kernel
theorem dX7_melts_101 : decode cX7_melts 101 = .ok (.if_icmp .ge 7, 3) := by decide +kernel
theorem dX7_melts_104 : decode cX7_melts 104 = .ok (.iload_n 2, 1) := by decide +kernel
theorem dX7_melts_105 : decode cX7_melts 105 = .ok (.goto 9, 3) := by decide +kernel
theorem dX7_melts_108 : decode cX7_melts 108 = .ok (.aload_n 0, 1) := by decide +kernel
theorem dX7_melts_109 : decode cX7_melts 109 = .ok (.getfield 9, 3) := by decide +kernel
theorem dX7_melts_112 : decode cX7_melts 112 = .ok (.iconst 2, 1) := by decide +kernel
theorem dX7_melts_113 : decode cX7_melts 113 = .ok (.iaload, 1) := by decide +kernel
theorem dX7_melts_114 : decode cX7_melts 114 = .ok (.istore_n 2, 1) := by decide +kernel
theorem dX7_melts_115 : decode cX7_melts 115 = .ok (.iload_n 2, 1) := by decide +kernel
theorem dX7_melts_116 : decode cX7_melts 116 = .ok (.bipush 99, 2) := by decide +kernel
theorem dX7_melts_118 : decode cX7_melts 118 = .ok (.aload_n 0, 1) := by decide +kernel
theorem dX7_melts_119 : decode cX7_melts 119 = .ok (.iload_n 1, 1) := by decide +kernel
theorem dX7_melts_120 : decode cX7_melts 120 = .ok (.invokevirtual 111, 3) := by decide +kernel
theorem dX7_melts_123 : decode cX7_melts 123 = .ok (.isub, 1) := by decide +kernel
theorem dX7_melts_124 : decode cX7_melts 124 = .ok (.if_icmp .ge 7, 3) := by decide +kernel
theorem dX7_melts_127 : decode cX7_melts 127 = .ok (.iload_n 2, 1) := by decide +kernel
theorem dX7_melts_128 : decode cX7_melts 128 = .ok (.goto 11, 3) := by decide +kernel
theorem dX7_melts_131 : decode cX7_melts 131 = .ok (.bipush 99, 2) := by decide +kernel
theorem dX7_melts_133 : decode cX7_melts 133 = .ok (.aload_n 0, 1) := by decide +kernel
theorem dX7_melts_134 : decode cX7_melts 134 = .ok (.iload_n 1, 1) := by decide +kernel
theorem dX7_melts_135 : decode cX7_melts 135 = .ok (.invokevirtual 111, 3) := by decide +kernel
theorem dX7_melts_138 : decode cX7_melts 138 = .ok (.isub, 1) := by decide +kernel
theorem dX7_melts_139 : decode cX7_melts 139 = .ok (.istore_n 2, 1) := by decide +kernel
theorem dX7_melts_140 : decode cX7_melts 140 = .ok (.aload_n 0, 1) := by decide +kernel
theorem dX7_melts_141 : decode cX7_melts 141 = .ok (.iload_n 1, 1) := by decide +kernel
theorem dX7_melts_142 : decode cX7_melts 142 = .ok (.aload_n 0, 1) := by decide +kernel
theorem dX7_melts_143 : decode cX7_melts 143 = .ok (.iload_n 1, 1) := by decide +kernel
theorem dX7_melts_144 : decode cX7_melts 144 = .ok (.invokevirtual 111, 3) := by decide +kernel
theorem dX7_melts_147 : decode cX7_melts 147 = .ok (.iload_n 2, 1) := by decide +kernel
theorem dX7_melts_148 : decode cX7_melts 148 = .ok (.iadd, 1) := by decide +kernel
theorem dX7_melts_149 : decode cX7_melts 149 = .ok (.invokevirtual 140, 3) := by decide +kernel
theorem dX7_melts_152 : decode cX7_melts 152 = .ok (.aload_n 0, 1) := by decide +kernel
theorem dX7_melts_153 : decode cX7_melts 153 = .ok (.getfield 9, 3) := by decide +kernel
theorem dX7_melts_156 : decode cX7_melts 156 = .ok (.iconst 2, 1) := by decide +kernel
theorem dX7_melts_157 : decode cX7_melts 157 = .ok (.dup2, 1) := by decide +kernel
theorem dX7_melts_158 : decode cX7_melts 158 = .ok (.iaload, 1) := by decide +kernel
theorem dX7_melts_159 : decode cX7_melts 159 = .ok (.iload_n 2, 1) := by decide +kernel
theorem dX7_melts_160 : decode cX7_melts 160 = .ok (.isub, 1) := by decide +kernel
theorem dX7_melts_161 : decode cX7_melts 161 = .ok (.iastore, 1) := by decide +kernel
theorem dX7_melts_162 : decode cX7_melts 162 = .ok (.return_, 1) := by decide +kernel
set_option maxRecDepth 20000 in
theorem ggX7_freezes_X7_blockOn : GoodIn wsX7_freezes wsX7_blockOn := goodIn_r _ [8, 3, 9, 10, 11, 7, 12, 21, 22, 23, 24, 25, 26, 27, 28, 29, 30, 31, 32, 33, 34, 35, 36, 37, 38] (by decide +kernel) (by decide +kernel)
set_option maxRecDepth 20000 in
theorem gX7_freezes_X7_blockOn : GoodIn wsX7_freezes (wsV RX7 75 RX7 yX7_blockOn wsX7_blockOn) := goodIn_app (goodIn_of _ (by decide +kernel)) ggX7_freezes_X7_blockOn
set_option maxRecDepth 20000 in
theorem ggX7_freezes_X7_grains : GoodIn wsX7_freezes wsX7_grains := goodIn_r _ [16, 3, 21, 22, 23, 24, 25, 26, 27, 28, 29, 30, 31, 32, 33, 34, 35, 36, 37, 38] (by decide +kernel) (by decide +kernel)
set_option maxRecDepth 20000 in
theorem gX7_freezes_X7_grains : GoodIn wsX7_freezes (wsV RX7 111 RX7 yX7_grains wsX7_grains) := goodIn_app (goodIn_of _ (by decide +kernel)) ggX7_freezes_X7_grains
set_option maxRecDepth 20000 in
theorem ggX7_freezes_X7_makes : GoodIn wsX7_freezes wsX7_makes := goodIn_r _ [20, 3, 21, 22, 23, 24, 25, 26, 27, 28, 29, 30, 31, 32, 33, 34, 35, 36, 37, 38] (by decide +kernel) (by decide +kernel)
set_option maxRecDepth 20000 in
theorem gX7_freezes_X7_makes : GoodIn wsX7_freezes (wsV RX7 140 RX7 yX7_makes wsX7_makes) := goodIn_app (goodIn_of _ (by decide +kernel)) ggX7_freezes_X7_makes
theorem dX7_freezes_0 : decode cX7_freezes 0 = .ok (.iconst (-1), 1) := by decide +kernel
theorem dX7_freezes_1 : decode cX7_freezes 1 = .ok (.istore_n 2, 1) := by decide +kernel
theorem dX7_freezes_2 : decode cX7_freezes 2 = .ok (.bipush 40, 2) := by decide +kernel
theorem dX7_freezes_4 : decode cX7_freezes 4 = .ok (.iload_n 1, 1) := by decide +kernel
theorem dX7_freezes_5 : decode cX7_freezes 5 = .ok (.iadd, 1) := by decide +kernel
theorem dX7_freezes_6 : decode cX7_freezes 6 = .ok (.istore_n 3, 1) := by decide +kernel
theorem dX7_freezes_7 : decode cX7_freezes 7 = .ok (.iload_n 3, 1) := by decide +kernel
theorem dX7_freezes_8 : decode cX7_freezes 8 = .ok (.ifCond .lt 38, 3) := by decide +kernel
theorem dX7_freezes_11 : decode cX7_freezes 11 = .ok (.aload_n 0, 1) := by decide +kernel
theorem dX7_freezes_12 : decode cX7_freezes 12 = .ok (.iload_n 3, 1) := by decide +kernel
theorem dX7_freezes_13 : decode cX7_freezes 13 = .ok (.invokevirtual 75, 3) := by decide +kernel
theorem dX7_freezes_16 : decode cX7_freezes 16 = .ok (.istore 4, 2) := by decide +kernel
theorem dX7_freezes_18 : decode cX7_freezes 18 = .ok (.iload 4, 2) := by decide +kernel
theorem dX7_freezes_20 : decode cX7_freezes 20 = .ok (.ifCond .lt 18, 3) := by decide +kernel
theorem dX7_freezes_23 : decode cX7_freezes 23 = .ok (.aload_n 0, 1) := by decide +kernel
theorem dX7_freezes_24 : decode cX7_freezes 24 = .ok (.getfield 25, 3) := by decide +kernel
theorem dX7_freezes_27 : decode cX7_freezes 27 = .ok (.iload 4, 2) := by decide +kernel
theorem dX7_freezes_29 : decode cX7_freezes 29 = .ok (.iaload, 1) := by decide +kernel
theorem dX7_freezes_30 : decode cX7_freezes 30 = .ok (.ifCond .ge 8, 3) := by decide +kernel
theorem dX7_freezes_33 : decode cX7_freezes 33 = .ok (.iload 4, 2) := by decide +kernel
theorem dX7_freezes_35 : decode cX7_freezes 35 = .ok (.goto 4, 3) := by decide +kernel
theorem dX7_freezes_38 : decode cX7_freezes 38 = .ok (.iload_n 2, 1) := by decide +kernel
theorem dX7_freezes_39 : decode cX7_freezes 39 = .ok (.istore_n 2, 1) := by decide +kernel
theorem dX7_freezes_40 : decode cX7_freezes 40 = .ok (.iinc 3 (-8), 3) := by decide +kernel
theorem dX7_freezes_43 : decode cX7_freezes 43 = .ok (.goto (-36), 3) := by decide +kernel
theorem dX7_freezes_46 : decode cX7_freezes 46 = .ok (.aload_n 0, 1) := by decide +kernel
theorem dX7_freezes_47 : decode cX7_freezes 47 = .ok (.getfield 28, 3) := by decide +kernel
theorem dX7_freezes_50 : decode cX7_freezes 50 = .ok (.iload_n 1, 1) := by decide +kernel
theorem dX7_freezes_51 : decode cX7_freezes 51 = .ok (.iaload, 1) := by decide +kernel
theorem dX7_freezes_52 : decode cX7_freezes 52 = .ok (.istore_n 3, 1) := by decide +kernel
theorem dX7_freezes_53 : decode cX7_freezes 53 = .ok (.iload_n 2, 1) := by decide +kernel
theorem dX7_freezes_54 : decode cX7_freezes 54 = .ok (.ifCond .lt 45, 3) := by decide +kernel
theorem dX7_freezes_57 : decode cX7_freezes 57 = .ok (.bipush 99, 2) := by decide +kernel
theorem dX7_freezes_59 : decode cX7_freezes 59 = .ok (.aload_n 0, 1) := by decide +kernel
theorem dX7_freezes_60 : decode cX7_freezes 60 = .ok (.iload_n 2, 1) := by decide +kernel
theorem dX7_freezes_61 : decode cX7_freezes 61 = .ok (.invokevirtual 111, 3) := by decide +kernel
theorem dX7_freezes_64 : decode cX7_freezes 64 = .ok (.isub, 1) := by decide +kernel
theorem dX7_freezes_65 : decode cX7_freezes 65 = .ok (.istore 4, 2) := by decide +kernel
theorem dX7_freezes_67 : decode cX7_freezes 67 = .ok (.iload_n 3, 1) := by decide +kernel
theorem dX7_freezes_68 : decode cX7_freezes 68 = .ok (.iload 4, 2) := by decide +kernel
theorem dX7_freezes_70 : decode cX7_freezes 70 = .ok (.if_icmp .ge 7, 3) := by decide +kernel
theorem dX7_freezes_73 : decode cX7_freezes 73 = .ok (.iload_n 3, 1) := by decide +kernel
theorem dX7_freezes_74 : decode cX7_freezes 74 = .ok (.goto 5, 3) := by decide +kernel
theorem dX7_freezes_77 : decode cX7_freezes 77 = .ok (.iload 4, 2) := by decide +kernel
theorem dX7_freezes_79 : decode cX7_freezes 79 = .ok (.istore 5, 2) := by decide +kernel
theorem dX7_freezes_81 : decode cX7_freezes 81 = .ok (.aload_n 0, 1) := by decide +kernel
theorem dX7_freezes_82 : decode cX7_freezes 82 = .ok (.iload_n 2, 1) := by decide +kernel
theorem dX7_freezes_83 : decode cX7_freezes 83 = .ok (.aload_n 0, 1) := by decide +kernel
theorem dX7_freezes_84 : decode cX7_freezes 84 = .ok (.iload_n 2, 1) := by decide +kernel
theorem dX7_freezes_85 : decode cX7_freezes 85 = .ok (.invokevirtual 111, 3) := by decide +kernel
theorem dX7_freezes_88 : decode cX7_freezes 88 = .ok (.iload 5, 2) := by decide +kernel
theorem dX7_freezes_90 : decode cX7_freezes 90 = .ok (.iadd, 1) := by decide +kernel
theorem dX7_freezes_91 : decode cX7_freezes 91 = .ok (.invokevirtual 140, 3) := by decide +kernel
theorem dX7_freezes_94 : decode cX7_freezes 94 = .ok (.iload_n 3, 1) := by decide +kernel
theorem dX7_freezes_95 : decode cX7_freezes 95 = .ok (.iload 5, 2) := by decide +kernel
theorem dX7_freezes_97 : decode cX7_freezes 97 = .ok (.isub, 1) := by decide +kernel
theorem dX7_freezes_98 : decode cX7_freezes 98 = .ok (.istore_n 3, 1) := by decide +kernel
theorem dX7_freezes_99 : decode cX7_freezes 99 = .ok (.aload_n 0, 1) := by decide +kernel
theorem dX7_freezes_100 : decode cX7_freezes 100 = .ok (.getfield 9, 3) := by decide +kernel
theorem dX7_freezes_103 : decode cX7_freezes 103 = .ok (.iconst 2, 1) := by decide +kernel
theorem dX7_freezes_104 : decode cX7_freezes 104 = .ok (.dup2, 1) := by decide +kernel
theorem dX7_freezes_105 : decode cX7_freezes 105 = .ok (.iaload, 1) := by decide +kernel
theorem dX7_freezes_106 : decode cX7_freezes 106 = .ok (.iload_n 3, 1) := by decide +kernel
theorem dX7_freezes_107 : decode cX7_freezes 107 = .ok (.iadd, 1) := by decide +kernel
theorem dX7_freezes_108 : decode cX7_freezes 108 = .ok (.iastore, 1) := by decide +kernel
theorem dX7_freezes_109 : decode cX7_freezes 109 = .ok (.return_, 1) := by decide +kernel
set_option maxRecDepth 20000 in
theorem ggX7_weakNow_X7_isGone : GoodIn wsX7_weakNow wsX7_isGone := goodIn_r _ [6, 7, 8, 9, 5, 10, 1, 34, 35, 36, 37, 38, 39, 40, 41, 42, 43, 44, 45, 46, 47, 48, 49, 50, 51] (by decide +kernel) (by decide +kernel)
set_option maxRecDepth 20000 in
theorem gX7_weakNow_X7_isGone : GoodIn wsX7_weakNow (wsV RX7 105 RX7 yX7_isGone wsX7_isGone) := goodIn_app (goodIn_of _ (by decide +kernel)) ggX7_weakNow_X7_isGone
set_option maxRecDepth 20000 in
theorem ggX7_weakNow_X7_loadOf : GoodIn wsX7_weakNow wsX7_loadOf := goodIn_r _ [14, 7, 8, 9, 5, 10, 1, 15, 16, 17, 18, 19, 20, 21, 22, 23, 24, 25, 34, 35, 36, 37, 38, 39, 40, 41, 42, 43, 44, 45, 46, 47, 48, 49, 50, 51] (by decide +kernel) (by decide +kernel)
set_option maxRecDepth 20000 in
theorem gX7_weakNow_X7_loadOf : GoodIn wsX7_weakNow (wsV RX7 121 RX7 yX7_loadOf wsX7_loadOf) := goodIn_app (goodIn_of _ (by decide +kernel)) ggX7_weakNow_X7_loadOf
set_option maxRecDepth 20000 in
theorem ggX7_weakNow_X7_strongOf : GoodIn wsX7_weakNow wsX7_strongOf := goodIn_r _ [29, 22, 23, 24, 5, 25, 1, 30, 31, 32, 33, 34, 35, 36, 37, 38, 39, 40, 41, 42, 43, 44, 45, 46, 47, 48, 49, 50, 51] (by decide +kernel) (by decide +kernel)
set_option maxRecDepth 20000 in
theorem gX7_weakNow_X7_strongOf : GoodIn wsX7_weakNow (wsV RX7 124 RX7 yX7_strongOf wsX7_strongOf) := goodIn_app (goodIn_of _ (by decide +kernel)) ggX7_weakNow_X7_strongOf
theorem dX7_weakNow_0 : decode cX7_weakNow 0 = .ok (.iconst 0, 1) := by decide +kernel
theorem dX7_weakNow_1 : decode cX7_weakNow 1 = .ok (.istore_n 1, 1) := by decide +kernel
theorem dX7_weakNow_2 : decode cX7_weakNow 2 = .ok (.iconst 0, 1) := by decide +kernel
theorem dX7_weakNow_3 : decode cX7_weakNow 3 = .ok (.istore_n 2, 1) := by decide +kernel
theorem dX7_weakNow_4 : decode cX7_weakNow 4 = .ok (.iload_n 2, 1) := by decide +kernel
theorem dX7_weakNow_5 : decode cX7_weakNow 5 = .ok (.aload_n 0, 1) := by decide +kernel
theorem dX7_weakNow_6 : decode cX7_weakNow 6 = .ok (.getfield 9, 3) := by decide +kernel
theorem dX7_weakNow_9 : decode cX7_weakNow 9 = .ok (.iconst 5, 1) := by decide +kernel
theorem dX7_weakNow_10 : decode cX7_weakNow 10 = .ok (.iaload, 1) := by decide +kernel
theorem dX7_weakNow_11 : decode cX7_weakNow 11 = .ok (.if_icmp .ge 40, 3) := by decide +kernel
theorem dX7_weakNow_14 : decode cX7_weakNow 14 = .ok (.iload_n 1, 1) := by decide +kernel
theorem dX7_weakNow_15 : decode cX7_weakNow 15 = .ok (.aload_n 0, 1) := by decide +kernel
theorem dX7_weakNow_16 : decode cX7_weakNow 16 = .ok (.iload_n 2, 1) := by decide +kernel
theorem dX7_weakNow_17 : decode cX7_weakNow 17 = .ok (.invokevirtual 105, 3) := by decide +kernel
theorem dX7_weakNow_20 : decode cX7_weakNow 20 = .ok (.ifCond .ne 22, 3) := by decide +kernel
theorem dX7_weakNow_23 : decode cX7_weakNow 23 = .ok (.aload_n 0, 1) := by decide +kernel
theorem dX7_weakNow_24 : decode cX7_weakNow 24 = .ok (.iload_n 2, 1) := by decide +kernel
theorem dX7_weakNow_25 : decode cX7_weakNow 25 = .ok (.invokevirtual 121, 3) := by decide +kernel
theorem dX7_weakNow_28 : decode cX7_weakNow 28 = .ok (.aload_n 0, 1) := by decide +kernel
theorem dX7_weakNow_29 : decode cX7_weakNow 29 = .ok (.iload_n 2, 1) := by decide +kernel
theorem dX7_weakNow_30 : decode cX7_weakNow 30 = .ok (.invokevirtual 124, 3) := by decide +kernel
theorem dX7_weakNow_33 : decode cX7_weakNow 33 = .ok (.if_icmp .le 9, 3) := by decide +kernel
theorem dX7_weakNow_36 : decode cX7_weakNow 36 = .ok (.iconst 1, 1) := by decide +kernel
theorem dX7_weakNow_37 : decode cX7_weakNow 37 = .ok (.iload_n 2, 1) := by decide +kernel
theorem dX7_weakNow_38 : decode cX7_weakNow 38 = .ok (.ishl, 1) := by decide +kernel
theorem dX7_weakNow_39 : decode cX7_weakNow 39 = .ok (.goto 4, 3) := by decide +kernel
theorem dX7_weakNow_42 : decode cX7_weakNow 42 = .ok (.iconst 0, 1) := by decide +kernel
theorem dX7_weakNow_43 : decode cX7_weakNow 43 = .ok (.ior, 1) := by decide +kernel
theorem dX7_weakNow_44 : decode cX7_weakNow 44 = .ok (.istore_n 1, 1) := by decide +kernel
theorem dX7_weakNow_45 : decode cX7_weakNow 45 = .ok (.iinc 2 1, 3) := by decide +kernel
theorem dX7_weakNow_48 : decode cX7_weakNow 48 = .ok (.goto (-44), 3) := by decide +kernel
theorem dX7_weakNow_51 : decode cX7_weakNow 51 = .ok (.iload_n 1, 1) := by decide +kernel
theorem dX7_weakNow_52 : decode cX7_weakNow 52 = .ok (.ireturn, 1) := by decide +kernel
set_option maxRecDepth 20000 in
theorem ggX7_looseNow_X7_standing : GoodIn wsX7_looseNow wsX7_standing := goodIn_r _ [6, 1, 7, 8, 9, 5, 10, 11, 12, 13, 14, 15, 16, 17, 18, 19, 20, 21, 22, 23, 24, 25, 26, 27, 28, 29, 30, 31, 32, 33, 34, 35, 36, 37, 38, 39, 40, 41, 42, 43, 44, 45, 46, 47, 48, 49, 50, 51, 52, 53, 54, 55, 56, 57, 58, 59, 60, 61, 62, 63] (by decide +kernel) (by decide +kernel)
set_option maxRecDepth 20000 in
theorem gX7_looseNow_X7_standing : GoodIn wsX7_looseNow (wsV RX7 117 RX7 yX7_standing wsX7_standing) := goodIn_app (goodIn_of _ (by decide +kernel)) ggX7_looseNow_X7_standing
set_option maxRecDepth 20000 in
theorem ggX7_looseNow_X7_isGone : GoodIn wsX7_looseNow wsX7_isGone := goodIn_r _ [10, 11, 12, 13, 5, 14, 1, 46, 47, 48, 49, 50, 51, 52, 53, 54, 55, 56, 57, 58, 59, 60, 61, 62, 63] (by decide +kernel) (by decide +kernel)
set_option maxRecDepth 20000 in
theorem gX7_looseNow_X7_isGone : GoodIn wsX7_looseNow (wsV RX7 105 RX7 yX7_isGone wsX7_isGone) := goodIn_app (goodIn_of _ (by decide +kernel)) ggX7_looseNow_X7_isGone
set_option maxRecDepth 20000 in
theorem ggX7_looseNow_X7_has : GoodIn wsX7_looseNow wsX7_has := goodIn_r _ [36] (by decide +kernel) (by decide +kernel)
set_option maxRecDepth 20000 in
theorem gX7_looseNow_X7_has : GoodIn wsX7_looseNow (va_wsS RX7 83 yX7_has wsX7_has) := goodIn_app (goodIn_of _ (by decide +kernel)) ggX7_looseNow_X7_has
theorem dX7_looseNow_0 : decode cX7_looseNow 0 = .ok (.aload_n 0, 1) := by decide +kernel
theorem dX7_looseNow_1 : decode cX7_looseNow 1 = .ok (.invokevirtual 117, 3) := by decide +kernel
theorem dX7_looseNow_4 : decode cX7_looseNow 4 = .ok (.istore_n 1, 1) := by decide +kernel
theorem dX7_looseNow_5 : decode cX7_looseNow 5 = .ok (.iconst 0, 1) := by decide +kernel
theorem dX7_looseNow_6 : decode cX7_looseNow 6 = .ok (.istore_n 2, 1) := by decide +kernel
theorem dX7_looseNow_7 : decode cX7_looseNow 7 = .ok (.iconst 0, 1) := by decide +kernel
theorem dX7_looseNow_8 : decode cX7_looseNow 8 = .ok (.istore_n 3, 1) := by decide +kernel
theorem dX7_looseNow_9 : decode cX7_looseNow 9 = .ok (.iload_n 3, 1) := by decide +kernel
theorem dX7_looseNow_10 : decode cX7_looseNow 10 = .ok (.aload_n 0, 1) := by decide +kernel
theorem dX7_looseNow_11 : decode cX7_looseNow 11 = .ok (.getfield 9, 3) := by decide +kernel
theorem dX7_looseNow_14 : decode cX7_looseNow 14 = .ok (.iconst 5, 1) := by decide +kernel
theorem dX7_looseNow_15 : decode cX7_looseNow 15 = .ok (.iaload, 1) := by decide +kernel
theorem dX7_looseNow_16 : decode cX7_looseNow 16 = .ok (.if_icmp .ge 35, 3) := by decide +kernel
theorem dX7_looseNow_19 : decode cX7_looseNow 19 = .ok (.iload_n 2, 1) := by decide +kernel
theorem dX7_looseNow_20 : decode cX7_looseNow 20 = .ok (.aload_n 0, 1) := by decide +kernel
theorem dX7_looseNow_21 : decode cX7_looseNow 21 = .ok (.iload_n 3, 1) := by decide +kernel
theorem dX7_looseNow_22 : decode cX7_looseNow 22 = .ok (.invokevirtual 105, 3) := by decide +kernel
theorem dX7_looseNow_25 : decode cX7_looseNow 25 = .ok (.ifCond .ne 17, 3) := by decide +kernel
theorem dX7_looseNow_28 : decode cX7_looseNow 28 = .ok (.iload_n 1, 1) := by decide +kernel
theorem dX7_looseNow_29 : decode cX7_looseNow 29 = .ok (.iload_n 3, 1) := by decide +kernel
theorem dX7_looseNow_30 : decode cX7_looseNow 30 = .ok (.invokestatic 83, 3) := by decide +kernel
theorem dX7_looseNow_33 : decode cX7_looseNow 33 = .ok (.ifCond .ne 9, 3) := by decide +kernel
theorem dX7_looseNow_36 : decode cX7_looseNow 36 = .ok (.iconst 1, 1) := by decide +kernel
theorem dX7_looseNow_37 : decode cX7_looseNow 37 = .ok (.iload_n 3, 1) := by decide +kernel
theorem dX7_looseNow_38 : decode cX7_looseNow 38 = .ok (.ishl, 1) := by decide +kernel
theorem dX7_looseNow_39 : decode cX7_looseNow 39 = .ok (.goto 4, 3) := by decide +kernel
theorem dX7_looseNow_42 : decode cX7_looseNow 42 = .ok (.iconst 0, 1) := by decide +kernel
theorem dX7_looseNow_43 : decode cX7_looseNow 43 = .ok (.ior, 1) := by decide +kernel
theorem dX7_looseNow_44 : decode cX7_looseNow 44 = .ok (.istore_n 2, 1) := by decide +kernel
theorem dX7_looseNow_45 : decode cX7_looseNow 45 = .ok (.iinc 3 1, 3) := by decide +kernel
theorem dX7_looseNow_48 : decode cX7_looseNow 48 = .ok (.goto (-39), 3) := by decide +kernel
theorem dX7_looseNow_51 : decode cX7_looseNow 51 = .ok (.iload_n 2, 1) := by decide +kernel
theorem dX7_looseNow_52 : decode cX7_looseNow 52 = .ok (.ireturn, 1) := by decide +kernel
set_option maxRecDepth 20000 in
theorem ggX7_falls_X7_looseNow : GoodIn wsX7_falls wsX7_looseNow := goodIn_r _ [6, 1, 7, 8, 9, 5, 10, 11, 12, 13, 14, 15, 16, 17, 18, 19, 20, 21, 22, 23, 24, 25, 26, 27, 28, 29, 30, 31, 32, 33, 34, 35, 36, 37, 38, 39, 40, 41, 42, 43, 44, 45, 46, 47, 48, 49, 70, 71, 72, 73, 74, 75, 76, 77, 78, 79, 80, 81, 82, 83, 84, 85, 86, 87] (by decide +kernel) (by decide +kernel)
set_option maxRecDepth 20000 in
theorem gX7_falls_X7_looseNow : GoodIn wsX7_falls (wsV RX7 153 RX7 yX7_looseNow wsX7_looseNow) := goodIn_app (goodIn_of _ (by decide +kernel)) ggX7_falls_X7_looseNow
set_option maxRecDepth 20000 in
theorem ggX7_falls_X7_weakNow : GoodIn wsX7_falls wsX7_weakNow := goodIn_r _ [53, 1, 11, 12, 13, 5, 14, 15, 16, 17, 18, 54, 55, 56, 57, 27, 28, 29, 34, 35, 36, 37, 58, 59, 60, 61, 62, 63, 64, 65, 23, 24, 25, 26, 70, 71, 72, 73, 74, 75, 76, 77, 78, 79, 80, 81, 82, 83, 84, 85, 86, 87] (by decide +kernel) (by decide +kernel)
set_option maxRecDepth 20000 in
theorem gX7_falls_X7_weakNow : GoodIn wsX7_falls (wsV RX7 156 RX7 yX7_weakNow wsX7_weakNow) := goodIn_app (goodIn_of _ (by decide +kernel)) ggX7_falls_X7_weakNow
set_option maxRecDepth 20000 in
theorem ggX7_falls_X7_has : GoodIn wsX7_falls wsX7_has := goodIn_r _ [40] (by decide +kernel) (by decide +kernel)
set_option maxRecDepth 20000 in
theorem gX7_falls_X7_has : GoodIn wsX7_falls (va_wsS RX7 83 yX7_has wsX7_has) := goodIn_app (goodIn_of _ (by decide +kernel)) ggX7_falls_X7_has
set_option maxRecDepth 20000 in
theorem ggX7_falls_X7_grains : GoodIn wsX7_falls wsX7_grains := goodIn_r _ [61, 1, 70, 71, 72, 73, 74, 75, 76, 77, 78, 79, 80, 81, 82, 83, 84, 85, 86, 87] (by decide +kernel) (by decide +kernel)
set_option maxRecDepth 20000 in
theorem gX7_falls_X7_grains : GoodIn wsX7_falls (wsV RX7 111 RX7 yX7_grains wsX7_grains) := goodIn_app (goodIn_of _ (by decide +kernel)) ggX7_falls_X7_grains
set_option maxRecDepth 20000 in
theorem ggX7_falls_X7_makes : GoodIn wsX7_falls wsX7_makes := goodIn_r _ [69, 1, 70, 71, 72, 73, 74, 75, 76, 77, 78, 79, 80, 81, 82, 83, 84, 85, 86, 87] (by decide +kernel) (by decide +kernel)
set_option maxRecDepth 20000 in
theorem gX7_falls_X7_makes : GoodIn wsX7_falls (wsV RX7 140 RX7 yX7_makes wsX7_makes) := goodIn_app (goodIn_of _ (by decide +kernel)) ggX7_falls_X7_makes
theorem dX7_falls_0 : decode cX7_falls 0 = .ok (.aload_n 0, 1) := by decide +kernel
theorem dX7_falls_1 : decode cX7_falls 1 = .ok (.invokevirtual 153, 3) := by decide +kernel
theorem dX7_falls_4 : decode cX7_falls 4 = .ok (.aload_n 0, 1) := by decide +kernel
theorem dX7_falls_5 : decode cX7_falls 5 = .ok (.invokevirtual 156, 3) := by decide +kernel
theorem dX7_falls_8 : decode cX7_falls 8 = .ok (.ior, 1) := by decide +kernel
theorem dX7_falls_9 : decode cX7_falls 9 = .ok (.istore_n 1, 1) := by decide +kernel
theorem dX7_falls_10 : decode cX7_falls 10 = .ok (.iload_n 1, 1) := by decide +kernel
theorem dX7_falls_11 : decode cX7_falls 11 = .ok (.ifCond .eq 79, 3) := by decide +kernel
theorem dX7_falls_14 : decode cX7_falls 14 = .ok (.iconst 0, 1) := by decide +kernel
theorem dX7_falls_15 : decode cX7_falls 15 = .ok (.istore_n 2, 1) := by decide +kernel
theorem dX7_falls_16 : decode cX7_falls 16 = .ok (.iload_n 2, 1) := by decide +kernel
theorem dX7_falls_17 : decode cX7_falls 17 = .ok (.aload_n 0, 1) := by decide +kernel
theorem dX7_falls_18 : decode cX7_falls 18 = .ok (.getfield 9, 3) := by decide +kernel
theorem dX7_falls_21 : decode cX7_falls 21 = .ok (.iconst 5, 1) := by decide +kernel
theorem dX7_falls_22 : decode cX7_falls 22 = .ok (.iaload, 1) := by decide +kernel
theorem dX7_falls_23 : decode cX7_falls 23 = .ok (.if_icmp .ge 54, 3) := by decide +kernel
theorem dX7_falls_26 : decode cX7_falls 26 = .ok (.iload_n 1, 1) := by decide +kernel
theorem dX7_falls_27 : decode cX7_falls 27 = .ok (.iload_n 2, 1) := by decide +kernel
theorem dX7_falls_28 : decode cX7_falls 28 = .ok (.invokestatic 83, 3) := by decide +kernel
theorem dX7_falls_31 : decode cX7_falls 31 = .ok (.ifCond .ne 6, 3) := by decide +kernel
theorem dX7_falls_34 : decode cX7_falls 34 = .ok (.goto 37, 3) := by decide +kernel
theorem dX7_falls_37 : decode cX7_falls 37 = .ok (.aload_n 0, 1) := by decide +kernel
theorem dX7_falls_38 : decode cX7_falls 38 = .ok (.getfield 9, 3) := by decide +kernel
theorem dX7_falls_41 : decode cX7_falls 41 = .ok (.iconst 3, 1) := by decide +kernel
theorem dX7_falls_42 : decode cX7_falls 42 = .ok (.dup2, 1) := by decide +kernel
theorem dX7_falls_43 : decode cX7_falls 43 = .ok (.iaload, 1) := by decide +kernel
theorem dX7_falls_44 : decode cX7_falls 44 = .ok (.aload_n 0, 1) := by decide +kernel
theorem dX7_falls_45 : decode cX7_falls 45 = .ok (.iload_n 2, 1) := by decide +kernel
theorem dX7_falls_46 : decode cX7_falls 46 = .ok (.invokevirtual 111, 3) := by decide +kernel
theorem dX7_falls_49 : decode cX7_falls 49 = .ok (.iadd, 1) := by decide +kernel
theorem dX7_falls_50 : decode cX7_falls 50 = .ok (.iastore, 1) := by decide +kernel
theorem dX7_falls_51 : decode cX7_falls 51 = .ok (.aload_n 0, 1) := by decide +kernel
theorem dX7_falls_52 : decode cX7_falls 52 = .ok (.iload_n 2, 1) := by decide +kernel
theorem dX7_falls_53 : decode cX7_falls 53 = .ok (.iconst 0, 1) := by decide +kernel
theorem dX7_falls_54 : decode cX7_falls 54 = .ok (.invokevirtual 140, 3) := by decide +kernel
theorem dX7_falls_57 : decode cX7_falls 57 = .ok (.aload_n 0, 1) := by decide +kernel
theorem dX7_falls_58 : decode cX7_falls 58 = .ok (.getfield 9, 3) := by decide +kernel
theorem dX7_falls_61 : decode cX7_falls 61 = .ok (.bipush 24, 2) := by decide +kernel
theorem dX7_falls_63 : decode cX7_falls 63 = .ok (.iconst 3, 1) := by decide +kernel
theorem dX7_falls_64 : decode cX7_falls 64 = .ok (.iload_n 2, 1) := by decide +kernel
theorem dX7_falls_65 : decode cX7_falls 65 = .ok (.imul, 1) := by decide +kernel
theorem dX7_falls_66 : decode cX7_falls 66 = .ok (.iadd, 1) := by decide +kernel
theorem dX7_falls_67 : decode cX7_falls 67 = .ok (.iconst 1, 1) := by decide +kernel
theorem dX7_falls_68 : decode cX7_falls 68 = .ok (.iadd, 1) := by decide +kernel
theorem dX7_falls_69 : decode cX7_falls 69 = .ok (.iconst (-1), 1) := by decide +kernel
theorem dX7_falls_70 : decode cX7_falls 70 = .ok (.iastore, 1) := by decide +kernel
theorem dX7_falls_71 : decode cX7_falls 71 = .ok (.iinc 2 1, 3) := by decide +kernel
theorem dX7_falls_74 : decode cX7_falls 74 = .ok (.goto (-58), 3) := by decide +kernel
theorem dX7_falls_77 : decode cX7_falls 77 = .ok (.aload_n 0, 1) := by decide +kernel
theorem dX7_falls_78 : decode cX7_falls 78 = .ok (.invokevirtual 153, 3) := by decide +kernel
theorem dX7_falls_81 : decode cX7_falls 81 = .ok (.aload_n 0, 1) := by decide +kernel
theorem dX7_falls_82 : decode cX7_falls 82 = .ok (.invokevirtual 156, 3) := by decide +kernel
theorem dX7_falls_85 : decode cX7_falls 85 = .ok (.ior, 1) := by decide +kernel
theorem dX7_falls_86 : decode cX7_falls 86 = .ok (.istore_n 1, 1) := by decide +kernel
theorem dX7_falls_87 : decode cX7_falls 87 = .ok (.goto (-77), 3) := by decide +kernel
theorem dX7_falls_90 : decode cX7_falls 90 = .ok (.return_, 1) := by decide +kernel
set_option maxRecDepth 20000 in
theorem ggX7_emptyGo_X7_grains : GoodIn wsX7_emptyGo wsX7_grains := goodIn_r _ [6, 1, 7, 8, 9, 10, 11, 12, 13, 14, 15, 16, 17, 18, 19, 20, 21, 22, 23, 24] (by decide +kernel) (by decide +kernel)
set_option maxRecDepth 20000 in
theorem gX7_emptyGo_X7_grains : GoodIn wsX7_emptyGo (wsV RX7 111 RX7 yX7_grains wsX7_grains) := goodIn_app (goodIn_of _ (by decide +kernel)) ggX7_emptyGo_X7_grains
theorem dX7_emptyGo_0 : decode cX7_emptyGo 0 = .ok (.iconst 0, 1) := by decide +kernel
theorem dX7_emptyGo_1 : decode cX7_emptyGo 1 = .ok (.istore_n 1, 1) := by decide +kernel
theorem dX7_emptyGo_2 : decode cX7_emptyGo 2 = .ok (.iload_n 1, 1) := by decide +kernel
theorem dX7_emptyGo_3 : decode cX7_emptyGo 3 = .ok (.aload_n 0, 1) := by decide +kernel
theorem dX7_emptyGo_4 : decode cX7_emptyGo 4 = .ok (.getfield 9, 3) := by decide +kernel
theorem dX7_emptyGo_7 : decode cX7_emptyGo 7 = .ok (.iconst 5, 1) := by decide +kernel
theorem dX7_emptyGo_8 : decode cX7_emptyGo 8 = .ok (.iaload, 1) := by decide +kernel
theorem dX7_emptyGo_9 : decode cX7_emptyGo 9 = .ok (.if_icmp .ge 31, 3) := by decide +kernel
theorem dX7_emptyGo_12 : decode cX7_emptyGo 12 = .ok (.aload_n 0, 1) := by decide +kernel
theorem dX7_emptyGo_13 : decode cX7_emptyGo 13 = .ok (.iload_n 1, 1) := by decide +kernel
theorem dX7_emptyGo_14 : decode cX7_emptyGo 14 = .ok (.invokevirtual 111, 3) := by decide +kernel
theorem dX7_emptyGo_17 : decode cX7_emptyGo 17 = .ok (.ifCond .ne 17, 3) := by decide +kernel
theorem dX7_emptyGo_20 : decode cX7_emptyGo 20 = .ok (.aload_n 0, 1) := by decide +kernel
theorem dX7_emptyGo_21 : decode cX7_emptyGo 21 = .ok (.getfield 9, 3) := by decide +kernel
theorem dX7_emptyGo_24 : decode cX7_emptyGo 24 = .ok (.bipush 24, 2) := by decide +kernel
theorem dX7_emptyGo_26 : decode cX7_emptyGo 26 = .ok (.iconst 3, 1) := by decide +kernel
theorem dX7_emptyGo_27 : decode cX7_emptyGo 27 = .ok (.iload_n 1, 1) := by decide +kernel
theorem dX7_emptyGo_28 : decode cX7_emptyGo 28 = .ok (.imul, 1) := by decide +kernel
theorem dX7_emptyGo_29 : decode cX7_emptyGo 29 = .ok (.iadd, 1) := by decide +kernel
theorem dX7_emptyGo_30 : decode cX7_emptyGo 30 = .ok (.iconst 1, 1) := by decide +kernel
theorem dX7_emptyGo_31 : decode cX7_emptyGo 31 = .ok (.iadd, 1) := by decide +kernel
theorem dX7_emptyGo_32 : decode cX7_emptyGo 32 = .ok (.iconst (-1), 1) := by decide +kernel
theorem dX7_emptyGo_33 : decode cX7_emptyGo 33 = .ok (.iastore, 1) := by decide +kernel
theorem dX7_emptyGo_34 : decode cX7_emptyGo 34 = .ok (.iinc 1 1, 3) := by decide +kernel
theorem dX7_emptyGo_37 : decode cX7_emptyGo 37 = .ok (.goto (-35), 3) := by decide +kernel
theorem dX7_emptyGo_40 : decode cX7_emptyGo 40 = .ok (.return_, 1) := by decide +kernel
set_option maxRecDepth 20000 in
theorem ggX7_hour_X7_isGone : GoodIn wsX7_hour wsX7_isGone := goodIn_r _ [8, 9, 10, 11, 7, 12, 1, 99, 100, 101, 102, 103, 104, 105, 106, 107, 108, 109, 110, 111, 112, 113, 114, 115, 116] (by decide +kernel) (by decide +kernel)
set_option maxRecDepth 20000 in
theorem gX7_hour_X7_isGone : GoodIn wsX7_hour (wsV RX7 105 RX7 yX7_isGone wsX7_isGone) := goodIn_app (goodIn_of _ (by decide +kernel)) ggX7_hour_X7_isGone
set_option maxRecDepth 20000 in
theorem ggX7_hour_X7_cellOf : GoodIn wsX7_hour wsX7_cellOf := goodIn_r _ [12, 1, 99, 100, 101, 102, 103, 104, 105, 106, 107, 108, 109, 110, 111, 112, 113, 114, 115, 116] (by decide +kernel) (by decide +kernel)
set_option maxRecDepth 20000 in
theorem gX7_hour_X7_cellOf : GoodIn wsX7_hour (wsV RX7 61 RX7 yX7_cellOf wsX7_cellOf) := goodIn_app (goodIn_of _ (by decide +kernel)) ggX7_hour_X7_cellOf
set_option maxRecDepth 20000 in
theorem ggX7_hour_X7_warmthOf : GoodIn wsX7_hour wsX7_warmthOf := goodIn_r _ [16, 1, 17, 18, 19, 7, 20, 21, 22, 23, 99, 100, 101, 102, 103, 104, 105, 106, 107, 108, 109, 110, 111, 112, 113, 114, 115, 116] (by decide +kernel) (by decide +kernel)
set_option maxRecDepth 20000 in
theorem gX7_hour_X7_warmthOf : GoodIn wsX7_hour (wsV RX7 137 RX7 yX7_warmthOf wsX7_warmthOf) := goodIn_app (goodIn_of _ (by decide +kernel)) ggX7_hour_X7_warmthOf
set_option maxRecDepth 20000 in
theorem ggX7_hour_X7_melts : GoodIn wsX7_hour wsX7_melts := goodIn_r _ [27, 2, 3, 1, 28, 29, 30, 7, 31, 32, 33, 34, 35, 9, 10, 11, 12, 99, 100, 101, 102, 103, 104, 105, 106, 107, 108, 109, 110, 111, 112, 113, 114, 115, 116] (by decide +kernel) (by decide +kernel)
set_option maxRecDepth 20000 in
theorem gX7_hour_X7_melts : GoodIn wsX7_hour (wsV RX7 159 RX7 yX7_melts wsX7_melts) := goodIn_app (goodIn_of _ (by decide +kernel)) ggX7_hour_X7_melts
set_option maxRecDepth 20000 in
theorem ggX7_hour_X7_freezes : GoodIn wsX7_hour wsX7_freezes := goodIn_r _ [39, 2, 3, 1, 40, 41, 42, 7, 43, 9, 10, 11, 12, 28, 29, 30, 31, 32, 33, 34, 35, 99, 100, 101, 102, 103, 104, 105, 106, 107, 108, 109, 110, 111, 112, 113, 114, 115, 116] (by decide +kernel) (by decide +kernel)
set_option maxRecDepth 20000 in
theorem gX7_hour_X7_freezes : GoodIn wsX7_hour (wsV RX7 163 RX7 yX7_freezes wsX7_freezes) := goodIn_app (goodIn_of _ (by decide +kernel)) ggX7_hour_X7_freezes
set_option maxRecDepth 20000 in
theorem ggX7_hour_X7_emptyGo : GoodIn wsX7_hour wsX7_emptyGo := goodIn_r _ [47, 1, 28, 29, 30, 7, 31, 99, 100, 101, 102, 103, 104, 105, 106, 107, 108, 109, 110, 111, 112, 113, 114, 115, 116] (by decide +kernel) (by decide +kernel)
set_option maxRecDepth 20000 in
theorem gX7_hour_X7_emptyGo : GoodIn wsX7_hour (wsV RX7 166 RX7 yX7_emptyGo wsX7_emptyGo) := goodIn_app (goodIn_of _ (by decide +kernel)) ggX7_hour_X7_emptyGo
set_option maxRecDepth 20000 in
theorem ggX7_hour_X7_falls : GoodIn wsX7_hour wsX7_falls := goodIn_r _ [51, 1, 52, 53, 54, 7, 55, 56, 57, 58, 59, 4, 5, 6, 8, 9, 10, 11, 12, 60, 61, 62, 63, 64, 65, 66, 67, 68, 69, 70, 71, 72, 73, 74, 40, 41, 42, 43, 75, 76, 77, 78, 79, 80, 81, 82, 83, 84, 85, 86, 87, 88, 89, 90, 91, 92, 93, 94, 28, 29, 30, 31, 95, 96, 97, 98, 32, 33, 34, 35, 99, 100, 101, 102, 103, 104, 105, 106, 107, 108, 109, 110, 111, 112, 113, 114, 115, 116] (by decide +kernel) (by decide +kernel)
set_option maxRecDepth 20000 in
theorem gX7_hour_X7_falls : GoodIn wsX7_hour (wsV RX7 169 RX7 yX7_falls wsX7_falls) := goodIn_app (goodIn_of _ (by decide +kernel)) ggX7_hour_X7_falls
theorem dX7_hour_0 : decode cX7_hour 0 = .ok (.iconst 0, 1) := by decide +kernel
theorem dX7_hour_1 : decode cX7_hour 1 = .ok (.istore_n 1, 1) := by decide +kernel
theorem dX7_hour_2 : decode cX7_hour 2 = .ok (.iload_n 1, 1) := by decide +kernel
theorem dX7_hour_3 : decode cX7_hour 3 = .ok (.aload_n 0, 1) := by decide +kernel
theorem dX7_hour_4 : decode cX7_hour 4 = .ok (.getfield 9, 3) := by decide +kernel
theorem dX7_hour_7 : decode cX7_hour 7 = .ok (.iconst 5, 1) := by decide +kernel
theorem dX7_hour_8 : decode cX7_hour 8 = .ok (.iaload, 1) := by decide +kernel
theorem dX7_hour_9 : decode cX7_hour 9 = .ok (.if_icmp .ge 36, 3) := by decide +kernel
theorem dX7_hour_12 : decode cX7_hour 12 = .ok (.aload_n 0, 1) := by decide +kernel
theorem dX7_hour_13 : decode cX7_hour 13 = .ok (.getfield 25, 3) := by decide +kernel
theorem dX7_hour_16 : decode cX7_hour 16 = .ok (.iload_n 1, 1) := by decide +kernel
theorem dX7_hour_17 : decode cX7_hour 17 = .ok (.aload_n 0, 1) := by decide +kernel
theorem dX7_hour_18 : decode cX7_hour 18 = .ok (.iload_n 1, 1) := by decide +kernel
theorem dX7_hour_19 : decode cX7_hour 19 = .ok (.invokevirtual 105, 3) := by decide +kernel
theorem dX7_hour_22 : decode cX7_hour 22 = .ok (.ifCond .eq 7, 3) := by decide +kernel
theorem dX7_hour_25 : decode cX7_hour 25 = .ok (.iconst 0, 1) := by decide +kernel
theorem dX7_hour_26 : decode cX7_hour 26 = .ok (.goto 12, 3) := by decide +kernel
theorem dX7_hour_29 : decode cX7_hour 29 = .ok (.aload_n 0, 1) := by decide +kernel
theorem dX7_hour_30 : decode cX7_hour 30 = .ok (.aload_n 0, 1) := by decide +kernel
theorem dX7_hour_31 : decode cX7_hour 31 = .ok (.iload_n 1, 1) := by decide +kernel
theorem dX7_hour_32 : decode cX7_hour 32 = .ok (.invokevirtual 61, 3) := by decide +kernel
theorem dX7_hour_35 : decode cX7_hour 35 = .ok (.invokevirtual 137, 3) := by decide +kernel
theorem dX7_hour_38 : decode cX7_hour 38 = .ok (.iastore, 1) := by decide +kernel
theorem dX7_hour_39 : decode cX7_hour 39 = .ok (.iinc 1 1, 3) := by decide +kernel
theorem dX7_hour_42 : decode cX7_hour 42 = .ok (.goto (-40), 3) := by decide +kernel
theorem dX7_hour_45 : decode cX7_hour 45 = .ok (.iconst 0, 1) := by decide +kernel
theorem dX7_hour_46 : decode cX7_hour 46 = .ok (.istore_n 1, 1) := by decide +kernel
theorem dX7_hour_47 : decode cX7_hour 47 = .ok (.iload_n 1, 1) := by decide +kernel
theorem dX7_hour_48 : decode cX7_hour 48 = .ok (.bipush 8, 2) := by decide +kernel
theorem dX7_hour_50 : decode cX7_hour 50 = .ok (.if_icmp .ge 16, 3) := by decide +kernel
theorem dX7_hour_53 : decode cX7_hour 53 = .ok (.aload_n 0, 1) := by decide +kernel
theorem dX7_hour_54 : decode cX7_hour 54 = .ok (.getfield 28, 3) := by decide +kernel
theorem dX7_hour_57 : decode cX7_hour 57 = .ok (.iload_n 1, 1) := by decide +kernel
theorem dX7_hour_58 : decode cX7_hour 58 = .ok (.iconst 0, 1) := by decide +kernel
theorem dX7_hour_59 : decode cX7_hour 59 = .ok (.iastore, 1) := by decide +kernel
theorem dX7_hour_60 : decode cX7_hour 60 = .ok (.iinc 1 1, 3) := by decide +kernel
theorem dX7_hour_63 : decode cX7_hour 63 = .ok (.goto (-16), 3) := by decide +kernel
theorem dX7_hour_66 : decode cX7_hour 66 = .ok (.iconst 0, 1) := by decide +kernel
theorem dX7_hour_67 : decode cX7_hour 67 = .ok (.istore_n 1, 1) := by decide +kernel
theorem dX7_hour_68 : decode cX7_hour 68 = .ok (.iload_n 1, 1) := by decide +kernel
theorem dX7_hour_69 : decode cX7_hour 69 = .ok (.aload_n 0, 1) := by decide +kernel
theorem dX7_hour_70 : decode cX7_hour 70 = .ok (.getfield 9, 3) := by decide +kernel
theorem dX7_hour_73 : decode cX7_hour 73 = .ok (.iconst 5, 1) := by decide +kernel
theorem dX7_hour_74 : decode cX7_hour 74 = .ok (.iaload, 1) := by decide +kernel
theorem dX7_hour_75 : decode cX7_hour 75 = .ok (.if_icmp .ge 22, 3) := by decide +kernel
theorem dX7_hour_78 : decode cX7_hour 78 = .ok (.aload_n 0, 1) := by decide +kernel
theorem dX7_hour_79 : decode cX7_hour 79 = .ok (.iload_n 1, 1) := by decide +kernel
theorem dX7_hour_80 : decode cX7_hour 80 = .ok (.invokevirtual 105, 3) := by decide +kernel
theorem dX7_hour_83 : decode cX7_hour 83 = .ok (.ifCond .ne 8, 3) := by decide +kernel
theorem dX7_hour_86 : decode cX7_hour 86 = .ok (.aload_n 0, 1) := by decide +kernel
theorem dX7_hour_87 : decode cX7_hour 87 = .ok (.iload_n 1, 1) := by decide +kernel
theorem dX7_hour_88 : decode cX7_hour 88 = .ok (.invokevirtual 159, 3) := by decide +kernel
theorem dX7_hour_91 : decode cX7_hour 91 = .ok (.iinc 1 1, 3) := by decide +kernel
theorem dX7_hour_94 : decode cX7_hour 94 = .ok (.goto (-26), 3) := by decide +kernel
theorem dX7_hour_97 : decode cX7_hour 97 = .ok (.iconst 0, 1) := by decide +kernel
theorem dX7_hour_98 : decode cX7_hour 98 = .ok (.istore_n 1, 1) := by decide +kernel
theorem dX7_hour_99 : decode cX7_hour 99 = .ok (.iload_n 1, 1) := by decide +kernel
theorem dX7_hour_100 : decode cX7_hour 100 = .ok (.bipush 8, 2) := by decide +kernel
theorem dX7_hour_102 : decode cX7_hour 102 = .ok (.if_icmp .ge 14, 3) := by decide +kernel
theorem dX7_hour_105 : decode cX7_hour 105 = .ok (.aload_n 0, 1) := by decide +kernel
theorem dX7_hour_106 : decode cX7_hour 106 = .ok (.iload_n 1, 1) := by decide +kernel
theorem dX7_hour_107 : decode cX7_hour 107 = .ok (.invokevirtual 163, 3) := by decide +kernel
theorem dX7_hour_110 : decode cX7_hour 110 = .ok (.iinc 1 1, 3) := by decide +kernel
theorem dX7_hour_113 : decode cX7_hour 113 = .ok (.goto (-14), 3) := by decide +kernel
theorem dX7_hour_116 : decode cX7_hour 116 = .ok (.aload_n 0, 1) := by decide +kernel
theorem dX7_hour_117 : decode cX7_hour 117 = .ok (.invokevirtual 166, 3) := by decide +kernel
theorem dX7_hour_120 : decode cX7_hour 120 = .ok (.aload_n 0, 1) := by decide +kernel
theorem dX7_hour_121 : decode cX7_hour 121 = .ok (.invokevirtual 169, 3) := by decide +kernel
theorem dX7_hour_124 : decode cX7_hour 124 = .ok (.aload_n 0, 1) := by decide +kernel
theorem dX7_hour_125 : decode cX7_hour 125 = .ok (.getfield 9, 3) := by decide +kernel
theorem dX7_hour_128 : decode cX7_hour 128 = .ok (.iconst 0, 1) := by decide +kernel
theorem dX7_hour_129 : decode cX7_hour 129 = .ok (.dup2, 1) := by decide +kernel
theorem dX7_hour_130 : decode cX7_hour 130 = .ok (.iaload, 1) := by decide +kernel
theorem dX7_hour_131 : decode cX7_hour 131 = .ok (.iconst 1, 1) := by decide +kernel
theorem dX7_hour_132 : decode cX7_hour 132 = .ok (.iadd, 1) := by decide +kernel
theorem dX7_hour_133 : decode cX7_hour 133 = .ok (.iastore, 1) := by decide +kernel
theorem dX7_hour_134 : decode cX7_hour 134 = .ok (.return_, 1) := by decide +kernel
set_option maxRecDepth 20000 in
theorem ggX7_goneNow_X7_isGone : GoodIn wsX7_goneNow wsX7_isGone := goodIn_r _ [6, 7, 8, 9, 5, 10, 1, 11, 12, 13, 14, 15, 16, 17, 18, 19, 20, 21, 22, 23, 24, 25, 26, 27, 28] (by decide +kernel) (by decide +kernel)
set_option maxRecDepth 20000 in
theorem gX7_goneNow_X7_isGone : GoodIn wsX7_goneNow (wsV RX7 105 RX7 yX7_isGone wsX7_isGone) := goodIn_app (goodIn_of _ (by decide +kernel)) ggX7_goneNow_X7_isGone
theorem dX7_goneNow_0 : decode cX7_goneNow 0 = .ok (.iconst 0, 1) := by decide +kernel
theorem dX7_goneNow_1 : decode cX7_goneNow 1 = .ok (.istore_n 1, 1) := by decide +kernel
theorem dX7_goneNow_2 : decode cX7_goneNow 2 = .ok (.iconst 0, 1) := by decide +kernel
theorem dX7_goneNow_3 : decode cX7_goneNow 3 = .ok (.istore_n 2, 1) := by decide +kernel
theorem dX7_goneNow_4 : decode cX7_goneNow 4 = .ok (.iload_n 2, 1) := by decide +kernel
theorem dX7_goneNow_5 : decode cX7_goneNow 5 = .ok (.aload_n 0, 1) := by decide +kernel
theorem dX7_goneNow_6 : decode cX7_goneNow 6 = .ok (.getfield 9, 3) := by decide +kernel
theorem dX7_goneNow_9 : decode cX7_goneNow 9 = .ok (.iconst 5, 1) := by decide +kernel
theorem dX7_goneNow_10 : decode cX7_goneNow 10 = .ok (.iaload, 1) := by decide +kernel
theorem dX7_goneNow_11 : decode cX7_goneNow 11 = .ok (.if_icmp .ge 27, 3) := by decide +kernel
theorem dX7_goneNow_14 : decode cX7_goneNow 14 = .ok (.iload_n 1, 1) := by decide +kernel
theorem dX7_goneNow_15 : decode cX7_goneNow 15 = .ok (.aload_n 0, 1) := by decide +kernel
theorem dX7_goneNow_16 : decode cX7_goneNow 16 = .ok (.iload_n 2, 1) := by decide +kernel
theorem dX7_goneNow_17 : decode cX7_goneNow 17 = .ok (.invokevirtual 105, 3) := by decide +kernel
theorem dX7_goneNow_20 : decode cX7_goneNow 20 = .ok (.ifCond .eq 9, 3) := by decide +kernel
theorem dX7_goneNow_23 : decode cX7_goneNow 23 = .ok (.iconst 1, 1) := by decide +kernel
theorem dX7_goneNow_24 : decode cX7_goneNow 24 = .ok (.iload_n 2, 1) := by decide +kernel
theorem dX7_goneNow_25 : decode cX7_goneNow 25 = .ok (.ishl, 1) := by decide +kernel
theorem dX7_goneNow_26 : decode cX7_goneNow 26 = .ok (.goto 4, 3) := by decide +kernel
theorem dX7_goneNow_29 : decode cX7_goneNow 29 = .ok (.iconst 0, 1) := by decide +kernel
theorem dX7_goneNow_30 : decode cX7_goneNow 30 = .ok (.ior, 1) := by decide +kernel
theorem dX7_goneNow_31 : decode cX7_goneNow 31 = .ok (.istore_n 1, 1) := by decide +kernel
theorem dX7_goneNow_32 : decode cX7_goneNow 32 = .ok (.iinc 2 1, 3) := by decide +kernel
theorem dX7_goneNow_35 : decode cX7_goneNow 35 = .ok (.goto (-31), 3) := by decide +kernel
theorem dX7_goneNow_38 : decode cX7_goneNow 38 = .ok (.iload_n 1, 1) := by decide +kernel
theorem dX7_goneNow_39 : decode cX7_goneNow 39 = .ok (.ireturn, 1) := by decide +kernel
set_option maxRecDepth 20000 in
theorem ggX7_hours_X7_in : GoodIn wsX7_hours wsX7_in := goodIn_r _ [8] (by decide +kernel) (by decide +kernel)
set_option maxRecDepth 20000 in
theorem gX7_hours_X7_in : GoodIn wsX7_hours (va_wsS RX7 51 yX7_in wsX7_in) := goodIn_app (goodIn_of _ (by decide +kernel)) ggX7_hours_X7_in
set_option maxRecDepth 20000 in
theorem ggX7_hours_X7_finds : GoodIn wsX7_hours wsX7_finds := goodIn_r _ [12, 13, 2, 121, 122, 123, 124, 125, 126, 127, 128, 129, 130, 131, 132, 133, 134, 135, 136, 137, 138] (by decide +kernel) (by decide +kernel)
set_option maxRecDepth 20000 in
theorem gX7_hours_X7_finds : GoodIn wsX7_hours (wsV RX7 45 RX7 yX7_finds wsX7_finds) := goodIn_app (goodIn_of _ (by decide +kernel)) ggX7_hours_X7_finds
set_option maxRecDepth 20000 in
theorem ggX7_hours_X7_goneNow : GoodIn wsX7_hours wsX7_goneNow := goodIn_r _ [17, 3, 18, 19, 20, 7, 21, 22, 23, 24, 25, 121, 122, 123, 124, 125, 126, 127, 128, 129, 130, 131, 132, 133, 134, 135, 136, 137, 138] (by decide +kernel) (by decide +kernel)
set_option maxRecDepth 20000 in
theorem gX7_hours_X7_goneNow : GoodIn wsX7_hours (wsV RX7 174 RX7 yX7_goneNow wsX7_goneNow) := goodIn_app (goodIn_of _ (by decide +kernel)) ggX7_hours_X7_goneNow
set_option maxRecDepth 20000 in
theorem ggX7_hours_X7_hour : GoodIn wsX7_hours wsX7_hour := goodIn_r _ [29, 3, 30, 31, 18, 19, 20, 7, 21, 22, 23, 24, 25, 32, 33, 34, 35, 36, 37, 38, 39, 40, 41, 42, 43, 44, 45, 46, 47, 48, 49, 50, 51, 52, 53, 54, 55, 56, 57, 58, 59, 60, 61, 62, 63, 64, 65, 66, 67, 68, 69, 70, 71, 72, 73, 74, 75, 76, 77, 78, 79, 80, 81, 82, 83, 84, 85, 86, 87, 88, 89, 90, 91, 92, 93, 94, 95, 96, 97, 98, 99, 100, 101, 102, 103, 104, 105, 106, 107, 108, 109, 110, 111, 112, 113, 114, 115, 116, 117, 121, 122, 123, 124, 125, 126, 127, 128, 129, 130, 131, 132, 133, 134, 135, 136, 137, 138] (by decide +kernel) (by decide +kernel)
set_option maxRecDepth 20000 in
theorem gX7_hours_X7_hour : GoodIn wsX7_hours (wsV RX7 177 RX7 yX7_hour wsX7_hour) := goodIn_app (goodIn_of _ (by decide +kernel)) ggX7_hours_X7_hour
set_option maxRecDepth 20000 in
theorem ggX7_hours_X7_many : GoodIn wsX7_hours wsX7_many := goodIn_r _ [120] (by decide +kernel) (by decide +kernel)
set_option maxRecDepth 20000 in
theorem gX7_hours_X7_many : GoodIn wsX7_hours (va_wsS RX7 180 yX7_many wsX7_many) := goodIn_app (goodIn_of _ (by decide +kernel)) ggX7_hours_X7_many
theorem dX7_hours_0 : decode cX7_hours 0 = .ok (.iload_n 1, 1) := by decide +kernel
theorem dX7_hours_1 : decode cX7_hours 1 = .ok (.i2l, 1) := by decide +kernel
theorem dX7_hours_2 : decode cX7_hours 2 = .ok (.lconst 1, 1) := by decide +kernel
theorem dX7_hours_3 : decode cX7_hours 3 = .ok (.ldc2_w 172, 3) := by decide +kernel
theorem dX7_hours_6 : decode cX7_hours 6 = .ok (.invokestatic 51, 3) := by decide +kernel
theorem dX7_hours_9 : decode cX7_hours 9 = .ok (.ifCond .ne 10, 3) := by decide +kernel
theorem dX7_hours_12 : decode cX7_hours 12 = .ok (.aload_n 0, 1) := by decide +kernel
theorem dX7_hours_13 : decode cX7_hours 13 = .ok (.ldc 43, 2) := by decide +kernel
theorem dX7_hours_15 : decode cX7_hours 15 = .ok (.invokevirtual 45, 3) := by decide +kernel
theorem dX7_hours_18 : decode cX7_hours 18 = .ok (.ireturn, 1) := by decide +kernel
theorem dX7_hours_19 : decode cX7_hours 19 = .ok (.aload_n 0, 1) := by decide +kernel
theorem dX7_hours_20 : decode cX7_hours 20 = .ok (.getfield 9, 3) := by decide +kernel
theorem dX7_hours_23 : decode cX7_hours 23 = .ok (.iconst 0, 1) := by decide +kernel
theorem dX7_hours_24 : decode cX7_hours 24 = .ok (.iaload, 1) := by decide +kernel
theorem dX7_hours_25 : decode cX7_hours 25 = .ok (.iload_n 1, 1) := by decide +kernel
theorem dX7_hours_26 : decode cX7_hours 26 = .ok (.iadd, 1) := by decide +kernel
theorem dX7_hours_27 : decode cX7_hours 27 = .ok (.sipush 9999, 3) := by decide +kernel
theorem dX7_hours_30 : decode cX7_hours 30 = .ok (.if_icmp .le 10, 3) := by decide +kernel
theorem dX7_hours_33 : decode cX7_hours 33 = .ok (.aload_n 0, 1) := by decide +kernel
theorem dX7_hours_34 : decode cX7_hours 34 = .ok (.ldc 78, 2) := by decide +kernel
theorem dX7_hours_36 : decode cX7_hours 36 = .ok (.invokevirtual 45, 3) := by decide +kernel
theorem dX7_hours_39 : decode cX7_hours 39 = .ok (.ireturn, 1) := by decide +kernel
theorem dX7_hours_40 : decode cX7_hours 40 = .ok (.aload_n 0, 1) := by decide +kernel
theorem dX7_hours_41 : decode cX7_hours 41 = .ok (.invokevirtual 174, 3) := by decide +kernel
theorem dX7_hours_44 : decode cX7_hours 44 = .ok (.istore_n 2, 1) := by decide +kernel
theorem dX7_hours_45 : decode cX7_hours 45 = .ok (.iconst 0, 1) := by decide +kernel
theorem dX7_hours_46 : decode cX7_hours 46 = .ok (.istore_n 3, 1) := by decide +kernel
theorem dX7_hours_47 : decode cX7_hours 47 = .ok (.iload_n 3, 1) := by decide +kernel
theorem dX7_hours_48 : decode cX7_hours 48 = .ok (.iload_n 1, 1) := by decide +kernel
theorem dX7_hours_49 : decode cX7_hours 49 = .ok (.if_icmp .ge 13, 3) := by decide +kernel
theorem dX7_hours_52 : decode cX7_hours 52 = .ok (.aload_n 0, 1) := by decide +kernel
theorem dX7_hours_53 : decode cX7_hours 53 = .ok (.invokevirtual 177, 3) := by decide +kernel
theorem dX7_hours_56 : decode cX7_hours 56 = .ok (.iinc 3 1, 3) := by decide +kernel
theorem dX7_hours_59 : decode cX7_hours 59 = .ok (.goto (-12), 3) := by decide +kernel
theorem dX7_hours_62 : decode cX7_hours 62 = .ok (.aload_n 0, 1) := by decide +kernel
theorem dX7_hours_63 : decode cX7_hours 63 = .ok (.invokevirtual 174, 3) := by decide +kernel
theorem dX7_hours_66 : decode cX7_hours 66 = .ok (.iload_n 2, 1) := by decide +kernel
theorem dX7_hours_67 : decode cX7_hours 67 = .ok (.iconst (-1), 1) := by decide +kernel
theorem dX7_hours_68 : decode cX7_hours 68 = .ok (.ixor, 1) := by decide +kernel
theorem dX7_hours_69 : decode cX7_hours 69 = .ok (.iand, 1) := by decide +kernel
theorem dX7_hours_70 : decode cX7_hours 70 = .ok (.invokestatic 180, 3) := by decide +kernel
theorem dX7_hours_73 : decode cX7_hours 73 = .ok (.ireturn, 1) := by decide +kernel
set_option maxRecDepth 20000 in
theorem ggX7_fall_X7_goneNow : GoodIn wsX7_fall wsX7_goneNow := goodIn_r _ [5, 6, 7, 8, 9, 4, 10, 11, 12, 13, 14, 81, 82, 83, 84, 85, 86, 87, 88, 89, 90, 91, 92, 93, 94, 95, 96, 97, 98] (by decide +kernel) (by decide +kernel)
set_option maxRecDepth 20000 in
theorem gX7_fall_X7_goneNow : GoodIn wsX7_fall (wsV RX7 174 RX7 yX7_goneNow wsX7_goneNow) := goodIn_app (goodIn_of _ (by decide +kernel)) ggX7_fall_X7_goneNow
set_option maxRecDepth 20000 in
theorem ggX7_fall_X7_falls : GoodIn wsX7_fall wsX7_falls := goodIn_r _ [18, 6, 19, 20, 21, 4, 22, 23, 24, 25, 26, 7, 8, 9, 10, 11, 12, 13, 14, 27, 28, 29, 30, 31, 32, 33, 34, 35, 36, 37, 38, 39, 40, 41, 42, 43, 44, 45, 46, 47, 48, 49, 50, 51, 52, 53, 54, 55, 56, 57, 58, 59, 60, 61, 62, 63, 64, 65, 66, 67, 68, 69, 70, 71, 72, 73, 74, 75, 76, 77, 81, 82, 83, 84, 85, 86, 87, 88, 89, 90, 91, 92, 93, 94, 95, 96, 97, 98] (by decide +kernel) (by decide +kernel)
set_option maxRecDepth 20000 in
theorem gX7_fall_X7_falls : GoodIn wsX7_fall (wsV RX7 169 RX7 yX7_falls wsX7_falls) := goodIn_app (goodIn_of _ (by decide +kernel)) ggX7_fall_X7_falls
set_option maxRecDepth 20000 in
theorem ggX7_fall_X7_many : GoodIn wsX7_fall wsX7_many := goodIn_r _ [80] (by decide +kernel) (by decide +kernel)
set_option maxRecDepth 20000 in
theorem gX7_fall_X7_many : GoodIn wsX7_fall (va_wsS RX7 180 yX7_many wsX7_many) := goodIn_app (goodIn_of _ (by decide +kernel)) ggX7_fall_X7_many
theorem dX7_fall_0 : decode cX7_fall 0 = .ok (.aload_n 0, 1) := by decide +kernel
theorem dX7_fall_1 : decode cX7_fall 1 = .ok (.invokevirtual 174, 3) := by decide +kernel
theorem dX7_fall_4 : decode cX7_fall 4 = .ok (.istore_n 1, 1) := by decide +kernel
theorem dX7_fall_5 : decode cX7_fall 5 = .ok (.aload_n 0, 1) := by decide +kernel
theorem dX7_fall_6 : decode cX7_fall 6 = .ok (.invokevirtual 169, 3) := by decide +kernel
theorem dX7_fall_9 : decode cX7_fall 9 = .ok (.aload_n 0, 1) := by decide +kernel
theorem dX7_fall_10 : decode cX7_fall 10 = .ok (.invokevirtual 174, 3) := by decide +kernel
theorem dX7_fall_13 : decode cX7_fall 13 = .ok (.iload_n 1, 1) := by decide +kernel
theorem dX7_fall_14 : decode cX7_fall 14 = .ok (.iconst (-1), 1) := by decide +kernel
theorem dX7_fall_15 : decode cX7_fall 15 = .ok (.ixor, 1) := by decide +kernel
theorem dX7_fall_16 : decode cX7_fall 16 = .ok (.iand, 1) := by decide +kernel
theorem dX7_fall_17 : decode cX7_fall 17 = .ok (.invokestatic 180, 3) := by decide +kernel
theorem dX7_fall_20 : decode cX7_fall 20 = .ok (.ireturn, 1) := by decide +kernel
set_option maxRecDepth 20000 in
theorem ggX7_loose_X7_looseNow : GoodIn wsX7_loose wsX7_looseNow := goodIn_r _ [5, 6, 7, 8, 9, 4, 10, 11, 12, 13, 14, 15, 16, 17, 18, 19, 20, 21, 22, 23, 24, 25, 26, 27, 28, 29, 30, 31, 32, 33, 34, 35, 36, 37, 38, 39, 40, 41, 42, 43, 44, 45, 46, 47, 48, 49, 50, 51, 52, 53, 54, 55, 56, 57, 58, 59, 60, 61, 62, 63, 64, 65, 66, 67] (by decide +kernel) (by decide +kernel)
set_option maxRecDepth 20000 in
theorem gX7_loose_X7_looseNow : GoodIn wsX7_loose (wsV RX7 153 RX7 yX7_looseNow wsX7_looseNow) := goodIn_app (goodIn_of _ (by decide +kernel)) ggX7_loose_X7_looseNow
theorem dX7_loose_0 : decode cX7_loose 0 = .ok (.aload_n 0, 1) := by decide +kernel
theorem dX7_loose_1 : decode cX7_loose 1 = .ok (.invokevirtual 153, 3) := by decide +kernel
theorem dX7_loose_4 : decode cX7_loose 4 = .ok (.ireturn, 1) := by decide +kernel
set_option maxRecDepth 20000 in
theorem ggX7_weak_X7_weakNow : GoodIn wsX7_weak wsX7_weakNow := goodIn_r _ [5, 6, 7, 8, 9, 4, 10, 11, 12, 13, 14, 15, 16, 17, 18, 19, 20, 21, 22, 23, 24, 25, 26, 27, 28, 29, 30, 31, 32, 33, 34, 35, 36, 37, 38, 39, 40, 41, 42, 43, 44, 45, 46, 47, 48, 49, 50, 51, 52, 53, 54, 55] (by decide +kernel) (by decide +kernel)
set_option maxRecDepth 20000 in
theorem gX7_weak_X7_weakNow : GoodIn wsX7_weak (wsV RX7 156 RX7 yX7_weakNow wsX7_weakNow) := goodIn_app (goodIn_of _ (by decide +kernel)) ggX7_weak_X7_weakNow
theorem dX7_weak_0 : decode cX7_weak 0 = .ok (.aload_n 0, 1) := by decide +kernel
theorem dX7_weak_1 : decode cX7_weak 1 = .ok (.invokevirtual 156, 3) := by decide +kernel
theorem dX7_weak_4 : decode cX7_weak 4 = .ok (.ireturn, 1) := by decide +kernel
set_option maxRecDepth 20000 in
theorem ggX7_allGrains_X7_grains : GoodIn wsX7_allGrains wsX7_grains := goodIn_r _ [6, 1, 7, 8, 9, 10, 11, 12, 13, 14, 15, 16, 17, 18, 19, 20, 21, 22, 23, 24] (by decide +kernel) (by decide +kernel)
set_option maxRecDepth 20000 in
theorem gX7_allGrains_X7_grains : GoodIn wsX7_allGrains (wsV RX7 111 RX7 yX7_grains wsX7_grains) := goodIn_app (goodIn_of _ (by decide +kernel)) ggX7_allGrains_X7_grains
theorem dX7_allGrains_0 : decode cX7_allGrains 0 = .ok (.iconst 0, 1) := by decide +kernel
theorem dX7_allGrains_1 : decode cX7_allGrains 1 = .ok (.istore_n 1, 1) := by decide +kernel
theorem dX7_allGrains_2 : decode cX7_allGrains 2 = .ok (.iconst 0, 1) := by decide +kernel
theorem dX7_allGrains_3 : decode cX7_allGrains 3 = .ok (.istore_n 2, 1) := by decide +kernel
theorem dX7_allGrains_4 : decode cX7_allGrains 4 = .ok (.iload_n 2, 1) := by decide +kernel
theorem dX7_allGrains_5 : decode cX7_allGrains 5 = .ok (.aload_n 0, 1) := by decide +kernel
theorem dX7_allGrains_6 : decode cX7_allGrains 6 = .ok (.getfield 9, 3) := by decide +kernel
theorem dX7_allGrains_9 : decode cX7_allGrains 9 = .ok (.iconst 5, 1) := by decide +kernel
theorem dX7_allGrains_10 : decode cX7_allGrains 10 = .ok (.iaload, 1) := by decide +kernel
theorem dX7_allGrains_11 : decode cX7_allGrains 11 = .ok (.if_icmp .ge 17, 3) := by decide +kernel
theorem dX7_allGrains_14 : decode cX7_allGrains 14 = .ok (.iload_n 1, 1) := by decide +kernel
theorem dX7_allGrains_15 : decode cX7_allGrains 15 = .ok (.aload_n 0, 1) := by decide +kernel
theorem dX7_allGrains_16 : decode cX7_allGrains 16 = .ok (.iload_n 2, 1) := by decide +kernel
theorem dX7_allGrains_17 : decode cX7_allGrains 17 = .ok (.invokevirtual 111, 3) := by decide +kernel
theorem dX7_allGrains_20 : decode cX7_allGrains 20 = .ok (.iadd, 1) := by decide +kernel
theorem dX7_allGrains_21 : decode cX7_allGrains 21 = .ok (.istore_n 1, 1) := by decide +kernel
theorem dX7_allGrains_22 : decode cX7_allGrains 22 = .ok (.iinc 2 1, 3) := by decide +kernel
theorem dX7_allGrains_25 : decode cX7_allGrains 25 = .ok (.goto (-21), 3) := by decide +kernel
theorem dX7_allGrains_28 : decode cX7_allGrains 28 = .ok (.iload_n 1, 1) := by decide +kernel
theorem dX7_allGrains_29 : decode cX7_allGrains 29 = .ok (.ireturn, 1) := by decide +kernel
set_option maxRecDepth 20000 in
theorem ggX7_ahead_X7_in : GoodIn wsX7_ahead wsX7_in := goodIn_r _ [10] (by decide +kernel) (by decide +kernel)
set_option maxRecDepth 20000 in
theorem gX7_ahead_X7_in : GoodIn wsX7_ahead (va_wsS RX7 51 yX7_in wsX7_in) := goodIn_app (goodIn_of _ (by decide +kernel)) ggX7_ahead_X7_in
set_option maxRecDepth 20000 in
theorem ggX7_ahead_X7_finds : GoodIn wsX7_ahead wsX7_finds := goodIn_r _ [14, 15, 3, 130, 131, 132, 133, 134, 135, 136, 137, 138, 139, 140, 141, 142, 143, 144, 145, 146, 147] (by decide +kernel) (by decide +kernel)
set_option maxRecDepth 20000 in
theorem gX7_ahead_X7_finds : GoodIn wsX7_ahead (wsV RX7 45 RX7 yX7_finds wsX7_finds) := goodIn_app (goodIn_of _ (by decide +kernel)) ggX7_ahead_X7_finds
set_option maxRecDepth 20000 in
theorem ggX7_ahead_X7_row : GoodIn wsX7_ahead wsX7_row := goodIn_r _ [18] (by decide +kernel) (by decide +kernel)
set_option maxRecDepth 20000 in
theorem gX7_ahead_X7_row : GoodIn wsX7_ahead (va_wsS RX7 187 yX7_row wsX7_row) := goodIn_app (goodIn_of _ (by decide +kernel)) ggX7_ahead_X7_row
set_option maxRecDepth 20000 in
theorem ggX7_ahead_X7_goneNow : GoodIn wsX7_ahead wsX7_goneNow := goodIn_r _ [22, 4, 23, 24, 25, 9, 26, 27, 28, 29, 30, 130, 131, 132, 133, 134, 135, 136, 137, 138, 139, 140, 141, 142, 143, 144, 145, 146, 147] (by decide +kernel) (by decide +kernel)
set_option maxRecDepth 20000 in
theorem gX7_ahead_X7_goneNow : GoodIn wsX7_ahead (wsV RX7 174 RX7 yX7_goneNow wsX7_goneNow) := goodIn_app (goodIn_of _ (by decide +kernel)) ggX7_ahead_X7_goneNow
set_option maxRecDepth 20000 in
theorem ggX7_ahead_X7_hour : GoodIn wsX7_ahead wsX7_hour := goodIn_r _ [34, 4, 35, 36, 23, 24, 25, 9, 26, 27, 28, 29, 30, 37, 38, 39, 40, 41, 42, 43, 44, 45, 46, 47, 48, 49, 50, 51, 52, 53, 54, 55, 56, 57, 58, 59, 60, 61, 62, 63, 64, 65, 66, 67, 68, 69, 70, 71, 72, 73, 74, 75, 76, 77, 78, 79, 80, 81, 82, 83, 84, 85, 86, 87, 88, 89, 90, 91, 92, 93, 94, 95, 96, 97, 98, 99, 100, 101, 102, 103, 104, 105, 106, 107, 108, 109, 110, 111, 112, 113, 114, 115, 116, 117, 118, 119, 120, 121, 122, 130, 131, 132, 133, 134, 135, 136, 137, 138, 139, 140, 141, 142, 143, 144, 145, 146, 147] (by decide +kernel) (by decide +kernel)
set_option maxRecDepth 20000 in
theorem gX7_ahead_X7_hour : GoodIn wsX7_ahead (wsV RX7 177 RX7 yX7_hour wsX7_hour) := goodIn_app (goodIn_of _ (by decide +kernel)) ggX7_ahead_X7_hour
set_option maxRecDepth 20000 in
theorem ggX7_ahead_X7_many : GoodIn wsX7_ahead wsX7_many := goodIn_r _ [125] (by decide +kernel) (by decide +kernel)
set_option maxRecDepth 20000 in
theorem gX7_ahead_X7_many : GoodIn wsX7_ahead (va_wsS RX7 180 yX7_many wsX7_many) := goodIn_app (goodIn_of _ (by decide +kernel)) ggX7_ahead_X7_many
set_option maxRecDepth 20000 in
theorem ggX7_ahead_X7_allGrains : GoodIn wsX7_ahead wsX7_allGrains := goodIn_r _ [129, 4, 52, 53, 54, 9, 55, 130, 131, 132, 133, 134, 135, 136, 137, 138, 139, 140, 141, 142, 143, 144, 145, 146, 147] (by decide +kernel) (by decide +kernel)
set_option maxRecDepth 20000 in
theorem gX7_ahead_X7_allGrains : GoodIn wsX7_ahead (wsV RX7 191 RX7 yX7_allGrains wsX7_allGrains) := goodIn_app (goodIn_of _ (by decide +kernel)) ggX7_ahead_X7_allGrains
theorem dX7_ahead_0 : decode cX7_ahead 0 = .ok (.iload_n 1, 1) := by decide +kernel
theorem dX7_ahead_1 : decode cX7_ahead 1 = .ok (.i2l, 1) := by decide +kernel
theorem dX7_ahead_2 : decode cX7_ahead 2 = .ok (.lconst 0, 1) := by decide +kernel
theorem dX7_ahead_3 : decode cX7_ahead 3 = .ok (.ldc2_w 183, 3) := by decide +kernel
theorem dX7_ahead_6 : decode cX7_ahead 6 = .ok (.invokestatic 51, 3) := by decide +kernel
theorem dX7_ahead_9 : decode cX7_ahead 9 = .ok (.ifCond .eq 15, 3) := by decide +kernel
theorem dX7_ahead_12 : decode cX7_ahead 12 = .ok (.iload_n 2, 1) := by decide +kernel
theorem dX7_ahead_13 : decode cX7_ahead 13 = .ok (.i2l, 1) := by decide +kernel
theorem dX7_ahead_14 : decode cX7_ahead 14 = .ok (.lconst 0, 1) := by decide +kernel
theorem dX7_ahead_15 : decode cX7_ahead 15 = .ok (.ldc2_w 185, 3) := by decide +kernel
theorem dX7_ahead_18 : decode cX7_ahead 18 = .ok (.invokestatic 51, 3) := by decide +kernel
theorem dX7_ahead_21 : decode cX7_ahead 21 = .ok (.ifCond .ne 10, 3) := by decide +kernel
theorem dX7_ahead_24 : decode cX7_ahead 24 = .ok (.aload_n 0, 1) := by decide +kernel
theorem dX7_ahead_25 : decode cX7_ahead 25 = .ok (.ldc 43, 2) := by decide +kernel
theorem dX7_ahead_27 : decode cX7_ahead 27 = .ok (.invokevirtual 45, 3) := by decide +kernel
theorem dX7_ahead_30 : decode cX7_ahead 30 = .ok (.ireturn, 1) := by decide +kernel
theorem dX7_ahead_31 : decode cX7_ahead 31 = .ok (.aload_n 0, 1) := by decide +kernel
theorem dX7_ahead_32 : decode cX7_ahead 32 = .ok (.getfield 9, 3) := by decide +kernel
theorem dX7_ahead_35 : decode cX7_ahead 35 = .ok (.iconst 0, 1) := by decide +kernel
theorem dX7_ahead_36 : decode cX7_ahead 36 = .ok (.iaload, 1) := by decide +kernel
theorem dX7_ahead_37 : decode cX7_ahead 37 = .ok (.iload_n 1, 1) := by decide +kernel
theorem dX7_ahead_38 : decode cX7_ahead 38 = .ok (.iadd, 1) := by decide +kernel
theorem dX7_ahead_39 : decode cX7_ahead 39 = .ok (.sipush 9999, 3) := by decide +kernel
theorem dX7_ahead_42 : decode cX7_ahead 42 = .ok (.if_icmp .le 10, 3) := by decide +kernel
theorem dX7_ahead_45 : decode cX7_ahead 45 = .ok (.aload_n 0, 1) := by decide +kernel
theorem dX7_ahead_46 : decode cX7_ahead 46 = .ok (.ldc 78, 2) := by decide +kernel
theorem dX7_ahead_48 : decode cX7_ahead 48 = .ok (.invokevirtual 45, 3) := by decide +kernel
theorem dX7_ahead_51 : decode cX7_ahead 51 = .ok (.ireturn, 1) := by decide +kernel
theorem dX7_ahead_52 : decode cX7_ahead 52 = .ok (.aload_n 0, 1) := by decide +kernel
theorem dX7_ahead_53 : decode cX7_ahead 53 = .ok (.getfield 9, 3) := by decide +kernel
theorem dX7_ahead_56 : decode cX7_ahead 56 = .ok (.aload_n 0, 1) := by decide +kernel
theorem dX7_ahead_57 : decode cX7_ahead 57 = .ok (.getfield 16, 3) := by decide +kernel
theorem dX7_ahead_60 : decode cX7_ahead 60 = .ok (.invokestatic 187, 3) := by decide +kernel
theorem dX7_ahead_63 : decode cX7_ahead 63 = .ok (.aload_n 0, 1) := by decide +kernel
theorem dX7_ahead_64 : decode cX7_ahead 64 = .ok (.invokevirtual 174, 3) := by decide +kernel
theorem dX7_ahead_67 : decode cX7_ahead 67 = .ok (.istore_n 3, 1) := by decide +kernel
theorem dX7_ahead_68 : decode cX7_ahead 68 = .ok (.iconst 0, 1) := by decide +kernel
theorem dX7_ahead_69 : decode cX7_ahead 69 = .ok (.istore 4, 2) := by decide +kernel
theorem dX7_ahead_71 : decode cX7_ahead 71 = .ok (.iload 4, 2) := by decide +kernel
theorem dX7_ahead_73 : decode cX7_ahead 73 = .ok (.iload_n 1, 1) := by decide +kernel
theorem dX7_ahead_74 : decode cX7_ahead 74 = .ok (.if_icmp .ge 13, 3) := by decide +kernel
theorem dX7_ahead_77 : decode cX7_ahead 77 = .ok (.aload_n 0, 1) := by decide +kernel
theorem dX7_ahead_78 : decode cX7_ahead 78 = .ok (.invokevirtual 177, 3) := by decide +kernel
theorem dX7_ahead_81 : decode cX7_ahead 81 = .ok (.iinc 4 1, 3) := by decide +kernel
theorem dX7_ahead_84 : decode cX7_ahead 84 = .ok (.goto (-13), 3) := by decide +kernel
theorem dX7_ahead_87 : decode cX7_ahead 87 = .ok (.iload_n 2, 1) := by decide +kernel
theorem dX7_ahead_88 : decode cX7_ahead 88 = .ok (.ifCond .ne 17, 3) := by decide +kernel
theorem dX7_ahead_91 : decode cX7_ahead 91 = .ok (.aload_n 0, 1) := by decide +kernel
theorem dX7_ahead_92 : decode cX7_ahead 92 = .ok (.invokevirtual 174, 3) := by decide +kernel
theorem dX7_ahead_95 : decode cX7_ahead 95 = .ok (.iload_n 3, 1) := by decide +kernel
theorem dX7_ahead_96 : decode cX7_ahead 96 = .ok (.iconst (-1), 1) := by decide +kernel
theorem dX7_ahead_97 : decode cX7_ahead 97 = .ok (.ixor, 1) := by decide +kernel
theorem dX7_ahead_98 : decode cX7_ahead 98 = .ok (.iand, 1) := by decide +kernel
theorem dX7_ahead_99 : decode cX7_ahead 99 = .ok (.invokestatic 180, 3) := by decide +kernel
theorem dX7_ahead_102 : decode cX7_ahead 102 = .ok (.goto 47, 3) := by decide +kernel
theorem dX7_ahead_105 : decode cX7_ahead 105 = .ok (.iload_n 2, 1) := by decide +kernel
theorem dX7_ahead_106 : decode cX7_ahead 106 = .ok (.iconst 1, 1) := by decide +kernel
theorem dX7_ahead_107 : decode cX7_ahead 107 = .ok (.if_icmp .ne 10, 3) := by decide +kernel
theorem dX7_ahead_110 : decode cX7_ahead 110 = .ok (.aload_n 0, 1) := by decide +kernel
theorem dX7_ahead_111 : decode cX7_ahead 111 = .ok (.invokevirtual 191, 3) := by decide +kernel
theorem dX7_ahead_114 : decode cX7_ahead 114 = .ok (.goto 35, 3) := by decide +kernel
theorem dX7_ahead_117 : decode cX7_ahead 117 = .ok (.iload_n 2, 1) := by decide +kernel
theorem dX7_ahead_118 : decode cX7_ahead 118 = .ok (.iconst 2, 1) := by decide +kernel
theorem dX7_ahead_119 : decode cX7_ahead 119 = .ok (.if_icmp .ne 12, 3) := by decide +kernel
theorem dX7_ahead_122 : decode cX7_ahead 122 = .ok (.aload_n 0, 1) := by decide +kernel
theorem dX7_ahead_123 : decode cX7_ahead 123 = .ok (.getfield 9, 3) := by decide +kernel
theorem dX7_ahead_126 : decode cX7_ahead 126 = .ok (.iconst 2, 1) := by decide +kernel
theorem dX7_ahead_127 : decode cX7_ahead 127 = .ok (.iaload, 1) := by decide +kernel
theorem dX7_ahead_128 : decode cX7_ahead 128 = .ok (.goto 21, 3) := by decide +kernel
theorem dX7_ahead_131 : decode cX7_ahead 131 = .ok (.iload_n 2, 1) := by decide +kernel
theorem dX7_ahead_132 : decode cX7_ahead 132 = .ok (.iconst 3, 1) := by decide +kernel
theorem dX7_ahead_133 : decode cX7_ahead 133 = .ok (.if_icmp .ne 12, 3) := by decide +kernel
theorem dX7_ahead_136 : decode cX7_ahead 136 = .ok (.aload_n 0, 1) := by decide +kernel
theorem dX7_ahead_137 : decode cX7_ahead 137 = .ok (.getfield 9, 3) := by decide +kernel
theorem dX7_ahead_140 : decode cX7_ahead 140 = .ok (.iconst 3, 1) := by decide +kernel
theorem dX7_ahead_141 : decode cX7_ahead 141 = .ok (.iaload, 1) := by decide +kernel
theorem dX7_ahead_142 : decode cX7_ahead 142 = .ok (.goto 7, 3) := by decide +kernel
theorem dX7_ahead_145 : decode cX7_ahead 145 = .ok (.aload_n 0, 1) := by decide +kernel
theorem dX7_ahead_146 : decode cX7_ahead 146 = .ok (.invokevirtual 174, 3) := by decide +kernel
theorem dX7_ahead_149 : decode cX7_ahead 149 = .ok (.istore 4, 2) := by decide +kernel
theorem dX7_ahead_151 : decode cX7_ahead 151 = .ok (.aload_n 0, 1) := by decide +kernel
theorem dX7_ahead_152 : decode cX7_ahead 152 = .ok (.getfield 16, 3) := by decide +kernel
theorem dX7_ahead_155 : decode cX7_ahead 155 = .ok (.aload_n 0, 1) := by decide +kernel
theorem dX7_ahead_156 : decode cX7_ahead 156 = .ok (.getfield 9, 3) := by decide +kernel
theorem dX7_ahead_159 : decode cX7_ahead 159 = .ok (.invokestatic 187, 3) := by decide +kernel
theorem dX7_ahead_162 : decode cX7_ahead 162 = .ok (.iload 4, 2) := by decide +kernel
theorem dX7_ahead_164 : decode cX7_ahead 164 = .ok (.ireturn, 1) := by decide +kernel
set_option maxRecDepth 20000 in
theorem ggX7_goneIn_X7_row : GoodIn wsX7_goneIn wsX7_row := goodIn_r _ [6] (by decide +kernel) (by decide +kernel)
set_option maxRecDepth 20000 in
theorem gX7_goneIn_X7_row : GoodIn wsX7_goneIn (va_wsS RX7 187 yX7_row wsX7_row) := goodIn_app (goodIn_of _ (by decide +kernel)) ggX7_goneIn_X7_row
set_option maxRecDepth 20000 in
theorem ggX7_goneIn_X7_isGone : GoodIn wsX7_goneIn wsX7_isGone := goodIn_r _ [10, 11, 12, 13, 5, 14, 1, 107, 108, 109, 110, 111, 112, 113, 114, 115, 116, 117, 118, 119, 120, 121, 122, 123, 124] (by decide +kernel) (by decide +kernel)
set_option maxRecDepth 20000 in
theorem gX7_goneIn_X7_isGone : GoodIn wsX7_goneIn (wsV RX7 105 RX7 yX7_isGone wsX7_isGone) := goodIn_app (goodIn_of _ (by decide +kernel)) ggX7_goneIn_X7_isGone
set_option maxRecDepth 20000 in
theorem ggX7_goneIn_X7_hour : GoodIn wsX7_goneIn wsX7_hour := goodIn_r _ [18, 1, 19, 20, 7, 8, 9, 5, 10, 11, 12, 13, 14, 21, 22, 23, 24, 25, 26, 27, 28, 29, 30, 31, 32, 33, 34, 35, 36, 37, 38, 39, 40, 41, 42, 43, 44, 45, 46, 47, 48, 49, 50, 51, 52, 53, 54, 55, 56, 57, 58, 59, 60, 61, 62, 63, 64, 65, 66, 67, 68, 69, 70, 71, 72, 73, 74, 75, 76, 77, 78, 79, 80, 81, 82, 83, 84, 85, 86, 87, 88, 89, 90, 91, 92, 93, 94, 95, 96, 97, 98, 99, 100, 101, 102, 103, 104, 105, 106, 107, 108, 109, 110, 111, 112, 113, 114, 115, 116, 117, 118, 119, 120, 121, 122, 123, 124] (by decide +kernel) (by decide +kernel)
set_option maxRecDepth 20000 in
theorem gX7_goneIn_X7_hour : GoodIn wsX7_goneIn (wsV RX7 177 RX7 yX7_hour wsX7_hour) := goodIn_app (goodIn_of _ (by decide +kernel)) ggX7_goneIn_X7_hour
theorem dX7_goneIn_0 : decode cX7_goneIn 0 = .ok (.aload_n 0, 1) := by decide +kernel
theorem dX7_goneIn_1 : decode cX7_goneIn 1 = .ok (.getfield 9, 3) := by decide +kernel
theorem dX7_goneIn_4 : decode cX7_goneIn 4 = .ok (.aload_n 0, 1) := by decide +kernel
theorem dX7_goneIn_5 : decode cX7_goneIn 5 = .ok (.getfield 16, 3) := by decide +kernel
theorem dX7_goneIn_8 : decode cX7_goneIn 8 = .ok (.invokestatic 187, 3) := by decide +kernel
theorem dX7_goneIn_11 : decode cX7_goneIn 11 = .ok (.iconst 0, 1) := by decide +kernel
theorem dX7_goneIn_12 : decode cX7_goneIn 12 = .ok (.istore_n 3, 1) := by decide +kernel
theorem dX7_goneIn_13 : decode cX7_goneIn 13 = .ok (.iload_n 3, 1) := by decide +kernel
theorem dX7_goneIn_14 : decode cX7_goneIn 14 = .ok (.iload_n 2, 1) := by decide +kernel
theorem dX7_goneIn_15 : decode cX7_goneIn 15 = .ok (.if_icmp .gt 26, 3) := by decide +kernel
theorem dX7_goneIn_18 : decode cX7_goneIn 18 = .ok (.aload_n 0, 1) := by decide +kernel
theorem dX7_goneIn_19 : decode cX7_goneIn 19 = .ok (.iload_n 1, 1) := by decide +kernel
theorem dX7_goneIn_20 : decode cX7_goneIn 20 = .ok (.invokevirtual 105, 3) := by decide +kernel
theorem dX7_goneIn_23 : decode cX7_goneIn 23 = .ok (.ifCond .ne 18, 3) := by decide +kernel
theorem dX7_goneIn_26 : decode cX7_goneIn 26 = .ok (.iinc 3 1, 3) := by decide +kernel
theorem dX7_goneIn_29 : decode cX7_goneIn 29 = .ok (.iload_n 3, 1) := by decide +kernel
theorem dX7_goneIn_30 : decode cX7_goneIn 30 = .ok (.iload_n 2, 1) := by decide +kernel
theorem dX7_goneIn_31 : decode cX7_goneIn 31 = .ok (.if_icmp .gt (-18), 3) := by decide +kernel
theorem dX7_goneIn_34 : decode cX7_goneIn 34 = .ok (.aload_n 0, 1) := by decide +kernel
theorem dX7_goneIn_35 : decode cX7_goneIn 35 = .ok (.invokevirtual 177, 3) := by decide +kernel
theorem dX7_goneIn_38 : decode cX7_goneIn 38 = .ok (.goto (-25), 3) := by decide +kernel
theorem dX7_goneIn_41 : decode cX7_goneIn 41 = .ok (.aload_n 0, 1) := by decide +kernel
theorem dX7_goneIn_42 : decode cX7_goneIn 42 = .ok (.getfield 16, 3) := by decide +kernel
theorem dX7_goneIn_45 : decode cX7_goneIn 45 = .ok (.aload_n 0, 1) := by decide +kernel
theorem dX7_goneIn_46 : decode cX7_goneIn 46 = .ok (.getfield 9, 3) := by decide +kernel
theorem dX7_goneIn_49 : decode cX7_goneIn 49 = .ok (.invokestatic 187, 3) := by decide +kernel
theorem dX7_goneIn_52 : decode cX7_goneIn 52 = .ok (.iload_n 3, 1) := by decide +kernel
theorem dX7_goneIn_53 : decode cX7_goneIn 53 = .ok (.ireturn, 1) := by decide +kernel
theorem dX7_isFarOn_0 : decode cX7_isFarOn 0 = .ok (.aload_n 0, 1) := by decide +kernel
theorem dX7_isFarOn_1 : decode cX7_isFarOn 1 = .ok (.getfield 9, 3) := by decide +kernel
theorem dX7_isFarOn_4 : decode cX7_isFarOn 4 = .ok (.iconst 0, 1) := by decide +kernel
theorem dX7_isFarOn_5 : decode cX7_isFarOn 5 = .ok (.iaload, 1) := by decide +kernel
theorem dX7_isFarOn_6 : decode cX7_isFarOn 6 = .ok (.iload_n 1, 1) := by decide +kernel
theorem dX7_isFarOn_7 : decode cX7_isFarOn 7 = .ok (.iadd, 1) := by decide +kernel
theorem dX7_isFarOn_8 : decode cX7_isFarOn 8 = .ok (.sipush 9999, 3) := by decide +kernel
theorem dX7_isFarOn_11 : decode cX7_isFarOn 11 = .ok (.if_icmp .le 7, 3) := by decide +kernel
theorem dX7_isFarOn_14 : decode cX7_isFarOn 14 = .ok (.iconst 1, 1) := by decide +kernel
theorem dX7_isFarOn_15 : decode cX7_isFarOn 15 = .ok (.goto 4, 3) := by decide +kernel
theorem dX7_isFarOn_18 : decode cX7_isFarOn 18 = .ok (.iconst 0, 1) := by decide +kernel
theorem dX7_isFarOn_19 : decode cX7_isFarOn 19 = .ok (.ireturn, 1) := by decide +kernel
set_option maxRecDepth 20000 in
theorem ggX7_goes_X7_isBlock : GoodIn wsX7_goes wsX7_isBlock := goodIn_r _ [8, 9, 10, 11, 7, 12, 130, 131, 132, 133, 134, 135, 136, 137, 138, 139, 140, 141, 142, 143, 144, 145, 146, 147] (by decide +kernel) (by decide +kernel)
set_option maxRecDepth 20000 in
theorem gX7_goes_X7_isBlock : GoodIn wsX7_goes (wsV RX7 114 RX7 yX7_isBlock wsX7_isBlock) := goodIn_app (goodIn_of _ (by decide +kernel)) ggX7_goes_X7_isBlock
set_option maxRecDepth 20000 in
theorem ggX7_goes_X7_finds : GoodIn wsX7_goes wsX7_finds := goodIn_r _ [16, 17, 1, 130, 131, 132, 133, 134, 135, 136, 137, 138, 139, 140, 141, 142, 143, 144, 145, 146, 147] (by decide +kernel) (by decide +kernel)
set_option maxRecDepth 20000 in
theorem gX7_goes_X7_finds : GoodIn wsX7_goes (wsV RX7 45 RX7 yX7_finds wsX7_finds) := goodIn_app (goodIn_of _ (by decide +kernel)) ggX7_goes_X7_finds
set_option maxRecDepth 20000 in
theorem ggX7_goes_X7_isGone : GoodIn wsX7_goes wsX7_isGone := goodIn_r _ [21, 22, 23, 24, 7, 25, 9, 130, 131, 132, 133, 134, 135, 136, 137, 138, 139, 140, 141, 142, 143, 144, 145, 146, 147] (by decide +kernel) (by decide +kernel)
set_option maxRecDepth 20000 in
theorem gX7_goes_X7_isGone : GoodIn wsX7_goes (wsV RX7 105 RX7 yX7_isGone wsX7_isGone) := goodIn_app (goodIn_of _ (by decide +kernel)) ggX7_goes_X7_isGone
set_option maxRecDepth 20000 in
theorem ggX7_goes_X7_isFarOn : GoodIn wsX7_goes wsX7_isFarOn := goodIn_r _ [29, 9, 130, 131, 132, 133, 134, 135, 136, 137, 138, 139, 140, 141, 142, 143, 144, 145, 146, 147] (by decide +kernel) (by decide +kernel)
set_option maxRecDepth 20000 in
theorem gX7_goes_X7_isFarOn : GoodIn wsX7_goes (wsV RX7 194 RX7 yX7_isFarOn wsX7_isFarOn) := goodIn_app (goodIn_of _ (by decide +kernel)) ggX7_goes_X7_isFarOn
set_option maxRecDepth 20000 in
theorem ggX7_goes_X7_goneIn : GoodIn wsX7_goes wsX7_goneIn := goodIn_r _ [33, 9, 34, 35, 36, 7, 37, 18, 19, 20, 21, 22, 23, 24, 25, 38, 39, 40, 41, 42, 43, 44, 45, 46, 47, 48, 49, 50, 51, 52, 53, 54, 55, 56, 57, 58, 59, 60, 61, 62, 63, 64, 65, 66, 67, 68, 69, 70, 71, 72, 73, 74, 75, 76, 77, 78, 79, 80, 81, 82, 83, 84, 85, 86, 87, 88, 89, 90, 91, 92, 93, 94, 95, 96, 97, 98, 99, 100, 101, 102, 103, 104, 105, 106, 107, 108, 109, 110, 111, 112, 113, 114, 115, 116, 117, 118, 119, 120, 121, 122, 123, 124, 125, 126, 127, 128, 129, 130, 131, 132, 133, 134, 135, 136, 137, 138, 139, 140, 141, 142, 143, 144, 145, 146, 147] (by decide +kernel) (by decide +kernel)
set_option maxRecDepth 20000 in
theorem gX7_goes_X7_goneIn : GoodIn wsX7_goes (wsV RX7 197 RX7 yX7_goneIn wsX7_goneIn) := goodIn_app (goodIn_of _ (by decide +kernel)) ggX7_goes_X7_goneIn
theorem dX7_goes_0 : decode cX7_goes 0 = .ok (.aload_n 0, 1) := by decide +kernel
theorem dX7_goes_1 : decode cX7_goes 1 = .ok (.iload_n 1, 1) := by decide +kernel
theorem dX7_goes_2 : decode cX7_goes 2 = .ok (.invokevirtual 114, 3) := by decide +kernel
theorem dX7_goes_5 : decode cX7_goes 5 = .ok (.ifCond .ne 10, 3) := by decide +kernel
theorem dX7_goes_8 : decode cX7_goes 8 = .ok (.aload_n 0, 1) := by decide +kernel
theorem dX7_goes_9 : decode cX7_goes 9 = .ok (.ldc 43, 2) := by decide +kernel
theorem dX7_goes_11 : decode cX7_goes 11 = .ok (.invokevirtual 45, 3) := by decide +kernel
theorem dX7_goes_14 : decode cX7_goes 14 = .ok (.ireturn, 1) := by decide +kernel
theorem dX7_goes_15 : decode cX7_goes 15 = .ok (.aload_n 0, 1) := by decide +kernel
theorem dX7_goes_16 : decode cX7_goes 16 = .ok (.iload_n 1, 1) := by decide +kernel
theorem dX7_goes_17 : decode cX7_goes 17 = .ok (.invokevirtual 105, 3) := by decide +kernel
theorem dX7_goes_20 : decode cX7_goes 20 = .ok (.ifCond .ne 12, 3) := by decide +kernel
theorem dX7_goes_23 : decode cX7_goes 23 = .ok (.aload_n 0, 1) := by decide +kernel
theorem dX7_goes_24 : decode cX7_goes 24 = .ok (.bipush 96, 2) := by decide +kernel
theorem dX7_goes_26 : decode cX7_goes 26 = .ok (.invokevirtual 194, 3) := by decide +kernel
theorem dX7_goes_29 : decode cX7_goes 29 = .ok (.ifCond .eq 10, 3) := by decide +kernel
theorem dX7_goes_32 : decode cX7_goes 32 = .ok (.aload_n 0, 1) := by decide +kernel
theorem dX7_goes_33 : decode cX7_goes 33 = .ok (.ldc 78, 2) := by decide +kernel
theorem dX7_goes_35 : decode cX7_goes 35 = .ok (.invokevirtual 45, 3) := by decide +kernel
theorem dX7_goes_38 : decode cX7_goes 38 = .ok (.ireturn, 1) := by decide +kernel
theorem dX7_goes_39 : decode cX7_goes 39 = .ok (.aload_n 0, 1) := by decide +kernel
theorem dX7_goes_40 : decode cX7_goes 40 = .ok (.iload_n 1, 1) := by decide +kernel
theorem dX7_goes_41 : decode cX7_goes 41 = .ok (.bipush 96, 2) := by decide +kernel
theorem dX7_goes_43 : decode cX7_goes 43 = .ok (.invokevirtual 197, 3) := by decide +kernel
theorem dX7_goes_46 : decode cX7_goes 46 = .ok (.istore_n 2, 1) := by decide +kernel
theorem dX7_goes_47 : decode cX7_goes 47 = .ok (.iload_n 2, 1) := by decide +kernel
theorem dX7_goes_48 : decode cX7_goes 48 = .ok (.bipush 96, 2) := by decide +kernel
theorem dX7_goes_50 : decode cX7_goes 50 = .ok (.if_icmp .le 12, 3) := by decide +kernel
theorem dX7_goes_53 : decode cX7_goes 53 = .ok (.aload_n 0, 1) := by decide +kernel
theorem dX7_goes_54 : decode cX7_goes 54 = .ok (.ldc 44, 2) := by decide +kernel
theorem dX7_goes_56 : decode cX7_goes 56 = .ok (.invokevirtual 45, 3) := by decide +kernel
theorem dX7_goes_59 : decode cX7_goes 59 = .ok (.goto 4, 3) := by decide +kernel
theorem dX7_goes_62 : decode cX7_goes 62 = .ok (.iload_n 2, 1) := by decide +kernel
theorem dX7_goes_63 : decode cX7_goes 63 = .ok (.ireturn, 1) := by decide +kernel
set_option maxRecDepth 20000 in
theorem ggX7_held_X7_row : GoodIn wsX7_held wsX7_row := goodIn_r _ [6] (by decide +kernel) (by decide +kernel)
set_option maxRecDepth 20000 in
theorem gX7_held_X7_row : GoodIn wsX7_held (va_wsS RX7 187 yX7_row wsX7_row) := goodIn_app (goodIn_of _ (by decide +kernel)) ggX7_held_X7_row
set_option maxRecDepth 20000 in
theorem ggX7_held_X7_goneNow : GoodIn wsX7_held wsX7_goneNow := goodIn_r _ [10, 1, 11, 12, 13, 5, 14, 15, 16, 17, 18, 111, 112, 113, 114, 115, 116, 117, 118, 119, 120, 121, 122, 123, 124, 125, 126, 127, 128] (by decide +kernel) (by decide +kernel)
set_option maxRecDepth 20000 in
theorem gX7_held_X7_goneNow : GoodIn wsX7_held (wsV RX7 174 RX7 yX7_goneNow wsX7_goneNow) := goodIn_app (goodIn_of _ (by decide +kernel)) ggX7_held_X7_goneNow
set_option maxRecDepth 20000 in
theorem ggX7_held_X7_hour : GoodIn wsX7_held wsX7_hour := goodIn_r _ [22, 1, 23, 24, 11, 12, 13, 5, 14, 15, 16, 17, 18, 25, 26, 27, 28, 29, 30, 31, 32, 33, 34, 35, 36, 37, 38, 39, 40, 41, 42, 43, 44, 45, 46, 47, 48, 49, 50, 51, 52, 53, 54, 55, 56, 57, 58, 59, 60, 61, 62, 63, 64, 65, 66, 67, 68, 69, 70, 71, 72, 73, 74, 75, 76, 77, 78, 79, 80, 81, 82, 83, 84, 85, 86, 87, 88, 89, 90, 91, 92, 93, 94, 95, 96, 97, 98, 99, 100, 101, 102, 103, 104, 105, 106, 107, 108, 109, 110, 111, 112, 113, 114, 115, 116, 117, 118, 119, 120, 121, 122, 123, 124, 125, 126, 127, 128] (by decide +kernel) (by decide +kernel)
set_option maxRecDepth 20000 in
theorem gX7_held_X7_hour : GoodIn wsX7_held (wsV RX7 177 RX7 yX7_hour wsX7_hour) := goodIn_app (goodIn_of _ (by decide +kernel)) ggX7_held_X7_hour
theorem dX7_held_0 : decode cX7_held 0 = .ok (.aload_n 0, 1) := by decide +kernel
theorem dX7_held_1 : decode cX7_held 1 = .ok (.getfield 9, 3) := by decide +kernel
theorem dX7_held_4 : decode cX7_held 4 = .ok (.aload_n 0, 1) := by decide +kernel
theorem dX7_held_5 : decode cX7_held 5 = .ok (.getfield 16, 3) := by decide +kernel
theorem dX7_held_8 : decode cX7_held 8 = .ok (.invokestatic 187, 3) := by decide +kernel
theorem dX7_held_11 : decode cX7_held 11 = .ok (.aload_n 0, 1) := by decide +kernel
theorem dX7_held_12 : decode cX7_held 12 = .ok (.invokevirtual 174, 3) := by decide +kernel
theorem dX7_held_15 : decode cX7_held 15 = .ok (.istore_n 2, 1) := by decide +kernel
theorem dX7_held_16 : decode cX7_held 16 = .ok (.iconst 0, 1) := by decide +kernel
theorem dX7_held_17 : decode cX7_held 17 = .ok (.istore_n 3, 1) := by decide +kernel
theorem dX7_held_18 : decode cX7_held 18 = .ok (.iconst 1, 1) := by decide +kernel
theorem dX7_held_19 : decode cX7_held 19 = .ok (.istore 4, 2) := by decide +kernel
theorem dX7_held_21 : decode cX7_held 21 = .ok (.iload_n 3, 1) := by decide +kernel
theorem dX7_held_22 : decode cX7_held 22 = .ok (.iload_n 1, 1) := by decide +kernel
theorem dX7_held_23 : decode cX7_held 23 = .ok (.if_icmp .ge 43, 3) := by decide +kernel
theorem dX7_held_26 : decode cX7_held 26 = .ok (.iload 4, 2) := by decide +kernel
theorem dX7_held_28 : decode cX7_held 28 = .ok (.ifCond .eq 38, 3) := by decide +kernel
theorem dX7_held_31 : decode cX7_held 31 = .ok (.aload_n 0, 1) := by decide +kernel
theorem dX7_held_32 : decode cX7_held 32 = .ok (.invokevirtual 177, 3) := by decide +kernel
theorem dX7_held_35 : decode cX7_held 35 = .ok (.aload_n 0, 1) := by decide +kernel
theorem dX7_held_36 : decode cX7_held 36 = .ok (.invokevirtual 174, 3) := by decide +kernel
theorem dX7_held_39 : decode cX7_held 39 = .ok (.iload_n 2, 1) := by decide +kernel
theorem dX7_held_40 : decode cX7_held 40 = .ok (.if_icmp .ne 7, 3) := by decide +kernel
theorem dX7_held_43 : decode cX7_held 43 = .ok (.iconst 1, 1) := by decide +kernel
theorem dX7_held_44 : decode cX7_held 44 = .ok (.goto 4, 3) := by decide +kernel
theorem dX7_held_47 : decode cX7_held 47 = .ok (.iconst 0, 1) := by decide +kernel
theorem dX7_held_48 : decode cX7_held 48 = .ok (.istore 4, 2) := by decide +kernel
theorem dX7_held_50 : decode cX7_held 50 = .ok (.iload_n 3, 1) := by decide +kernel
theorem dX7_held_51 : decode cX7_held 51 = .ok (.iload 4, 2) := by decide +kernel
theorem dX7_held_53 : decode cX7_held 53 = .ok (.ifCond .eq 7, 3) := by decide +kernel
theorem dX7_held_56 : decode cX7_held 56 = .ok (.iconst 1, 1) := by decide +kernel
theorem dX7_held_57 : decode cX7_held 57 = .ok (.goto 4, 3) := by decide +kernel
theorem dX7_held_60 : decode cX7_held 60 = .ok (.iconst 0, 1) := by decide +kernel
theorem dX7_held_61 : decode cX7_held 61 = .ok (.iadd, 1) := by decide +kernel
theorem dX7_held_62 : decode cX7_held 62 = .ok (.istore_n 3, 1) := by decide +kernel
theorem dX7_held_63 : decode cX7_held 63 = .ok (.goto (-42), 3) := by decide +kernel
theorem dX7_held_66 : decode cX7_held 66 = .ok (.aload_n 0, 1) := by decide +kernel
theorem dX7_held_67 : decode cX7_held 67 = .ok (.getfield 16, 3) := by decide +kernel
theorem dX7_held_70 : decode cX7_held 70 = .ok (.aload_n 0, 1) := by decide +kernel
theorem dX7_held_71 : decode cX7_held 71 = .ok (.getfield 9, 3) := by decide +kernel
theorem dX7_held_74 : decode cX7_held 74 = .ok (.invokestatic 187, 3) := by decide +kernel
theorem dX7_held_77 : decode cX7_held 77 = .ok (.iload_n 3, 1) := by decide +kernel
theorem dX7_held_78 : decode cX7_held 78 = .ok (.ireturn, 1) := by decide +kernel
set_option maxRecDepth 20000 in
theorem ggX7_holds_X7_isFarOn : GoodIn wsX7_holds wsX7_isFarOn := goodIn_r _ [6, 7, 126, 127, 128, 129, 130, 131, 132, 133, 134, 135, 136, 137, 138, 139, 140, 141, 142, 143] (by decide +kernel) (by decide +kernel)
set_option maxRecDepth 20000 in
theorem gX7_holds_X7_isFarOn : GoodIn wsX7_holds (wsV RX7 194 RX7 yX7_isFarOn wsX7_isFarOn) := goodIn_app (goodIn_of _ (by decide +kernel)) ggX7_holds_X7_isFarOn
set_option maxRecDepth 20000 in
theorem ggX7_holds_X7_finds : GoodIn wsX7_holds wsX7_finds := goodIn_r _ [11, 12, 13, 126, 127, 128, 129, 130, 131, 132, 133, 134, 135, 136, 137, 138, 139, 140, 141, 142, 143] (by decide +kernel) (by decide +kernel)
set_option maxRecDepth 20000 in
theorem gX7_holds_X7_finds : GoodIn wsX7_holds (wsV RX7 45 RX7 yX7_finds wsX7_finds) := goodIn_app (goodIn_of _ (by decide +kernel)) ggX7_holds_X7_finds
set_option maxRecDepth 20000 in
theorem ggX7_holds_X7_held : GoodIn wsX7_holds wsX7_held := goodIn_r _ [17, 7, 18, 19, 20, 5, 21, 22, 23, 24, 25, 26, 27, 28, 29, 30, 31, 32, 33, 34, 35, 36, 37, 38, 39, 40, 41, 42, 43, 44, 45, 46, 47, 48, 49, 50, 51, 52, 53, 54, 55, 56, 57, 58, 59, 60, 61, 62, 63, 64, 65, 66, 67, 68, 69, 70, 71, 72, 73, 74, 75, 76, 77, 78, 79, 80, 81, 82, 83, 84, 85, 86, 87, 88, 89, 90, 91, 92, 93, 94, 95, 96, 97, 98, 99, 100, 101, 102, 103, 104, 105, 106, 107, 108, 109, 110, 111, 112, 113, 114, 115, 116, 117, 118, 119, 120, 121, 122, 123, 124, 125, 126, 127, 128, 129, 130, 131, 132, 133, 134, 135, 136, 137, 138, 139, 140, 141, 142, 143] (by decide +kernel) (by decide +kernel)
set_option maxRecDepth 20000 in
theorem gX7_holds_X7_held : GoodIn wsX7_holds (wsV RX7 200 RX7 yX7_held wsX7_held) := goodIn_app (goodIn_of _ (by decide +kernel)) ggX7_holds_X7_held
theorem dX7_holds_0 : decode cX7_holds 0 = .ok (.aload_n 0, 1) := by decide +kernel
theorem dX7_holds_1 : decode cX7_holds 1 = .ok (.bipush 96, 2) := by decide +kernel
theorem dX7_holds_3 : decode cX7_holds 3 = .ok (.invokevirtual 194, 3) := by decide +kernel
theorem dX7_holds_6 : decode cX7_holds 6 = .ok (.ifCond .eq 12, 3) := by decide +kernel
theorem dX7_holds_9 : decode cX7_holds 9 = .ok (.aload_n 0, 1) := by decide +kernel
theorem dX7_holds_10 : decode cX7_holds 10 = .ok (.ldc 78, 2) := by decide +kernel
theorem dX7_holds_12 : decode cX7_holds 12 = .ok (.invokevirtual 45, 3) := by decide +kernel
theorem dX7_holds_15 : decode cX7_holds 15 = .ok (.goto 9, 3) := by decide +kernel
theorem dX7_holds_18 : decode cX7_holds 18 = .ok (.aload_n 0, 1) := by decide +kernel
theorem dX7_holds_19 : decode cX7_holds 19 = .ok (.bipush 96, 2) := by decide +kernel
theorem dX7_holds_21 : decode cX7_holds 21 = .ok (.invokevirtual 200, 3) := by decide +kernel
theorem dX7_holds_24 : decode cX7_holds 24 = .ok (.ireturn, 1) := by decide +kernel
theorem dX7_lights_0 : decode cX7_lights 0 = .ok (.iconst 0, 1) := by decide +kernel
theorem dX7_lights_1 : decode cX7_lights 1 = .ok (.istore_n 2, 1) := by decide +kernel
theorem dX7_lights_2 : decode cX7_lights 2 = .ok (.iload_n 2, 1) := by decide +kernel
theorem dX7_lights_3 : decode cX7_lights 3 = .ok (.bipush 6, 2) := by decide +kernel
theorem dX7_lights_5 : decode cX7_lights 5 = .ok (.if_icmp .ge 27, 3) := by decide +kernel
theorem dX7_lights_8 : decode cX7_lights 8 = .ok (.aload_n 0, 1) := by decide +kernel
theorem dX7_lights_9 : decode cX7_lights 9 = .ok (.getfield 9, 3) := by decide +kernel
theorem dX7_lights_12 : decode cX7_lights 12 = .ok (.bipush 6, 2) := by decide +kernel
theorem dX7_lights_14 : decode cX7_lights 14 = .ok (.iconst 3, 1) := by decide +kernel
theorem dX7_lights_15 : decode cX7_lights 15 = .ok (.iload_n 2, 1) := by decide +kernel
theorem dX7_lights_16 : decode cX7_lights 16 = .ok (.imul, 1) := by decide +kernel
theorem dX7_lights_17 : decode cX7_lights 17 = .ok (.iadd, 1) := by decide +kernel
theorem dX7_lights_18 : decode cX7_lights 18 = .ok (.iconst 2, 1) := by decide +kernel
theorem dX7_lights_19 : decode cX7_lights 19 = .ok (.iadd, 1) := by decide +kernel
theorem dX7_lights_20 : decode cX7_lights 20 = .ok (.iload_n 1, 1) := by decide +kernel
theorem dX7_lights_21 : decode cX7_lights 21 = .ok (.iload_n 2, 1) := by decide +kernel
theorem dX7_lights_22 : decode cX7_lights 22 = .ok (.ishr, 1) := by decide +kernel
theorem dX7_lights_23 : decode cX7_lights 23 = .ok (.iconst 1, 1) := by decide +kernel
theorem dX7_lights_24 : decode cX7_lights 24 = .ok (.iand, 1) := by decide +kernel
theorem dX7_lights_25 : decode cX7_lights 25 = .ok (.iastore, 1) := by decide +kernel
theorem dX7_lights_26 : decode cX7_lights 26 = .ok (.iinc 2 1, 3) := by decide +kernel
theorem dX7_lights_29 : decode cX7_lights 29 = .ok (.goto (-27), 3) := by decide +kernel
theorem dX7_lights_32 : decode cX7_lights 32 = .ok (.return_, 1) := by decide +kernel
set_option maxRecDepth 20000 in
theorem ggX7_deal_X7_in : GoodIn wsX7_deal wsX7_in := goodIn_r _ [9] (by decide +kernel) (by decide +kernel)
set_option maxRecDepth 20000 in
theorem gX7_deal_X7_in : GoodIn wsX7_deal (va_wsS RX7 51 yX7_in wsX7_in) := goodIn_app (goodIn_of _ (by decide +kernel)) ggX7_deal_X7_in
set_option maxRecDepth 20000 in
theorem ggX7_deal_X7_finds : GoodIn wsX7_deal wsX7_finds := goodIn_r _ [13, 14, 2, 144, 145, 146, 147, 148, 149, 150, 151, 152, 153, 154, 155, 156, 157, 158, 159, 160, 161] (by decide +kernel) (by decide +kernel)
set_option maxRecDepth 20000 in
theorem gX7_deal_X7_finds : GoodIn wsX7_deal (wsV RX7 45 RX7 yX7_finds wsX7_finds) := goodIn_app (goodIn_of _ (by decide +kernel)) ggX7_deal_X7_finds
set_option maxRecDepth 20000 in
theorem ggX7_deal_X7_isFarOn : GoodIn wsX7_deal wsX7_isFarOn := goodIn_r _ [18, 4, 144, 145, 146, 147, 148, 149, 150, 151, 152, 153, 154, 155, 156, 157, 158, 159, 160, 161] (by decide +kernel) (by decide +kernel)
set_option maxRecDepth 20000 in
theorem gX7_deal_X7_isFarOn : GoodIn wsX7_deal (wsV RX7 194 RX7 yX7_isFarOn wsX7_isFarOn) := goodIn_app (goodIn_of _ (by decide +kernel)) ggX7_deal_X7_isFarOn
set_option maxRecDepth 20000 in
theorem ggX7_deal_X7_row : GoodIn wsX7_deal wsX7_row := goodIn_r _ [21] (by decide +kernel) (by decide +kernel)
set_option maxRecDepth 20000 in
theorem gX7_deal_X7_row : GoodIn wsX7_deal (va_wsS RX7 187 yX7_row wsX7_row) := goodIn_app (goodIn_of _ (by decide +kernel)) ggX7_deal_X7_row
set_option maxRecDepth 20000 in
theorem ggX7_deal_X7_lights : GoodIn wsX7_deal wsX7_lights := goodIn_r _ [25, 4, 144, 145, 146, 147, 148, 149, 150, 151, 152, 153, 154, 155, 156, 157, 158, 159, 160, 161] (by decide +kernel) (by decide +kernel)
set_option maxRecDepth 20000 in
theorem gX7_deal_X7_lights : GoodIn wsX7_deal (wsV RX7 203 RX7 yX7_lights wsX7_lights) := goodIn_app (goodIn_of _ (by decide +kernel)) ggX7_deal_X7_lights
set_option maxRecDepth 20000 in
theorem ggX7_deal_X7_light : GoodIn wsX7_deal wsX7_light := goodIn_r _ [29, 4, 30, 31, 32, 8, 33, 144, 145, 146, 147, 148, 149, 150, 151, 152, 153, 154, 155, 156, 157, 158, 159, 160, 161] (by decide +kernel) (by decide +kernel)
set_option maxRecDepth 20000 in
theorem gX7_deal_X7_light : GoodIn wsX7_deal (wsV RX7 206 RX7 yX7_light wsX7_light) := goodIn_app (goodIn_of _ (by decide +kernel)) ggX7_deal_X7_light
set_option maxRecDepth 20000 in
theorem ggX7_deal_X7_held : GoodIn wsX7_deal wsX7_held := goodIn_r _ [37, 4, 38, 19, 20, 8, 21, 39, 40, 41, 42, 43, 44, 45, 46, 47, 48, 49, 50, 51, 52, 53, 54, 55, 56, 57, 58, 59, 60, 30, 31, 32, 33, 61, 62, 63, 64, 65, 66, 67, 68, 69, 70, 71, 72, 73, 74, 75, 76, 77, 78, 79, 80, 81, 82, 83, 84, 85, 86, 87, 88, 89, 90, 91, 92, 93, 94, 95, 96, 97, 98, 99, 100, 101, 102, 103, 104, 105, 106, 107, 108, 109, 110, 111, 112, 113, 114, 115, 116, 117, 118, 119, 120, 121, 122, 123, 124, 125, 126, 127, 128, 129, 130, 131, 132, 133, 134, 135, 136, 137, 138, 144, 145, 146, 147, 148, 149, 150, 151, 152, 153, 154, 155, 156, 157, 158, 159, 160, 161] (by decide +kernel) (by decide +kernel)
set_option maxRecDepth 20000 in
theorem gX7_deal_X7_held : GoodIn wsX7_deal (wsV RX7 200 RX7 yX7_held wsX7_held) := goodIn_app (goodIn_of _ (by decide +kernel)) ggX7_deal_X7_held
set_option maxRecDepth 20000 in
theorem ggX7_deal_X7_orNone : GoodIn wsX7_deal wsX7_orNone := goodIn_r _ [142, 143, 10, 11, 12, 8, 13, 14, 2, 144, 145, 146, 147, 148, 149, 150, 151, 152, 153, 154, 155, 156, 157, 158, 159, 160, 161] (by decide +kernel) (by decide +kernel)
set_option maxRecDepth 20000 in
theorem gX7_deal_X7_orNone : GoodIn wsX7_deal (wsV RX7 209 RX7 yX7_orNone wsX7_orNone) := goodIn_app (goodIn_of _ (by decide +kernel)) ggX7_deal_X7_orNone
theorem dX7_deal_0 : decode cX7_deal 0 = .ok (.iload_n 1, 1) := by decide +kernel
theorem dX7_deal_1 : decode cX7_deal 1 = .ok (.i2l, 1) := by decide +kernel
theorem dX7_deal_2 : decode cX7_deal 2 = .ok (.lconst 1, 1) := by decide +kernel
theorem dX7_deal_3 : decode cX7_deal 3 = .ok (.ldc2_w 172, 3) := by decide +kernel
theorem dX7_deal_6 : decode cX7_deal 6 = .ok (.invokestatic 51, 3) := by decide +kernel
theorem dX7_deal_9 : decode cX7_deal 9 = .ok (.ifCond .ne 10, 3) := by decide +kernel
theorem dX7_deal_12 : decode cX7_deal 12 = .ok (.aload_n 0, 1) := by decide +kernel
theorem dX7_deal_13 : decode cX7_deal 13 = .ok (.ldc 43, 2) := by decide +kernel
theorem dX7_deal_15 : decode cX7_deal 15 = .ok (.invokevirtual 45, 3) := by decide +kernel
theorem dX7_deal_18 : decode cX7_deal 18 = .ok (.ireturn, 1) := by decide +kernel
theorem dX7_deal_19 : decode cX7_deal 19 = .ok (.aload_n 0, 1) := by decide +kernel
theorem dX7_deal_20 : decode cX7_deal 20 = .ok (.iload_n 1, 1) := by decide +kernel
theorem dX7_deal_21 : decode cX7_deal 21 = .ok (.invokevirtual 194, 3) := by decide +kernel
theorem dX7_deal_24 : decode cX7_deal 24 = .ok (.ifCond .eq 10, 3) := by decide +kernel
theorem dX7_deal_27 : decode cX7_deal 27 = .ok (.aload_n 0, 1) := by decide +kernel
theorem dX7_deal_28 : decode cX7_deal 28 = .ok (.ldc 78, 2) := by decide +kernel
theorem dX7_deal_30 : decode cX7_deal 30 = .ok (.invokevirtual 45, 3) := by decide +kernel
theorem dX7_deal_33 : decode cX7_deal 33 = .ok (.ireturn, 1) := by decide +kernel
theorem dX7_deal_34 : decode cX7_deal 34 = .ok (.aload_n 0, 1) := by decide +kernel
theorem dX7_deal_35 : decode cX7_deal 35 = .ok (.getfield 9, 3) := by decide +kernel
theorem dX7_deal_38 : decode cX7_deal 38 = .ok (.aload_n 0, 1) := by decide +kernel
theorem dX7_deal_39 : decode cX7_deal 39 = .ok (.getfield 19, 3) := by decide +kernel
theorem dX7_deal_42 : decode cX7_deal 42 = .ok (.invokestatic 187, 3) := by decide +kernel
theorem dX7_deal_45 : decode cX7_deal 45 = .ok (.iconst (-1), 1) := by decide +kernel
theorem dX7_deal_46 : decode cX7_deal 46 = .ok (.istore_n 2, 1) := by decide +kernel
theorem dX7_deal_47 : decode cX7_deal 47 = .ok (.iconst 0, 1) := by decide +kernel
theorem dX7_deal_48 : decode cX7_deal 48 = .ok (.istore_n 3, 1) := by decide +kernel
theorem dX7_deal_49 : decode cX7_deal 49 = .ok (.iconst 0, 1) := by decide +kernel
theorem dX7_deal_50 : decode cX7_deal 50 = .ok (.istore 4, 2) := by decide +kernel
theorem dX7_deal_52 : decode cX7_deal 52 = .ok (.iload 4, 2) := by decide +kernel
theorem dX7_deal_54 : decode cX7_deal 54 = .ok (.bipush 64, 2) := by decide +kernel
theorem dX7_deal_56 : decode cX7_deal 56 = .ok (.if_icmp .ge 47, 3) := by decide +kernel
theorem dX7_deal_59 : decode cX7_deal 59 = .ok (.aload_n 0, 1) := by decide +kernel
theorem dX7_deal_60 : decode cX7_deal 60 = .ok (.iload 4, 2) := by decide +kernel
theorem dX7_deal_62 : decode cX7_deal 62 = .ok (.invokevirtual 203, 3) := by decide +kernel
theorem dX7_deal_65 : decode cX7_deal 65 = .ok (.iload_n 2, 1) := by decide +kernel
theorem dX7_deal_66 : decode cX7_deal 66 = .ok (.ifCond .lt 11, 3) := by decide +kernel
theorem dX7_deal_69 : decode cX7_deal 69 = .ok (.aload_n 0, 1) := by decide +kernel
theorem dX7_deal_70 : decode cX7_deal 70 = .ok (.invokevirtual 206, 3) := by decide +kernel
theorem dX7_deal_73 : decode cX7_deal 73 = .ok (.iload_n 3, 1) := by decide +kernel
theorem dX7_deal_74 : decode cX7_deal 74 = .ok (.if_icmp .le 23, 3) := by decide +kernel
theorem dX7_deal_77 : decode cX7_deal 77 = .ok (.aload_n 0, 1) := by decide +kernel
theorem dX7_deal_78 : decode cX7_deal 78 = .ok (.iload_n 1, 1) := by decide +kernel
theorem dX7_deal_79 : decode cX7_deal 79 = .ok (.invokevirtual 200, 3) := by decide +kernel
theorem dX7_deal_82 : decode cX7_deal 82 = .ok (.iload_n 1, 1) := by decide +kernel
theorem dX7_deal_83 : decode cX7_deal 83 = .ok (.if_icmp .ge 6, 3) := by decide +kernel
theorem dX7_deal_86 : decode cX7_deal 86 = .ok (.goto 11, 3) := by decide +kernel
theorem dX7_deal_89 : decode cX7_deal 89 = .ok (.iload 4, 2) := by decide +kernel
theorem dX7_deal_91 : decode cX7_deal 91 = .ok (.istore_n 2, 1) := by decide +kernel
theorem dX7_deal_92 : decode cX7_deal 92 = .ok (.aload_n 0, 1) := by decide +kernel
theorem dX7_deal_93 : decode cX7_deal 93 = .ok (.invokevirtual 206, 3) := by decide +kernel
theorem dX7_deal_96 : decode cX7_deal 96 = .ok (.istore_n 3, 1) := by decide +kernel
theorem dX7_deal_97 : decode cX7_deal 97 = .ok (.iinc 4 1, 3) := by decide +kernel
theorem dX7_deal_100 : decode cX7_deal 100 = .ok (.goto (-48), 3) := by decide +kernel
theorem dX7_deal_103 : decode cX7_deal 103 = .ok (.aload_n 0, 1) := by decide +kernel
theorem dX7_deal_104 : decode cX7_deal 104 = .ok (.getfield 19, 3) := by decide +kernel
theorem dX7_deal_107 : decode cX7_deal 107 = .ok (.aload_n 0, 1) := by decide +kernel
theorem dX7_deal_108 : decode cX7_deal 108 = .ok (.getfield 9, 3) := by decide +kernel
theorem dX7_deal_111 : decode cX7_deal 111 = .ok (.invokestatic 187, 3) := by decide +kernel
theorem dX7_deal_114 : decode cX7_deal 114 = .ok (.aload_n 0, 1) := by decide +kernel
theorem dX7_deal_115 : decode cX7_deal 115 = .ok (.iload_n 2, 1) := by decide +kernel
theorem dX7_deal_116 : decode cX7_deal 116 = .ok (.invokevirtual 209, 3) := by decide +kernel
theorem dX7_deal_119 : decode cX7_deal 119 = .ok (.ireturn, 1) := by decide +kernel
set_option maxRecDepth 20000 in
theorem ggX7_bears_X7_in : GoodIn wsX7_bears wsX7_in := goodIn_r _ [9] (by decide +kernel) (by decide +kernel)
set_option maxRecDepth 20000 in
theorem gX7_bears_X7_in : GoodIn wsX7_bears (va_wsS RX7 51 yX7_in wsX7_in) := goodIn_app (goodIn_of _ (by decide +kernel)) ggX7_bears_X7_in
set_option maxRecDepth 20000 in
theorem ggX7_bears_X7_finds : GoodIn wsX7_bears wsX7_finds := goodIn_r _ [13, 14, 2, 131, 132, 133, 134, 135, 136, 137, 138, 139, 140, 141, 142, 143, 144, 145, 146, 147, 148] (by decide +kernel) (by decide +kernel)
set_option maxRecDepth 20000 in
theorem gX7_bears_X7_finds : GoodIn wsX7_bears (wsV RX7 45 RX7 yX7_finds wsX7_finds) := goodIn_app (goodIn_of _ (by decide +kernel)) ggX7_bears_X7_finds
set_option maxRecDepth 20000 in
theorem ggX7_bears_X7_isFarOn : GoodIn wsX7_bears wsX7_isFarOn := goodIn_r _ [18, 4, 131, 132, 133, 134, 135, 136, 137, 138, 139, 140, 141, 142, 143, 144, 145, 146, 147, 148] (by decide +kernel) (by decide +kernel)
set_option maxRecDepth 20000 in
theorem gX7_bears_X7_isFarOn : GoodIn wsX7_bears (wsV RX7 194 RX7 yX7_isFarOn wsX7_isFarOn) := goodIn_app (goodIn_of _ (by decide +kernel)) ggX7_bears_X7_isFarOn
set_option maxRecDepth 20000 in
theorem ggX7_bears_X7_held : GoodIn wsX7_bears wsX7_held := goodIn_r _ [22, 4, 23, 24, 25, 8, 26, 27, 28, 29, 30, 31, 32, 33, 34, 35, 36, 37, 38, 39, 40, 41, 42, 43, 44, 45, 46, 47, 48, 49, 50, 51, 52, 53, 54, 55, 56, 57, 58, 59, 60, 61, 62, 63, 64, 65, 66, 67, 68, 69, 70, 71, 72, 73, 74, 75, 76, 77, 78, 79, 80, 81, 82, 83, 84, 85, 86, 87, 88, 89, 90, 91, 92, 93, 94, 95, 96, 97, 98, 99, 100, 101, 102, 103, 104, 105, 106, 107, 108, 109, 110, 111, 112, 113, 114, 115, 116, 117, 118, 119, 120, 121, 122, 123, 124, 125, 126, 127, 128, 129, 130, 131, 132, 133, 134, 135, 136, 137, 138, 139, 140, 141, 142, 143, 144, 145, 146, 147, 148] (by decide +kernel) (by decide +kernel)
set_option maxRecDepth 20000 in
theorem gX7_bears_X7_held : GoodIn wsX7_bears (wsV RX7 200 RX7 yX7_held wsX7_held) := goodIn_app (goodIn_of _ (by decide +kernel)) ggX7_bears_X7_held
theorem dX7_bears_0 : decode cX7_bears 0 = .ok (.iload_n 1, 1) := by decide +kernel
theorem dX7_bears_1 : decode cX7_bears 1 = .ok (.i2l, 1) := by decide +kernel
theorem dX7_bears_2 : decode cX7_bears 2 = .ok (.lconst 1, 1) := by decide +kernel
theorem dX7_bears_3 : decode cX7_bears 3 = .ok (.ldc2_w 172, 3) := by decide +kernel
theorem dX7_bears_6 : decode cX7_bears 6 = .ok (.invokestatic 51, 3) := by decide +kernel
theorem dX7_bears_9 : decode cX7_bears 9 = .ok (.ifCond .ne 10, 3) := by decide +kernel
theorem dX7_bears_12 : decode cX7_bears 12 = .ok (.aload_n 0, 1) := by decide +kernel
theorem dX7_bears_13 : decode cX7_bears 13 = .ok (.ldc 43, 2) := by decide +kernel
theorem dX7_bears_15 : decode cX7_bears 15 = .ok (.invokevirtual 45, 3) := by decide +kernel
theorem dX7_bears_18 : decode cX7_bears 18 = .ok (.ireturn, 1) := by decide +kernel
theorem dX7_bears_19 : decode cX7_bears 19 = .ok (.aload_n 0, 1) := by decide +kernel
theorem dX7_bears_20 : decode cX7_bears 20 = .ok (.iload_n 1, 1) := by decide +kernel
theorem dX7_bears_21 : decode cX7_bears 21 = .ok (.invokevirtual 194, 3) := by decide +kernel
theorem dX7_bears_24 : decode cX7_bears 24 = .ok (.ifCond .eq 10, 3) := by decide +kernel
theorem dX7_bears_27 : decode cX7_bears 27 = .ok (.aload_n 0, 1) := by decide +kernel
theorem dX7_bears_28 : decode cX7_bears 28 = .ok (.ldc 78, 2) := by decide +kernel
theorem dX7_bears_30 : decode cX7_bears 30 = .ok (.invokevirtual 45, 3) := by decide +kernel
theorem dX7_bears_33 : decode cX7_bears 33 = .ok (.ireturn, 1) := by decide +kernel
theorem dX7_bears_34 : decode cX7_bears 34 = .ok (.aload_n 0, 1) := by decide +kernel
theorem dX7_bears_35 : decode cX7_bears 35 = .ok (.getfield 9, 3) := by decide +kernel
theorem dX7_bears_38 : decode cX7_bears 38 = .ok (.iconst 1, 1) := by decide +kernel
theorem dX7_bears_39 : decode cX7_bears 39 = .ok (.iaload, 1) := by decide +kernel
theorem dX7_bears_40 : decode cX7_bears 40 = .ok (.istore_n 2, 1) := by decide +kernel
theorem dX7_bears_41 : decode cX7_bears 41 = .ok (.bipush 20, 2) := by decide +kernel
theorem dX7_bears_43 : decode cX7_bears 43 = .ok (.istore_n 3, 1) := by decide +kernel
theorem dX7_bears_44 : decode cX7_bears 44 = .ok (.iconst 0, 1) := by decide +kernel
theorem dX7_bears_45 : decode cX7_bears 45 = .ok (.istore 4, 2) := by decide +kernel
theorem dX7_bears_47 : decode cX7_bears 47 = .ok (.iload_n 3, 1) := by decide +kernel
theorem dX7_bears_48 : decode cX7_bears 48 = .ok (.bipush (-20), 2) := by decide +kernel
theorem dX7_bears_50 : decode cX7_bears 50 = .ok (.if_icmp .lt 47, 3) := by decide +kernel
theorem dX7_bears_53 : decode cX7_bears 53 = .ok (.iload 4, 2) := by decide +kernel
theorem dX7_bears_55 : decode cX7_bears 55 = .ok (.ifCond .ne 42, 3) := by decide +kernel
theorem dX7_bears_58 : decode cX7_bears 58 = .ok (.aload_n 0, 1) := by decide +kernel
theorem dX7_bears_59 : decode cX7_bears 59 = .ok (.getfield 9, 3) := by decide +kernel
theorem dX7_bears_62 : decode cX7_bears 62 = .ok (.iconst 1, 1) := by decide +kernel
theorem dX7_bears_63 : decode cX7_bears 63 = .ok (.iload_n 3, 1) := by decide +kernel
theorem dX7_bears_64 : decode cX7_bears 64 = .ok (.iastore, 1) := by decide +kernel
theorem dX7_bears_65 : decode cX7_bears 65 = .ok (.aload_n 0, 1) := by decide +kernel
theorem dX7_bears_66 : decode cX7_bears 66 = .ok (.iload_n 1, 1) := by decide +kernel
theorem dX7_bears_67 : decode cX7_bears 67 = .ok (.invokevirtual 200, 3) := by decide +kernel
theorem dX7_bears_70 : decode cX7_bears 70 = .ok (.iload_n 1, 1) := by decide +kernel
theorem dX7_bears_71 : decode cX7_bears 71 = .ok (.if_icmp .ne 7, 3) := by decide +kernel
theorem dX7_bears_74 : decode cX7_bears 74 = .ok (.iconst 1, 1) := by decide +kernel
theorem dX7_bears_75 : decode cX7_bears 75 = .ok (.goto 4, 3) := by decide +kernel
theorem dX7_bears_78 : decode cX7_bears 78 = .ok (.iconst 0, 1) := by decide +kernel
theorem dX7_bears_79 : decode cX7_bears 79 = .ok (.istore 4, 2) := by decide +kernel
theorem dX7_bears_81 : decode cX7_bears 81 = .ok (.iload_n 3, 1) := by decide +kernel
theorem dX7_bears_82 : decode cX7_bears 82 = .ok (.iload 4, 2) := by decide +kernel
theorem dX7_bears_84 : decode cX7_bears 84 = .ok (.ifCond .eq 7, 3) := by decide +kernel
theorem dX7_bears_87 : decode cX7_bears 87 = .ok (.iconst 0, 1) := by decide +kernel
theorem dX7_bears_88 : decode cX7_bears 88 = .ok (.goto 4, 3) := by decide +kernel
theorem dX7_bears_91 : decode cX7_bears 91 = .ok (.iconst 1, 1) := by decide +kernel
theorem dX7_bears_92 : decode cX7_bears 92 = .ok (.isub, 1) := by decide +kernel
theorem dX7_bears_93 : decode cX7_bears 93 = .ok (.istore_n 3, 1) := by decide +kernel
theorem dX7_bears_94 : decode cX7_bears 94 = .ok (.goto (-47), 3) := by decide +kernel
theorem dX7_bears_97 : decode cX7_bears 97 = .ok (.aload_n 0, 1) := by decide +kernel
theorem dX7_bears_98 : decode cX7_bears 98 = .ok (.getfield 9, 3) := by decide +kernel
theorem dX7_bears_101 : decode cX7_bears 101 = .ok (.iconst 1, 1) := by decide +kernel
theorem dX7_bears_102 : decode cX7_bears 102 = .ok (.iload_n 2, 1) := by decide +kernel
theorem dX7_bears_103 : decode cX7_bears 103 = .ok (.iastore, 1) := by decide +kernel
theorem dX7_bears_104 : decode cX7_bears 104 = .ok (.iload 4, 2) := by decide +kernel
theorem dX7_bears_106 : decode cX7_bears 106 = .ok (.ifCond .eq 7, 3) := by decide +kernel
theorem dX7_bears_109 : decode cX7_bears 109 = .ok (.iload_n 3, 1) := by decide +kernel
theorem dX7_bears_110 : decode cX7_bears 110 = .ok (.goto 9, 3) := by decide +kernel
theorem dX7_bears_113 : decode cX7_bears 113 = .ok (.aload_n 0, 1) := by decide +kernel
theorem dX7_bears_114 : decode cX7_bears 114 = .ok (.ldc 44, 2) := by decide +kernel
theorem dX7_bears_116 : decode cX7_bears 116 = .ok (.invokevirtual 45, 3) := by decide +kernel
theorem dX7_bears_119 : decode cX7_bears 119 = .ok (.ireturn, 1) := by decide +kernel
set_option maxRecDepth 20000 in
theorem ggX7_wrongFor_X7_isBlock : GoodIn wsX7_wrongFor wsX7_isBlock := goodIn_r _ [7, 8, 9, 10, 6, 11, 24, 25, 26, 27, 28, 29, 30, 31, 32, 33, 34, 35, 36, 37, 38, 39, 40, 41] (by decide +kernel) (by decide +kernel)
set_option maxRecDepth 20000 in
theorem gX7_wrongFor_X7_isBlock : GoodIn wsX7_wrongFor (wsV RX7 114 RX7 yX7_isBlock wsX7_isBlock) := goodIn_app (goodIn_of _ (by decide +kernel)) ggX7_wrongFor_X7_isBlock
set_option maxRecDepth 20000 in
theorem ggX7_wrongFor_X7_isGone : GoodIn wsX7_wrongFor wsX7_isGone := goodIn_r _ [15, 16, 17, 18, 6, 19, 8, 24, 25, 26, 27, 28, 29, 30, 31, 32, 33, 34, 35, 36, 37, 38, 39, 40, 41] (by decide +kernel) (by decide +kernel)
set_option maxRecDepth 20000 in
theorem gX7_wrongFor_X7_isGone : GoodIn wsX7_wrongFor (wsV RX7 105 RX7 yX7_isGone wsX7_isGone) := goodIn_app (goodIn_of _ (by decide +kernel)) ggX7_wrongFor_X7_isGone
set_option maxRecDepth 20000 in
theorem ggX7_wrongFor_X7_isFarOn : GoodIn wsX7_wrongFor wsX7_isFarOn := goodIn_r _ [23, 8, 24, 25, 26, 27, 28, 29, 30, 31, 32, 33, 34, 35, 36, 37, 38, 39, 40, 41] (by decide +kernel) (by decide +kernel)
set_option maxRecDepth 20000 in
theorem gX7_wrongFor_X7_isFarOn : GoodIn wsX7_wrongFor (wsV RX7 194 RX7 yX7_isFarOn wsX7_isFarOn) := goodIn_app (goodIn_of _ (by decide +kernel)) ggX7_wrongFor_X7_isFarOn
theorem dX7_wrongFor_0 : decode cX7_wrongFor 0 = .ok (.aload_n 0, 1) := by decide +kernel
theorem dX7_wrongFor_1 : decode cX7_wrongFor 1 = .ok (.iload_n 1, 1) := by decide +kernel
theorem dX7_wrongFor_2 : decode cX7_wrongFor 2 = .ok (.invokevirtual 114, 3) := by decide +kernel
theorem dX7_wrongFor_5 : decode cX7_wrongFor 5 = .ok (.ifCond .eq 7, 3) := by decide +kernel
theorem dX7_wrongFor_8 : decode cX7_wrongFor 8 = .ok (.iload_n 3, 1) := by decide +kernel
theorem dX7_wrongFor_9 : decode cX7_wrongFor 9 = .ok (.ifCond .ne 8, 3) := by decide +kernel
theorem dX7_wrongFor_12 : decode cX7_wrongFor 12 = .ok (.ldc 43, 2) := by decide +kernel
theorem dX7_wrongFor_14 : decode cX7_wrongFor 14 = .ok (.goto 25, 3) := by decide +kernel
theorem dX7_wrongFor_17 : decode cX7_wrongFor 17 = .ok (.aload_n 0, 1) := by decide +kernel
theorem dX7_wrongFor_18 : decode cX7_wrongFor 18 = .ok (.iload_n 1, 1) := by decide +kernel
theorem dX7_wrongFor_19 : decode cX7_wrongFor 19 = .ok (.invokevirtual 105, 3) := by decide +kernel
theorem dX7_wrongFor_22 : decode cX7_wrongFor 22 = .ok (.ifCond .ne 11, 3) := by decide +kernel
theorem dX7_wrongFor_25 : decode cX7_wrongFor 25 = .ok (.aload_n 0, 1) := by decide +kernel
theorem dX7_wrongFor_26 : decode cX7_wrongFor 26 = .ok (.iload_n 2, 1) := by decide +kernel
theorem dX7_wrongFor_27 : decode cX7_wrongFor 27 = .ok (.invokevirtual 194, 3) := by decide +kernel
theorem dX7_wrongFor_30 : decode cX7_wrongFor 30 = .ok (.ifCond .eq 8, 3) := by decide +kernel
theorem dX7_wrongFor_33 : decode cX7_wrongFor 33 = .ok (.ldc 78, 2) := by decide +kernel
theorem dX7_wrongFor_35 : decode cX7_wrongFor 35 = .ok (.goto 4, 3) := by decide +kernel
theorem dX7_wrongFor_38 : decode cX7_wrongFor 38 = .ok (.iconst 0, 1) := by decide +kernel
theorem dX7_wrongFor_39 : decode cX7_wrongFor 39 = .ok (.ireturn, 1) := by decide +kernel
theorem dX7_capped_0 : decode cX7_capped 0 = .ok (.iload_n 0, 1) := by decide +kernel
theorem dX7_capped_1 : decode cX7_capped 1 = .ok (.bipush 99, 2) := by decide +kernel
theorem dX7_capped_3 : decode cX7_capped 3 = .ok (.if_icmp .le 8, 3) := by decide +kernel
theorem dX7_capped_6 : decode cX7_capped 6 = .ok (.bipush 99, 2) := by decide +kernel
theorem dX7_capped_8 : decode cX7_capped 8 = .ok (.goto 4, 3) := by decide +kernel
theorem dX7_capped_11 : decode cX7_capped 11 = .ok (.iload_n 0, 1) := by decide +kernel
theorem dX7_capped_12 : decode cX7_capped 12 = .ok (.ireturn, 1) := by decide +kernel
set_option maxRecDepth 20000 in
theorem ggX7_needs_X7_in : GoodIn wsX7_needs wsX7_in := goodIn_r _ [5] (by decide +kernel) (by decide +kernel)
set_option maxRecDepth 20000 in
theorem gX7_needs_X7_in : GoodIn wsX7_needs (va_wsS RX7 51 yX7_in wsX7_in) := goodIn_app (goodIn_of _ (by decide +kernel)) ggX7_needs_X7_in
set_option maxRecDepth 20000 in
theorem ggX7_needs_X7_wrongFor : GoodIn wsX7_needs wsX7_wrongFor := goodIn_r _ [9, 10, 11, 12, 13, 14, 4, 15, 16, 2, 3, 5, 17, 18, 19, 20, 21, 22, 23, 24, 25, 26, 27, 28, 146, 147, 148, 149, 150, 151, 152, 153, 154, 155, 156, 157, 158, 159, 160, 161, 162, 163] (by decide +kernel) (by decide +kernel)
set_option maxRecDepth 20000 in
theorem gX7_needs_X7_wrongFor : GoodIn wsX7_needs (wsV RX7 212 RX7 yX7_wrongFor wsX7_wrongFor) := goodIn_app (goodIn_of _ (by decide +kernel)) ggX7_needs_X7_wrongFor
set_option maxRecDepth 20000 in
theorem ggX7_needs_X7_finds : GoodIn wsX7_needs wsX7_finds := goodIn_r _ [32, 33, 10, 146, 147, 148, 149, 150, 151, 152, 153, 154, 155, 156, 157, 158, 159, 160, 161, 162, 163] (by decide +kernel) (by decide +kernel)
set_option maxRecDepth 20000 in
theorem gX7_needs_X7_finds : GoodIn wsX7_needs (wsV RX7 45 RX7 yX7_finds wsX7_finds) := goodIn_app (goodIn_of _ (by decide +kernel)) ggX7_needs_X7_finds
set_option maxRecDepth 20000 in
theorem ggX7_needs_X7_grains : GoodIn wsX7_needs wsX7_grains := goodIn_r _ [37, 16, 146, 147, 148, 149, 150, 151, 152, 153, 154, 155, 156, 157, 158, 159, 160, 161, 162, 163] (by decide +kernel) (by decide +kernel)
set_option maxRecDepth 20000 in
theorem gX7_needs_X7_grains : GoodIn wsX7_needs (wsV RX7 111 RX7 yX7_grains wsX7_grains) := goodIn_app (goodIn_of _ (by decide +kernel)) ggX7_needs_X7_grains
set_option maxRecDepth 20000 in
theorem ggX7_needs_X7_capped : GoodIn wsX7_needs wsX7_capped := goodIn_r _ [40] (by decide +kernel) (by decide +kernel)
set_option maxRecDepth 20000 in
theorem gX7_needs_X7_capped : GoodIn wsX7_needs (va_wsS RX7 216 yX7_capped wsX7_capped) := goodIn_app (goodIn_of _ (by decide +kernel)) ggX7_needs_X7_capped
set_option maxRecDepth 20000 in
theorem ggX7_needs_X7_makes : GoodIn wsX7_needs wsX7_makes := goodIn_r _ [44, 16, 146, 147, 148, 149, 150, 151, 152, 153, 154, 155, 156, 157, 158, 159, 160, 161, 162, 163] (by decide +kernel) (by decide +kernel)
set_option maxRecDepth 20000 in
theorem gX7_needs_X7_makes : GoodIn wsX7_needs (wsV RX7 140 RX7 yX7_makes wsX7_makes) := goodIn_app (goodIn_of _ (by decide +kernel)) ggX7_needs_X7_makes
set_option maxRecDepth 20000 in
theorem ggX7_needs_X7_held : GoodIn wsX7_needs wsX7_held := goodIn_r _ [48, 16, 49, 50, 51, 4, 52, 53, 54, 55, 56, 17, 18, 19, 20, 21, 22, 23, 24, 57, 58, 59, 60, 61, 62, 63, 64, 65, 66, 67, 68, 69, 70, 71, 72, 73, 74, 75, 76, 77, 34, 35, 36, 37, 41, 42, 43, 44, 78, 79, 80, 81, 82, 83, 84, 85, 86, 87, 88, 89, 90, 91, 92, 93, 94, 95, 96, 97, 98, 99, 100, 101, 102, 103, 104, 105, 106, 107, 108, 109, 110, 111, 112, 113, 114, 115, 116, 117, 118, 119, 120, 121, 122, 123, 124, 125, 126, 127, 128, 129, 130, 131, 132, 133, 134, 135, 136, 137, 138, 139, 140, 146, 147, 148, 149, 150, 151, 152, 153, 154, 155, 156, 157, 158, 159, 160, 161, 162, 163] (by decide +kernel) (by decide +kernel)
set_option maxRecDepth 20000 in
theorem gX7_needs_X7_held : GoodIn wsX7_needs (wsV RX7 200 RX7 yX7_held wsX7_held) := goodIn_app (goodIn_of _ (by decide +kernel)) ggX7_needs_X7_held
set_option maxRecDepth 20000 in
theorem ggX7_needs_X7_orNone : GoodIn wsX7_needs wsX7_orNone := goodIn_r _ [144, 145, 29, 30, 31, 4, 32, 33, 10, 146, 147, 148, 149, 150, 151, 152, 153, 154, 155, 156, 157, 158, 159, 160, 161, 162, 163] (by decide +kernel) (by decide +kernel)
set_option maxRecDepth 20000 in
theorem gX7_needs_X7_orNone : GoodIn wsX7_needs (wsV RX7 209 RX7 yX7_orNone wsX7_orNone) := goodIn_app (goodIn_of _ (by decide +kernel)) ggX7_needs_X7_orNone
theorem dX7_needs_0 : decode cX7_needs 0 = .ok (.aload_n 0, 1) := by decide +kernel
theorem dX7_needs_1 : decode cX7_needs 1 = .ok (.iload_n 1, 1) := by decide +kernel
theorem dX7_needs_2 : decode cX7_needs 2 = .ok (.iload_n 2, 1) := by decide +kernel
theorem dX7_needs_3 : decode cX7_needs 3 = .ok (.iload_n 2, 1) := by decide +kernel
theorem dX7_needs_4 : decode cX7_needs 4 = .ok (.i2l, 1) := by decide +kernel
theorem dX7_needs_5 : decode cX7_needs 5 = .ok (.lconst 1, 1) := by decide +kernel
theorem dX7_needs_6 : decode cX7_needs 6 = .ok (.ldc2_w 172, 3) := by decide +kernel
theorem dX7_needs_9 : decode cX7_needs 9 = .ok (.invokestatic 51, 3) := by decide +kernel
theorem dX7_needs_12 : decode cX7_needs 12 = .ok (.invokevirtual 212, 3) := by decide +kernel
theorem dX7_needs_15 : decode cX7_needs 15 = .ok (.istore_n 3, 1) := by decide +kernel
theorem dX7_needs_16 : decode cX7_needs 16 = .ok (.iload_n 3, 1) := by decide +kernel
theorem dX7_needs_17 : decode cX7_needs 17 = .ok (.ifCond .ge 9, 3) := by decide +kernel
theorem dX7_needs_20 : decode cX7_needs 20 = .ok (.aload_n 0, 1) := by decide +kernel
theorem dX7_needs_21 : decode cX7_needs 21 = .ok (.iload_n 3, 1) := by decide +kernel
theorem dX7_needs_22 : decode cX7_needs 22 = .ok (.invokevirtual 45, 3) := by decide +kernel
theorem dX7_needs_25 : decode cX7_needs 25 = .ok (.ireturn, 1) := by decide +kernel
theorem dX7_needs_26 : decode cX7_needs 26 = .ok (.aload_n 0, 1) := by decide +kernel
theorem dX7_needs_27 : decode cX7_needs 27 = .ok (.iload_n 1, 1) := by decide +kernel
theorem dX7_needs_28 : decode cX7_needs 28 = .ok (.invokevirtual 111, 3) := by decide +kernel
theorem dX7_needs_31 : decode cX7_needs 31 = .ok (.istore 4, 2) := by decide +kernel
theorem dX7_needs_33 : decode cX7_needs 33 = .ok (.iconst (-1), 1) := by decide +kernel
theorem dX7_needs_34 : decode cX7_needs 34 = .ok (.istore 5, 2) := by decide +kernel
theorem dX7_needs_36 : decode cX7_needs 36 = .ok (.iconst 0, 1) := by decide +kernel
theorem dX7_needs_37 : decode cX7_needs 37 = .ok (.istore 6, 2) := by decide +kernel
theorem dX7_needs_39 : decode cX7_needs 39 = .ok (.iload 6, 2) := by decide +kernel
theorem dX7_needs_41 : decode cX7_needs 41 = .ok (.bipush 99, 2) := by decide +kernel
theorem dX7_needs_43 : decode cX7_needs 43 = .ok (.if_icmp .gt 44, 3) := by decide +kernel
theorem dX7_needs_46 : decode cX7_needs 46 = .ok (.iload 5, 2) := by decide +kernel
theorem dX7_needs_48 : decode cX7_needs 48 = .ok (.ifCond .ge 39, 3) := by decide +kernel
theorem dX7_needs_51 : decode cX7_needs 51 = .ok (.aload_n 0, 1) := by decide +kernel
theorem dX7_needs_52 : decode cX7_needs 52 = .ok (.iload_n 1, 1) := by decide +kernel
theorem dX7_needs_53 : decode cX7_needs 53 = .ok (.iload 4, 2) := by decide +kernel
theorem dX7_needs_55 : decode cX7_needs 55 = .ok (.iload 6, 2) := by decide +kernel
theorem dX7_needs_57 : decode cX7_needs 57 = .ok (.iadd, 1) := by decide +kernel
theorem dX7_needs_58 : decode cX7_needs 58 = .ok (.invokestatic 216, 3) := by decide +kernel
theorem dX7_needs_61 : decode cX7_needs 61 = .ok (.invokevirtual 140, 3) := by decide +kernel
theorem dX7_needs_64 : decode cX7_needs 64 = .ok (.aload_n 0, 1) := by decide +kernel
theorem dX7_needs_65 : decode cX7_needs 65 = .ok (.iload_n 2, 1) := by decide +kernel
theorem dX7_needs_66 : decode cX7_needs 66 = .ok (.invokevirtual 200, 3) := by decide +kernel
theorem dX7_needs_69 : decode cX7_needs 69 = .ok (.iload_n 2, 1) := by decide +kernel
theorem dX7_needs_70 : decode cX7_needs 70 = .ok (.if_icmp .ne 8, 3) := by decide +kernel
theorem dX7_needs_73 : decode cX7_needs 73 = .ok (.iload 6, 2) := by decide +kernel
theorem dX7_needs_75 : decode cX7_needs 75 = .ok (.goto 4, 3) := by decide +kernel
theorem dX7_needs_78 : decode cX7_needs 78 = .ok (.iconst (-1), 1) := by decide +kernel
theorem dX7_needs_79 : decode cX7_needs 79 = .ok (.istore 5, 2) := by decide +kernel
theorem dX7_needs_81 : decode cX7_needs 81 = .ok (.iinc 6 1, 3) := by decide +kernel
theorem dX7_needs_84 : decode cX7_needs 84 = .ok (.goto (-45), 3) := by decide +kernel
theorem dX7_needs_87 : decode cX7_needs 87 = .ok (.aload_n 0, 1) := by decide +kernel
theorem dX7_needs_88 : decode cX7_needs 88 = .ok (.iload_n 1, 1) := by decide +kernel
theorem dX7_needs_89 : decode cX7_needs 89 = .ok (.iload 4, 2) := by decide +kernel
theorem dX7_needs_91 : decode cX7_needs 91 = .ok (.invokevirtual 140, 3) := by decide +kernel
theorem dX7_needs_94 : decode cX7_needs 94 = .ok (.aload_n 0, 1) := by decide +kernel
theorem dX7_needs_95 : decode cX7_needs 95 = .ok (.iload 5, 2) := by decide +kernel
theorem dX7_needs_97 : decode cX7_needs 97 = .ok (.invokevirtual 209, 3) := by decide +kernel
theorem dX7_needs_100 : decode cX7_needs 100 = .ok (.ireturn, 1) := by decide +kernel
set_option maxRecDepth 20000 in
theorem ggX7_mend_X7_in : GoodIn wsX7_mend wsX7_in := goodIn_r _ [8] (by decide +kernel) (by decide +kernel)
set_option maxRecDepth 20000 in
theorem gX7_mend_X7_in : GoodIn wsX7_mend (va_wsS RX7 51 yX7_in wsX7_in) := goodIn_app (goodIn_of _ (by decide +kernel)) ggX7_mend_X7_in
set_option maxRecDepth 20000 in
theorem ggX7_mend_X7_finds : GoodIn wsX7_mend wsX7_finds := goodIn_r _ [12, 13, 2, 138, 139, 140, 141, 142, 143, 144, 145, 146, 147, 148, 149, 150, 151, 152, 153, 154, 155] (by decide +kernel) (by decide +kernel)
set_option maxRecDepth 20000 in
theorem gX7_mend_X7_finds : GoodIn wsX7_mend (wsV RX7 45 RX7 yX7_finds wsX7_finds) := goodIn_app (goodIn_of _ (by decide +kernel)) ggX7_mend_X7_finds
set_option maxRecDepth 20000 in
theorem ggX7_mend_X7_isFarOn : GoodIn wsX7_mend wsX7_isFarOn := goodIn_r _ [17, 4, 138, 139, 140, 141, 142, 143, 144, 145, 146, 147, 148, 149, 150, 151, 152, 153, 154, 155] (by decide +kernel) (by decide +kernel)
set_option maxRecDepth 20000 in
theorem gX7_mend_X7_isFarOn : GoodIn wsX7_mend (wsV RX7 194 RX7 yX7_isFarOn wsX7_isFarOn) := goodIn_app (goodIn_of _ (by decide +kernel)) ggX7_mend_X7_isFarOn
set_option maxRecDepth 20000 in
theorem ggX7_mend_X7_isGone : GoodIn wsX7_mend wsX7_isGone := goodIn_r _ [21, 22, 23, 24, 7, 25, 4, 138, 139, 140, 141, 142, 143, 144, 145, 146, 147, 148, 149, 150, 151, 152, 153, 154, 155] (by decide +kernel) (by decide +kernel)
set_option maxRecDepth 20000 in
theorem gX7_mend_X7_isGone : GoodIn wsX7_mend (wsV RX7 105 RX7 yX7_isGone wsX7_isGone) := goodIn_app (goodIn_of _ (by decide +kernel)) ggX7_mend_X7_isGone
set_option maxRecDepth 20000 in
theorem ggX7_mend_X7_grains : GoodIn wsX7_mend wsX7_grains := goodIn_r _ [29, 4, 138, 139, 140, 141, 142, 143, 144, 145, 146, 147, 148, 149, 150, 151, 152, 153, 154, 155] (by decide +kernel) (by decide +kernel)
set_option maxRecDepth 20000 in
theorem gX7_mend_X7_grains : GoodIn wsX7_mend (wsV RX7 111 RX7 yX7_grains wsX7_grains) := goodIn_app (goodIn_of _ (by decide +kernel)) ggX7_mend_X7_grains
set_option maxRecDepth 20000 in
theorem ggX7_mend_X7_capped : GoodIn wsX7_mend wsX7_capped := goodIn_r _ [32] (by decide +kernel) (by decide +kernel)
set_option maxRecDepth 20000 in
theorem gX7_mend_X7_capped : GoodIn wsX7_mend (va_wsS RX7 216 yX7_capped wsX7_capped) := goodIn_app (goodIn_of _ (by decide +kernel)) ggX7_mend_X7_capped
set_option maxRecDepth 20000 in
theorem ggX7_mend_X7_makes : GoodIn wsX7_mend wsX7_makes := goodIn_r _ [36, 4, 138, 139, 140, 141, 142, 143, 144, 145, 146, 147, 148, 149, 150, 151, 152, 153, 154, 155] (by decide +kernel) (by decide +kernel)
set_option maxRecDepth 20000 in
theorem gX7_mend_X7_makes : GoodIn wsX7_mend (wsV RX7 140 RX7 yX7_makes wsX7_makes) := goodIn_app (goodIn_of _ (by decide +kernel)) ggX7_mend_X7_makes
set_option maxRecDepth 20000 in
theorem ggX7_mend_X7_held : GoodIn wsX7_mend wsX7_held := goodIn_r _ [40, 4, 41, 42, 43, 7, 44, 45, 46, 47, 48, 18, 19, 20, 21, 22, 23, 24, 25, 49, 50, 51, 52, 53, 54, 55, 56, 57, 58, 59, 60, 61, 62, 63, 64, 65, 66, 67, 68, 69, 26, 27, 28, 29, 33, 34, 35, 36, 70, 71, 72, 73, 74, 75, 76, 77, 78, 79, 80, 81, 82, 83, 84, 85, 86, 87, 88, 89, 90, 91, 92, 93, 94, 95, 96, 97, 98, 99, 100, 101, 102, 103, 104, 105, 106, 107, 108, 109, 110, 111, 112, 113, 114, 115, 116, 117, 118, 119, 120, 121, 122, 123, 124, 125, 126, 127, 128, 129, 130, 131, 132, 138, 139, 140, 141, 142, 143, 144, 145, 146, 147, 148, 149, 150, 151, 152, 153, 154, 155] (by decide +kernel) (by decide +kernel)
set_option maxRecDepth 20000 in
theorem gX7_mend_X7_held : GoodIn wsX7_mend (wsV RX7 200 RX7 yX7_held wsX7_held) := goodIn_app (goodIn_of _ (by decide +kernel)) ggX7_mend_X7_held
set_option maxRecDepth 20000 in
theorem ggX7_mend_X7_orNone : GoodIn wsX7_mend wsX7_orNone := goodIn_r _ [136, 137, 9, 10, 11, 7, 12, 13, 2, 138, 139, 140, 141, 142, 143, 144, 145, 146, 147, 148, 149, 150, 151, 152, 153, 154, 155] (by decide +kernel) (by decide +kernel)
set_option maxRecDepth 20000 in
theorem gX7_mend_X7_orNone : GoodIn wsX7_mend (wsV RX7 209 RX7 yX7_orNone wsX7_orNone) := goodIn_app (goodIn_of _ (by decide +kernel)) ggX7_mend_X7_orNone
theorem dX7_mend_0 : decode cX7_mend 0 = .ok (.iload_n 1, 1) := by decide +kernel
theorem dX7_mend_1 : decode cX7_mend 1 = .ok (.i2l, 1) := by decide +kernel
theorem dX7_mend_2 : decode cX7_mend 2 = .ok (.lconst 1, 1) := by decide +kernel
theorem dX7_mend_3 : decode cX7_mend 3 = .ok (.ldc2_w 219, 3) := by decide +kernel
theorem dX7_mend_6 : decode cX7_mend 6 = .ok (.invokestatic 51, 3) := by decide +kernel
theorem dX7_mend_9 : decode cX7_mend 9 = .ok (.ifCond .ne 10, 3) := by decide +kernel
theorem dX7_mend_12 : decode cX7_mend 12 = .ok (.aload_n 0, 1) := by decide +kernel
theorem dX7_mend_13 : decode cX7_mend 13 = .ok (.ldc 43, 2) := by decide +kernel
theorem dX7_mend_15 : decode cX7_mend 15 = .ok (.invokevirtual 45, 3) := by decide +kernel
theorem dX7_mend_18 : decode cX7_mend 18 = .ok (.ireturn, 1) := by decide +kernel
theorem dX7_mend_19 : decode cX7_mend 19 = .ok (.aload_n 0, 1) := by decide +kernel
theorem dX7_mend_20 : decode cX7_mend 20 = .ok (.bipush 96, 2) := by decide +kernel
theorem dX7_mend_22 : decode cX7_mend 22 = .ok (.invokevirtual 194, 3) := by decide +kernel
theorem dX7_mend_25 : decode cX7_mend 25 = .ok (.ifCond .eq 10, 3) := by decide +kernel
theorem dX7_mend_28 : decode cX7_mend 28 = .ok (.aload_n 0, 1) := by decide +kernel
theorem dX7_mend_29 : decode cX7_mend 29 = .ok (.ldc 78, 2) := by decide +kernel
theorem dX7_mend_31 : decode cX7_mend 31 = .ok (.invokevirtual 45, 3) := by decide +kernel
theorem dX7_mend_34 : decode cX7_mend 34 = .ok (.ireturn, 1) := by decide +kernel
theorem dX7_mend_35 : decode cX7_mend 35 = .ok (.iconst (-1), 1) := by decide +kernel
theorem dX7_mend_36 : decode cX7_mend 36 = .ok (.istore_n 2, 1) := by decide +kernel
theorem dX7_mend_37 : decode cX7_mend 37 = .ok (.iconst 0, 1) := by decide +kernel
theorem dX7_mend_38 : decode cX7_mend 38 = .ok (.istore_n 3, 1) := by decide +kernel
theorem dX7_mend_39 : decode cX7_mend 39 = .ok (.iconst 0, 1) := by decide +kernel
theorem dX7_mend_40 : decode cX7_mend 40 = .ok (.istore 4, 2) := by decide +kernel
theorem dX7_mend_42 : decode cX7_mend 42 = .ok (.iload 4, 2) := by decide +kernel
theorem dX7_mend_44 : decode cX7_mend 44 = .ok (.aload_n 0, 1) := by decide +kernel
theorem dX7_mend_45 : decode cX7_mend 45 = .ok (.getfield 9, 3) := by decide +kernel
theorem dX7_mend_48 : decode cX7_mend 48 = .ok (.iconst 5, 1) := by decide +kernel
theorem dX7_mend_49 : decode cX7_mend 49 = .ok (.iaload, 1) := by decide +kernel
theorem dX7_mend_50 : decode cX7_mend 50 = .ok (.if_icmp .ge 77, 3) := by decide +kernel
theorem dX7_mend_53 : decode cX7_mend 53 = .ok (.aload_n 0, 1) := by decide +kernel
theorem dX7_mend_54 : decode cX7_mend 54 = .ok (.iload 4, 2) := by decide +kernel
theorem dX7_mend_56 : decode cX7_mend 56 = .ok (.invokevirtual 105, 3) := by decide +kernel
theorem dX7_mend_59 : decode cX7_mend 59 = .ok (.ifCond .eq 6, 3) := by decide +kernel
theorem dX7_mend_62 : decode cX7_mend 62 = .ok (.goto 59, 3) := by decide +kernel
theorem dX7_mend_65 : decode cX7_mend 65 = .ok (.aload_n 0, 1) := by decide +kernel
theorem dX7_mend_66 : decode cX7_mend 66 = .ok (.iload 4, 2) := by decide +kernel
theorem dX7_mend_68 : decode cX7_mend 68 = .ok (.invokevirtual 111, 3) := by decide +kernel
theorem dX7_mend_71 : decode cX7_mend 71 = .ok (.istore 5, 2) := by decide +kernel
theorem dX7_mend_73 : decode cX7_mend 73 = .ok (.aload_n 0, 1) := by decide +kernel
theorem dX7_mend_74 : decode cX7_mend 74 = .ok (.iload 4, 2) := by decide +kernel
theorem dX7_mend_76 : decode cX7_mend 76 = .ok (.iload 5, 2) := by decide +kernel
theorem dX7_mend_78 : decode cX7_mend 78 = .ok (.iload_n 1, 1) := by decide +kernel
theorem dX7_mend_79 : decode cX7_mend 79 = .ok (.iadd, 1) := by decide +kernel
theorem dX7_mend_80 : decode cX7_mend 80 = .ok (.invokestatic 216, 3) := by decide +kernel
theorem dX7_mend_83 : decode cX7_mend 83 = .ok (.invokevirtual 140, 3) := by decide +kernel
theorem dX7_mend_86 : decode cX7_mend 86 = .ok (.aload_n 0, 1) := by decide +kernel
theorem dX7_mend_87 : decode cX7_mend 87 = .ok (.bipush 96, 2) := by decide +kernel
theorem dX7_mend_89 : decode cX7_mend 89 = .ok (.invokevirtual 200, 3) := by decide +kernel
theorem dX7_mend_92 : decode cX7_mend 92 = .ok (.istore 6, 2) := by decide +kernel
theorem dX7_mend_94 : decode cX7_mend 94 = .ok (.aload_n 0, 1) := by decide +kernel
theorem dX7_mend_95 : decode cX7_mend 95 = .ok (.iload 4, 2) := by decide +kernel
theorem dX7_mend_97 : decode cX7_mend 97 = .ok (.iload 5, 2) := by decide +kernel
theorem dX7_mend_99 : decode cX7_mend 99 = .ok (.invokevirtual 140, 3) := by decide +kernel
theorem dX7_mend_102 : decode cX7_mend 102 = .ok (.iload_n 2, 1) := by decide +kernel
theorem dX7_mend_103 : decode cX7_mend 103 = .ok (.ifCond .lt 12, 3) := by decide +kernel
theorem dX7_mend_106 : decode cX7_mend 106 = .ok (.iload 6, 2) := by decide +kernel
theorem dX7_mend_108 : decode cX7_mend 108 = .ok (.iload_n 3, 1) := by decide +kernel
theorem dX7_mend_109 : decode cX7_mend 109 = .ok (.if_icmp .gt 6, 3) := by decide +kernel
theorem dX7_mend_112 : decode cX7_mend 112 = .ok (.goto 9, 3) := by decide +kernel
theorem dX7_mend_115 : decode cX7_mend 115 = .ok (.iload 4, 2) := by decide +kernel
theorem dX7_mend_117 : decode cX7_mend 117 = .ok (.istore_n 2, 1) := by decide +kernel
theorem dX7_mend_118 : decode cX7_mend 118 = .ok (.iload 6, 2) := by decide +kernel
theorem dX7_mend_120 : decode cX7_mend 120 = .ok (.istore_n 3, 1) := by decide +kernel
theorem dX7_mend_121 : decode cX7_mend 121 = .ok (.iinc 4 1, 3) := by decide +kernel
theorem dX7_mend_124 : decode cX7_mend 124 = .ok (.goto (-82), 3) := by decide +kernel
theorem dX7_mend_127 : decode cX7_mend 127 = .ok (.aload_n 0, 1) := by decide +kernel
theorem dX7_mend_128 : decode cX7_mend 128 = .ok (.iload_n 2, 1) := by decide +kernel
theorem dX7_mend_129 : decode cX7_mend 129 = .ok (.invokevirtual 209, 3) := by decide +kernel
theorem dX7_mend_132 : decode cX7_mend 132 = .ok (.ireturn, 1) := by decide +kernel
set_option maxRecDepth 20000 in
theorem ggX7_whose_X7_wrongFor : GoodIn wsX7_whose wsX7_wrongFor := goodIn_r _ [6, 7, 8, 9, 10, 11, 5, 12, 1, 13, 14, 15, 16, 17, 18, 19, 20, 21, 22, 23, 24, 25, 26, 27, 138, 139, 140, 141, 142, 143, 144, 145, 146, 147, 148, 149, 150, 151, 152, 153, 154, 155] (by decide +kernel) (by decide +kernel)
set_option maxRecDepth 20000 in
theorem gX7_whose_X7_wrongFor : GoodIn wsX7_whose (wsV RX7 212 RX7 yX7_wrongFor wsX7_wrongFor) := goodIn_app (goodIn_of _ (by decide +kernel)) ggX7_whose_X7_wrongFor
set_option maxRecDepth 20000 in
theorem ggX7_whose_X7_finds : GoodIn wsX7_whose wsX7_finds := goodIn_r _ [31, 32, 7, 138, 139, 140, 141, 142, 143, 144, 145, 146, 147, 148, 149, 150, 151, 152, 153, 154, 155] (by decide +kernel) (by decide +kernel)
set_option maxRecDepth 20000 in
theorem gX7_whose_X7_finds : GoodIn wsX7_whose (wsV RX7 45 RX7 yX7_finds wsX7_finds) := goodIn_app (goodIn_of _ (by decide +kernel)) ggX7_whose_X7_finds
set_option maxRecDepth 20000 in
theorem ggX7_whose_X7_isLit : GoodIn wsX7_whose wsX7_isLit := goodIn_r _ [36, 1, 138, 139, 140, 141, 142, 143, 144, 145, 146, 147, 148, 149, 150, 151, 152, 153, 154, 155] (by decide +kernel) (by decide +kernel)
set_option maxRecDepth 20000 in
theorem gX7_whose_X7_isLit : GoodIn wsX7_whose (wsV RX7 131 RX7 yX7_isLit wsX7_isLit) := goodIn_app (goodIn_of _ (by decide +kernel)) ggX7_whose_X7_isLit
set_option maxRecDepth 20000 in
theorem ggX7_whose_X7_goneIn : GoodIn wsX7_whose wsX7_goneIn := goodIn_r _ [40, 1, 41, 42, 43, 5, 44, 16, 17, 18, 19, 20, 21, 22, 23, 45, 46, 47, 48, 49, 50, 51, 52, 53, 54, 33, 34, 35, 36, 55, 56, 57, 58, 59, 60, 61, 62, 63, 64, 65, 66, 67, 68, 69, 70, 71, 72, 73, 74, 75, 76, 77, 78, 79, 80, 81, 82, 83, 84, 85, 86, 87, 88, 89, 90, 91, 92, 93, 94, 95, 96, 97, 98, 99, 100, 101, 102, 103, 104, 105, 106, 107, 108, 109, 110, 111, 112, 113, 114, 115, 116, 117, 118, 119, 120, 121, 122, 123, 124, 125, 126, 127, 128, 129, 130, 131, 132, 138, 139, 140, 141, 142, 143, 144, 145, 146, 147, 148, 149, 150, 151, 152, 153, 154, 155] (by decide +kernel) (by decide +kernel)
set_option maxRecDepth 20000 in
theorem gX7_whose_X7_goneIn : GoodIn wsX7_whose (wsV RX7 197 RX7 yX7_goneIn wsX7_goneIn) := goodIn_app (goodIn_of _ (by decide +kernel)) ggX7_whose_X7_goneIn
set_option maxRecDepth 20000 in
theorem ggX7_whose_X7_orNone : GoodIn wsX7_whose wsX7_orNone := goodIn_r _ [136, 137, 28, 29, 30, 5, 31, 32, 7, 138, 139, 140, 141, 142, 143, 144, 145, 146, 147, 148, 149, 150, 151, 152, 153, 154, 155] (by decide +kernel) (by decide +kernel)
set_option maxRecDepth 20000 in
theorem gX7_whose_X7_orNone : GoodIn wsX7_whose (wsV RX7 209 RX7 yX7_orNone wsX7_orNone) := goodIn_app (goodIn_of _ (by decide +kernel)) ggX7_whose_X7_orNone
theorem dX7_whose_0 : decode cX7_whose 0 = .ok (.aload_n 0, 1) := by decide +kernel
theorem dX7_whose_1 : decode cX7_whose 1 = .ok (.iload_n 1, 1) := by decide +kernel
theorem dX7_whose_2 : decode cX7_whose 2 = .ok (.bipush 96, 2) := by decide +kernel
theorem dX7_whose_4 : decode cX7_whose 4 = .ok (.iconst 1, 1) := by decide +kernel
theorem dX7_whose_5 : decode cX7_whose 5 = .ok (.invokevirtual 212, 3) := by decide +kernel
theorem dX7_whose_8 : decode cX7_whose 8 = .ok (.istore_n 2, 1) := by decide +kernel
theorem dX7_whose_9 : decode cX7_whose 9 = .ok (.iload_n 2, 1) := by decide +kernel
theorem dX7_whose_10 : decode cX7_whose 10 = .ok (.ifCond .ge 9, 3) := by decide +kernel
theorem dX7_whose_13 : decode cX7_whose 13 = .ok (.aload_n 0, 1) := by decide +kernel
theorem dX7_whose_14 : decode cX7_whose 14 = .ok (.iload_n 2, 1) := by decide +kernel
theorem dX7_whose_15 : decode cX7_whose 15 = .ok (.invokevirtual 45, 3) := by decide +kernel
theorem dX7_whose_18 : decode cX7_whose 18 = .ok (.ireturn, 1) := by decide +kernel
theorem dX7_whose_19 : decode cX7_whose 19 = .ok (.iconst (-1), 1) := by decide +kernel
theorem dX7_whose_20 : decode cX7_whose 20 = .ok (.istore_n 3, 1) := by decide +kernel
theorem dX7_whose_21 : decode cX7_whose 21 = .ok (.iconst 0, 1) := by decide +kernel
theorem dX7_whose_22 : decode cX7_whose 22 = .ok (.istore 4, 2) := by decide +kernel
theorem dX7_whose_24 : decode cX7_whose 24 = .ok (.iconst 0, 1) := by decide +kernel
theorem dX7_whose_25 : decode cX7_whose 25 = .ok (.istore 5, 2) := by decide +kernel
theorem dX7_whose_27 : decode cX7_whose 27 = .ok (.iload 5, 2) := by decide +kernel
theorem dX7_whose_29 : decode cX7_whose 29 = .ok (.bipush 6, 2) := by decide +kernel
theorem dX7_whose_31 : decode cX7_whose 31 = .ok (.if_icmp .ge 81, 3) := by decide +kernel
theorem dX7_whose_34 : decode cX7_whose 34 = .ok (.aload_n 0, 1) := by decide +kernel
theorem dX7_whose_35 : decode cX7_whose 35 = .ok (.iload 5, 2) := by decide +kernel
theorem dX7_whose_37 : decode cX7_whose 37 = .ok (.invokevirtual 131, 3) := by decide +kernel
theorem dX7_whose_40 : decode cX7_whose 40 = .ok (.ifCond .ne 6, 3) := by decide +kernel
theorem dX7_whose_43 : decode cX7_whose 43 = .ok (.goto 63, 3) := by decide +kernel
theorem dX7_whose_46 : decode cX7_whose 46 = .ok (.aload_n 0, 1) := by decide +kernel
theorem dX7_whose_47 : decode cX7_whose 47 = .ok (.getfield 9, 3) := by decide +kernel
theorem dX7_whose_50 : decode cX7_whose 50 = .ok (.bipush 6, 2) := by decide +kernel
theorem dX7_whose_52 : decode cX7_whose 52 = .ok (.iconst 3, 1) := by decide +kernel
theorem dX7_whose_53 : decode cX7_whose 53 = .ok (.iload 5, 2) := by decide +kernel
theorem dX7_whose_55 : decode cX7_whose 55 = .ok (.imul, 1) := by decide +kernel
theorem dX7_whose_56 : decode cX7_whose 56 = .ok (.iadd, 1) := by decide +kernel
theorem dX7_whose_57 : decode cX7_whose 57 = .ok (.iconst 2, 1) := by decide +kernel
theorem dX7_whose_58 : decode cX7_whose 58 = .ok (.iadd, 1) := by decide +kernel
theorem dX7_whose_59 : decode cX7_whose 59 = .ok (.iconst 0, 1) := by decide +kernel
theorem dX7_whose_60 : decode cX7_whose 60 = .ok (.iastore, 1) := by decide +kernel
theorem dX7_whose_61 : decode cX7_whose 61 = .ok (.aload_n 0, 1) := by decide +kernel
theorem dX7_whose_62 : decode cX7_whose 62 = .ok (.iload_n 1, 1) := by decide +kernel
theorem dX7_whose_63 : decode cX7_whose 63 = .ok (.bipush 96, 2) := by decide +kernel
theorem dX7_whose_65 : decode cX7_whose 65 = .ok (.invokevirtual 197, 3) := by decide +kernel
theorem dX7_whose_68 : decode cX7_whose 68 = .ok (.istore 6, 2) := by decide +kernel
theorem dX7_whose_70 : decode cX7_whose 70 = .ok (.aload_n 0, 1) := by decide +kernel
theorem dX7_whose_71 : decode cX7_whose 71 = .ok (.getfield 9, 3) := by decide +kernel
theorem dX7_whose_74 : decode cX7_whose 74 = .ok (.bipush 6, 2) := by decide +kernel
theorem dX7_whose_76 : decode cX7_whose 76 = .ok (.iconst 3, 1) := by decide +kernel
theorem dX7_whose_77 : decode cX7_whose 77 = .ok (.iload 5, 2) := by decide +kernel
theorem dX7_whose_79 : decode cX7_whose 79 = .ok (.imul, 1) := by decide +kernel
theorem dX7_whose_80 : decode cX7_whose 80 = .ok (.iadd, 1) := by decide +kernel
theorem dX7_whose_81 : decode cX7_whose 81 = .ok (.iconst 2, 1) := by decide +kernel
theorem dX7_whose_82 : decode cX7_whose 82 = .ok (.iadd, 1) := by decide +kernel
theorem dX7_whose_83 : decode cX7_whose 83 = .ok (.iconst 1, 1) := by decide +kernel
theorem dX7_whose_84 : decode cX7_whose 84 = .ok (.iastore, 1) := by decide +kernel
theorem dX7_whose_85 : decode cX7_whose 85 = .ok (.iload_n 3, 1) := by decide +kernel
theorem dX7_whose_86 : decode cX7_whose 86 = .ok (.ifCond .lt 13, 3) := by decide +kernel
theorem dX7_whose_89 : decode cX7_whose 89 = .ok (.iload 6, 2) := by decide +kernel
theorem dX7_whose_91 : decode cX7_whose 91 = .ok (.iload 4, 2) := by decide +kernel
theorem dX7_whose_93 : decode cX7_whose 93 = .ok (.if_icmp .gt 6, 3) := by decide +kernel
theorem dX7_whose_96 : decode cX7_whose 96 = .ok (.goto 10, 3) := by decide +kernel
theorem dX7_whose_99 : decode cX7_whose 99 = .ok (.iload 5, 2) := by decide +kernel
theorem dX7_whose_101 : decode cX7_whose 101 = .ok (.istore_n 3, 1) := by decide +kernel
theorem dX7_whose_102 : decode cX7_whose 102 = .ok (.iload 6, 2) := by decide +kernel
theorem dX7_whose_104 : decode cX7_whose 104 = .ok (.istore 4, 2) := by decide +kernel
theorem dX7_whose_106 : decode cX7_whose 106 = .ok (.iinc 5 1, 3) := by decide +kernel
theorem dX7_whose_109 : decode cX7_whose 109 = .ok (.goto (-82), 3) := by decide +kernel
theorem dX7_whose_112 : decode cX7_whose 112 = .ok (.aload_n 0, 1) := by decide +kernel
theorem dX7_whose_113 : decode cX7_whose 113 = .ok (.iload_n 3, 1) := by decide +kernel
theorem dX7_whose_114 : decode cX7_whose 114 = .ok (.invokevirtual 209, 3) := by decide +kernel
theorem dX7_whose_117 : decode cX7_whose 117 = .ok (.ireturn, 1) := by decide +kernel
set_option maxRecDepth 20000 in
theorem ggX7_grainsBehind_X7_row : GoodIn wsX7_grainsBehind wsX7_row := goodIn_r _ [6] (by decide +kernel) (by decide +kernel)
set_option maxRecDepth 20000 in
theorem gX7_grainsBehind_X7_row : GoodIn wsX7_grainsBehind (va_wsS RX7 187 yX7_row wsX7_row) := goodIn_app (goodIn_of _ (by decide +kernel)) ggX7_grainsBehind_X7_row
set_option maxRecDepth 20000 in
theorem ggX7_grainsBehind_X7_hour : GoodIn wsX7_grainsBehind wsX7_hour := goodIn_r _ [10, 1, 11, 12, 13, 14, 15, 5, 16, 17, 18, 19, 20, 21, 22, 23, 24, 25, 26, 27, 28, 29, 30, 31, 32, 33, 34, 35, 36, 37, 38, 39, 40, 41, 42, 43, 44, 45, 46, 47, 48, 49, 50, 51, 52, 53, 54, 55, 56, 57, 58, 59, 60, 61, 62, 63, 64, 65, 66, 67, 68, 69, 70, 71, 72, 73, 74, 75, 76, 77, 78, 79, 80, 81, 82, 83, 84, 85, 86, 87, 88, 89, 90, 91, 92, 93, 94, 95, 96, 97, 98, 99, 100, 101, 102, 103, 104, 105, 106, 107, 108, 109, 110, 111, 112, 113, 114, 115, 116, 117, 118, 119, 120, 121, 122, 123, 124] (by decide +kernel) (by decide +kernel)
set_option maxRecDepth 20000 in
theorem gX7_grainsBehind_X7_hour : GoodIn wsX7_grainsBehind (wsV RX7 177 RX7 yX7_hour wsX7_hour) := goodIn_app (goodIn_of _ (by decide +kernel)) ggX7_grainsBehind_X7_hour
set_option maxRecDepth 20000 in
theorem ggX7_grainsBehind_X7_grains : GoodIn wsX7_grainsBehind wsX7_grains := goodIn_r _ [39, 1, 107, 108, 109, 110, 111, 112, 113, 114, 115, 116, 117, 118, 119, 120, 121, 122, 123, 124] (by decide +kernel) (by decide +kernel)
set_option maxRecDepth 20000 in
theorem gX7_grainsBehind_X7_grains : GoodIn wsX7_grainsBehind (wsV RX7 111 RX7 yX7_grains wsX7_grains) := goodIn_app (goodIn_of _ (by decide +kernel)) ggX7_grainsBehind_X7_grains
theorem dX7_grainsBehind_0 : decode cX7_grainsBehind 0 = .ok (.aload_n 0, 1) := by decide +kernel
theorem dX7_grainsBehind_1 : decode cX7_grainsBehind 1 = .ok (.getfield 9, 3) := by decide +kernel
theorem dX7_grainsBehind_4 : decode cX7_grainsBehind 4 = .ok (.aload_n 0, 1) := by decide +kernel
theorem dX7_grainsBehind_5 : decode cX7_grainsBehind 5 = .ok (.getfield 16, 3) := by decide +kernel
theorem dX7_grainsBehind_8 : decode cX7_grainsBehind 8 = .ok (.invokestatic 187, 3) := by decide +kernel
theorem dX7_grainsBehind_11 : decode cX7_grainsBehind 11 = .ok (.iconst 0, 1) := by decide +kernel
theorem dX7_grainsBehind_12 : decode cX7_grainsBehind 12 = .ok (.istore_n 3, 1) := by decide +kernel
theorem dX7_grainsBehind_13 : decode cX7_grainsBehind 13 = .ok (.iload_n 3, 1) := by decide +kernel
theorem dX7_grainsBehind_14 : decode cX7_grainsBehind 14 = .ok (.iload_n 2, 1) := by decide +kernel
theorem dX7_grainsBehind_15 : decode cX7_grainsBehind 15 = .ok (.if_icmp .ge 13, 3) := by decide +kernel
theorem dX7_grainsBehind_18 : decode cX7_grainsBehind 18 = .ok (.aload_n 0, 1) := by decide +kernel
theorem dX7_grainsBehind_19 : decode cX7_grainsBehind 19 = .ok (.invokevirtual 177, 3) := by decide +kernel
theorem dX7_grainsBehind_22 : decode cX7_grainsBehind 22 = .ok (.iinc 3 1, 3) := by decide +kernel
theorem dX7_grainsBehind_25 : decode cX7_grainsBehind 25 = .ok (.goto (-12), 3) := by decide +kernel
theorem dX7_grainsBehind_28 : decode cX7_grainsBehind 28 = .ok (.aload_n 0, 1) := by decide +kernel
theorem dX7_grainsBehind_29 : decode cX7_grainsBehind 29 = .ok (.iload_n 1, 1) := by decide +kernel
theorem dX7_grainsBehind_30 : decode cX7_grainsBehind 30 = .ok (.invokevirtual 111, 3) := by decide +kernel
theorem dX7_grainsBehind_33 : decode cX7_grainsBehind 33 = .ok (.istore_n 3, 1) := by decide +kernel
theorem dX7_grainsBehind_34 : decode cX7_grainsBehind 34 = .ok (.aload_n 0, 1) := by decide +kernel
theorem dX7_grainsBehind_35 : decode cX7_grainsBehind 35 = .ok (.getfield 16, 3) := by decide +kernel
theorem dX7_grainsBehind_38 : decode cX7_grainsBehind 38 = .ok (.aload_n 0, 1) := by decide +kernel
theorem dX7_grainsBehind_39 : decode cX7_grainsBehind 39 = .ok (.getfield 9, 3) := by decide +kernel
theorem dX7_grainsBehind_42 : decode cX7_grainsBehind 42 = .ok (.invokestatic 187, 3) := by decide +kernel
theorem dX7_grainsBehind_45 : decode cX7_grainsBehind 45 = .ok (.iload_n 3, 1) := by decide +kernel
theorem dX7_grainsBehind_46 : decode cX7_grainsBehind 46 = .ok (.ireturn, 1) := by decide +kernel
set_option maxRecDepth 20000 in
theorem ggX7_drawing_X7_in : GoodIn wsX7_drawing wsX7_in := goodIn_r _ [8] (by decide +kernel) (by decide +kernel)
set_option maxRecDepth 20000 in
theorem gX7_drawing_X7_in : GoodIn wsX7_drawing (va_wsS RX7 51 yX7_in wsX7_in) := goodIn_app (goodIn_of _ (by decide +kernel)) ggX7_drawing_X7_in
set_option maxRecDepth 20000 in
theorem ggX7_drawing_X7_wrongFor : GoodIn wsX7_drawing wsX7_wrongFor := goodIn_r _ [12, 13, 14, 15, 16, 17, 7, 18, 3, 5, 6, 8, 19, 20, 21, 22, 23, 24, 25, 26, 27, 28, 29, 30, 136, 137, 138, 139, 140, 141, 142, 143, 144, 145, 146, 147, 148, 149, 150, 151, 152, 153] (by decide +kernel) (by decide +kernel)
set_option maxRecDepth 20000 in
theorem gX7_drawing_X7_wrongFor : GoodIn wsX7_drawing (wsV RX7 212 RX7 yX7_wrongFor wsX7_wrongFor) := goodIn_app (goodIn_of _ (by decide +kernel)) ggX7_drawing_X7_wrongFor
set_option maxRecDepth 20000 in
theorem ggX7_drawing_X7_finds : GoodIn wsX7_drawing wsX7_finds := goodIn_r _ [34, 35, 13, 136, 137, 138, 139, 140, 141, 142, 143, 144, 145, 146, 147, 148, 149, 150, 151, 152, 153] (by decide +kernel) (by decide +kernel)
set_option maxRecDepth 20000 in
theorem gX7_drawing_X7_finds : GoodIn wsX7_drawing (wsV RX7 45 RX7 yX7_finds wsX7_finds) := goodIn_app (goodIn_of _ (by decide +kernel)) ggX7_drawing_X7_finds
set_option maxRecDepth 20000 in
theorem ggX7_drawing_X7_grainsBehind : GoodIn wsX7_drawing wsX7_grainsBehind := goodIn_r _ [39, 3, 40, 41, 42, 7, 43, 44, 45, 46, 47, 48, 49, 19, 20, 21, 22, 23, 24, 25, 26, 50, 51, 52, 53, 54, 55, 56, 57, 58, 59, 60, 61, 62, 63, 64, 65, 66, 67, 68, 69, 70, 71, 72, 73, 74, 75, 76, 77, 78, 79, 80, 81, 82, 83, 84, 85, 86, 87, 88, 89, 90, 91, 92, 93, 94, 95, 96, 97, 98, 99, 100, 101, 102, 103, 104, 105, 106, 107, 108, 109, 110, 111, 112, 113, 114, 115, 116, 117, 118, 119, 120, 121, 122, 123, 124, 125, 126, 127, 128, 129, 130, 131, 132, 133, 134, 135, 136, 137, 138, 139, 140, 141, 142, 143, 144, 145, 146, 147, 148, 149, 150, 151, 152, 153] (by decide +kernel) (by decide +kernel)
set_option maxRecDepth 20000 in
theorem gX7_drawing_X7_grainsBehind : GoodIn wsX7_drawing (wsV RX7 223 RX7 yX7_grainsBehind wsX7_grainsBehind) := goodIn_app (goodIn_of _ (by decide +kernel)) ggX7_drawing_X7_grainsBehind
theorem dX7_drawing_0 : decode cX7_drawing 0 = .ok (.aload_n 0, 1) := by decide +kernel
theorem dX7_drawing_1 : decode cX7_drawing 1 = .ok (.iload_n 1, 1) := by decide +kernel
theorem dX7_drawing_2 : decode cX7_drawing 2 = .ok (.iload_n 2, 1) := by decide +kernel
theorem dX7_drawing_3 : decode cX7_drawing 3 = .ok (.iload_n 2, 1) := by decide +kernel
theorem dX7_drawing_4 : decode cX7_drawing 4 = .ok (.i2l, 1) := by decide +kernel
theorem dX7_drawing_5 : decode cX7_drawing 5 = .ok (.lconst 1, 1) := by decide +kernel
theorem dX7_drawing_6 : decode cX7_drawing 6 = .ok (.ldc2_w 221, 3) := by decide +kernel
theorem dX7_drawing_9 : decode cX7_drawing 9 = .ok (.invokestatic 51, 3) := by decide +kernel
theorem dX7_drawing_12 : decode cX7_drawing 12 = .ok (.ifCond .eq 19, 3) := by decide +kernel
theorem dX7_drawing_15 : decode cX7_drawing 15 = .ok (.iload_n 3, 1) := by decide +kernel
theorem dX7_drawing_16 : decode cX7_drawing 16 = .ok (.i2l, 1) := by decide +kernel
theorem dX7_drawing_17 : decode cX7_drawing 17 = .ok (.lconst 0, 1) := by decide +kernel
theorem dX7_drawing_18 : decode cX7_drawing 18 = .ok (.ldc2_w 59, 3) := by decide +kernel
theorem dX7_drawing_21 : decode cX7_drawing 21 = .ok (.invokestatic 51, 3) := by decide +kernel
theorem dX7_drawing_24 : decode cX7_drawing 24 = .ok (.ifCond .eq 7, 3) := by decide +kernel
theorem dX7_drawing_27 : decode cX7_drawing 27 = .ok (.iconst 1, 1) := by decide +kernel
theorem dX7_drawing_28 : decode cX7_drawing 28 = .ok (.goto 4, 3) := by decide +kernel
theorem dX7_drawing_31 : decode cX7_drawing 31 = .ok (.iconst 0, 1) := by decide +kernel
theorem dX7_drawing_32 : decode cX7_drawing 32 = .ok (.invokevirtual 212, 3) := by decide +kernel
theorem dX7_drawing_35 : decode cX7_drawing 35 = .ok (.istore 4, 2) := by decide +kernel
theorem dX7_drawing_37 : decode cX7_drawing 37 = .ok (.iload 4, 2) := by decide +kernel
theorem dX7_drawing_39 : decode cX7_drawing 39 = .ok (.ifCond .ge 10, 3) := by decide +kernel
theorem dX7_drawing_42 : decode cX7_drawing 42 = .ok (.aload_n 0, 1) := by decide +kernel
theorem dX7_drawing_43 : decode cX7_drawing 43 = .ok (.iload 4, 2) := by decide +kernel
theorem dX7_drawing_45 : decode cX7_drawing 45 = .ok (.invokevirtual 45, 3) := by decide +kernel
theorem dX7_drawing_48 : decode cX7_drawing 48 = .ok (.ireturn, 1) := by decide +kernel
theorem dX7_drawing_49 : decode cX7_drawing 49 = .ok (.aload_n 0, 1) := by decide +kernel
theorem dX7_drawing_50 : decode cX7_drawing 50 = .ok (.getfield 9, 3) := by decide +kernel
theorem dX7_drawing_53 : decode cX7_drawing 53 = .ok (.iconst 1, 1) := by decide +kernel
theorem dX7_drawing_54 : decode cX7_drawing 54 = .ok (.iaload, 1) := by decide +kernel
theorem dX7_drawing_55 : decode cX7_drawing 55 = .ok (.istore 5, 2) := by decide +kernel
theorem dX7_drawing_57 : decode cX7_drawing 57 = .ok (.iconst 0, 1) := by decide +kernel
theorem dX7_drawing_58 : decode cX7_drawing 58 = .ok (.istore 6, 2) := by decide +kernel
theorem dX7_drawing_60 : decode cX7_drawing 60 = .ok (.iconst 0, 1) := by decide +kernel
theorem dX7_drawing_61 : decode cX7_drawing 61 = .ok (.istore 7, 2) := by decide +kernel
theorem dX7_drawing_63 : decode cX7_drawing 63 = .ok (.bipush 20, 2) := by decide +kernel
theorem dX7_drawing_65 : decode cX7_drawing 65 = .ok (.istore 8, 2) := by decide +kernel
theorem dX7_drawing_67 : decode cX7_drawing 67 = .ok (.iload 8, 2) := by decide +kernel
theorem dX7_drawing_69 : decode cX7_drawing 69 = .ok (.bipush (-20), 2) := by decide +kernel
theorem dX7_drawing_71 : decode cX7_drawing 71 = .ok (.if_icmp .lt 37, 3) := by decide +kernel
theorem dX7_drawing_74 : decode cX7_drawing 74 = .ok (.aload_n 0, 1) := by decide +kernel
theorem dX7_drawing_75 : decode cX7_drawing 75 = .ok (.getfield 9, 3) := by decide +kernel
theorem dX7_drawing_78 : decode cX7_drawing 78 = .ok (.iconst 1, 1) := by decide +kernel
theorem dX7_drawing_79 : decode cX7_drawing 79 = .ok (.iload 8, 2) := by decide +kernel
theorem dX7_drawing_81 : decode cX7_drawing 81 = .ok (.iastore, 1) := by decide +kernel
theorem dX7_drawing_82 : decode cX7_drawing 82 = .ok (.aload_n 0, 1) := by decide +kernel
theorem dX7_drawing_83 : decode cX7_drawing 83 = .ok (.iload_n 1, 1) := by decide +kernel
theorem dX7_drawing_84 : decode cX7_drawing 84 = .ok (.iload_n 2, 1) := by decide +kernel
theorem dX7_drawing_85 : decode cX7_drawing 85 = .ok (.invokevirtual 223, 3) := by decide +kernel
theorem dX7_drawing_88 : decode cX7_drawing 88 = .ok (.iload_n 3, 1) := by decide +kernel
theorem dX7_drawing_89 : decode cX7_drawing 89 = .ok (.if_icmp .eq 6, 3) := by decide +kernel
theorem dX7_drawing_92 : decode cX7_drawing 92 = .ok (.goto 10, 3) := by decide +kernel
theorem dX7_drawing_95 : decode cX7_drawing 95 = .ok (.iinc 6 1, 3) := by decide +kernel
theorem dX7_drawing_98 : decode cX7_drawing 98 = .ok (.iload 8, 2) := by decide +kernel
theorem dX7_drawing_100 : decode cX7_drawing 100 = .ok (.istore 7, 2) := by decide +kernel
theorem dX7_drawing_102 : decode cX7_drawing 102 = .ok (.iinc 8 (-1), 3) := by decide +kernel
theorem dX7_drawing_105 : decode cX7_drawing 105 = .ok (.goto (-38), 3) := by decide +kernel
theorem dX7_drawing_108 : decode cX7_drawing 108 = .ok (.aload_n 0, 1) := by decide +kernel
theorem dX7_drawing_109 : decode cX7_drawing 109 = .ok (.getfield 9, 3) := by decide +kernel
theorem dX7_drawing_112 : decode cX7_drawing 112 = .ok (.iconst 1, 1) := by decide +kernel
theorem dX7_drawing_113 : decode cX7_drawing 113 = .ok (.iload 5, 2) := by decide +kernel
theorem dX7_drawing_115 : decode cX7_drawing 115 = .ok (.iastore, 1) := by decide +kernel
theorem dX7_drawing_116 : decode cX7_drawing 116 = .ok (.iload 6, 2) := by decide +kernel
theorem dX7_drawing_118 : decode cX7_drawing 118 = .ok (.ifCond .ne 12, 3) := by decide +kernel
theorem dX7_drawing_121 : decode cX7_drawing 121 = .ok (.aload_n 0, 1) := by decide +kernel
theorem dX7_drawing_122 : decode cX7_drawing 122 = .ok (.ldc 44, 2) := by decide +kernel
theorem dX7_drawing_124 : decode cX7_drawing 124 = .ok (.invokevirtual 45, 3) := by decide +kernel
theorem dX7_drawing_127 : decode cX7_drawing 127 = .ok (.goto 14, 3) := by decide +kernel
theorem dX7_drawing_130 : decode cX7_drawing 130 = .ok (.bipush 100, 2) := by decide +kernel
theorem dX7_drawing_132 : decode cX7_drawing 132 = .ok (.iload 6, 2) := by decide +kernel
theorem dX7_drawing_134 : decode cX7_drawing 134 = .ok (.imul, 1) := by decide +kernel
theorem dX7_drawing_135 : decode cX7_drawing 135 = .ok (.bipush 20, 2) := by decide +kernel
theorem dX7_drawing_137 : decode cX7_drawing 137 = .ok (.iadd, 1) := by decide +kernel
theorem dX7_drawing_138 : decode cX7_drawing 138 = .ok (.iload 7, 2) := by decide +kernel
theorem dX7_drawing_140 : decode cX7_drawing 140 = .ok (.iadd, 1) := by decide +kernel
theorem dX7_drawing_141 : decode cX7_drawing 141 = .ok (.ireturn, 1) := by decide +kernel
set_option maxRecDepth 20000 in
theorem ggX7_there_X7_goneNow : GoodIn wsX7_there wsX7_goneNow := goodIn_r _ [6, 1, 7, 8, 9, 5, 10, 11, 12, 13, 14, 15, 16, 17, 18, 19, 20, 21, 22, 23, 24, 25, 26, 27, 28, 29, 30, 31, 32] (by decide +kernel) (by decide +kernel)
set_option maxRecDepth 20000 in
theorem gX7_there_X7_goneNow : GoodIn wsX7_there (wsV RX7 174 RX7 yX7_goneNow wsX7_goneNow) := goodIn_app (goodIn_of _ (by decide +kernel)) ggX7_there_X7_goneNow
theorem dX7_there_0 : decode cX7_there 0 = .ok (.aload_n 0, 1) := by decide +kernel
theorem dX7_there_1 : decode cX7_there 1 = .ok (.invokevirtual 174, 3) := by decide +kernel
theorem dX7_there_4 : decode cX7_there 4 = .ok (.iconst (-1), 1) := by decide +kernel
theorem dX7_there_5 : decode cX7_there 5 = .ok (.ixor, 1) := by decide +kernel
