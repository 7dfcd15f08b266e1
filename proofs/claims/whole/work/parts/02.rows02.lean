theorem dX6_wind_1 : decode cX6_wind 1 = .ok (.iconst 1, 1) := by decide +kernel
theorem dX6_wind_2 : decode cX6_wind 2 = .ok (.bipush 20, 2) := by decide +kernel
theorem dX6_wind_4 : decode cX6_wind 4 = .ok (.invokestatic 52, 3) := by decide +kernel
theorem dX6_wind_7 : decode cX6_wind 7 = .ok (.ifCond .ne 10, 3) := by decide +kernel
theorem dX6_wind_10 : decode cX6_wind 10 = .ok (.aload_n 0, 1) := by decide +kernel
theorem dX6_wind_11 : decode cX6_wind 11 = .ok (.ldc 56, 2) := by decide +kernel
theorem dX6_wind_13 : decode cX6_wind 13 = .ok (.invokevirtual 57, 3) := by decide +kernel
theorem dX6_wind_16 : decode cX6_wind 16 = .ok (.ireturn, 1) := by decide +kernel
theorem dX6_wind_17 : decode cX6_wind 17 = .ok (.iconst 0, 1) := by decide +kernel
theorem dX6_wind_18 : decode cX6_wind 18 = .ok (.istore_n 2, 1) := by decide +kernel
theorem dX6_wind_19 : decode cX6_wind 19 = .ok (.iload_n 2, 1) := by decide +kernel
theorem dX6_wind_20 : decode cX6_wind 20 = .ok (.iload_n 1, 1) := by decide +kernel
theorem dX6_wind_21 : decode cX6_wind 21 = .ok (.if_icmp .ge 50, 3) := by decide +kernel
theorem dX6_wind_24 : decode cX6_wind 24 = .ok (.aload_n 0, 1) := by decide +kernel
theorem dX6_wind_25 : decode cX6_wind 25 = .ok (.getfield 12, 3) := by decide +kernel
theorem dX6_wind_28 : decode cX6_wind 28 = .ok (.invokevirtual 211, 3) := by decide +kernel
theorem dX6_wind_31 : decode cX6_wind 31 = .ok (.bipush 6, 2) := by decide +kernel
theorem dX6_wind_33 : decode cX6_wind 33 = .ok (.irem, 1) := by decide +kernel
theorem dX6_wind_34 : decode cX6_wind 34 = .ok (.istore_n 3, 1) := by decide +kernel
theorem dX6_wind_35 : decode cX6_wind 35 = .ok (.aload_n 0, 1) := by decide +kernel
theorem dX6_wind_36 : decode cX6_wind 36 = .ok (.getfield 12, 3) := by decide +kernel
theorem dX6_wind_39 : decode cX6_wind 39 = .ok (.getfield 113, 3) := by decide +kernel
theorem dX6_wind_42 : decode cX6_wind 42 = .ok (.iload_n 3, 1) := by decide +kernel
theorem dX6_wind_43 : decode cX6_wind 43 = .ok (.aload_n 0, 1) := by decide +kernel
theorem dX6_wind_44 : decode cX6_wind 44 = .ok (.getfield 12, 3) := by decide +kernel
theorem dX6_wind_47 : decode cX6_wind 47 = .ok (.getfield 113, 3) := by decide +kernel
theorem dX6_wind_50 : decode cX6_wind 50 = .ok (.iload_n 3, 1) := by decide +kernel
theorem dX6_wind_51 : decode cX6_wind 51 = .ok (.invokevirtual 132, 3) := by decide +kernel
theorem dX6_wind_54 : decode cX6_wind 54 = .ok (.ifCond .ne 7, 3) := by decide +kernel
theorem dX6_wind_57 : decode cX6_wind 57 = .ok (.iconst 1, 1) := by decide +kernel
theorem dX6_wind_58 : decode cX6_wind 58 = .ok (.goto 4, 3) := by decide +kernel
theorem dX6_wind_61 : decode cX6_wind 61 = .ok (.iconst 0, 1) := by decide +kernel
theorem dX6_wind_62 : decode cX6_wind 62 = .ok (.invokevirtual 135, 3) := by decide +kernel
theorem dX6_wind_65 : decode cX6_wind 65 = .ok (.iinc 2 1, 3) := by decide +kernel
theorem dX6_wind_68 : decode cX6_wind 68 = .ok (.goto (-49), 3) := by decide +kernel
theorem dX6_wind_71 : decode cX6_wind 71 = .ok (.aload_n 0, 1) := by decide +kernel
theorem dX6_wind_72 : decode cX6_wind 72 = .ok (.getfield 12, 3) := by decide +kernel
theorem dX6_wind_75 : decode cX6_wind 75 = .ok (.getfield 113, 3) := by decide +kernel
theorem dX6_wind_78 : decode cX6_wind 78 = .ok (.aload_n 0, 1) := by decide +kernel
theorem dX6_wind_79 : decode cX6_wind 79 = .ok (.getfield 12, 3) := by decide +kernel
theorem dX6_wind_82 : decode cX6_wind 82 = .ok (.getfield 113, 3) := by decide +kernel
theorem dX6_wind_85 : decode cX6_wind 85 = .ok (.getfield 143, 3) := by decide +kernel
theorem dX6_wind_88 : decode cX6_wind 88 = .ok (.invokevirtual 146, 3) := by decide +kernel
theorem dX6_wind_91 : decode cX6_wind 91 = .ok (.ireturn, 1) := by decide +kernel
theorem dX6_seed_0 : decode cX6_seed 0 = .ok (.aload_n 0, 1) := by decide +kernel
theorem dX6_seed_1 : decode cX6_seed 1 = .ok (.getfield 12, 3) := by decide +kernel
theorem dX6_seed_4 : decode cX6_seed 4 = .ok (.getfield 214, 3) := by decide +kernel
theorem dX6_seed_7 : decode cX6_seed 7 = .ok (.istore_n 2, 1) := by decide +kernel
theorem dX6_seed_8 : decode cX6_seed 8 = .ok (.aload_n 0, 1) := by decide +kernel
theorem dX6_seed_9 : decode cX6_seed 9 = .ok (.getfield 12, 3) := by decide +kernel
theorem dX6_seed_12 : decode cX6_seed 12 = .ok (.iload_n 1, 1) := by decide +kernel
theorem dX6_seed_13 : decode cX6_seed 13 = .ok (.putfield 214, 3) := by decide +kernel
theorem dX6_seed_16 : decode cX6_seed 16 = .ok (.iload_n 2, 1) := by decide +kernel
theorem dX6_seed_17 : decode cX6_seed 17 = .ok (.ireturn, 1) := by decide +kernel
set_option maxRecDepth 20000 in
theorem ggX6_feed_X6_isWithin : GoodIn wsX6_feed wsX6_isWithin := goodIn_r _ [8] (by decide +kernel) (by decide +kernel)
set_option maxRecDepth 20000 in
theorem gX6_feed_X6_isWithin : GoodIn wsX6_feed (va_wsS RX6 52 yX6_isWithin wsX6_isWithin) := goodIn_app (goodIn_of _ (by decide +kernel)) ggX6_feed_X6_isWithin
set_option maxRecDepth 20000 in
theorem ggX6_feed_X6_tell : GoodIn wsX6_feed wsX6_tell := goodIn_r _ [12, 1, 13, 5, 6, 7, 8, 21, 22, 23, 24, 25, 26, 27, 28] (by decide +kernel) (by decide +kernel)
set_option maxRecDepth 20000 in
theorem gX6_feed_X6_tell : GoodIn wsX6_feed (wsV RX6 57 RX6 yX6_tell wsX6_tell) := goodIn_app (goodIn_of _ (by decide +kernel)) ggX6_feed_X6_tell
set_option maxRecDepth 20000 in
theorem ggX6_feed_X3_append : GoodIn wsX6_feed wsX3_append := goodIn_r _ [18, 19, 20, 29, 30] (by decide +kernel) (by decide +kernel)
set_option maxRecDepth 20000 in
theorem gX6_feed_X3_append : GoodIn wsX6_feed (wsV RX6 222 RX3 yX3_append wsX3_append) := goodIn_app (goodIn_of _ (by decide +kernel)) ggX6_feed_X3_append
theorem dX6_feed_0 : decode cX6_feed 0 = .ok (.iload_n 2, 1) := by decide +kernel
theorem dX6_feed_1 : decode cX6_feed 1 = .ok (.iconst 1, 1) := by decide +kernel
theorem dX6_feed_2 : decode cX6_feed 2 = .ok (.iconst 4, 1) := by decide +kernel
theorem dX6_feed_3 : decode cX6_feed 3 = .ok (.invokestatic 52, 3) := by decide +kernel
theorem dX6_feed_6 : decode cX6_feed 6 = .ok (.ifCond .ne 10, 3) := by decide +kernel
theorem dX6_feed_9 : decode cX6_feed 9 = .ok (.aload_n 0, 1) := by decide +kernel
theorem dX6_feed_10 : decode cX6_feed 10 = .ok (.ldc 56, 2) := by decide +kernel
theorem dX6_feed_12 : decode cX6_feed 12 = .ok (.invokevirtual 57, 3) := by decide +kernel
theorem dX6_feed_15 : decode cX6_feed 15 = .ok (.ireturn, 1) := by decide +kernel
theorem dX6_feed_16 : decode cX6_feed 16 = .ok (.aload_n 0, 1) := by decide +kernel
theorem dX6_feed_17 : decode cX6_feed 17 = .ok (.getfield 33, 3) := by decide +kernel
theorem dX6_feed_20 : decode cX6_feed 20 = .ok (.getfield 217, 3) := by decide +kernel
theorem dX6_feed_23 : decode cX6_feed 23 = .ok (.iload_n 2, 1) := by decide +kernel
theorem dX6_feed_24 : decode cX6_feed 24 = .ok (.iadd, 1) := by decide +kernel
theorem dX6_feed_25 : decode cX6_feed 25 = .ok (.bipush 120, 2) := by decide +kernel
theorem dX6_feed_27 : decode cX6_feed 27 = .ok (.if_icmp .le 10, 3) := by decide +kernel
theorem dX6_feed_30 : decode cX6_feed 30 = .ok (.aload_n 0, 1) := by decide +kernel
theorem dX6_feed_31 : decode cX6_feed 31 = .ok (.ldc 71, 2) := by decide +kernel
theorem dX6_feed_33 : decode cX6_feed 33 = .ok (.invokevirtual 57, 3) := by decide +kernel
theorem dX6_feed_36 : decode cX6_feed 36 = .ok (.ireturn, 1) := by decide +kernel
theorem dX6_feed_37 : decode cX6_feed 37 = .ok (.iload_n 2, 1) := by decide +kernel
theorem dX6_feed_38 : decode cX6_feed 38 = .ok (.iconst 1, 1) := by decide +kernel
theorem dX6_feed_39 : decode cX6_feed 39 = .ok (.isub, 1) := by decide +kernel
theorem dX6_feed_40 : decode cX6_feed 40 = .ok (.istore_n 3, 1) := by decide +kernel
theorem dX6_feed_41 : decode cX6_feed 41 = .ok (.iload_n 3, 1) := by decide +kernel
theorem dX6_feed_42 : decode cX6_feed 42 = .ok (.ifCond .lt 26, 3) := by decide +kernel
theorem dX6_feed_45 : decode cX6_feed 45 = .ok (.aload_n 0, 1) := by decide +kernel
theorem dX6_feed_46 : decode cX6_feed 46 = .ok (.getfield 33, 3) := by decide +kernel
theorem dX6_feed_49 : decode cX6_feed 49 = .ok (.iload_n 1, 1) := by decide +kernel
theorem dX6_feed_50 : decode cX6_feed 50 = .ok (.bipush 8, 2) := by decide +kernel
theorem dX6_feed_52 : decode cX6_feed 52 = .ok (.iload_n 3, 1) := by decide +kernel
theorem dX6_feed_53 : decode cX6_feed 53 = .ok (.imul, 1) := by decide +kernel
theorem dX6_feed_54 : decode cX6_feed 54 = .ok (.iushr, 1) := by decide +kernel
theorem dX6_feed_55 : decode cX6_feed 55 = .ok (.sipush 255, 3) := by decide +kernel
theorem dX6_feed_58 : decode cX6_feed 58 = .ok (.iand, 1) := by decide +kernel
theorem dX6_feed_59 : decode cX6_feed 59 = .ok (.invokevirtual 222, 3) := by decide +kernel
theorem dX6_feed_62 : decode cX6_feed 62 = .ok (.iinc 3 (-1), 3) := by decide +kernel
theorem dX6_feed_65 : decode cX6_feed 65 = .ok (.goto (-24), 3) := by decide +kernel
theorem dX6_feed_68 : decode cX6_feed 68 = .ok (.aload_n 0, 1) := by decide +kernel
theorem dX6_feed_69 : decode cX6_feed 69 = .ok (.getfield 33, 3) := by decide +kernel
theorem dX6_feed_72 : decode cX6_feed 72 = .ok (.getfield 217, 3) := by decide +kernel
theorem dX6_feed_75 : decode cX6_feed 75 = .ok (.ireturn, 1) := by decide +kernel
theorem dX6_wipe_0 : decode cX6_wipe 0 = .ok (.aload_n 0, 1) := by decide +kernel
theorem dX6_wipe_1 : decode cX6_wipe 1 = .ok (.getfield 33, 3) := by decide +kernel
theorem dX6_wipe_4 : decode cX6_wipe 4 = .ok (.getfield 217, 3) := by decide +kernel
theorem dX6_wipe_7 : decode cX6_wipe 7 = .ok (.istore_n 1, 1) := by decide +kernel
theorem dX6_wipe_8 : decode cX6_wipe 8 = .ok (.aload_n 0, 1) := by decide +kernel
theorem dX6_wipe_9 : decode cX6_wipe 9 = .ok (.getfield 33, 3) := by decide +kernel
theorem dX6_wipe_12 : decode cX6_wipe 12 = .ok (.iconst 0, 1) := by decide +kernel
theorem dX6_wipe_13 : decode cX6_wipe 13 = .ok (.putfield 217, 3) := by decide +kernel
theorem dX6_wipe_16 : decode cX6_wipe 16 = .ok (.iload_n 1, 1) := by decide +kernel
theorem dX6_wipe_17 : decode cX6_wipe 17 = .ok (.ireturn, 1) := by decide +kernel
set_option maxRecDepth 20000 in
theorem ggX6_text_X6_freshTrial : GoodIn wsX6_text wsX6_freshTrial := goodIn_r _ [10, 5, 4, 11, 12, 13, 14, 15, 16, 17, 18, 19, 20, 21, 22, 23, 24, 25, 26, 27, 28, 29, 30, 31, 32, 33, 34, 35, 36, 37, 38, 39, 40, 41, 42, 43, 44, 45, 46, 47, 188, 189, 190, 191, 192, 193, 194, 195, 198, 199, 200, 201, 202, 203, 204, 205, 206, 207, 208, 209, 210, 211, 212, 213, 214, 215] (by decide +kernel) (by decide +kernel)
set_option maxRecDepth 20000 in
theorem gX6_text_X6_freshTrial : GoodIn wsX6_text (wsV RX6 165 RX6 yX6_freshTrial wsX6_freshTrial) := goodIn_app (goodIn_of _ (by decide +kernel)) ggX6_text_X6_freshTrial
set_option maxRecDepth 20000 in
theorem ggX6_text_X4_readInto : GoodIn wsX6_text wsX4_readInto := goodIn_r _ [52, 53, 54, 55, 56, 57, 58, 51, 59, 60, 61, 62, 63, 64, 65, 66, 67, 68, 69, 70, 71, 72, 73, 74, 75, 76, 77, 78, 79, 80, 81, 82, 83, 84, 85, 86, 87, 88, 89, 90, 91, 92, 93, 94, 95, 96, 97, 98, 99, 100, 101, 102, 103, 104, 105, 106, 107, 108, 109, 110, 111, 112, 113, 114, 115, 116, 117, 118, 119, 120, 121, 122, 123, 124, 125, 126, 127, 128, 129, 130, 131, 132, 133, 134, 135, 136, 137, 138, 139, 140, 141, 142, 143, 144, 145, 146, 147, 148, 149, 150, 151, 152, 153, 30, 154, 32, 155, 156, 157, 158, 159, 9, 160, 161, 162, 163, 164, 37, 165, 166, 167, 168, 169, 170, 171, 33, 35, 36, 172, 173, 174, 175, 176, 177, 178, 179, 180, 181, 41, 182, 46, 183, 184, 185, 186, 187, 216, 217, 218, 219, 220, 196, 197, 198, 199, 200, 201, 202, 203, 204, 205, 206, 207, 208, 209, 210, 211, 212, 213, 214, 215] (by decide +kernel) (by decide +kernel)
set_option maxRecDepth 20000 in
theorem gX6_text_X4_readInto : GoodIn wsX6_text (wsV RX6 226 RX4 yX4_readInto wsX4_readInto) := goodIn_app (goodIn_of _ (by decide +kernel)) ggX6_text_X4_readInto
set_option maxRecDepth 20000 in
theorem ggX6_text_X1_copyFrom : GoodIn wsX6_text wsX1_copyFrom := goodIn_r _ [15, 16, 17, 18, 19, 20, 21, 22, 23, 24, 25, 26, 27, 28, 29, 30, 31, 32, 33, 34, 35, 36, 37, 38, 39, 40, 41, 42, 43, 44, 45, 46, 47, 198, 199, 200, 201, 202, 203, 204, 205, 206, 207, 208, 209, 210, 211, 212, 213, 214, 215] (by decide +kernel) (by decide +kernel)
set_option maxRecDepth 20000 in
theorem gX6_text_X1_copyFrom : GoodIn wsX6_text (wsV RX6 230 RX1 yX1_copyFrom wsX1_copyFrom) := goodIn_app (goodIn_of _ (by decide +kernel)) ggX6_text_X1_copyFrom
theorem dX6_text_0 : decode cX6_text 0 = .ok (.aload_n 0, 1) := by decide +kernel
theorem dX6_text_1 : decode cX6_text 1 = .ok (.getfield 25, 3) := by decide +kernel
theorem dX6_text_4 : decode cX6_text 4 = .ok (.aload_n 0, 1) := by decide +kernel
theorem dX6_text_5 : decode cX6_text 5 = .ok (.invokevirtual 165, 3) := by decide +kernel
theorem dX6_text_8 : decode cX6_text 8 = .ok (.invokevirtual 226, 3) := by decide +kernel
theorem dX6_text_11 : decode cX6_text 11 = .ok (.istore_n 1, 1) := by decide +kernel
theorem dX6_text_12 : decode cX6_text 12 = .ok (.aload_n 0, 1) := by decide +kernel
theorem dX6_text_13 : decode cX6_text 13 = .ok (.getfield 33, 3) := by decide +kernel
theorem dX6_text_16 : decode cX6_text 16 = .ok (.iconst 0, 1) := by decide +kernel
theorem dX6_text_17 : decode cX6_text 17 = .ok (.putfield 217, 3) := by decide +kernel
theorem dX6_text_20 : decode cX6_text 20 = .ok (.iload_n 1, 1) := by decide +kernel
theorem dX6_text_21 : decode cX6_text 21 = .ok (.ifCond .lt 14, 3) := by decide +kernel
theorem dX6_text_24 : decode cX6_text 24 = .ok (.aload_n 0, 1) := by decide +kernel
theorem dX6_text_25 : decode cX6_text 25 = .ok (.getfield 12, 3) := by decide +kernel
theorem dX6_text_28 : decode cX6_text 28 = .ok (.aload_n 0, 1) := by decide +kernel
theorem dX6_text_29 : decode cX6_text 29 = .ok (.getfield 19, 3) := by decide +kernel
theorem dX6_text_32 : decode cX6_text 32 = .ok (.invokevirtual 230, 3) := by decide +kernel
theorem dX6_text_35 : decode cX6_text 35 = .ok (.iload_n 1, 1) := by decide +kernel
theorem dX6_text_36 : decode cX6_text 36 = .ok (.ireturn, 1) := by decide +kernel
set_option maxRecDepth 20000 in
theorem ggX6_hold_X6_isSpot : GoodIn wsX6_hold wsX6_isSpot := goodIn_r _ [8, 9, 10, 7, 11] (by decide +kernel) (by decide +kernel)
set_option maxRecDepth 20000 in
theorem gX6_hold_X6_isSpot : GoodIn wsX6_hold (va_wsS RX6 234 yX6_isSpot wsX6_isSpot) := goodIn_app (goodIn_of _ (by decide +kernel)) ggX6_hold_X6_isSpot
set_option maxRecDepth 20000 in
theorem ggX6_hold_X5_isBlock : GoodIn wsX6_hold wsX5_isBlock := goodIn_r _ [16, 17, 40, 41, 42, 43, 44] (by decide +kernel) (by decide +kernel)
set_option maxRecDepth 20000 in
theorem gX6_hold_X5_isBlock : GoodIn wsX6_hold (wsV RX6 80 RX5 yX5_isBlock wsX5_isBlock) := goodIn_app (goodIn_of _ (by decide +kernel)) ggX6_hold_X5_isBlock
set_option maxRecDepth 20000 in
theorem ggX6_hold_X6_tell : GoodIn wsX6_hold wsX6_tell := goodIn_r _ [21, 3, 22, 9, 10, 7, 11, 23, 24, 25, 26, 27, 28, 29, 30] (by decide +kernel) (by decide +kernel)
set_option maxRecDepth 20000 in
theorem gX6_hold_X6_tell : GoodIn wsX6_hold (wsV RX6 57 RX6 yX6_tell wsX6_tell) := goodIn_app (goodIn_of _ (by decide +kernel)) ggX6_hold_X6_tell
theorem dX6_hold_0 : decode cX6_hold 0 = .ok (.iload_n 1, 1) := by decide +kernel
theorem dX6_hold_1 : decode cX6_hold 1 = .ok (.invokestatic 234, 3) := by decide +kernel
theorem dX6_hold_4 : decode cX6_hold 4 = .ok (.ifCond .eq 22, 3) := by decide +kernel
theorem dX6_hold_7 : decode cX6_hold 7 = .ok (.iload_n 2, 1) := by decide +kernel
theorem dX6_hold_8 : decode cX6_hold 8 = .ok (.iconst (-1), 1) := by decide +kernel
theorem dX6_hold_9 : decode cX6_hold 9 = .ok (.if_icmp .eq 24, 3) := by decide +kernel
theorem dX6_hold_12 : decode cX6_hold 12 = .ok (.aload_n 0, 1) := by decide +kernel
theorem dX6_hold_13 : decode cX6_hold 13 = .ok (.getfield 12, 3) := by decide +kernel
theorem dX6_hold_16 : decode cX6_hold 16 = .ok (.getfield 61, 3) := by decide +kernel
theorem dX6_hold_19 : decode cX6_hold 19 = .ok (.iload_n 2, 1) := by decide +kernel
theorem dX6_hold_20 : decode cX6_hold 20 = .ok (.invokevirtual 80, 3) := by decide +kernel
theorem dX6_hold_23 : decode cX6_hold 23 = .ok (.ifCond .ne 10, 3) := by decide +kernel
theorem dX6_hold_26 : decode cX6_hold 26 = .ok (.aload_n 0, 1) := by decide +kernel
theorem dX6_hold_27 : decode cX6_hold 27 = .ok (.ldc 56, 2) := by decide +kernel
theorem dX6_hold_29 : decode cX6_hold 29 = .ok (.invokevirtual 57, 3) := by decide +kernel
theorem dX6_hold_32 : decode cX6_hold 32 = .ok (.ireturn, 1) := by decide +kernel
theorem dX6_hold_33 : decode cX6_hold 33 = .ok (.aload_n 0, 1) := by decide +kernel
theorem dX6_hold_34 : decode cX6_hold 34 = .ok (.getfield 12, 3) := by decide +kernel
theorem dX6_hold_37 : decode cX6_hold 37 = .ok (.getfield 237, 3) := by decide +kernel
theorem dX6_hold_40 : decode cX6_hold 40 = .ok (.iload_n 1, 1) := by decide +kernel
theorem dX6_hold_41 : decode cX6_hold 41 = .ok (.iload_n 2, 1) := by decide +kernel
theorem dX6_hold_42 : decode cX6_hold 42 = .ok (.iastore, 1) := by decide +kernel
theorem dX6_hold_43 : decode cX6_hold 43 = .ok (.iconst 1, 1) := by decide +kernel
theorem dX6_hold_44 : decode cX6_hold 44 = .ok (.ireturn, 1) := by decide +kernel
set_option maxRecDepth 20000 in
theorem ggX6_as_X6_isSpot : GoodIn wsX6_as wsX6_isSpot := goodIn_r _ [11, 12, 13, 10, 14] (by decide +kernel) (by decide +kernel)
set_option maxRecDepth 20000 in
theorem gX6_as_X6_isSpot : GoodIn wsX6_as (va_wsS RX6 234 yX6_isSpot wsX6_isSpot) := goodIn_app (goodIn_of _ (by decide +kernel)) ggX6_as_X6_isSpot
set_option maxRecDepth 20000 in
theorem ggX6_as_X6_isKind : GoodIn wsX6_as wsX6_isKind := goodIn_r _ [17, 12, 13, 10, 14] (by decide +kernel) (by decide +kernel)
set_option maxRecDepth 20000 in
theorem gX6_as_X6_isKind : GoodIn wsX6_as (va_wsS RX6 45 yX6_isKind wsX6_isKind) := goodIn_app (goodIn_of _ (by decide +kernel)) ggX6_as_X6_isKind
set_option maxRecDepth 20000 in
theorem ggX6_as_X6_tell : GoodIn wsX6_as wsX6_tell := goodIn_r _ [21, 1, 22, 12, 13, 10, 14, 33, 34, 35, 36, 37, 38, 39, 40] (by decide +kernel) (by decide +kernel)
set_option maxRecDepth 20000 in
theorem gX6_as_X6_tell : GoodIn wsX6_as (wsV RX6 57 RX6 yX6_tell wsX6_tell) := goodIn_app (goodIn_of _ (by decide +kernel)) ggX6_as_X6_tell
set_option maxRecDepth 20000 in
theorem ggX6_as_X5_isBlock : GoodIn wsX6_as wsX5_isBlock := goodIn_r _ [27, 28, 50, 51, 52, 53, 54] (by decide +kernel) (by decide +kernel)
set_option maxRecDepth 20000 in
theorem gX6_as_X5_isBlock : GoodIn wsX6_as (wsV RX6 80 RX5 yX5_isBlock wsX5_isBlock) := goodIn_app (goodIn_of _ (by decide +kernel)) ggX6_as_X5_isBlock
set_option maxRecDepth 20000 in
theorem ggX6_as_X6_isUnder : GoodIn wsX6_as wsX6_isUnder := goodIn_r _ [31, 32, 15, 16, 10, 17, 12, 13, 14] (by decide +kernel) (by decide +kernel)
set_option maxRecDepth 20000 in
theorem gX6_as_X6_isUnder : GoodIn wsX6_as (va_wsS RX6 241 yX6_isUnder wsX6_isUnder) := goodIn_app (goodIn_of _ (by decide +kernel)) ggX6_as_X6_isUnder
theorem dX6_as_0 : decode cX6_as 0 = .ok (.iload_n 1, 1) := by decide +kernel
theorem dX6_as_1 : decode cX6_as 1 = .ok (.invokestatic 234, 3) := by decide +kernel
theorem dX6_as_4 : decode cX6_as 4 = .ok (.ifCond .eq 10, 3) := by decide +kernel
theorem dX6_as_7 : decode cX6_as 7 = .ok (.iload_n 2, 1) := by decide +kernel
theorem dX6_as_8 : decode cX6_as 8 = .ok (.invokestatic 45, 3) := by decide +kernel
theorem dX6_as_11 : decode cX6_as 11 = .ok (.ifCond .ne 10, 3) := by decide +kernel
theorem dX6_as_14 : decode cX6_as 14 = .ok (.aload_n 0, 1) := by decide +kernel
theorem dX6_as_15 : decode cX6_as 15 = .ok (.ldc 56, 2) := by decide +kernel
theorem dX6_as_17 : decode cX6_as 17 = .ok (.invokevirtual 57, 3) := by decide +kernel
theorem dX6_as_20 : decode cX6_as 20 = .ok (.ireturn, 1) := by decide +kernel
theorem dX6_as_21 : decode cX6_as 21 = .ok (.aload_n 0, 1) := by decide +kernel
theorem dX6_as_22 : decode cX6_as 22 = .ok (.getfield 12, 3) := by decide +kernel
theorem dX6_as_25 : decode cX6_as 25 = .ok (.getfield 237, 3) := by decide +kernel
theorem dX6_as_28 : decode cX6_as 28 = .ok (.iload_n 1, 1) := by decide +kernel
theorem dX6_as_29 : decode cX6_as 29 = .ok (.iaload, 1) := by decide +kernel
theorem dX6_as_30 : decode cX6_as 30 = .ok (.istore_n 3, 1) := by decide +kernel
theorem dX6_as_31 : decode cX6_as 31 = .ok (.aload_n 0, 1) := by decide +kernel
theorem dX6_as_32 : decode cX6_as 32 = .ok (.getfield 12, 3) := by decide +kernel
theorem dX6_as_35 : decode cX6_as 35 = .ok (.getfield 61, 3) := by decide +kernel
theorem dX6_as_38 : decode cX6_as 38 = .ok (.iload_n 3, 1) := by decide +kernel
theorem dX6_as_39 : decode cX6_as 39 = .ok (.invokevirtual 80, 3) := by decide +kernel
theorem dX6_as_42 : decode cX6_as 42 = .ok (.ifCond .ne 10, 3) := by decide +kernel
theorem dX6_as_45 : decode cX6_as 45 = .ok (.aload_n 0, 1) := by decide +kernel
theorem dX6_as_46 : decode cX6_as 46 = .ok (.ldc 240, 2) := by decide +kernel
theorem dX6_as_48 : decode cX6_as 48 = .ok (.invokevirtual 57, 3) := by decide +kernel
theorem dX6_as_51 : decode cX6_as 51 = .ok (.ireturn, 1) := by decide +kernel
theorem dX6_as_52 : decode cX6_as 52 = .ok (.aload_n 0, 1) := by decide +kernel
theorem dX6_as_53 : decode cX6_as 53 = .ok (.getfield 12, 3) := by decide +kernel
theorem dX6_as_56 : decode cX6_as 56 = .ok (.getfield 61, 3) := by decide +kernel
theorem dX6_as_59 : decode cX6_as 59 = .ok (.getfield 83, 3) := by decide +kernel
theorem dX6_as_62 : decode cX6_as 62 = .ok (.iload_n 3, 1) := by decide +kernel
theorem dX6_as_63 : decode cX6_as 63 = .ok (.iaload, 1) := by decide +kernel
theorem dX6_as_64 : decode cX6_as 64 = .ok (.iload_n 2, 1) := by decide +kernel
theorem dX6_as_65 : decode cX6_as 65 = .ok (.invokestatic 241, 3) := by decide +kernel
theorem dX6_as_68 : decode cX6_as 68 = .ok (.ifCond .eq 7, 3) := by decide +kernel
theorem dX6_as_71 : decode cX6_as 71 = .ok (.iload_n 3, 1) := by decide +kernel
theorem dX6_as_72 : decode cX6_as 72 = .ok (.goto 9, 3) := by decide +kernel
theorem dX6_as_75 : decode cX6_as 75 = .ok (.aload_n 0, 1) := by decide +kernel
theorem dX6_as_76 : decode cX6_as 76 = .ok (.ldc 245, 2) := by decide +kernel
theorem dX6_as_78 : decode cX6_as 78 = .ok (.invokevirtual 57, 3) := by decide +kernel
theorem dX6_as_81 : decode cX6_as 81 = .ok (.ireturn, 1) := by decide +kernel
set_option maxRecDepth 20000 in
theorem ggX6_sheet_X6_isSheet : GoodIn wsX6_sheet wsX6_isSheet := goodIn_r _ [7, 8, 9, 6, 10] (by decide +kernel) (by decide +kernel)
set_option maxRecDepth 20000 in
theorem gX6_sheet_X6_isSheet : GoodIn wsX6_sheet (va_wsS RX6 246 yX6_isSheet wsX6_isSheet) := goodIn_app (goodIn_of _ (by decide +kernel)) ggX6_sheet_X6_isSheet
set_option maxRecDepth 20000 in
theorem ggX6_sheet_X6_tell : GoodIn wsX6_sheet wsX6_tell := goodIn_r _ [14, 1, 15, 8, 9, 6, 10, 28, 29, 30, 31, 32, 33, 34, 35] (by decide +kernel) (by decide +kernel)
set_option maxRecDepth 20000 in
theorem gX6_sheet_X6_tell : GoodIn wsX6_sheet (wsV RX6 57 RX6 yX6_tell wsX6_tell) := goodIn_app (goodIn_of _ (by decide +kernel)) ggX6_sheet_X6_tell
set_option maxRecDepth 20000 in
theorem ggX6_sheet_X2_lay : GoodIn wsX6_sheet wsX2_lay := goodIn_r _ [20, 21, 22, 23, 24, 25, 26, 27, 36, 37, 38] (by decide +kernel) (by decide +kernel)
set_option maxRecDepth 20000 in
theorem gX6_sheet_X2_lay : GoodIn wsX6_sheet (wsV RX6 250 RX2 yX2_lay wsX2_lay) := goodIn_app (goodIn_of _ (by decide +kernel)) ggX6_sheet_X2_lay
theorem dX6_sheet_0 : decode cX6_sheet 0 = .ok (.iload_n 1, 1) := by decide +kernel
theorem dX6_sheet_1 : decode cX6_sheet 1 = .ok (.invokestatic 246, 3) := by decide +kernel
theorem dX6_sheet_4 : decode cX6_sheet 4 = .ok (.ifCond .eq 25, 3) := by decide +kernel
theorem dX6_sheet_7 : decode cX6_sheet 7 = .ok (.iload_n 2, 1) := by decide +kernel
theorem dX6_sheet_8 : decode cX6_sheet 8 = .ok (.ifCond .eq 28, 3) := by decide +kernel
theorem dX6_sheet_11 : decode cX6_sheet 11 = .ok (.iload_n 2, 1) := by decide +kernel
theorem dX6_sheet_12 : decode cX6_sheet 12 = .ok (.bipush 8, 2) := by decide +kernel
theorem dX6_sheet_14 : decode cX6_sheet 14 = .ok (.if_icmp .eq 22, 3) := by decide +kernel
theorem dX6_sheet_17 : decode cX6_sheet 17 = .ok (.iload_n 2, 1) := by decide +kernel
theorem dX6_sheet_18 : decode cX6_sheet 18 = .ok (.bipush 16, 2) := by decide +kernel
theorem dX6_sheet_20 : decode cX6_sheet 20 = .ok (.if_icmp .eq 16, 3) := by decide +kernel
theorem dX6_sheet_23 : decode cX6_sheet 23 = .ok (.iload_n 2, 1) := by decide +kernel
theorem dX6_sheet_24 : decode cX6_sheet 24 = .ok (.bipush 32, 2) := by decide +kernel
theorem dX6_sheet_26 : decode cX6_sheet 26 = .ok (.if_icmp .eq 10, 3) := by decide +kernel
theorem dX6_sheet_29 : decode cX6_sheet 29 = .ok (.aload_n 0, 1) := by decide +kernel
theorem dX6_sheet_30 : decode cX6_sheet 30 = .ok (.ldc 56, 2) := by decide +kernel
theorem dX6_sheet_32 : decode cX6_sheet 32 = .ok (.invokevirtual 57, 3) := by decide +kernel
theorem dX6_sheet_35 : decode cX6_sheet 35 = .ok (.ireturn, 1) := by decide +kernel
theorem dX6_sheet_36 : decode cX6_sheet 36 = .ok (.iload_n 3, 1) := by decide +kernel
theorem dX6_sheet_37 : decode cX6_sheet 37 = .ok (.ifCond .ge 10, 3) := by decide +kernel
theorem dX6_sheet_40 : decode cX6_sheet 40 = .ok (.aload_n 0, 1) := by decide +kernel
theorem dX6_sheet_41 : decode cX6_sheet 41 = .ok (.ldc 249, 2) := by decide +kernel
theorem dX6_sheet_43 : decode cX6_sheet 43 = .ok (.invokevirtual 57, 3) := by decide +kernel
theorem dX6_sheet_46 : decode cX6_sheet 46 = .ok (.ireturn, 1) := by decide +kernel
theorem dX6_sheet_47 : decode cX6_sheet 47 = .ok (.iload_n 3, 1) := by decide +kernel
theorem dX6_sheet_48 : decode cX6_sheet 48 = .ok (.bipush 40, 2) := by decide +kernel
theorem dX6_sheet_50 : decode cX6_sheet 50 = .ok (.if_icmp .le 10, 3) := by decide +kernel
theorem dX6_sheet_53 : decode cX6_sheet 53 = .ok (.aload_n 0, 1) := by decide +kernel
theorem dX6_sheet_54 : decode cX6_sheet 54 = .ok (.ldc 56, 2) := by decide +kernel
theorem dX6_sheet_56 : decode cX6_sheet 56 = .ok (.invokevirtual 57, 3) := by decide +kernel
theorem dX6_sheet_59 : decode cX6_sheet 59 = .ok (.ireturn, 1) := by decide +kernel
theorem dX6_sheet_60 : decode cX6_sheet 60 = .ok (.aload_n 0, 1) := by decide +kernel
theorem dX6_sheet_61 : decode cX6_sheet 61 = .ok (.getfield 36, 3) := by decide +kernel
theorem dX6_sheet_64 : decode cX6_sheet 64 = .ok (.iload_n 1, 1) := by decide +kernel
theorem dX6_sheet_65 : decode cX6_sheet 65 = .ok (.aaload, 1) := by decide +kernel
theorem dX6_sheet_66 : decode cX6_sheet 66 = .ok (.iload_n 2, 1) := by decide +kernel
theorem dX6_sheet_67 : decode cX6_sheet 67 = .ok (.iload_n 3, 1) := by decide +kernel
theorem dX6_sheet_68 : decode cX6_sheet 68 = .ok (.invokevirtual 250, 3) := by decide +kernel
theorem dX6_sheet_71 : decode cX6_sheet 71 = .ok (.ireturn, 1) := by decide +kernel
set_option maxRecDepth 20000 in
theorem ggX6_write_X6_isSheet : GoodIn wsX6_write wsX6_isSheet := goodIn_r _ [8, 9, 10, 7, 11] (by decide +kernel) (by decide +kernel)
set_option maxRecDepth 20000 in
theorem gX6_write_X6_isSheet : GoodIn wsX6_write (va_wsS RX6 246 yX6_isSheet wsX6_isSheet) := goodIn_app (goodIn_of _ (by decide +kernel)) ggX6_write_X6_isSheet
set_option maxRecDepth 20000 in
theorem ggX6_write_X6_tell : GoodIn wsX6_write wsX6_tell := goodIn_r _ [15, 1, 16, 9, 10, 7, 11, 28, 29, 30, 31, 32, 33, 34, 35] (by decide +kernel) (by decide +kernel)
set_option maxRecDepth 20000 in
theorem gX6_write_X6_tell : GoodIn wsX6_write (wsV RX6 57 RX6 yX6_tell wsX6_tell) := goodIn_app (goodIn_of _ (by decide +kernel)) ggX6_write_X6_tell
set_option maxRecDepth 20000 in
theorem ggX6_write_X2_isMissing : GoodIn wsX6_write wsX2_isMissing := goodIn_r _ [21, 22, 36, 37, 38] (by decide +kernel) (by decide +kernel)
set_option maxRecDepth 20000 in
theorem gX6_write_X2_isMissing : GoodIn wsX6_write (wsV RX6 253 RX2 yX2_isMissing wsX2_isMissing) := goodIn_app (goodIn_of _ (by decide +kernel)) ggX6_write_X2_isMissing
set_option maxRecDepth 20000 in
theorem ggX6_write_X6_isWithin : GoodIn wsX6_write wsX6_isWithin := goodIn_r _ [11] (by decide +kernel) (by decide +kernel)
set_option maxRecDepth 20000 in
theorem gX6_write_X6_isWithin : GoodIn wsX6_write (va_wsS RX6 52 yX6_isWithin wsX6_isWithin) := goodIn_app (goodIn_of _ (by decide +kernel)) ggX6_write_X6_isWithin
set_option maxRecDepth 20000 in
theorem ggX6_write_X2_put : GoodIn wsX6_write wsX2_put := goodIn_r _ [26, 22, 27, 36, 37, 38] (by decide +kernel) (by decide +kernel)
set_option maxRecDepth 20000 in
theorem gX6_write_X2_put : GoodIn wsX6_write (wsV RX6 257 RX2 yX2_put wsX2_put) := goodIn_app (goodIn_of _ (by decide +kernel)) ggX6_write_X2_put
theorem dX6_write_0 : decode cX6_write 0 = .ok (.iload_n 1, 1) := by decide +kernel
theorem dX6_write_1 : decode cX6_write 1 = .ok (.invokestatic 246, 3) := by decide +kernel
theorem dX6_write_4 : decode cX6_write 4 = .ok (.ifCond .ne 10, 3) := by decide +kernel
theorem dX6_write_7 : decode cX6_write 7 = .ok (.aload_n 0, 1) := by decide +kernel
theorem dX6_write_8 : decode cX6_write 8 = .ok (.ldc 56, 2) := by decide +kernel
theorem dX6_write_10 : decode cX6_write 10 = .ok (.invokevirtual 57, 3) := by decide +kernel
theorem dX6_write_13 : decode cX6_write 13 = .ok (.ireturn, 1) := by decide +kernel
theorem dX6_write_14 : decode cX6_write 14 = .ok (.aload_n 0, 1) := by decide +kernel
theorem dX6_write_15 : decode cX6_write 15 = .ok (.getfield 36, 3) := by decide +kernel
theorem dX6_write_18 : decode cX6_write 18 = .ok (.iload_n 1, 1) := by decide +kernel
theorem dX6_write_19 : decode cX6_write 19 = .ok (.aaload, 1) := by decide +kernel
theorem dX6_write_20 : decode cX6_write 20 = .ok (.astore 4, 2) := by decide +kernel
theorem dX6_write_22 : decode cX6_write 22 = .ok (.aload 4, 2) := by decide +kernel
theorem dX6_write_24 : decode cX6_write 24 = .ok (.invokevirtual 253, 3) := by decide +kernel
theorem dX6_write_27 : decode cX6_write 27 = .ok (.ifCond .eq 10, 3) := by decide +kernel
theorem dX6_write_30 : decode cX6_write 30 = .ok (.aload_n 0, 1) := by decide +kernel
theorem dX6_write_31 : decode cX6_write 31 = .ok (.ldc 240, 2) := by decide +kernel
theorem dX6_write_33 : decode cX6_write 33 = .ok (.invokevirtual 57, 3) := by decide +kernel
theorem dX6_write_36 : decode cX6_write 36 = .ok (.ireturn, 1) := by decide +kernel
theorem dX6_write_37 : decode cX6_write 37 = .ok (.iload_n 2, 1) := by decide +kernel
theorem dX6_write_38 : decode cX6_write 38 = .ok (.iconst 0, 1) := by decide +kernel
theorem dX6_write_39 : decode cX6_write 39 = .ok (.aload 4, 2) := by decide +kernel
theorem dX6_write_41 : decode cX6_write 41 = .ok (.getfield 256, 3) := by decide +kernel
theorem dX6_write_44 : decode cX6_write 44 = .ok (.iconst 1, 1) := by decide +kernel
theorem dX6_write_45 : decode cX6_write 45 = .ok (.isub, 1) := by decide +kernel
theorem dX6_write_46 : decode cX6_write 46 = .ok (.invokestatic 52, 3) := by decide +kernel
theorem dX6_write_49 : decode cX6_write 49 = .ok (.ifCond .ne 10, 3) := by decide +kernel
theorem dX6_write_52 : decode cX6_write 52 = .ok (.aload_n 0, 1) := by decide +kernel
theorem dX6_write_53 : decode cX6_write 53 = .ok (.ldc 56, 2) := by decide +kernel
theorem dX6_write_55 : decode cX6_write 55 = .ok (.invokevirtual 57, 3) := by decide +kernel
theorem dX6_write_58 : decode cX6_write 58 = .ok (.ireturn, 1) := by decide +kernel
theorem dX6_write_59 : decode cX6_write 59 = .ok (.aload 4, 2) := by decide +kernel
theorem dX6_write_61 : decode cX6_write 61 = .ok (.iload_n 2, 1) := by decide +kernel
theorem dX6_write_62 : decode cX6_write 62 = .ok (.iload_n 3, 1) := by decide +kernel
theorem dX6_write_63 : decode cX6_write 63 = .ok (.invokevirtual 257, 3) := by decide +kernel
theorem dX6_write_66 : decode cX6_write 66 = .ok (.iconst 1, 1) := by decide +kernel
theorem dX6_write_67 : decode cX6_write 67 = .ok (.ireturn, 1) := by decide +kernel
set_option maxRecDepth 20000 in
theorem ggX6_copy_X6_isSheet : GoodIn wsX6_copy wsX6_isSheet := goodIn_r _ [14, 15, 16, 13, 17] (by decide +kernel) (by decide +kernel)
set_option maxRecDepth 20000 in
theorem gX6_copy_X6_isSheet : GoodIn wsX6_copy (va_wsS RX6 246 yX6_isSheet wsX6_isSheet) := goodIn_app (goodIn_of _ (by decide +kernel)) ggX6_copy_X6_isSheet
set_option maxRecDepth 20000 in
theorem ggX6_copy_X6_tell : GoodIn wsX6_copy wsX6_tell := goodIn_r _ [21, 1, 22, 15, 16, 13, 17, 34, 35, 36, 37, 38, 39, 40, 41] (by decide +kernel) (by decide +kernel)
set_option maxRecDepth 20000 in
theorem gX6_copy_X6_tell : GoodIn wsX6_copy (wsV RX6 57 RX6 yX6_tell wsX6_tell) := goodIn_app (goodIn_of _ (by decide +kernel)) ggX6_copy_X6_tell
set_option maxRecDepth 20000 in
theorem ggX6_copy_X2_isMissing : GoodIn wsX6_copy wsX2_isMissing := goodIn_r _ [27, 28, 42, 43, 44] (by decide +kernel) (by decide +kernel)
set_option maxRecDepth 20000 in
theorem gX6_copy_X2_isMissing : GoodIn wsX6_copy (wsV RX6 253 RX2 yX2_isMissing wsX2_isMissing) := goodIn_app (goodIn_of _ (by decide +kernel)) ggX6_copy_X2_isMissing
set_option maxRecDepth 20000 in
theorem ggX6_copy_X2_hasRange : GoodIn wsX6_copy wsX2_hasRange := goodIn_r _ [32, 33, 42, 43, 44] (by decide +kernel) (by decide +kernel)
set_option maxRecDepth 20000 in
theorem gX6_copy_X2_hasRange : GoodIn wsX6_copy (wsV RX6 264 RX2 yX2_hasRange wsX2_hasRange) := goodIn_app (goodIn_of _ (by decide +kernel)) ggX6_copy_X2_hasRange
theorem dX6_copy_0 : decode cX6_copy 0 = .ok (.iload_n 1, 1) := by decide +kernel
theorem dX6_copy_1 : decode cX6_copy 1 = .ok (.invokestatic 246, 3) := by decide +kernel
theorem dX6_copy_4 : decode cX6_copy 4 = .ok (.ifCond .eq 10, 3) := by decide +kernel
theorem dX6_copy_7 : decode cX6_copy 7 = .ok (.iload_n 3, 1) := by decide +kernel
theorem dX6_copy_8 : decode cX6_copy 8 = .ok (.invokestatic 246, 3) := by decide +kernel
theorem dX6_copy_11 : decode cX6_copy 11 = .ok (.ifCond .ne 10, 3) := by decide +kernel
theorem dX6_copy_14 : decode cX6_copy 14 = .ok (.aload_n 0, 1) := by decide +kernel
theorem dX6_copy_15 : decode cX6_copy 15 = .ok (.ldc 56, 2) := by decide +kernel
theorem dX6_copy_17 : decode cX6_copy 17 = .ok (.invokevirtual 57, 3) := by decide +kernel
theorem dX6_copy_20 : decode cX6_copy 20 = .ok (.ireturn, 1) := by decide +kernel
theorem dX6_copy_21 : decode cX6_copy 21 = .ok (.aload_n 0, 1) := by decide +kernel
theorem dX6_copy_22 : decode cX6_copy 22 = .ok (.getfield 36, 3) := by decide +kernel
theorem dX6_copy_25 : decode cX6_copy 25 = .ok (.iload_n 1, 1) := by decide +kernel
theorem dX6_copy_26 : decode cX6_copy 26 = .ok (.aaload, 1) := by decide +kernel
theorem dX6_copy_27 : decode cX6_copy 27 = .ok (.astore 6, 2) := by decide +kernel
theorem dX6_copy_29 : decode cX6_copy 29 = .ok (.aload_n 0, 1) := by decide +kernel
theorem dX6_copy_30 : decode cX6_copy 30 = .ok (.getfield 36, 3) := by decide +kernel
theorem dX6_copy_33 : decode cX6_copy 33 = .ok (.iload_n 3, 1) := by decide +kernel
theorem dX6_copy_34 : decode cX6_copy 34 = .ok (.aaload, 1) := by decide +kernel
theorem dX6_copy_35 : decode cX6_copy 35 = .ok (.astore 7, 2) := by decide +kernel
theorem dX6_copy_37 : decode cX6_copy 37 = .ok (.aload 6, 2) := by decide +kernel
theorem dX6_copy_39 : decode cX6_copy 39 = .ok (.invokevirtual 253, 3) := by decide +kernel
theorem dX6_copy_42 : decode cX6_copy 42 = .ok (.ifCond .ne 11, 3) := by decide +kernel
theorem dX6_copy_45 : decode cX6_copy 45 = .ok (.aload 7, 2) := by decide +kernel
theorem dX6_copy_47 : decode cX6_copy 47 = .ok (.invokevirtual 253, 3) := by decide +kernel
theorem dX6_copy_50 : decode cX6_copy 50 = .ok (.ifCond .eq 10, 3) := by decide +kernel
theorem dX6_copy_53 : decode cX6_copy 53 = .ok (.aload_n 0, 1) := by decide +kernel
theorem dX6_copy_54 : decode cX6_copy 54 = .ok (.ldc 240, 2) := by decide +kernel
theorem dX6_copy_56 : decode cX6_copy 56 = .ok (.invokevirtual 57, 3) := by decide +kernel
theorem dX6_copy_59 : decode cX6_copy 59 = .ok (.ireturn, 1) := by decide +kernel
theorem dX6_copy_60 : decode cX6_copy 60 = .ok (.aload 6, 2) := by decide +kernel
theorem dX6_copy_62 : decode cX6_copy 62 = .ok (.getfield 261, 3) := by decide +kernel
theorem dX6_copy_65 : decode cX6_copy 65 = .ok (.aload 7, 2) := by decide +kernel
theorem dX6_copy_67 : decode cX6_copy 67 = .ok (.getfield 261, 3) := by decide +kernel
theorem dX6_copy_70 : decode cX6_copy 70 = .ok (.if_icmp .eq 10, 3) := by decide +kernel
theorem dX6_copy_73 : decode cX6_copy 73 = .ok (.aload_n 0, 1) := by decide +kernel
theorem dX6_copy_74 : decode cX6_copy 74 = .ok (.ldc 245, 2) := by decide +kernel
theorem dX6_copy_76 : decode cX6_copy 76 = .ok (.invokevirtual 57, 3) := by decide +kernel
theorem dX6_copy_79 : decode cX6_copy 79 = .ok (.ireturn, 1) := by decide +kernel
theorem dX6_copy_80 : decode cX6_copy 80 = .ok (.aload 6, 2) := by decide +kernel
theorem dX6_copy_82 : decode cX6_copy 82 = .ok (.iload_n 2, 1) := by decide +kernel
theorem dX6_copy_83 : decode cX6_copy 83 = .ok (.iload 5, 2) := by decide +kernel
theorem dX6_copy_85 : decode cX6_copy 85 = .ok (.invokevirtual 264, 3) := by decide +kernel
theorem dX6_copy_88 : decode cX6_copy 88 = .ok (.ifCond .eq 15, 3) := by decide +kernel
theorem dX6_copy_91 : decode cX6_copy 91 = .ok (.aload 7, 2) := by decide +kernel
theorem dX6_copy_93 : decode cX6_copy 93 = .ok (.iload 4, 2) := by decide +kernel
theorem dX6_copy_95 : decode cX6_copy 95 = .ok (.iload 5, 2) := by decide +kernel
theorem dX6_copy_97 : decode cX6_copy 97 = .ok (.invokevirtual 264, 3) := by decide +kernel
theorem dX6_copy_100 : decode cX6_copy 100 = .ok (.ifCond .ne 10, 3) := by decide +kernel
theorem dX6_copy_103 : decode cX6_copy 103 = .ok (.aload_n 0, 1) := by decide +kernel
theorem dX6_copy_104 : decode cX6_copy 104 = .ok (.ldc 56, 2) := by decide +kernel
theorem dX6_copy_106 : decode cX6_copy 106 = .ok (.invokevirtual 57, 3) := by decide +kernel
theorem dX6_copy_109 : decode cX6_copy 109 = .ok (.ireturn, 1) := by decide +kernel
theorem dX6_copy_110 : decode cX6_copy 110 = .ok (.aload 6, 2) := by decide +kernel
theorem dX6_copy_112 : decode cX6_copy 112 = .ok (.getfield 267, 3) := by decide +kernel
theorem dX6_copy_115 : decode cX6_copy 115 = .ok (.iload_n 2, 1) := by decide +kernel
theorem dX6_copy_116 : decode cX6_copy 116 = .ok (.aload 7, 2) := by decide +kernel
theorem dX6_copy_118 : decode cX6_copy 118 = .ok (.getfield 267, 3) := by decide +kernel
theorem dX6_copy_121 : decode cX6_copy 121 = .ok (.iload 4, 2) := by decide +kernel
theorem dX6_copy_123 : decode cX6_copy 123 = .ok (.iload 5, 2) := by decide +kernel
theorem dX6_copy_125 : decode cX6_copy 125 = .ok (.invokestatic 270, 3) := by decide +kernel
theorem dX6_copy_128 : decode cX6_copy 128 = .ok (.iload 5, 2) := by decide +kernel
theorem dX6_copy_130 : decode cX6_copy 130 = .ok (.ireturn, 1) := by decide +kernel
set_option maxRecDepth 20000 in
theorem ggX6_load_X6_isSheet : GoodIn wsX6_load wsX6_isSheet := goodIn_r _ [17, 18, 19, 16, 20] (by decide +kernel) (by decide +kernel)
set_option maxRecDepth 20000 in
theorem gX6_load_X6_isSheet : GoodIn wsX6_load (va_wsS RX6 246 yX6_isSheet wsX6_isSheet) := goodIn_app (goodIn_of _ (by decide +kernel)) ggX6_load_X6_isSheet
set_option maxRecDepth 20000 in
theorem ggX6_load_X6_tell : GoodIn wsX6_load wsX6_tell := goodIn_r _ [24, 1, 25, 18, 19, 16, 20, 38, 39, 40, 41, 42, 43, 44, 45] (by decide +kernel) (by decide +kernel)
set_option maxRecDepth 20000 in
theorem gX6_load_X6_tell : GoodIn wsX6_load (wsV RX6 57 RX6 yX6_tell wsX6_tell) := goodIn_app (goodIn_of _ (by decide +kernel)) ggX6_load_X6_tell
set_option maxRecDepth 20000 in
theorem ggX6_load_X2_isMissing : GoodIn wsX6_load wsX2_isMissing := goodIn_r _ [30, 31, 46, 47, 48] (by decide +kernel) (by decide +kernel)
set_option maxRecDepth 20000 in
theorem gX6_load_X2_isMissing : GoodIn wsX6_load (wsV RX6 253 RX2 yX2_isMissing wsX2_isMissing) := goodIn_app (goodIn_of _ (by decide +kernel)) ggX6_load_X2_isMissing
set_option maxRecDepth 20000 in
theorem ggX6_load_X6_isWithin : GoodIn wsX6_load wsX6_isWithin := goodIn_r _ [20] (by decide +kernel) (by decide +kernel)
set_option maxRecDepth 20000 in
theorem gX6_load_X6_isWithin : GoodIn wsX6_load (va_wsS RX6 52 yX6_isWithin wsX6_isWithin) := goodIn_app (goodIn_of _ (by decide +kernel)) ggX6_load_X6_isWithin
set_option maxRecDepth 20000 in
theorem ggX6_load_X5_isGone : GoodIn wsX6_load wsX5_isGone := goodIn_r _ [36, 37, 58, 59, 60, 61, 62] (by decide +kernel) (by decide +kernel)
set_option maxRecDepth 20000 in
theorem gX6_load_X5_isGone : GoodIn wsX6_load (wsV RX6 92 RX5 yX5_isGone wsX5_isGone) := goodIn_app (goodIn_of _ (by decide +kernel)) ggX6_load_X5_isGone
theorem dX6_load_0 : decode cX6_load 0 = .ok (.iload_n 1, 1) := by decide +kernel
theorem dX6_load_1 : decode cX6_load 1 = .ok (.invokestatic 246, 3) := by decide +kernel
theorem dX6_load_4 : decode cX6_load 4 = .ok (.ifCond .ne 10, 3) := by decide +kernel
theorem dX6_load_7 : decode cX6_load 7 = .ok (.aload_n 0, 1) := by decide +kernel
theorem dX6_load_8 : decode cX6_load 8 = .ok (.ldc 56, 2) := by decide +kernel
theorem dX6_load_10 : decode cX6_load 10 = .ok (.invokevirtual 57, 3) := by decide +kernel
theorem dX6_load_13 : decode cX6_load 13 = .ok (.ireturn, 1) := by decide +kernel
theorem dX6_load_14 : decode cX6_load 14 = .ok (.aload_n 0, 1) := by decide +kernel
theorem dX6_load_15 : decode cX6_load 15 = .ok (.getfield 36, 3) := by decide +kernel
theorem dX6_load_18 : decode cX6_load 18 = .ok (.iload_n 1, 1) := by decide +kernel
theorem dX6_load_19 : decode cX6_load 19 = .ok (.aaload, 1) := by decide +kernel
theorem dX6_load_20 : decode cX6_load 20 = .ok (.astore_n 2, 1) := by decide +kernel
theorem dX6_load_21 : decode cX6_load 21 = .ok (.aload_n 2, 1) := by decide +kernel
theorem dX6_load_22 : decode cX6_load 22 = .ok (.invokevirtual 253, 3) := by decide +kernel
theorem dX6_load_25 : decode cX6_load 25 = .ok (.ifCond .eq 10, 3) := by decide +kernel
theorem dX6_load_28 : decode cX6_load 28 = .ok (.aload_n 0, 1) := by decide +kernel
theorem dX6_load_29 : decode cX6_load 29 = .ok (.ldc 240, 2) := by decide +kernel
theorem dX6_load_31 : decode cX6_load 31 = .ok (.invokevirtual 57, 3) := by decide +kernel
theorem dX6_load_34 : decode cX6_load 34 = .ok (.ireturn, 1) := by decide +kernel
theorem dX6_load_35 : decode cX6_load 35 = .ok (.aload_n 2, 1) := by decide +kernel
theorem dX6_load_36 : decode cX6_load 36 = .ok (.getfield 256, 3) := by decide +kernel
theorem dX6_load_39 : decode cX6_load 39 = .ok (.aload_n 0, 1) := by decide +kernel
theorem dX6_load_40 : decode cX6_load 40 = .ok (.getfield 12, 3) := by decide +kernel
theorem dX6_load_43 : decode cX6_load 43 = .ok (.getfield 61, 3) := by decide +kernel
theorem dX6_load_46 : decode cX6_load 46 = .ok (.getfield 188, 3) := by decide +kernel
theorem dX6_load_49 : decode cX6_load 49 = .ok (.invokestatic 276, 3) := by decide +kernel
theorem dX6_load_52 : decode cX6_load 52 = .ok (.istore_n 3, 1) := by decide +kernel
theorem dX6_load_53 : decode cX6_load 53 = .ok (.iconst 0, 1) := by decide +kernel
theorem dX6_load_54 : decode cX6_load 54 = .ok (.istore 4, 2) := by decide +kernel
theorem dX6_load_56 : decode cX6_load 56 = .ok (.iload 4, 2) := by decide +kernel
theorem dX6_load_58 : decode cX6_load 58 = .ok (.iload_n 3, 1) := by decide +kernel
theorem dX6_load_59 : decode cX6_load 59 = .ok (.if_icmp .ge 60, 3) := by decide +kernel
theorem dX6_load_62 : decode cX6_load 62 = .ok (.aload_n 2, 1) := by decide +kernel
theorem dX6_load_63 : decode cX6_load 63 = .ok (.getfield 267, 3) := by decide +kernel
theorem dX6_load_66 : decode cX6_load 66 = .ok (.iload 4, 2) := by decide +kernel
theorem dX6_load_68 : decode cX6_load 68 = .ok (.iaload, 1) := by decide +kernel
theorem dX6_load_69 : decode cX6_load 69 = .ok (.iconst 1, 1) := by decide +kernel
theorem dX6_load_70 : decode cX6_load 70 = .ok (.bipush 99, 2) := by decide +kernel
theorem dX6_load_72 : decode cX6_load 72 = .ok (.invokestatic 52, 3) := by decide +kernel
theorem dX6_load_75 : decode cX6_load 75 = .ok (.ifCond .eq 44, 3) := by decide +kernel
theorem dX6_load_78 : decode cX6_load 78 = .ok (.aload_n 0, 1) := by decide +kernel
theorem dX6_load_79 : decode cX6_load 79 = .ok (.getfield 12, 3) := by decide +kernel
theorem dX6_load_82 : decode cX6_load 82 = .ok (.getfield 61, 3) := by decide +kernel
theorem dX6_load_85 : decode cX6_load 85 = .ok (.iload 4, 2) := by decide +kernel
theorem dX6_load_87 : decode cX6_load 87 = .ok (.invokevirtual 92, 3) := by decide +kernel
theorem dX6_load_90 : decode cX6_load 90 = .ok (.ifCond .ne 23, 3) := by decide +kernel
theorem dX6_load_93 : decode cX6_load 93 = .ok (.aload_n 0, 1) := by decide +kernel
theorem dX6_load_94 : decode cX6_load 94 = .ok (.getfield 12, 3) := by decide +kernel
theorem dX6_load_97 : decode cX6_load 97 = .ok (.getfield 61, 3) := by decide +kernel
theorem dX6_load_100 : decode cX6_load 100 = .ok (.getfield 89, 3) := by decide +kernel
theorem dX6_load_103 : decode cX6_load 103 = .ok (.iload 4, 2) := by decide +kernel
theorem dX6_load_105 : decode cX6_load 105 = .ok (.aload_n 2, 1) := by decide +kernel
theorem dX6_load_106 : decode cX6_load 106 = .ok (.getfield 267, 3) := by decide +kernel
theorem dX6_load_109 : decode cX6_load 109 = .ok (.iload 4, 2) := by decide +kernel
theorem dX6_load_111 : decode cX6_load 111 = .ok (.iaload, 1) := by decide +kernel
theorem dX6_load_112 : decode cX6_load 112 = .ok (.iastore, 1) := by decide +kernel
theorem dX6_load_113 : decode cX6_load 113 = .ok (.iinc 4 1, 3) := by decide +kernel
theorem dX6_load_116 : decode cX6_load 116 = .ok (.goto (-60), 3) := by decide +kernel
theorem dX6_load_119 : decode cX6_load 119 = .ok (.iload 4, 2) := by decide +kernel
theorem dX6_load_121 : decode cX6_load 121 = .ok (.ireturn, 1) := by decide +kernel
set_option maxRecDepth 20000 in
theorem ggX6_judge_X6_isSheet : GoodIn wsX6_judge wsX6_isSheet := goodIn_r _ [11, 12, 13, 10, 14] (by decide +kernel) (by decide +kernel)
set_option maxRecDepth 20000 in
theorem gX6_judge_X6_isSheet : GoodIn wsX6_judge (va_wsS RX6 246 yX6_isSheet wsX6_isSheet) := goodIn_app (goodIn_of _ (by decide +kernel)) ggX6_judge_X6_isSheet
set_option maxRecDepth 20000 in
theorem ggX6_judge_X6_tell : GoodIn wsX6_judge wsX6_tell := goodIn_r _ [18, 1, 19, 12, 13, 10, 14, 51, 52, 53, 54, 55, 56, 57, 58] (by decide +kernel) (by decide +kernel)
set_option maxRecDepth 20000 in
theorem gX6_judge_X6_tell : GoodIn wsX6_judge (wsV RX6 57 RX6 yX6_tell wsX6_tell) := goodIn_app (goodIn_of _ (by decide +kernel)) ggX6_judge_X6_tell
set_option maxRecDepth 20000 in
theorem ggX6_judge_X2_isMissing : GoodIn wsX6_judge wsX2_isMissing := goodIn_r _ [24, 25, 68, 69, 70] (by decide +kernel) (by decide +kernel)
set_option maxRecDepth 20000 in
theorem gX6_judge_X2_isMissing : GoodIn wsX6_judge (wsV RX6 253 RX2 yX2_isMissing wsX2_isMissing) := goodIn_app (goodIn_of _ (by decide +kernel)) ggX6_judge_X2_isMissing
set_option maxRecDepth 20000 in
theorem ggX6_judge_X5_isBlock : GoodIn wsX6_judge wsX5_isBlock := goodIn_r _ [30, 31, 71, 72, 73, 74, 75] (by decide +kernel) (by decide +kernel)
set_option maxRecDepth 20000 in
theorem gX6_judge_X5_isBlock : GoodIn wsX6_judge (wsV RX6 80 RX5 yX5_isBlock wsX5_isBlock) := goodIn_app (goodIn_of _ (by decide +kernel)) ggX6_judge_X5_isBlock
set_option maxRecDepth 20000 in
theorem ggX6_judge_X5_isComer : GoodIn wsX6_judge wsX5_isComer := goodIn_r _ [35, 36, 37, 38, 29, 39, 40, 41, 42, 43, 44, 45, 71, 72, 73, 74, 75] (by decide +kernel) (by decide +kernel)
set_option maxRecDepth 20000 in
theorem gX6_judge_X5_isComer : GoodIn wsX6_judge (wsV RX6 281 RX5 yX5_isComer wsX5_isComer) := goodIn_app (goodIn_of _ (by decide +kernel)) ggX6_judge_X5_isComer
set_option maxRecDepth 20000 in
theorem ggX6_judge_X5_cellBit : GoodIn wsX6_judge wsX5_cellBit := goodIn_r _ [39, 40, 71, 72, 73, 74, 75] (by decide +kernel) (by decide +kernel)
set_option maxRecDepth 20000 in
theorem gX6_judge_X5_cellBit : GoodIn wsX6_judge (wsV RX6 99 RX5 yX5_cellBit wsX5_cellBit) := goodIn_app (goodIn_of _ (by decide +kernel)) ggX6_judge_X5_cellBit
set_option maxRecDepth 20000 in
theorem ggX6_judge_X5_occupied : GoodIn wsX6_judge wsX5_occupied := goodIn_r _ [50, 31, 36, 37, 38, 29, 39, 40, 71, 72, 73, 74, 75] (by decide +kernel) (by decide +kernel)
set_option maxRecDepth 20000 in
theorem gX6_judge_X5_occupied : GoodIn wsX6_judge (wsV RX6 191 RX5 yX5_occupied wsX5_occupied) := goodIn_app (goodIn_of _ (by decide +kernel)) ggX6_judge_X5_occupied
theorem dX6_judge_0 : decode cX6_judge 0 = .ok (.iload_n 1, 1) := by decide +kernel
theorem dX6_judge_1 : decode cX6_judge 1 = .ok (.invokestatic 246, 3) := by decide +kernel
theorem dX6_judge_4 : decode cX6_judge 4 = .ok (.ifCond .ne 10, 3) := by decide +kernel
theorem dX6_judge_7 : decode cX6_judge 7 = .ok (.aload_n 0, 1) := by decide +kernel
theorem dX6_judge_8 : decode cX6_judge 8 = .ok (.ldc 56, 2) := by decide +kernel
theorem dX6_judge_10 : decode cX6_judge 10 = .ok (.invokevirtual 57, 3) := by decide +kernel
theorem dX6_judge_13 : decode cX6_judge 13 = .ok (.ireturn, 1) := by decide +kernel
theorem dX6_judge_14 : decode cX6_judge 14 = .ok (.aload_n 0, 1) := by decide +kernel
theorem dX6_judge_15 : decode cX6_judge 15 = .ok (.getfield 36, 3) := by decide +kernel
theorem dX6_judge_18 : decode cX6_judge 18 = .ok (.iload_n 1, 1) := by decide +kernel
theorem dX6_judge_19 : decode cX6_judge 19 = .ok (.aaload, 1) := by decide +kernel
theorem dX6_judge_20 : decode cX6_judge 20 = .ok (.astore_n 2, 1) := by decide +kernel
theorem dX6_judge_21 : decode cX6_judge 21 = .ok (.aload_n 2, 1) := by decide +kernel
theorem dX6_judge_22 : decode cX6_judge 22 = .ok (.invokevirtual 253, 3) := by decide +kernel
theorem dX6_judge_25 : decode cX6_judge 25 = .ok (.ifCond .eq 10, 3) := by decide +kernel
theorem dX6_judge_28 : decode cX6_judge 28 = .ok (.aload_n 0, 1) := by decide +kernel
theorem dX6_judge_29 : decode cX6_judge 29 = .ok (.ldc 240, 2) := by decide +kernel
theorem dX6_judge_31 : decode cX6_judge 31 = .ok (.invokevirtual 57, 3) := by decide +kernel
theorem dX6_judge_34 : decode cX6_judge 34 = .ok (.ireturn, 1) := by decide +kernel
theorem dX6_judge_35 : decode cX6_judge 35 = .ok (.aload_n 0, 1) := by decide +kernel
theorem dX6_judge_36 : decode cX6_judge 36 = .ok (.getfield 12, 3) := by decide +kernel
theorem dX6_judge_39 : decode cX6_judge 39 = .ok (.getfield 61, 3) := by decide +kernel
theorem dX6_judge_42 : decode cX6_judge 42 = .ok (.astore_n 3, 1) := by decide +kernel
theorem dX6_judge_43 : decode cX6_judge 43 = .ok (.lconst 0, 1) := by decide +kernel
theorem dX6_judge_44 : decode cX6_judge 44 = .ok (.lstore 4, 2) := by decide +kernel
theorem dX6_judge_46 : decode cX6_judge 46 = .ok (.iconst 0, 1) := by decide +kernel
theorem dX6_judge_47 : decode cX6_judge 47 = .ok (.istore 6, 2) := by decide +kernel
theorem dX6_judge_49 : decode cX6_judge 49 = .ok (.iload 6, 2) := by decide +kernel
theorem dX6_judge_51 : decode cX6_judge 51 = .ok (.aload_n 2, 1) := by decide +kernel
theorem dX6_judge_52 : decode cX6_judge 52 = .ok (.getfield 256, 3) := by decide +kernel
theorem dX6_judge_55 : decode cX6_judge 55 = .ok (.if_icmp .ge 54, 3) := by decide +kernel
theorem dX6_judge_58 : decode cX6_judge 58 = .ok (.aload_n 2, 1) := by decide +kernel
theorem dX6_judge_59 : decode cX6_judge 59 = .ok (.getfield 267, 3) := by decide +kernel
theorem dX6_judge_62 : decode cX6_judge 62 = .ok (.iload 6, 2) := by decide +kernel
theorem dX6_judge_64 : decode cX6_judge 64 = .ok (.iaload, 1) := by decide +kernel
theorem dX6_judge_65 : decode cX6_judge 65 = .ok (.istore 7, 2) := by decide +kernel
theorem dX6_judge_67 : decode cX6_judge 67 = .ok (.aload_n 3, 1) := by decide +kernel
theorem dX6_judge_68 : decode cX6_judge 68 = .ok (.iload 7, 2) := by decide +kernel
theorem dX6_judge_70 : decode cX6_judge 70 = .ok (.invokevirtual 80, 3) := by decide +kernel
theorem dX6_judge_73 : decode cX6_judge 73 = .ok (.ifCond .eq 14, 3) := by decide +kernel
theorem dX6_judge_76 : decode cX6_judge 76 = .ok (.aload_n 3, 1) := by decide +kernel
theorem dX6_judge_77 : decode cX6_judge 77 = .ok (.iload 7, 2) := by decide +kernel
theorem dX6_judge_79 : decode cX6_judge 79 = .ok (.lload 4, 2) := by decide +kernel
theorem dX6_judge_81 : decode cX6_judge 81 = .ok (.invokevirtual 281, 3) := by decide +kernel
theorem dX6_judge_84 : decode cX6_judge 84 = .ok (.ifCond .ne 8, 3) := by decide +kernel
theorem dX6_judge_87 : decode cX6_judge 87 = .ok (.iconst 1, 1) := by decide +kernel
theorem dX6_judge_88 : decode cX6_judge 88 = .ok (.iload 6, 2) := by decide +kernel
theorem dX6_judge_90 : decode cX6_judge 90 = .ok (.iadd, 1) := by decide +kernel
theorem dX6_judge_91 : decode cX6_judge 91 = .ok (.ireturn, 1) := by decide +kernel
theorem dX6_judge_92 : decode cX6_judge 92 = .ok (.lload 4, 2) := by decide +kernel
theorem dX6_judge_94 : decode cX6_judge 94 = .ok (.aload_n 3, 1) := by decide +kernel
theorem dX6_judge_95 : decode cX6_judge 95 = .ok (.iload 7, 2) := by decide +kernel
theorem dX6_judge_97 : decode cX6_judge 97 = .ok (.invokevirtual 99, 3) := by decide +kernel
theorem dX6_judge_100 : decode cX6_judge 100 = .ok (.lor, 1) := by decide +kernel
theorem dX6_judge_101 : decode cX6_judge 101 = .ok (.lstore 4, 2) := by decide +kernel
theorem dX6_judge_103 : decode cX6_judge 103 = .ok (.iinc 6 1, 3) := by decide +kernel
theorem dX6_judge_106 : decode cX6_judge 106 = .ok (.goto (-57), 3) := by decide +kernel
theorem dX6_judge_109 : decode cX6_judge 109 = .ok (.lload 4, 2) := by decide +kernel
theorem dX6_judge_111 : decode cX6_judge 111 = .ok (.aload_n 3, 1) := by decide +kernel
theorem dX6_judge_112 : decode cX6_judge 112 = .ok (.invokevirtual 191, 3) := by decide +kernel
theorem dX6_judge_115 : decode cX6_judge 115 = .ok (.lcmp, 1) := by decide +kernel
theorem dX6_judge_116 : decode cX6_judge 116 = .ok (.ifCond .ne 7, 3) := by decide +kernel
theorem dX6_judge_119 : decode cX6_judge 119 = .ok (.iconst 0, 1) := by decide +kernel
theorem dX6_judge_120 : decode cX6_judge 120 = .ok (.goto 5, 3) := by decide +kernel
theorem dX6_judge_123 : decode cX6_judge 123 = .ok (.bipush 41, 2) := by decide +kernel
theorem dX6_judge_125 : decode cX6_judge 125 = .ok (.ireturn, 1) := by decide +kernel
set_option maxRecDepth 20000 in
theorem ggX6_image_X1_copyFrom : GoodIn wsX6_image wsX1_copyFrom := goodIn_r _ [8, 9, 10, 11, 12, 13, 14, 15, 16, 17, 18, 19, 20, 21, 22, 23, 24, 25, 26, 27, 28, 29, 30, 31, 32, 33, 34, 35, 36, 37, 38, 39, 40, 49, 50, 51, 52, 53, 54, 55, 56, 57, 58, 59, 60, 61, 62, 63, 64, 65, 66] (by decide +kernel) (by decide +kernel)
set_option maxRecDepth 20000 in
theorem gX6_image_X1_copyFrom : GoodIn wsX6_image (wsV RX6 230 RX1 yX1_copyFrom wsX1_copyFrom) := goodIn_app (goodIn_of _ (by decide +kernel)) ggX6_image_X1_copyFrom
theorem dX6_image_0 : decode cX6_image 0 = .ok (.aload_n 0, 1) := by decide +kernel
theorem dX6_image_1 : decode cX6_image 1 = .ok (.getfield 16, 3) := by decide +kernel
theorem dX6_image_4 : decode cX6_image 4 = .ok (.aload_n 0, 1) := by decide +kernel
theorem dX6_image_5 : decode cX6_image 5 = .ok (.getfield 12, 3) := by decide +kernel
theorem dX6_image_8 : decode cX6_image 8 = .ok (.invokevirtual 230, 3) := by decide +kernel
theorem dX6_image_11 : decode cX6_image 11 = .ok (.aload_n 0, 1) := by decide +kernel
theorem dX6_image_12 : decode cX6_image 12 = .ok (.iconst 1, 1) := by decide +kernel
theorem dX6_image_13 : decode cX6_image 13 = .ok (.putfield 285, 3) := by decide +kernel
theorem dX6_image_16 : decode cX6_image 16 = .ok (.iconst 1, 1) := by decide +kernel
theorem dX6_image_17 : decode cX6_image 17 = .ok (.ireturn, 1) := by decide +kernel
set_option maxRecDepth 20000 in
theorem ggX6_undo_X6_tell : GoodIn wsX6_undo wsX6_tell := goodIn_r _ [10, 11, 12, 13, 14, 9, 15, 53, 54, 55, 56, 57, 58, 59, 60] (by decide +kernel) (by decide +kernel)
set_option maxRecDepth 20000 in
theorem gX6_undo_X6_tell : GoodIn wsX6_undo (wsV RX6 57 RX6 yX6_tell wsX6_tell) := goodIn_app (goodIn_of _ (by decide +kernel)) ggX6_undo_X6_tell
set_option maxRecDepth 20000 in
theorem ggX6_undo_X1_copyFrom : GoodIn wsX6_undo wsX1_copyFrom := goodIn_r _ [20, 21, 22, 23, 24, 25, 26, 27, 28, 29, 30, 31, 32, 33, 34, 35, 36, 37, 38, 39, 40, 41, 42, 43, 44, 45, 46, 47, 48, 49, 50, 51, 52, 61, 62, 63, 64, 65, 66, 67, 68, 69, 70, 71, 72, 73, 74, 75, 76, 77, 78] (by decide +kernel) (by decide +kernel)
set_option maxRecDepth 20000 in
theorem gX6_undo_X1_copyFrom : GoodIn wsX6_undo (wsV RX6 230 RX1 yX1_copyFrom wsX1_copyFrom) := goodIn_app (goodIn_of _ (by decide +kernel)) ggX6_undo_X1_copyFrom
theorem dX6_undo_0 : decode cX6_undo 0 = .ok (.aload_n 0, 1) := by decide +kernel
theorem dX6_undo_1 : decode cX6_undo 1 = .ok (.getfield 285, 3) := by decide +kernel
theorem dX6_undo_4 : decode cX6_undo 4 = .ok (.ifCond .ne 10, 3) := by decide +kernel
theorem dX6_undo_7 : decode cX6_undo 7 = .ok (.aload_n 0, 1) := by decide +kernel
theorem dX6_undo_8 : decode cX6_undo 8 = .ok (.ldc 184, 2) := by decide +kernel
theorem dX6_undo_10 : decode cX6_undo 10 = .ok (.invokevirtual 57, 3) := by decide +kernel
theorem dX6_undo_13 : decode cX6_undo 13 = .ok (.ireturn, 1) := by decide +kernel
theorem dX6_undo_14 : decode cX6_undo 14 = .ok (.aload_n 0, 1) := by decide +kernel
theorem dX6_undo_15 : decode cX6_undo 15 = .ok (.getfield 12, 3) := by decide +kernel
theorem dX6_undo_18 : decode cX6_undo 18 = .ok (.aload_n 0, 1) := by decide +kernel
theorem dX6_undo_19 : decode cX6_undo 19 = .ok (.getfield 16, 3) := by decide +kernel
theorem dX6_undo_22 : decode cX6_undo 22 = .ok (.invokevirtual 230, 3) := by decide +kernel
theorem dX6_undo_25 : decode cX6_undo 25 = .ok (.aload_n 0, 1) := by decide +kernel
theorem dX6_undo_26 : decode cX6_undo 26 = .ok (.getfield 12, 3) := by decide +kernel
theorem dX6_undo_29 : decode cX6_undo 29 = .ok (.getfield 289, 3) := by decide +kernel
theorem dX6_undo_32 : decode cX6_undo 32 = .ok (.ireturn, 1) := by decide +kernel
theorem dX6_tear_0 : decode cX6_tear 0 = .ok (.aload_n 0, 1) := by decide +kernel
theorem dX6_tear_1 : decode cX6_tear 1 = .ok (.getfield 285, 3) := by decide +kernel
theorem dX6_tear_4 : decode cX6_tear 4 = .ok (.ifCond .eq 7, 3) := by decide +kernel
theorem dX6_tear_7 : decode cX6_tear 7 = .ok (.iconst 1, 1) := by decide +kernel
theorem dX6_tear_8 : decode cX6_tear 8 = .ok (.goto 4, 3) := by decide +kernel
theorem dX6_tear_11 : decode cX6_tear 11 = .ok (.iconst 0, 1) := by decide +kernel
theorem dX6_tear_12 : decode cX6_tear 12 = .ok (.istore_n 1, 1) := by decide +kernel
theorem dX6_tear_13 : decode cX6_tear 13 = .ok (.aload_n 0, 1) := by decide +kernel
theorem dX6_tear_14 : decode cX6_tear 14 = .ok (.iconst 0, 1) := by decide +kernel
theorem dX6_tear_15 : decode cX6_tear 15 = .ok (.putfield 285, 3) := by decide +kernel
theorem dX6_tear_18 : decode cX6_tear 18 = .ok (.iload_n 1, 1) := by decide +kernel
theorem dX6_tear_19 : decode cX6_tear 19 = .ok (.ireturn, 1) := by decide +kernel
set_option maxRecDepth 20000 in
theorem ggX6_count_X5_goneSet : GoodIn wsX6_count wsX5_goneSet := goodIn_r _ [15, 16, 17, 18, 19, 14, 20, 21, 60, 61, 62, 63, 64] (by decide +kernel) (by decide +kernel)
set_option maxRecDepth 20000 in
theorem gX6_count_X5_goneSet : GoodIn wsX6_count (wsV RX6 178 RX5 yX5_goneSet wsX5_goneSet) := goodIn_app (goodIn_of _ (by decide +kernel)) ggX6_count_X5_goneSet
set_option maxRecDepth 20000 in
theorem ggX6_count_J6_bitCount_0f7a4 : GoodIn wsX6_count wsJ6_bitCount_0f7a4 := goodIn_r _ [25, 26, 27, 28] (by decide +kernel) (by decide +kernel)
set_option maxRecDepth 20000 in
theorem gX6_count_J6_bitCount_0f7a4 : GoodIn wsX6_count (va_wsS RX6 292 yJ6_bitCount_0f7a4 wsJ6_bitCount_0f7a4) := goodIn_app (goodIn_of _ (by decide +kernel)) ggX6_count_J6_bitCount_0f7a4
set_option maxRecDepth 20000 in
theorem ggX6_count_X5_allGrains : GoodIn wsX6_count wsX5_allGrains := goodIn_r _ [32, 16, 33, 60, 61, 62, 63, 64] (by decide +kernel) (by decide +kernel)
set_option maxRecDepth 20000 in
theorem gX6_count_X5_allGrains : GoodIn wsX6_count (wsV RX6 169 RX5 yX5_allGrains wsX5_allGrains) := goodIn_app (goodIn_of _ (by decide +kernel)) ggX6_count_X5_allGrains
set_option maxRecDepth 20000 in
theorem ggX6_count_X6_tell : GoodIn wsX6_count wsX6_tell := goodIn_r _ [38, 10, 39, 40, 41, 37, 42, 43, 44, 45, 46, 47, 48, 49, 50] (by decide +kernel) (by decide +kernel)
set_option maxRecDepth 20000 in
theorem gX6_count_X6_tell : GoodIn wsX6_count (wsV RX6 57 RX6 yX6_tell wsX6_tell) := goodIn_app (goodIn_of _ (by decide +kernel)) ggX6_count_X6_tell
theorem dX6_count_0 : decode cX6_count 0 = .ok (.iload_n 1, 1) := by decide +kernel
theorem dX6_count_1 : decode cX6_count 1 = .ok (.tableswitch 123 0 7 #[47, 55, 66, 80, 91, 99, 107, 115], 47) := by decide +kernel
theorem dX6_count_48 : decode cX6_count 48 = .ok (.aload_n 0, 1) := by decide +kernel
theorem dX6_count_49 : decode cX6_count 49 = .ok (.getfield 12, 3) := by decide +kernel
theorem dX6_count_52 : decode cX6_count 52 = .ok (.getfield 289, 3) := by decide +kernel
theorem dX6_count_55 : decode cX6_count 55 = .ok (.ireturn, 1) := by decide +kernel
theorem dX6_count_56 : decode cX6_count 56 = .ok (.aload_n 0, 1) := by decide +kernel
theorem dX6_count_57 : decode cX6_count 57 = .ok (.getfield 12, 3) := by decide +kernel
theorem dX6_count_60 : decode cX6_count 60 = .ok (.getfield 61, 3) := by decide +kernel
theorem dX6_count_63 : decode cX6_count 63 = .ok (.getfield 188, 3) := by decide +kernel
theorem dX6_count_66 : decode cX6_count 66 = .ok (.ireturn, 1) := by decide +kernel
theorem dX6_count_67 : decode cX6_count 67 = .ok (.aload_n 0, 1) := by decide +kernel
theorem dX6_count_68 : decode cX6_count 68 = .ok (.getfield 12, 3) := by decide +kernel
theorem dX6_count_71 : decode cX6_count 71 = .ok (.getfield 61, 3) := by decide +kernel
theorem dX6_count_74 : decode cX6_count 74 = .ok (.invokevirtual 178, 3) := by decide +kernel
theorem dX6_count_77 : decode cX6_count 77 = .ok (.invokestatic 292, 3) := by decide +kernel
theorem dX6_count_80 : decode cX6_count 80 = .ok (.ireturn, 1) := by decide +kernel
theorem dX6_count_81 : decode cX6_count 81 = .ok (.aload_n 0, 1) := by decide +kernel
theorem dX6_count_82 : decode cX6_count 82 = .ok (.getfield 12, 3) := by decide +kernel
theorem dX6_count_85 : decode cX6_count 85 = .ok (.getfield 61, 3) := by decide +kernel
theorem dX6_count_88 : decode cX6_count 88 = .ok (.invokevirtual 169, 3) := by decide +kernel
theorem dX6_count_91 : decode cX6_count 91 = .ok (.ireturn, 1) := by decide +kernel
theorem dX6_count_92 : decode cX6_count 92 = .ok (.aload_n 0, 1) := by decide +kernel
theorem dX6_count_93 : decode cX6_count 93 = .ok (.getfield 12, 3) := by decide +kernel
theorem dX6_count_96 : decode cX6_count 96 = .ok (.getfield 172, 3) := by decide +kernel
theorem dX6_count_99 : decode cX6_count 99 = .ok (.ireturn, 1) := by decide +kernel
theorem dX6_count_100 : decode cX6_count 100 = .ok (.aload_n 0, 1) := by decide +kernel
theorem dX6_count_101 : decode cX6_count 101 = .ok (.getfield 12, 3) := by decide +kernel
theorem dX6_count_104 : decode cX6_count 104 = .ok (.getfield 175, 3) := by decide +kernel
theorem dX6_count_107 : decode cX6_count 107 = .ok (.ireturn, 1) := by decide +kernel
theorem dX6_count_108 : decode cX6_count 108 = .ok (.aload_n 0, 1) := by decide +kernel
theorem dX6_count_109 : decode cX6_count 109 = .ok (.getfield 33, 3) := by decide +kernel
theorem dX6_count_112 : decode cX6_count 112 = .ok (.getfield 217, 3) := by decide +kernel
theorem dX6_count_115 : decode cX6_count 115 = .ok (.ireturn, 1) := by decide +kernel
theorem dX6_count_116 : decode cX6_count 116 = .ok (.aload_n 0, 1) := by decide +kernel
theorem dX6_count_117 : decode cX6_count 117 = .ok (.getfield 12, 3) := by decide +kernel
theorem dX6_count_120 : decode cX6_count 120 = .ok (.getfield 214, 3) := by decide +kernel
theorem dX6_count_123 : decode cX6_count 123 = .ok (.ireturn, 1) := by decide +kernel
theorem dX6_count_124 : decode cX6_count 124 = .ok (.aload_n 0, 1) := by decide +kernel
theorem dX6_count_125 : decode cX6_count 125 = .ok (.ldc 56, 2) := by decide +kernel
theorem dX6_count_127 : decode cX6_count 127 = .ok (.invokevirtual 57, 3) := by decide +kernel
theorem dX6_count_130 : decode cX6_count 130 = .ok (.ireturn, 1) := by decide +kernel
set_option maxRecDepth 20000 in
theorem ggX6_status_X6_isWithin : GoodIn wsX6_status wsX6_isWithin := goodIn_r _ [6] (by decide +kernel) (by decide +kernel)
set_option maxRecDepth 20000 in
theorem gX6_status_X6_isWithin : GoodIn wsX6_status (va_wsS RX6 52 yX6_isWithin wsX6_isWithin) := goodIn_app (goodIn_of _ (by decide +kernel)) ggX6_status_X6_isWithin
set_option maxRecDepth 20000 in
theorem ggX6_status_X6_tell : GoodIn wsX6_status wsX6_tell := goodIn_r _ [10, 1, 2, 3, 4, 5, 6, 11, 12, 13, 14, 15, 16, 17, 18] (by decide +kernel) (by decide +kernel)
set_option maxRecDepth 20000 in
theorem gX6_status_X6_tell : GoodIn wsX6_status (wsV RX6 57 RX6 yX6_tell wsX6_tell) := goodIn_app (goodIn_of _ (by decide +kernel)) ggX6_status_X6_tell
theorem dX6_status_0 : decode cX6_status 0 = .ok (.iload_n 1, 1) := by decide +kernel
theorem dX6_status_1 : decode cX6_status 1 = .ok (.iconst (-1), 1) := by decide +kernel
theorem dX6_status_2 : decode cX6_status 2 = .ok (.bipush 6, 2) := by decide +kernel
theorem dX6_status_4 : decode cX6_status 4 = .ok (.invokestatic 52, 3) := by decide +kernel
theorem dX6_status_7 : decode cX6_status 7 = .ok (.ifCond .ne 10, 3) := by decide +kernel
theorem dX6_status_10 : decode cX6_status 10 = .ok (.aload_n 0, 1) := by decide +kernel
theorem dX6_status_11 : decode cX6_status 11 = .ok (.ldc 56, 2) := by decide +kernel
theorem dX6_status_13 : decode cX6_status 13 = .ok (.invokevirtual 57, 3) := by decide +kernel
theorem dX6_status_16 : decode cX6_status 16 = .ok (.ireturn, 1) := by decide +kernel
theorem dX6_status_17 : decode cX6_status 17 = .ok (.iload_n 1, 1) := by decide +kernel
theorem dX6_status_18 : decode cX6_status 18 = .ok (.ifCond .lt 10, 3) := by decide +kernel
theorem dX6_status_21 : decode cX6_status 21 = .ok (.aload_n 0, 1) := by decide +kernel
theorem dX6_status_22 : decode cX6_status 22 = .ok (.getfield 40, 3) := by decide +kernel
theorem dX6_status_25 : decode cX6_status 25 = .ok (.iload_n 1, 1) := by decide +kernel
theorem dX6_status_26 : decode cX6_status 26 = .ok (.iaload, 1) := by decide +kernel
theorem dX6_status_27 : decode cX6_status 27 = .ok (.ireturn, 1) := by decide +kernel
theorem dX6_status_28 : decode cX6_status 28 = .ok (.iconst 0, 1) := by decide +kernel
theorem dX6_status_29 : decode cX6_status 29 = .ok (.istore_n 2, 1) := by decide +kernel
theorem dX6_status_30 : decode cX6_status 30 = .ok (.iconst 0, 1) := by decide +kernel
theorem dX6_status_31 : decode cX6_status 31 = .ok (.istore_n 3, 1) := by decide +kernel
theorem dX6_status_32 : decode cX6_status 32 = .ok (.iload_n 3, 1) := by decide +kernel
theorem dX6_status_33 : decode cX6_status 33 = .ok (.bipush 7, 2) := by decide +kernel
theorem dX6_status_35 : decode cX6_status 35 = .ok (.if_icmp .ge 18, 3) := by decide +kernel
theorem dX6_status_38 : decode cX6_status 38 = .ok (.iload_n 2, 1) := by decide +kernel
theorem dX6_status_39 : decode cX6_status 39 = .ok (.aload_n 0, 1) := by decide +kernel
theorem dX6_status_40 : decode cX6_status 40 = .ok (.getfield 40, 3) := by decide +kernel
theorem dX6_status_43 : decode cX6_status 43 = .ok (.iload_n 3, 1) := by decide +kernel
theorem dX6_status_44 : decode cX6_status 44 = .ok (.iaload, 1) := by decide +kernel
theorem dX6_status_45 : decode cX6_status 45 = .ok (.iadd, 1) := by decide +kernel
theorem dX6_status_46 : decode cX6_status 46 = .ok (.istore_n 2, 1) := by decide +kernel
theorem dX6_status_47 : decode cX6_status 47 = .ok (.iinc 3 1, 3) := by decide +kernel
theorem dX6_status_50 : decode cX6_status 50 = .ok (.goto (-18), 3) := by decide +kernel
theorem dX6_status_53 : decode cX6_status 53 = .ok (.iload_n 2, 1) := by decide +kernel
theorem dX6_status_54 : decode cX6_status 54 = .ok (.ireturn, 1) := by decide +kernel
set_option maxRecDepth 20000 in
theorem ggX6_tell_X6_isWithin : GoodIn wsX6_tell wsX6_isWithin := goodIn_r _ [6] (by decide +kernel) (by decide +kernel)
set_option maxRecDepth 20000 in
theorem gX6_tell_X6_isWithin : GoodIn wsX6_tell (va_wsS RX6 52 yX6_isWithin wsX6_isWithin) := goodIn_app (goodIn_of _ (by decide +kernel)) ggX6_tell_X6_isWithin
theorem dX6_tell_0 : decode cX6_tell 0 = .ok (.ldc 56, 2) := by decide +kernel
theorem dX6_tell_2 : decode cX6_tell 2 = .ok (.iload_n 1, 1) := by decide +kernel
theorem dX6_tell_3 : decode cX6_tell 3 = .ok (.isub, 1) := by decide +kernel
theorem dX6_tell_4 : decode cX6_tell 4 = .ok (.istore_n 2, 1) := by decide +kernel
theorem dX6_tell_5 : decode cX6_tell 5 = .ok (.iload_n 2, 1) := by decide +kernel
theorem dX6_tell_6 : decode cX6_tell 6 = .ok (.iconst 0, 1) := by decide +kernel
theorem dX6_tell_7 : decode cX6_tell 7 = .ok (.bipush 6, 2) := by decide +kernel
theorem dX6_tell_9 : decode cX6_tell 9 = .ok (.invokestatic 52, 3) := by decide +kernel
theorem dX6_tell_12 : decode cX6_tell 12 = .ok (.ifCond .eq 13, 3) := by decide +kernel
theorem dX6_tell_15 : decode cX6_tell 15 = .ok (.aload_n 0, 1) := by decide +kernel
theorem dX6_tell_16 : decode cX6_tell 16 = .ok (.getfield 40, 3) := by decide +kernel
theorem dX6_tell_19 : decode cX6_tell 19 = .ok (.iload_n 2, 1) := by decide +kernel
theorem dX6_tell_20 : decode cX6_tell 20 = .ok (.dup2, 1) := by decide +kernel
theorem dX6_tell_21 : decode cX6_tell 21 = .ok (.iaload, 1) := by decide +kernel
theorem dX6_tell_22 : decode cX6_tell 22 = .ok (.iconst 1, 1) := by decide +kernel
theorem dX6_tell_23 : decode cX6_tell 23 = .ok (.iadd, 1) := by decide +kernel
theorem dX6_tell_24 : decode cX6_tell 24 = .ok (.iastore, 1) := by decide +kernel
theorem dX6_tell_25 : decode cX6_tell 25 = .ok (.iload_n 1, 1) := by decide +kernel
theorem dX6_tell_26 : decode cX6_tell 26 = .ok (.ireturn, 1) := by decide +kernel
theorem dX6_hasHours_0 : decode cX6_hasHours 0 = .ok (.aload_n 0, 1) := by decide +kernel
theorem dX6_hasHours_1 : decode cX6_hasHours 1 = .ok (.getfield 12, 3) := by decide +kernel
theorem dX6_hasHours_4 : decode cX6_hasHours 4 = .ok (.getfield 289, 3) := by decide +kernel
theorem dX6_hasHours_7 : decode cX6_hasHours 7 = .ok (.iload_n 1, 1) := by decide +kernel
theorem dX6_hasHours_8 : decode cX6_hasHours 8 = .ok (.iadd, 1) := by decide +kernel
theorem dX6_hasHours_9 : decode cX6_hasHours 9 = .ok (.sipush 9999, 3) := by decide +kernel
theorem dX6_hasHours_12 : decode cX6_hasHours 12 = .ok (.if_icmp .gt 7, 3) := by decide +kernel
theorem dX6_hasHours_15 : decode cX6_hasHours 15 = .ok (.iconst 1, 1) := by decide +kernel
theorem dX6_hasHours_16 : decode cX6_hasHours 16 = .ok (.goto 4, 3) := by decide +kernel
theorem dX6_hasHours_19 : decode cX6_hasHours 19 = .ok (.iconst 0, 1) := by decide +kernel
theorem dX6_hasHours_20 : decode cX6_hasHours 20 = .ok (.ireturn, 1) := by decide +kernel
set_option maxRecDepth 20000 in
theorem ggX6_freshTrial_X1_copyFrom : GoodIn wsX6_freshTrial wsX1_copyFrom := goodIn_r _ [7, 8, 9, 10, 11, 12, 13, 14, 15, 16, 17, 18, 19, 20, 21, 22, 23, 24, 25, 26, 27, 28, 29, 30, 31, 32, 33, 34, 35, 36, 37, 38, 39, 48, 49, 50, 51, 52, 53, 54, 55, 56, 57, 58, 59, 60, 61, 62, 63, 64, 65] (by decide +kernel) (by decide +kernel)
set_option maxRecDepth 20000 in
theorem gX6_freshTrial_X1_copyFrom : GoodIn wsX6_freshTrial (wsV RX6 230 RX1 yX1_copyFrom wsX1_copyFrom) := goodIn_app (goodIn_of _ (by decide +kernel)) ggX6_freshTrial_X1_copyFrom
theorem dX6_freshTrial_0 : decode cX6_freshTrial 0 = .ok (.aload_n 0, 1) := by decide +kernel
theorem dX6_freshTrial_1 : decode cX6_freshTrial 1 = .ok (.getfield 19, 3) := by decide +kernel
theorem dX6_freshTrial_4 : decode cX6_freshTrial 4 = .ok (.aload_n 0, 1) := by decide +kernel
theorem dX6_freshTrial_5 : decode cX6_freshTrial 5 = .ok (.getfield 12, 3) := by decide +kernel
theorem dX6_freshTrial_8 : decode cX6_freshTrial 8 = .ok (.invokevirtual 230, 3) := by decide +kernel
theorem dX6_freshTrial_11 : decode cX6_freshTrial 11 = .ok (.aload_n 0, 1) := by decide +kernel
theorem dX6_freshTrial_12 : decode cX6_freshTrial 12 = .ok (.getfield 19, 3) := by decide +kernel
theorem dX6_freshTrial_15 : decode cX6_freshTrial 15 = .ok (.areturn, 1) := by decide +kernel
theorem dX6_isWithin_0 : decode cX6_isWithin 0 = .ok (.iload_n 0, 1) := by decide +kernel
theorem dX6_isWithin_1 : decode cX6_isWithin 1 = .ok (.iload_n 1, 1) := by decide +kernel
theorem dX6_isWithin_2 : decode cX6_isWithin 2 = .ok (.if_icmp .lt 12, 3) := by decide +kernel
theorem dX6_isWithin_5 : decode cX6_isWithin 5 = .ok (.iload_n 0, 1) := by decide +kernel
theorem dX6_isWithin_6 : decode cX6_isWithin 6 = .ok (.iload_n 2, 1) := by decide +kernel
theorem dX6_isWithin_7 : decode cX6_isWithin 7 = .ok (.if_icmp .gt 7, 3) := by decide +kernel
theorem dX6_isWithin_10 : decode cX6_isWithin 10 = .ok (.iconst 1, 1) := by decide +kernel
theorem dX6_isWithin_11 : decode cX6_isWithin 11 = .ok (.goto 4, 3) := by decide +kernel
theorem dX6_isWithin_14 : decode cX6_isWithin 14 = .ok (.iconst 0, 1) := by decide +kernel
theorem dX6_isWithin_15 : decode cX6_isWithin 15 = .ok (.ireturn, 1) := by decide +kernel
set_option maxRecDepth 20000 in
theorem ggX6_isKind_X6_isWithin : GoodIn wsX6_isKind wsX6_isWithin := goodIn_r _ [4] (by decide +kernel) (by decide +kernel)
set_option maxRecDepth 20000 in
theorem gX6_isKind_X6_isWithin : GoodIn wsX6_isKind (va_wsS RX6 52 yX6_isWithin wsX6_isWithin) := goodIn_app (goodIn_of _ (by decide +kernel)) ggX6_isKind_X6_isWithin
theorem dX6_isKind_0 : decode cX6_isKind 0 = .ok (.iload_n 0, 1) := by decide +kernel
theorem dX6_isKind_1 : decode cX6_isKind 1 = .ok (.iconst 0, 1) := by decide +kernel
theorem dX6_isKind_2 : decode cX6_isKind 2 = .ok (.bipush 6, 2) := by decide +kernel
theorem dX6_isKind_4 : decode cX6_isKind 4 = .ok (.invokestatic 52, 3) := by decide +kernel
theorem dX6_isKind_7 : decode cX6_isKind 7 = .ok (.ireturn, 1) := by decide +kernel
set_option maxRecDepth 20000 in
theorem ggX6_isCell_X6_isWithin : GoodIn wsX6_isCell wsX6_isWithin := goodIn_r _ [4] (by decide +kernel) (by decide +kernel)
set_option maxRecDepth 20000 in
theorem gX6_isCell_X6_isWithin : GoodIn wsX6_isCell (va_wsS RX6 52 yX6_isWithin wsX6_isWithin) := goodIn_app (goodIn_of _ (by decide +kernel)) ggX6_isCell_X6_isWithin
theorem dX6_isCell_0 : decode cX6_isCell 0 = .ok (.iload_n 0, 1) := by decide +kernel
theorem dX6_isCell_1 : decode cX6_isCell 1 = .ok (.iconst 0, 1) := by decide +kernel
theorem dX6_isCell_2 : decode cX6_isCell 2 = .ok (.bipush 47, 2) := by decide +kernel
theorem dX6_isCell_4 : decode cX6_isCell 4 = .ok (.invokestatic 52, 3) := by decide +kernel
theorem dX6_isCell_7 : decode cX6_isCell 7 = .ok (.ireturn, 1) := by decide +kernel
set_option maxRecDepth 20000 in
theorem ggX6_isCandle_X6_isWithin : GoodIn wsX6_isCandle wsX6_isWithin := goodIn_r _ [4] (by decide +kernel) (by decide +kernel)
set_option maxRecDepth 20000 in
theorem gX6_isCandle_X6_isWithin : GoodIn wsX6_isCandle (va_wsS RX6 52 yX6_isWithin wsX6_isWithin) := goodIn_app (goodIn_of _ (by decide +kernel)) ggX6_isCandle_X6_isWithin
theorem dX6_isCandle_0 : decode cX6_isCandle 0 = .ok (.iload_n 0, 1) := by decide +kernel
theorem dX6_isCandle_1 : decode cX6_isCandle 1 = .ok (.iconst 0, 1) := by decide +kernel
theorem dX6_isCandle_2 : decode cX6_isCandle 2 = .ok (.iconst 5, 1) := by decide +kernel
theorem dX6_isCandle_3 : decode cX6_isCandle 3 = .ok (.invokestatic 52, 3) := by decide +kernel
theorem dX6_isCandle_6 : decode cX6_isCandle 6 = .ok (.ireturn, 1) := by decide +kernel
set_option maxRecDepth 20000 in
theorem ggX6_isTune_X6_isWithin : GoodIn wsX6_isTune wsX6_isWithin := goodIn_r _ [4] (by decide +kernel) (by decide +kernel)
set_option maxRecDepth 20000 in
theorem gX6_isTune_X6_isWithin : GoodIn wsX6_isTune (va_wsS RX6 52 yX6_isWithin wsX6_isWithin) := goodIn_app (goodIn_of _ (by decide +kernel)) ggX6_isTune_X6_isWithin
theorem dX6_isTune_0 : decode cX6_isTune 0 = .ok (.iload_n 0, 1) := by decide +kernel
theorem dX6_isTune_1 : decode cX6_isTune 1 = .ok (.iconst 2, 1) := by decide +kernel
theorem dX6_isTune_2 : decode cX6_isTune 2 = .ok (.bipush 9, 2) := by decide +kernel
theorem dX6_isTune_4 : decode cX6_isTune 4 = .ok (.invokestatic 52, 3) := by decide +kernel
theorem dX6_isTune_7 : decode cX6_isTune 7 = .ok (.ireturn, 1) := by decide +kernel
set_option maxRecDepth 20000 in
theorem ggX6_isSpot_X6_isWithin : GoodIn wsX6_isSpot wsX6_isWithin := goodIn_r _ [4] (by decide +kernel) (by decide +kernel)
set_option maxRecDepth 20000 in
theorem gX6_isSpot_X6_isWithin : GoodIn wsX6_isSpot (va_wsS RX6 52 yX6_isWithin wsX6_isWithin) := goodIn_app (goodIn_of _ (by decide +kernel)) ggX6_isSpot_X6_isWithin
theorem dX6_isSpot_0 : decode cX6_isSpot 0 = .ok (.iload_n 0, 1) := by decide +kernel
theorem dX6_isSpot_1 : decode cX6_isSpot 1 = .ok (.iconst 0, 1) := by decide +kernel
theorem dX6_isSpot_2 : decode cX6_isSpot 2 = .ok (.bipush 9, 2) := by decide +kernel
theorem dX6_isSpot_4 : decode cX6_isSpot 4 = .ok (.invokestatic 52, 3) := by decide +kernel
theorem dX6_isSpot_7 : decode cX6_isSpot 7 = .ok (.ireturn, 1) := by decide +kernel
set_option maxRecDepth 20000 in
theorem ggX6_isSheet_X6_isWithin : GoodIn wsX6_isSheet wsX6_isWithin := goodIn_r _ [4] (by decide +kernel) (by decide +kernel)
set_option maxRecDepth 20000 in
theorem gX6_isSheet_X6_isWithin : GoodIn wsX6_isSheet (va_wsS RX6 52 yX6_isWithin wsX6_isWithin) := goodIn_app (goodIn_of _ (by decide +kernel)) ggX6_isSheet_X6_isWithin
theorem dX6_isSheet_0 : decode cX6_isSheet 0 = .ok (.iload_n 0, 1) := by decide +kernel
theorem dX6_isSheet_1 : decode cX6_isSheet 1 = .ok (.iconst 0, 1) := by decide +kernel
theorem dX6_isSheet_2 : decode cX6_isSheet 2 = .ok (.iconst 3, 1) := by decide +kernel
theorem dX6_isSheet_3 : decode cX6_isSheet 3 = .ok (.invokestatic 52, 3) := by decide +kernel
theorem dX6_isSheet_6 : decode cX6_isSheet 6 = .ok (.ireturn, 1) := by decide +kernel
set_option maxRecDepth 20000 in
theorem ggX6_isUnder_X6_isKind : GoodIn wsX6_isUnder wsX6_isKind := goodIn_r _ [5, 6, 7, 4, 8] (by decide +kernel) (by decide +kernel)
set_option maxRecDepth 20000 in
theorem gX6_isUnder_X6_isKind : GoodIn wsX6_isUnder (va_wsS RX6 45 yX6_isKind wsX6_isKind) := goodIn_app (goodIn_of _ (by decide +kernel)) ggX6_isUnder_X6_isKind
theorem dX6_isUnder_0 : decode cX6_isUnder 0 = .ok (.iload_n 0, 1) := by decide +kernel
theorem dX6_isUnder_1 : decode cX6_isUnder 1 = .ok (.istore_n 2, 1) := by decide +kernel
theorem dX6_isUnder_2 : decode cX6_isUnder 2 = .ok (.iconst 0, 1) := by decide +kernel
theorem dX6_isUnder_3 : decode cX6_isUnder 3 = .ok (.istore_n 3, 1) := by decide +kernel
theorem dX6_isUnder_4 : decode cX6_isUnder 4 = .ok (.iload_n 3, 1) := by decide +kernel
theorem dX6_isUnder_5 : decode cX6_isUnder 5 = .ok (.bipush 7, 2) := by decide +kernel
theorem dX6_isUnder_7 : decode cX6_isUnder 7 = .ok (.if_icmp .ge 29, 3) := by decide +kernel
theorem dX6_isUnder_10 : decode cX6_isUnder 10 = .ok (.iload_n 2, 1) := by decide +kernel
theorem dX6_isUnder_11 : decode cX6_isUnder 11 = .ok (.invokestatic 45, 3) := by decide +kernel
theorem dX6_isUnder_14 : decode cX6_isUnder 14 = .ok (.ifCond .eq 22, 3) := by decide +kernel
theorem dX6_isUnder_17 : decode cX6_isUnder 17 = .ok (.iload_n 2, 1) := by decide +kernel
theorem dX6_isUnder_18 : decode cX6_isUnder 18 = .ok (.iload_n 1, 1) := by decide +kernel
theorem dX6_isUnder_19 : decode cX6_isUnder 19 = .ok (.if_icmp .ne 5, 3) := by decide +kernel
theorem dX6_isUnder_22 : decode cX6_isUnder 22 = .ok (.iconst 1, 1) := by decide +kernel
theorem dX6_isUnder_23 : decode cX6_isUnder 23 = .ok (.ireturn, 1) := by decide +kernel
theorem dX6_isUnder_24 : decode cX6_isUnder 24 = .ok (.getstatic 297, 3) := by decide +kernel
theorem dX6_isUnder_27 : decode cX6_isUnder 27 = .ok (.iload_n 2, 1) := by decide +kernel
theorem dX6_isUnder_28 : decode cX6_isUnder 28 = .ok (.iaload, 1) := by decide +kernel
theorem dX6_isUnder_29 : decode cX6_isUnder 29 = .ok (.istore_n 2, 1) := by decide +kernel
theorem dX6_isUnder_30 : decode cX6_isUnder 30 = .ok (.iinc 3 1, 3) := by decide +kernel
theorem dX6_isUnder_33 : decode cX6_isUnder 33 = .ok (.goto (-29), 3) := by decide +kernel
theorem dX6_isUnder_36 : decode cX6_isUnder 36 = .ok (.iconst 0, 1) := by decide +kernel
theorem dX6_isUnder_37 : decode cX6_isUnder 37 = .ok (.ireturn, 1) := by decide +kernel
theorem dX7_init_0 : decode cX7_init 0 = .ok (.aload_n 0, 1) := by decide +kernel
theorem dX7_init_1 : decode cX7_init 1 = .ok (.invokespecial 3, 3) := by decide +kernel
theorem dX7_init_4 : decode cX7_init 4 = .ok (.aload_n 0, 1) := by decide +kernel
theorem dX7_init_5 : decode cX7_init 5 = .ok (.bipush 82, 2) := by decide +kernel
theorem dX7_init_7 : decode cX7_init 7 = .ok (.newarray .int, 2) := by decide +kernel
theorem dX7_init_9 : decode cX7_init 9 = .ok (.putfield 9, 3) := by decide +kernel
theorem dX7_init_12 : decode cX7_init 12 = .ok (.aload_n 0, 1) := by decide +kernel
theorem dX7_init_13 : decode cX7_init 13 = .ok (.bipush 82, 2) := by decide +kernel
theorem dX7_init_15 : decode cX7_init 15 = .ok (.newarray .int, 2) := by decide +kernel
theorem dX7_init_17 : decode cX7_init 17 = .ok (.putfield 13, 3) := by decide +kernel
theorem dX7_init_20 : decode cX7_init 20 = .ok (.aload_n 0, 1) := by decide +kernel
theorem dX7_init_21 : decode cX7_init 21 = .ok (.bipush 82, 2) := by decide +kernel
theorem dX7_init_23 : decode cX7_init 23 = .ok (.newarray .int, 2) := by decide +kernel
theorem dX7_init_25 : decode cX7_init 25 = .ok (.putfield 16, 3) := by decide +kernel
theorem dX7_init_28 : decode cX7_init 28 = .ok (.aload_n 0, 1) := by decide +kernel
theorem dX7_init_29 : decode cX7_init 29 = .ok (.bipush 82, 2) := by decide +kernel
theorem dX7_init_31 : decode cX7_init 31 = .ok (.newarray .int, 2) := by decide +kernel
theorem dX7_init_33 : decode cX7_init 33 = .ok (.putfield 19, 3) := by decide +kernel
theorem dX7_init_36 : decode cX7_init 36 = .ok (.aload_n 0, 1) := by decide +kernel
theorem dX7_init_37 : decode cX7_init 37 = .ok (.bipush 7, 2) := by decide +kernel
theorem dX7_init_39 : decode cX7_init 39 = .ok (.newarray .int, 2) := by decide +kernel
theorem dX7_init_41 : decode cX7_init 41 = .ok (.putfield 22, 3) := by decide +kernel
theorem dX7_init_44 : decode cX7_init 44 = .ok (.aload_n 0, 1) := by decide +kernel
theorem dX7_init_45 : decode cX7_init 45 = .ok (.bipush 16, 2) := by decide +kernel
theorem dX7_init_47 : decode cX7_init 47 = .ok (.newarray .int, 2) := by decide +kernel
theorem dX7_init_49 : decode cX7_init 49 = .ok (.putfield 25, 3) := by decide +kernel
theorem dX7_init_52 : decode cX7_init 52 = .ok (.aload_n 0, 1) := by decide +kernel
theorem dX7_init_53 : decode cX7_init 53 = .ok (.bipush 8, 2) := by decide +kernel
theorem dX7_init_55 : decode cX7_init 55 = .ok (.newarray .int, 2) := by decide +kernel
theorem dX7_init_57 : decode cX7_init 57 = .ok (.putfield 28, 3) := by decide +kernel
theorem dX7_init_60 : decode cX7_init 60 = .ok (.aload_n 0, 1) := by decide +kernel
theorem dX7_init_61 : decode cX7_init 61 = .ok (.bipush 120, 2) := by decide +kernel
theorem dX7_init_63 : decode cX7_init 63 = .ok (.newarray .int, 2) := by decide +kernel
theorem dX7_init_65 : decode cX7_init 65 = .ok (.putfield 31, 3) := by decide +kernel
theorem dX7_init_68 : decode cX7_init 68 = .ok (.aload_n 0, 1) := by decide +kernel
theorem dX7_init_69 : decode cX7_init 69 = .ok (.iconst 4, 1) := by decide +kernel
theorem dX7_init_70 : decode cX7_init 70 = .ok (.newarray .int, 2) := by decide +kernel
theorem dX7_init_72 : decode cX7_init 72 = .ok (.putfield 34, 3) := by decide +kernel
theorem dX7_init_75 : decode cX7_init 75 = .ok (.aload_n 0, 1) := by decide +kernel
theorem dX7_init_76 : decode cX7_init 76 = .ok (.iconst 4, 1) := by decide +kernel
theorem dX7_init_77 : decode cX7_init 77 = .ok (.newarray .int, 2) := by decide +kernel
theorem dX7_init_79 : decode cX7_init 79 = .ok (.putfield 37, 3) := by decide +kernel
theorem dX7_init_82 : decode cX7_init 82 = .ok (.aload_n 0, 1) := by decide +kernel
theorem dX7_init_83 : decode cX7_init 83 = .ok (.sipush 160, 3) := by decide +kernel
theorem dX7_init_86 : decode cX7_init 86 = .ok (.newarray .int, 2) := by decide +kernel
theorem dX7_init_88 : decode cX7_init 88 = .ok (.putfield 40, 3) := by decide +kernel
theorem dX7_init_91 : decode cX7_init 91 = .ok (.aload_n 0, 1) := by decide +kernel
theorem dX7_init_92 : decode cX7_init 92 = .ok (.getfield 9, 3) := by decide +kernel
theorem dX7_init_95 : decode cX7_init 95 = .ok (.iconst 1, 1) := by decide +kernel
theorem dX7_init_96 : decode cX7_init 96 = .ok (.bipush (-5), 2) := by decide +kernel
theorem dX7_init_98 : decode cX7_init 98 = .ok (.iastore, 1) := by decide +kernel
theorem dX7_init_99 : decode cX7_init 99 = .ok (.aload_n 0, 1) := by decide +kernel
theorem dX7_init_100 : decode cX7_init 100 = .ok (.getfield 9, 3) := by decide +kernel
theorem dX7_init_103 : decode cX7_init 103 = .ok (.iconst 4, 1) := by decide +kernel
theorem dX7_init_104 : decode cX7_init 104 = .ok (.iconst 1, 1) := by decide +kernel
theorem dX7_init_105 : decode cX7_init 105 = .ok (.iastore, 1) := by decide +kernel
theorem dX7_init_106 : decode cX7_init 106 = .ok (.iconst 0, 1) := by decide +kernel
theorem dX7_init_107 : decode cX7_init 107 = .ok (.istore_n 1, 1) := by decide +kernel
theorem dX7_init_108 : decode cX7_init 108 = .ok (.iload_n 1, 1) := by decide +kernel
theorem dX7_init_109 : decode cX7_init 109 = .ok (.bipush 6, 2) := by decide +kernel
theorem dX7_init_111 : decode cX7_init 111 = .ok (.if_icmp .ge 23, 3) := by decide +kernel
theorem dX7_init_114 : decode cX7_init 114 = .ok (.aload_n 0, 1) := by decide +kernel
theorem dX7_init_115 : decode cX7_init 115 = .ok (.getfield 9, 3) := by decide +kernel
theorem dX7_init_118 : decode cX7_init 118 = .ok (.bipush 6, 2) := by decide +kernel
theorem dX7_init_120 : decode cX7_init 120 = .ok (.iconst 3, 1) := by decide +kernel
theorem dX7_init_121 : decode cX7_init 121 = .ok (.iload_n 1, 1) := by decide +kernel
theorem dX7_init_122 : decode cX7_init 122 = .ok (.imul, 1) := by decide +kernel
theorem dX7_init_123 : decode cX7_init 123 = .ok (.iadd, 1) := by decide +kernel
theorem dX7_init_124 : decode cX7_init 124 = .ok (.iconst 2, 1) := by decide +kernel
theorem dX7_init_125 : decode cX7_init 125 = .ok (.iadd, 1) := by decide +kernel
theorem dX7_init_126 : decode cX7_init 126 = .ok (.iconst 0, 1) := by decide +kernel
theorem dX7_init_127 : decode cX7_init 127 = .ok (.iastore, 1) := by decide +kernel
theorem dX7_init_128 : decode cX7_init 128 = .ok (.iinc 1 1, 3) := by decide +kernel
theorem dX7_init_131 : decode cX7_init 131 = .ok (.goto (-23), 3) := by decide +kernel
theorem dX7_init_134 : decode cX7_init 134 = .ok (.iconst 0, 1) := by decide +kernel
theorem dX7_init_135 : decode cX7_init 135 = .ok (.istore_n 1, 1) := by decide +kernel
theorem dX7_init_136 : decode cX7_init 136 = .ok (.iload_n 1, 1) := by decide +kernel
theorem dX7_init_137 : decode cX7_init 137 = .ok (.bipush 10, 2) := by decide +kernel
theorem dX7_init_139 : decode cX7_init 139 = .ok (.if_icmp .ge 19, 3) := by decide +kernel
theorem dX7_init_142 : decode cX7_init 142 = .ok (.aload_n 0, 1) := by decide +kernel
theorem dX7_init_143 : decode cX7_init 143 = .ok (.getfield 9, 3) := by decide +kernel
theorem dX7_init_146 : decode cX7_init 146 = .ok (.bipush 72, 2) := by decide +kernel
theorem dX7_init_148 : decode cX7_init 148 = .ok (.iload_n 1, 1) := by decide +kernel
theorem dX7_init_149 : decode cX7_init 149 = .ok (.iadd, 1) := by decide +kernel
theorem dX7_init_150 : decode cX7_init 150 = .ok (.iconst (-1), 1) := by decide +kernel
theorem dX7_init_151 : decode cX7_init 151 = .ok (.iastore, 1) := by decide +kernel
theorem dX7_init_152 : decode cX7_init 152 = .ok (.iinc 1 1, 3) := by decide +kernel
theorem dX7_init_155 : decode cX7_init 155 = .ok (.goto (-19), 3) := by decide +kernel
theorem dX7_init_158 : decode cX7_init 158 = .ok (.return_, 1) := by decide +kernel
theorem dX7_finds_0 : decode cX7_finds 0 = .ok (.aload_n 0, 1) := by decide +kernel
theorem dX7_finds_1 : decode cX7_finds 1 = .ok (.getfield 22, 3) := by decide +kernel
theorem dX7_finds_4 : decode cX7_finds 4 = .ok (.ldc 43, 2) := by decide +kernel
theorem dX7_finds_6 : decode cX7_finds 6 = .ok (.iload_n 1, 1) := by decide +kernel
theorem dX7_finds_7 : decode cX7_finds 7 = .ok (.isub, 1) := by decide +kernel
theorem dX7_finds_8 : decode cX7_finds 8 = .ok (.dup2, 1) := by decide +kernel
theorem dX7_finds_9 : decode cX7_finds 9 = .ok (.iaload, 1) := by decide +kernel
theorem dX7_finds_10 : decode cX7_finds 10 = .ok (.iconst 1, 1) := by decide +kernel
theorem dX7_finds_11 : decode cX7_finds 11 = .ok (.iadd, 1) := by decide +kernel
theorem dX7_finds_12 : decode cX7_finds 12 = .ok (.iastore, 1) := by decide +kernel
theorem dX7_finds_13 : decode cX7_finds 13 = .ok (.iload_n 1, 1) := by decide +kernel
theorem dX7_finds_14 : decode cX7_finds 14 = .ok (.ireturn, 1) := by decide +kernel
set_option maxRecDepth 20000 in
theorem ggX7_orNone_X7_finds : GoodIn wsX7_orNone wsX7_finds := goodIn_r _ [6, 7, 8, 9, 10, 11, 12, 13, 14, 15, 16, 17, 18, 19, 20, 21, 22, 23, 24, 25, 26] (by decide +kernel) (by decide +kernel)
set_option maxRecDepth 20000 in
theorem gX7_orNone_X7_finds : GoodIn wsX7_orNone (wsV RX7 45 RX7 yX7_finds wsX7_finds) := goodIn_app (goodIn_of _ (by decide +kernel)) ggX7_orNone_X7_finds
theorem dX7_orNone_0 : decode cX7_orNone 0 = .ok (.iload_n 1, 1) := by decide +kernel
theorem dX7_orNone_1 : decode cX7_orNone 1 = .ok (.ifCond .ge 12, 3) := by decide +kernel
theorem dX7_orNone_4 : decode cX7_orNone 4 = .ok (.aload_n 0, 1) := by decide +kernel
theorem dX7_orNone_5 : decode cX7_orNone 5 = .ok (.ldc 44, 2) := by decide +kernel
theorem dX7_orNone_7 : decode cX7_orNone 7 = .ok (.invokevirtual 45, 3) := by decide +kernel
theorem dX7_orNone_10 : decode cX7_orNone 10 = .ok (.goto 4, 3) := by decide +kernel
theorem dX7_orNone_13 : decode cX7_orNone 13 = .ok (.iload_n 1, 1) := by decide +kernel
theorem dX7_orNone_14 : decode cX7_orNone 14 = .ok (.ireturn, 1) := by decide +kernel
theorem dX7_in_0 : decode cX7_in 0 = .ok (.lload_n 0, 1) := by decide +kernel
theorem dX7_in_1 : decode cX7_in 1 = .ok (.lload_n 2, 1) := by decide +kernel
theorem dX7_in_2 : decode cX7_in 2 = .ok (.lcmp, 1) := by decide +kernel
theorem dX7_in_3 : decode cX7_in 3 = .ok (.ifCond .lt 14, 3) := by decide +kernel
theorem dX7_in_6 : decode cX7_in 6 = .ok (.lload_n 0, 1) := by decide +kernel
theorem dX7_in_7 : decode cX7_in 7 = .ok (.lload 4, 2) := by decide +kernel
theorem dX7_in_9 : decode cX7_in 9 = .ok (.lcmp, 1) := by decide +kernel
theorem dX7_in_10 : decode cX7_in 10 = .ok (.ifCond .gt 7, 3) := by decide +kernel
theorem dX7_in_13 : decode cX7_in 13 = .ok (.iconst 1, 1) := by decide +kernel
theorem dX7_in_14 : decode cX7_in 14 = .ok (.goto 4, 3) := by decide +kernel
theorem dX7_in_17 : decode cX7_in 17 = .ok (.iconst 0, 1) := by decide +kernel
theorem dX7_in_18 : decode cX7_in 18 = .ok (.ireturn, 1) := by decide +kernel
theorem dX7_has_0 : decode cX7_has 0 = .ok (.iload_n 0, 1) := by decide +kernel
theorem dX7_has_1 : decode cX7_has 1 = .ok (.iload_n 1, 1) := by decide +kernel
theorem dX7_has_2 : decode cX7_has 2 = .ok (.ishr, 1) := by decide +kernel
theorem dX7_has_3 : decode cX7_has 3 = .ok (.iconst 1, 1) := by decide +kernel
theorem dX7_has_4 : decode cX7_has 4 = .ok (.iand, 1) := by decide +kernel
theorem dX7_has_5 : decode cX7_has 5 = .ok (.iconst 1, 1) := by decide +kernel
theorem dX7_has_6 : decode cX7_has 6 = .ok (.if_icmp .ne 7, 3) := by decide +kernel
theorem dX7_has_9 : decode cX7_has 9 = .ok (.iconst 1, 1) := by decide +kernel
theorem dX7_has_10 : decode cX7_has 10 = .ok (.goto 4, 3) := by decide +kernel
theorem dX7_has_13 : decode cX7_has 13 = .ok (.iconst 0, 1) := by decide +kernel
theorem dX7_has_14 : decode cX7_has 14 = .ok (.ireturn, 1) := by decide +kernel
theorem dX7_many_0 : decode cX7_many 0 = .ok (.iconst 0, 1) := by decide +kernel
theorem dX7_many_1 : decode cX7_many 1 = .ok (.istore_n 1, 1) := by decide +kernel
theorem dX7_many_2 : decode cX7_many 2 = .ok (.iconst 0, 1) := by decide +kernel
theorem dX7_many_3 : decode cX7_many 3 = .ok (.istore_n 2, 1) := by decide +kernel
theorem dX7_many_4 : decode cX7_many 4 = .ok (.iload_n 2, 1) := by decide +kernel
theorem dX7_many_5 : decode cX7_many 5 = .ok (.bipush 16, 2) := by decide +kernel
theorem dX7_many_7 : decode cX7_many 7 = .ok (.if_icmp .ge 17, 3) := by decide +kernel
theorem dX7_many_10 : decode cX7_many 10 = .ok (.iload_n 1, 1) := by decide +kernel
theorem dX7_many_11 : decode cX7_many 11 = .ok (.iload_n 0, 1) := by decide +kernel
theorem dX7_many_12 : decode cX7_many 12 = .ok (.iload_n 2, 1) := by decide +kernel
theorem dX7_many_13 : decode cX7_many 13 = .ok (.ishr, 1) := by decide +kernel
theorem dX7_many_14 : decode cX7_many 14 = .ok (.iconst 1, 1) := by decide +kernel
theorem dX7_many_15 : decode cX7_many 15 = .ok (.iand, 1) := by decide +kernel
theorem dX7_many_16 : decode cX7_many 16 = .ok (.iadd, 1) := by decide +kernel
theorem dX7_many_17 : decode cX7_many 17 = .ok (.istore_n 1, 1) := by decide +kernel
theorem dX7_many_18 : decode cX7_many 18 = .ok (.iinc 2 1, 3) := by decide +kernel
theorem dX7_many_21 : decode cX7_many 21 = .ok (.goto (-17), 3) := by decide +kernel
theorem dX7_many_24 : decode cX7_many 24 = .ok (.iload_n 1, 1) := by decide +kernel
theorem dX7_many_25 : decode cX7_many 25 = .ok (.ireturn, 1) := by decide +kernel
theorem dX7_row_0 : decode cX7_row 0 = .ok (.iconst 0, 1) := by decide +kernel
theorem dX7_row_1 : decode cX7_row 1 = .ok (.istore_n 2, 1) := by decide +kernel
theorem dX7_row_2 : decode cX7_row 2 = .ok (.iload_n 2, 1) := by decide +kernel
theorem dX7_row_3 : decode cX7_row 3 = .ok (.bipush 82, 2) := by decide +kernel
theorem dX7_row_5 : decode cX7_row 5 = .ok (.if_icmp .ge 15, 3) := by decide +kernel
theorem dX7_row_8 : decode cX7_row 8 = .ok (.aload_n 1, 1) := by decide +kernel
theorem dX7_row_9 : decode cX7_row 9 = .ok (.iload_n 2, 1) := by decide +kernel
theorem dX7_row_10 : decode cX7_row 10 = .ok (.aload_n 0, 1) := by decide +kernel
theorem dX7_row_11 : decode cX7_row 11 = .ok (.iload_n 2, 1) := by decide +kernel
theorem dX7_row_12 : decode cX7_row 12 = .ok (.iaload, 1) := by decide +kernel
theorem dX7_row_13 : decode cX7_row 13 = .ok (.iastore, 1) := by decide +kernel
theorem dX7_row_14 : decode cX7_row 14 = .ok (.iinc 2 1, 3) := by decide +kernel
theorem dX7_row_17 : decode cX7_row 17 = .ok (.goto (-15), 3) := by decide +kernel
theorem dX7_row_20 : decode cX7_row 20 = .ok (.return_, 1) := by decide +kernel
theorem dX7_becomes_0 : decode cX7_becomes 0 = .ok (.aload_n 0, 1) := by decide +kernel
theorem dX7_becomes_1 : decode cX7_becomes 1 = .ok (.getfield 9, 3) := by decide +kernel
theorem dX7_becomes_4 : decode cX7_becomes 4 = .ok (.iload_n 1, 1) := by decide +kernel
theorem dX7_becomes_5 : decode cX7_becomes 5 = .ok (.iaload, 1) := by decide +kernel
theorem dX7_becomes_6 : decode cX7_becomes 6 = .ok (.istore_n 3, 1) := by decide +kernel
theorem dX7_becomes_7 : decode cX7_becomes 7 = .ok (.aload_n 0, 1) := by decide +kernel
theorem dX7_becomes_8 : decode cX7_becomes 8 = .ok (.getfield 9, 3) := by decide +kernel
theorem dX7_becomes_11 : decode cX7_becomes 11 = .ok (.iload_n 1, 1) := by decide +kernel
theorem dX7_becomes_12 : decode cX7_becomes 12 = .ok (.iload_n 2, 1) := by decide +kernel
theorem dX7_becomes_13 : decode cX7_becomes 13 = .ok (.iastore, 1) := by decide +kernel
theorem dX7_becomes_14 : decode cX7_becomes 14 = .ok (.iload_n 3, 1) := by decide +kernel
theorem dX7_becomes_15 : decode cX7_becomes 15 = .ok (.ireturn, 1) := by decide +kernel
set_option maxRecDepth 20000 in
theorem ggX7_isCell_X7_in : GoodIn wsX7_isCell wsX7_in := goodIn_r _ [5] (by decide +kernel) (by decide +kernel)
set_option maxRecDepth 20000 in
theorem gX7_isCell_X7_in : GoodIn wsX7_isCell (va_wsS RX7 51 yX7_in wsX7_in) := goodIn_app (goodIn_of _ (by decide +kernel)) ggX7_isCell_X7_in
theorem dX7_isCell_0 : decode cX7_isCell 0 = .ok (.iload_n 0, 1) := by decide +kernel
theorem dX7_isCell_1 : decode cX7_isCell 1 = .ok (.i2l, 1) := by decide +kernel
theorem dX7_isCell_2 : decode cX7_isCell 2 = .ok (.lconst 0, 1) := by decide +kernel
theorem dX7_isCell_3 : decode cX7_isCell 3 = .ok (.ldc2_w 49, 3) := by decide +kernel
theorem dX7_isCell_6 : decode cX7_isCell 6 = .ok (.invokestatic 51, 3) := by decide +kernel
theorem dX7_isCell_9 : decode cX7_isCell 9 = .ok (.ireturn, 1) := by decide +kernel
set_option maxRecDepth 20000 in
theorem ggX7_isBlock_X7_in : GoodIn wsX7_isBlock wsX7_in := goodIn_r _ [5] (by decide +kernel) (by decide +kernel)
set_option maxRecDepth 20000 in
theorem gX7_isBlock_X7_in : GoodIn wsX7_isBlock (va_wsS RX7 51 yX7_in wsX7_in) := goodIn_app (goodIn_of _ (by decide +kernel)) ggX7_isBlock_X7_in
theorem dX7_isBlock_0 : decode cX7_isBlock 0 = .ok (.iload_n 1, 1) := by decide +kernel
theorem dX7_isBlock_1 : decode cX7_isBlock 1 = .ok (.i2l, 1) := by decide +kernel
theorem dX7_isBlock_2 : decode cX7_isBlock 2 = .ok (.lconst 0, 1) := by decide +kernel
theorem dX7_isBlock_3 : decode cX7_isBlock 3 = .ok (.aload_n 0, 1) := by decide +kernel
theorem dX7_isBlock_4 : decode cX7_isBlock 4 = .ok (.getfield 9, 3) := by decide +kernel
theorem dX7_isBlock_7 : decode cX7_isBlock 7 = .ok (.iconst 5, 1) := by decide +kernel
theorem dX7_isBlock_8 : decode cX7_isBlock 8 = .ok (.iaload, 1) := by decide +kernel
theorem dX7_isBlock_9 : decode cX7_isBlock 9 = .ok (.iconst 1, 1) := by decide +kernel
theorem dX7_isBlock_10 : decode cX7_isBlock 10 = .ok (.isub, 1) := by decide +kernel
theorem dX7_isBlock_11 : decode cX7_isBlock 11 = .ok (.i2l, 1) := by decide +kernel
theorem dX7_isBlock_12 : decode cX7_isBlock 12 = .ok (.invokestatic 51, 3) := by decide +kernel
theorem dX7_isBlock_15 : decode cX7_isBlock 15 = .ok (.ireturn, 1) := by decide +kernel
set_option maxRecDepth 20000 in
theorem ggX7_isCandle_X7_in : GoodIn wsX7_isCandle wsX7_in := goodIn_r _ [5] (by decide +kernel) (by decide +kernel)
set_option maxRecDepth 20000 in
theorem gX7_isCandle_X7_in : GoodIn wsX7_isCandle (va_wsS RX7 51 yX7_in wsX7_in) := goodIn_app (goodIn_of _ (by decide +kernel)) ggX7_isCandle_X7_in
theorem dX7_isCandle_0 : decode cX7_isCandle 0 = .ok (.iload_n 0, 1) := by decide +kernel
theorem dX7_isCandle_1 : decode cX7_isCandle 1 = .ok (.i2l, 1) := by decide +kernel
theorem dX7_isCandle_2 : decode cX7_isCandle 2 = .ok (.lconst 0, 1) := by decide +kernel
theorem dX7_isCandle_3 : decode cX7_isCandle 3 = .ok (.ldc2_w 55, 3) := by decide +kernel
theorem dX7_isCandle_6 : decode cX7_isCandle 6 = .ok (.invokestatic 51, 3) := by decide +kernel
theorem dX7_isCandle_9 : decode cX7_isCandle 9 = .ok (.ireturn, 1) := by decide +kernel
set_option maxRecDepth 20000 in
theorem ggX7_isKind_X7_in : GoodIn wsX7_isKind wsX7_in := goodIn_r _ [5] (by decide +kernel) (by decide +kernel)
set_option maxRecDepth 20000 in
theorem gX7_isKind_X7_in : GoodIn wsX7_isKind (va_wsS RX7 51 yX7_in wsX7_in) := goodIn_app (goodIn_of _ (by decide +kernel)) ggX7_isKind_X7_in
theorem dX7_isKind_0 : decode cX7_isKind 0 = .ok (.iload_n 0, 1) := by decide +kernel
theorem dX7_isKind_1 : decode cX7_isKind 1 = .ok (.i2l, 1) := by decide +kernel
theorem dX7_isKind_2 : decode cX7_isKind 2 = .ok (.lconst 0, 1) := by decide +kernel
theorem dX7_isKind_3 : decode cX7_isKind 3 = .ok (.ldc2_w 57, 3) := by decide +kernel
theorem dX7_isKind_6 : decode cX7_isKind 6 = .ok (.invokestatic 51, 3) := by decide +kernel
theorem dX7_isKind_9 : decode cX7_isKind 9 = .ok (.ireturn, 1) := by decide +kernel
set_option maxRecDepth 20000 in
theorem ggX7_isSome_X7_in : GoodIn wsX7_isSome wsX7_in := goodIn_r _ [5] (by decide +kernel) (by decide +kernel)
set_option maxRecDepth 20000 in
theorem gX7_isSome_X7_in : GoodIn wsX7_isSome (va_wsS RX7 51 yX7_in wsX7_in) := goodIn_app (goodIn_of _ (by decide +kernel)) ggX7_isSome_X7_in
theorem dX7_isSome_0 : decode cX7_isSome 0 = .ok (.iload_n 0, 1) := by decide +kernel
theorem dX7_isSome_1 : decode cX7_isSome 1 = .ok (.i2l, 1) := by decide +kernel
theorem dX7_isSome_2 : decode cX7_isSome 2 = .ok (.lconst 1, 1) := by decide +kernel
theorem dX7_isSome_3 : decode cX7_isSome 3 = .ok (.ldc2_w 59, 3) := by decide +kernel
theorem dX7_isSome_6 : decode cX7_isSome 6 = .ok (.invokestatic 51, 3) := by decide +kernel
theorem dX7_isSome_9 : decode cX7_isSome 9 = .ok (.ireturn, 1) := by decide +kernel
theorem dX7_kindOf_0 : decode cX7_kindOf 0 = .ok (.aload_n 0, 1) := by decide +kernel
theorem dX7_kindOf_1 : decode cX7_kindOf 1 = .ok (.getfield 9, 3) := by decide +kernel
theorem dX7_kindOf_4 : decode cX7_kindOf 4 = .ok (.bipush 24, 2) := by decide +kernel
theorem dX7_kindOf_6 : decode cX7_kindOf 6 = .ok (.iconst 3, 1) := by decide +kernel
theorem dX7_kindOf_7 : decode cX7_kindOf 7 = .ok (.iload_n 1, 1) := by decide +kernel
theorem dX7_kindOf_8 : decode cX7_kindOf 8 = .ok (.imul, 1) := by decide +kernel
theorem dX7_kindOf_9 : decode cX7_kindOf 9 = .ok (.iadd, 1) := by decide +kernel
theorem dX7_kindOf_10 : decode cX7_kindOf 10 = .ok (.iaload, 1) := by decide +kernel
theorem dX7_kindOf_11 : decode cX7_kindOf 11 = .ok (.ireturn, 1) := by decide +kernel
theorem dX7_cellOf_0 : decode cX7_cellOf 0 = .ok (.aload_n 0, 1) := by decide +kernel
theorem dX7_cellOf_1 : decode cX7_cellOf 1 = .ok (.getfield 9, 3) := by decide +kernel
theorem dX7_cellOf_4 : decode cX7_cellOf 4 = .ok (.bipush 24, 2) := by decide +kernel
theorem dX7_cellOf_6 : decode cX7_cellOf 6 = .ok (.iconst 3, 1) := by decide +kernel
theorem dX7_cellOf_7 : decode cX7_cellOf 7 = .ok (.iload_n 1, 1) := by decide +kernel
theorem dX7_cellOf_8 : decode cX7_cellOf 8 = .ok (.imul, 1) := by decide +kernel
theorem dX7_cellOf_9 : decode cX7_cellOf 9 = .ok (.iadd, 1) := by decide +kernel
theorem dX7_cellOf_10 : decode cX7_cellOf 10 = .ok (.iconst 1, 1) := by decide +kernel
theorem dX7_cellOf_11 : decode cX7_cellOf 11 = .ok (.iadd, 1) := by decide +kernel
theorem dX7_cellOf_12 : decode cX7_cellOf 12 = .ok (.iaload, 1) := by decide +kernel
theorem dX7_cellOf_13 : decode cX7_cellOf 13 = .ok (.ireturn, 1) := by decide +kernel
theorem dX7_grains_0 : decode cX7_grains 0 = .ok (.aload_n 0, 1) := by decide +kernel
theorem dX7_grains_1 : decode cX7_grains 1 = .ok (.getfield 9, 3) := by decide +kernel
theorem dX7_grains_4 : decode cX7_grains 4 = .ok (.bipush 24, 2) := by decide +kernel
theorem dX7_grains_6 : decode cX7_grains 6 = .ok (.iconst 3, 1) := by decide +kernel
theorem dX7_grains_7 : decode cX7_grains 7 = .ok (.iload_n 1, 1) := by decide +kernel
theorem dX7_grains_8 : decode cX7_grains 8 = .ok (.imul, 1) := by decide +kernel
theorem dX7_grains_9 : decode cX7_grains 9 = .ok (.iadd, 1) := by decide +kernel
theorem dX7_grains_10 : decode cX7_grains 10 = .ok (.iconst 2, 1) := by decide +kernel
theorem dX7_grains_11 : decode cX7_grains 11 = .ok (.iadd, 1) := by decide +kernel
theorem dX7_grains_12 : decode cX7_grains 12 = .ok (.iaload, 1) := by decide +kernel
theorem dX7_grains_13 : decode cX7_grains 13 = .ok (.ireturn, 1) := by decide +kernel
theorem dX7_makes_0 : decode cX7_makes 0 = .ok (.aload_n 0, 1) := by decide +kernel
theorem dX7_makes_1 : decode cX7_makes 1 = .ok (.getfield 9, 3) := by decide +kernel
theorem dX7_makes_4 : decode cX7_makes 4 = .ok (.bipush 24, 2) := by decide +kernel
theorem dX7_makes_6 : decode cX7_makes 6 = .ok (.iconst 3, 1) := by decide +kernel
theorem dX7_makes_7 : decode cX7_makes 7 = .ok (.iload_n 1, 1) := by decide +kernel
theorem dX7_makes_8 : decode cX7_makes 8 = .ok (.imul, 1) := by decide +kernel
theorem dX7_makes_9 : decode cX7_makes 9 = .ok (.iadd, 1) := by decide +kernel
theorem dX7_makes_10 : decode cX7_makes 10 = .ok (.iconst 2, 1) := by decide +kernel
theorem dX7_makes_11 : decode cX7_makes 11 = .ok (.iadd, 1) := by decide +kernel
theorem dX7_makes_12 : decode cX7_makes 12 = .ok (.iload_n 2, 1) := by decide +kernel
theorem dX7_makes_13 : decode cX7_makes 13 = .ok (.iastore, 1) := by decide +kernel
theorem dX7_makes_14 : decode cX7_makes 14 = .ok (.return_, 1) := by decide +kernel
set_option maxRecDepth 20000 in
theorem ggX7_isGone_X7_cellOf : GoodIn wsX7_isGone wsX7_cellOf := goodIn_r _ [5, 6, 7, 8, 9, 10, 11, 12, 13, 14, 15, 16, 17, 18, 19, 20, 21, 22, 23, 24] (by decide +kernel) (by decide +kernel)
set_option maxRecDepth 20000 in
theorem gX7_isGone_X7_cellOf : GoodIn wsX7_isGone (wsV RX7 61 RX7 yX7_cellOf wsX7_cellOf) := goodIn_app (goodIn_of _ (by decide +kernel)) ggX7_isGone_X7_cellOf
theorem dX7_isGone_0 : decode cX7_isGone 0 = .ok (.aload_n 0, 1) := by decide +kernel
theorem dX7_isGone_1 : decode cX7_isGone 1 = .ok (.iload_n 1, 1) := by decide +kernel
theorem dX7_isGone_2 : decode cX7_isGone 2 = .ok (.invokevirtual 61, 3) := by decide +kernel
theorem dX7_isGone_5 : decode cX7_isGone 5 = .ok (.ifCond .ge 7, 3) := by decide +kernel
theorem dX7_isGone_8 : decode cX7_isGone 8 = .ok (.iconst 1, 1) := by decide +kernel
theorem dX7_isGone_9 : decode cX7_isGone 9 = .ok (.goto 4, 3) := by decide +kernel
theorem dX7_isGone_12 : decode cX7_isGone 12 = .ok (.iconst 0, 1) := by decide +kernel
theorem dX7_isGone_13 : decode cX7_isGone 13 = .ok (.ireturn, 1) := by decide +kernel
set_option maxRecDepth 20000 in
theorem ggX7_blockOn_X7_cellOf : GoodIn wsX7_blockOn wsX7_cellOf := goodIn_r _ [6, 1, 7, 8, 9, 10, 11, 12, 13, 14, 15, 16, 17, 18, 19, 20, 21, 22, 23, 24] (by decide +kernel) (by decide +kernel)
set_option maxRecDepth 20000 in
theorem gX7_blockOn_X7_cellOf : GoodIn wsX7_blockOn (wsV RX7 61 RX7 yX7_cellOf wsX7_cellOf) := goodIn_app (goodIn_of _ (by decide +kernel)) ggX7_blockOn_X7_cellOf
theorem dX7_blockOn_0 : decode cX7_blockOn 0 = .ok (.iconst 0, 1) := by decide +kernel
theorem dX7_blockOn_1 : decode cX7_blockOn 1 = .ok (.istore_n 2, 1) := by decide +kernel
theorem dX7_blockOn_2 : decode cX7_blockOn 2 = .ok (.iload_n 2, 1) := by decide +kernel
theorem dX7_blockOn_3 : decode cX7_blockOn 3 = .ok (.aload_n 0, 1) := by decide +kernel
theorem dX7_blockOn_4 : decode cX7_blockOn 4 = .ok (.getfield 9, 3) := by decide +kernel
theorem dX7_blockOn_7 : decode cX7_blockOn 7 = .ok (.iconst 5, 1) := by decide +kernel
theorem dX7_blockOn_8 : decode cX7_blockOn 8 = .ok (.iaload, 1) := by decide +kernel
theorem dX7_blockOn_9 : decode cX7_blockOn 9 = .ok (.if_icmp .ge 24, 3) := by decide +kernel
theorem dX7_blockOn_12 : decode cX7_blockOn 12 = .ok (.iload_n 1, 1) := by decide +kernel
theorem dX7_blockOn_13 : decode cX7_blockOn 13 = .ok (.ifCond .lt 20, 3) := by decide +kernel
theorem dX7_blockOn_16 : decode cX7_blockOn 16 = .ok (.aload_n 0, 1) := by decide +kernel
theorem dX7_blockOn_17 : decode cX7_blockOn 17 = .ok (.iload_n 2, 1) := by decide +kernel
theorem dX7_blockOn_18 : decode cX7_blockOn 18 = .ok (.invokevirtual 61, 3) := by decide +kernel
theorem dX7_blockOn_21 : decode cX7_blockOn 21 = .ok (.iload_n 1, 1) := by decide +kernel
theorem dX7_blockOn_22 : decode cX7_blockOn 22 = .ok (.if_icmp .ne 5, 3) := by decide +kernel
theorem dX7_blockOn_25 : decode cX7_blockOn 25 = .ok (.iload_n 2, 1) := by decide +kernel
theorem dX7_blockOn_26 : decode cX7_blockOn 26 = .ok (.ireturn, 1) := by decide +kernel
theorem dX7_blockOn_27 : decode cX7_blockOn 27 = .ok (.iinc 2 1, 3) := by decide +kernel
theorem dX7_blockOn_30 : decode cX7_blockOn 30 = .ok (.goto (-28), 3) := by decide +kernel
theorem dX7_blockOn_33 : decode cX7_blockOn 33 = .ok (.iconst (-1), 1) := by decide +kernel
theorem dX7_blockOn_34 : decode cX7_blockOn 34 = .ok (.ireturn, 1) := by decide +kernel
theorem dX7_comes_0 : decode cX7_comes 0 = .ok (.aload_n 0, 1) := by decide +kernel
theorem dX7_comes_1 : decode cX7_comes 1 = .ok (.getfield 9, 3) := by decide +kernel
theorem dX7_comes_4 : decode cX7_comes 4 = .ok (.iconst 5, 1) := by decide +kernel
theorem dX7_comes_5 : decode cX7_comes 5 = .ok (.iaload, 1) := by decide +kernel
theorem dX7_comes_6 : decode cX7_comes 6 = .ok (.istore 4, 2) := by decide +kernel
theorem dX7_comes_8 : decode cX7_comes 8 = .ok (.aload_n 0, 1) := by decide +kernel
theorem dX7_comes_9 : decode cX7_comes 9 = .ok (.getfield 9, 3) := by decide +kernel
theorem dX7_comes_12 : decode cX7_comes 12 = .ok (.bipush 24, 2) := by decide +kernel
theorem dX7_comes_14 : decode cX7_comes 14 = .ok (.iconst 3, 1) := by decide +kernel
theorem dX7_comes_15 : decode cX7_comes 15 = .ok (.iload 4, 2) := by decide +kernel
theorem dX7_comes_17 : decode cX7_comes 17 = .ok (.imul, 1) := by decide +kernel
theorem dX7_comes_18 : decode cX7_comes 18 = .ok (.iadd, 1) := by decide +kernel
theorem dX7_comes_19 : decode cX7_comes 19 = .ok (.iload_n 1, 1) := by decide +kernel
theorem dX7_comes_20 : decode cX7_comes 20 = .ok (.iastore, 1) := by decide +kernel
theorem dX7_comes_21 : decode cX7_comes 21 = .ok (.aload_n 0, 1) := by decide +kernel
theorem dX7_comes_22 : decode cX7_comes 22 = .ok (.getfield 9, 3) := by decide +kernel
theorem dX7_comes_25 : decode cX7_comes 25 = .ok (.bipush 24, 2) := by decide +kernel
theorem dX7_comes_27 : decode cX7_comes 27 = .ok (.iconst 3, 1) := by decide +kernel
theorem dX7_comes_28 : decode cX7_comes 28 = .ok (.iload 4, 2) := by decide +kernel
theorem dX7_comes_30 : decode cX7_comes 30 = .ok (.imul, 1) := by decide +kernel
theorem dX7_comes_31 : decode cX7_comes 31 = .ok (.iadd, 1) := by decide +kernel
theorem dX7_comes_32 : decode cX7_comes 32 = .ok (.iconst 1, 1) := by decide +kernel
theorem dX7_comes_33 : decode cX7_comes 33 = .ok (.iadd, 1) := by decide +kernel
theorem dX7_comes_34 : decode cX7_comes 34 = .ok (.iload_n 2, 1) := by decide +kernel
theorem dX7_comes_35 : decode cX7_comes 35 = .ok (.iastore, 1) := by decide +kernel
theorem dX7_comes_36 : decode cX7_comes 36 = .ok (.aload_n 0, 1) := by decide +kernel
theorem dX7_comes_37 : decode cX7_comes 37 = .ok (.getfield 9, 3) := by decide +kernel
theorem dX7_comes_40 : decode cX7_comes 40 = .ok (.bipush 24, 2) := by decide +kernel
theorem dX7_comes_42 : decode cX7_comes 42 = .ok (.iconst 3, 1) := by decide +kernel
theorem dX7_comes_43 : decode cX7_comes 43 = .ok (.iload 4, 2) := by decide +kernel
theorem dX7_comes_45 : decode cX7_comes 45 = .ok (.imul, 1) := by decide +kernel
theorem dX7_comes_46 : decode cX7_comes 46 = .ok (.iadd, 1) := by decide +kernel
theorem dX7_comes_47 : decode cX7_comes 47 = .ok (.iconst 2, 1) := by decide +kernel
theorem dX7_comes_48 : decode cX7_comes 48 = .ok (.iadd, 1) := by decide +kernel
theorem dX7_comes_49 : decode cX7_comes 49 = .ok (.iload_n 3, 1) := by decide +kernel
theorem dX7_comes_50 : decode cX7_comes 50 = .ok (.iastore, 1) := by decide +kernel
theorem dX7_comes_51 : decode cX7_comes 51 = .ok (.aload_n 0, 1) := by decide +kernel
theorem dX7_comes_52 : decode cX7_comes 52 = .ok (.getfield 9, 3) := by decide +kernel
theorem dX7_comes_55 : decode cX7_comes 55 = .ok (.iconst 5, 1) := by decide +kernel
theorem dX7_comes_56 : decode cX7_comes 56 = .ok (.dup2, 1) := by decide +kernel
theorem dX7_comes_57 : decode cX7_comes 57 = .ok (.iaload, 1) := by decide +kernel
theorem dX7_comes_58 : decode cX7_comes 58 = .ok (.iconst 1, 1) := by decide +kernel
theorem dX7_comes_59 : decode cX7_comes 59 = .ok (.iadd, 1) := by decide +kernel
theorem dX7_comes_60 : decode cX7_comes 60 = .ok (.iastore, 1) := by decide +kernel
theorem dX7_comes_61 : decode cX7_comes 61 = .ok (.iload 4, 2) := by decide +kernel
theorem dX7_comes_63 : decode cX7_comes 63 = .ok (.ireturn, 1) := by decide +kernel
set_option maxRecDepth 20000 in
theorem ggX7_block_X7_isKind : GoodIn wsX7_block wsX7_isKind := goodIn_r _ [8, 9, 10, 11, 7, 12] (by decide +kernel) (by decide +kernel)
set_option maxRecDepth 20000 in
theorem gX7_block_X7_isKind : GoodIn wsX7_block (va_wsS RX7 64 yX7_isKind wsX7_isKind) := goodIn_app (goodIn_of _ (by decide +kernel)) ggX7_block_X7_isKind
set_option maxRecDepth 20000 in
theorem ggX7_block_X7_isCell : GoodIn wsX7_block wsX7_isCell := goodIn_r _ [15, 16, 10, 11, 7, 12] (by decide +kernel) (by decide +kernel)
set_option maxRecDepth 20000 in
theorem gX7_block_X7_isCell : GoodIn wsX7_block (va_wsS RX7 68 yX7_isCell wsX7_isCell) := goodIn_app (goodIn_of _ (by decide +kernel)) ggX7_block_X7_isCell
set_option maxRecDepth 20000 in
theorem ggX7_block_X7_isSome : GoodIn wsX7_block wsX7_isSome := goodIn_r _ [19, 20, 10, 11, 7, 12] (by decide +kernel) (by decide +kernel)
set_option maxRecDepth 20000 in
theorem gX7_block_X7_isSome : GoodIn wsX7_block (va_wsS RX7 71 yX7_isSome wsX7_isSome) := goodIn_app (goodIn_of _ (by decide +kernel)) ggX7_block_X7_isSome
set_option maxRecDepth 20000 in
theorem ggX7_block_X7_finds : GoodIn wsX7_block wsX7_finds := goodIn_r _ [24, 25, 1, 38, 39, 40, 41, 42, 43, 44, 45, 46, 47, 48, 49, 50, 51, 52, 53, 54, 55] (by decide +kernel) (by decide +kernel)
set_option maxRecDepth 20000 in
theorem gX7_block_X7_finds : GoodIn wsX7_block (wsV RX7 45 RX7 yX7_finds wsX7_finds) := goodIn_app (goodIn_of _ (by decide +kernel)) ggX7_block_X7_finds
set_option maxRecDepth 20000 in
theorem ggX7_block_X7_blockOn : GoodIn wsX7_block wsX7_blockOn := goodIn_r _ [29, 2, 30, 31, 32, 7, 33, 38, 39, 40, 41, 42, 43, 44, 45, 46, 47, 48, 49, 50, 51, 52, 53, 54, 55] (by decide +kernel) (by decide +kernel)
set_option maxRecDepth 20000 in
theorem gX7_block_X7_blockOn : GoodIn wsX7_block (wsV RX7 75 RX7 yX7_blockOn wsX7_blockOn) := goodIn_app (goodIn_of _ (by decide +kernel)) ggX7_block_X7_blockOn
set_option maxRecDepth 20000 in
theorem ggX7_block_X7_comes : GoodIn wsX7_block wsX7_comes := goodIn_r _ [37, 2, 38, 39, 40, 41, 42, 43, 44, 45, 46, 47, 48, 49, 50, 51, 52, 53, 54, 55] (by decide +kernel) (by decide +kernel)
set_option maxRecDepth 20000 in
theorem gX7_block_X7_comes : GoodIn wsX7_block (wsV RX7 79 RX7 yX7_comes wsX7_comes) := goodIn_app (goodIn_of _ (by decide +kernel)) ggX7_block_X7_comes
theorem dX7_block_0 : decode cX7_block 0 = .ok (.iload_n 1, 1) := by decide +kernel
theorem dX7_block_1 : decode cX7_block 1 = .ok (.invokestatic 64, 3) := by decide +kernel
theorem dX7_block_4 : decode cX7_block 4 = .ok (.ifCond .eq 17, 3) := by decide +kernel
theorem dX7_block_7 : decode cX7_block 7 = .ok (.iload_n 2, 1) := by decide +kernel
theorem dX7_block_8 : decode cX7_block 8 = .ok (.invokestatic 68, 3) := by decide +kernel
theorem dX7_block_11 : decode cX7_block 11 = .ok (.ifCond .eq 10, 3) := by decide +kernel
theorem dX7_block_14 : decode cX7_block 14 = .ok (.iload_n 3, 1) := by decide +kernel
theorem dX7_block_15 : decode cX7_block 15 = .ok (.invokestatic 71, 3) := by decide +kernel
theorem dX7_block_18 : decode cX7_block 18 = .ok (.ifCond .ne 10, 3) := by decide +kernel
theorem dX7_block_21 : decode cX7_block 21 = .ok (.aload_n 0, 1) := by decide +kernel
theorem dX7_block_22 : decode cX7_block 22 = .ok (.ldc 43, 2) := by decide +kernel
theorem dX7_block_24 : decode cX7_block 24 = .ok (.invokevirtual 45, 3) := by decide +kernel
theorem dX7_block_27 : decode cX7_block 27 = .ok (.ireturn, 1) := by decide +kernel
theorem dX7_block_28 : decode cX7_block 28 = .ok (.aload_n 0, 1) := by decide +kernel
theorem dX7_block_29 : decode cX7_block 29 = .ok (.getfield 9, 3) := by decide +kernel
theorem dX7_block_32 : decode cX7_block 32 = .ok (.iconst 5, 1) := by decide +kernel
theorem dX7_block_33 : decode cX7_block 33 = .ok (.iaload, 1) := by decide +kernel
theorem dX7_block_34 : decode cX7_block 34 = .ok (.bipush 16, 2) := by decide +kernel
theorem dX7_block_36 : decode cX7_block 36 = .ok (.if_icmp .ne 10, 3) := by decide +kernel
theorem dX7_block_39 : decode cX7_block 39 = .ok (.aload_n 0, 1) := by decide +kernel
theorem dX7_block_40 : decode cX7_block 40 = .ok (.ldc 74, 2) := by decide +kernel
theorem dX7_block_42 : decode cX7_block 42 = .ok (.invokevirtual 45, 3) := by decide +kernel
theorem dX7_block_45 : decode cX7_block 45 = .ok (.ireturn, 1) := by decide +kernel
theorem dX7_block_46 : decode cX7_block 46 = .ok (.aload_n 0, 1) := by decide +kernel
theorem dX7_block_47 : decode cX7_block 47 = .ok (.iload_n 2, 1) := by decide +kernel
theorem dX7_block_48 : decode cX7_block 48 = .ok (.invokevirtual 75, 3) := by decide +kernel
theorem dX7_block_51 : decode cX7_block 51 = .ok (.ifCond .lt 12, 3) := by decide +kernel
theorem dX7_block_54 : decode cX7_block 54 = .ok (.aload_n 0, 1) := by decide +kernel
theorem dX7_block_55 : decode cX7_block 55 = .ok (.ldc 78, 2) := by decide +kernel
theorem dX7_block_57 : decode cX7_block 57 = .ok (.invokevirtual 45, 3) := by decide +kernel
theorem dX7_block_60 : decode cX7_block 60 = .ok (.goto 10, 3) := by decide +kernel
theorem dX7_block_63 : decode cX7_block 63 = .ok (.aload_n 0, 1) := by decide +kernel
theorem dX7_block_64 : decode cX7_block 64 = .ok (.iload_n 1, 1) := by decide +kernel
theorem dX7_block_65 : decode cX7_block 65 = .ok (.iload_n 2, 1) := by decide +kernel
theorem dX7_block_66 : decode cX7_block 66 = .ok (.iload_n 3, 1) := by decide +kernel
theorem dX7_block_67 : decode cX7_block 67 = .ok (.invokevirtual 79, 3) := by decide +kernel
theorem dX7_block_70 : decode cX7_block 70 = .ok (.ireturn, 1) := by decide +kernel
theorem dX7_below_0 : decode cX7_below 0 = .ok (.iload_n 0, 1) := by decide +kernel
theorem dX7_below_1 : decode cX7_below 1 = .ok (.bipush 8, 2) := by decide +kernel
theorem dX7_below_3 : decode cX7_below 3 = .ok (.if_icmp .ge 7, 3) := by decide +kernel
theorem dX7_below_6 : decode cX7_below 6 = .ok (.iconst (-1), 1) := by decide +kernel
theorem dX7_below_7 : decode cX7_below 7 = .ok (.goto 7, 3) := by decide +kernel
theorem dX7_below_10 : decode cX7_below 10 = .ok (.iload_n 0, 1) := by decide +kernel
theorem dX7_below_11 : decode cX7_below 11 = .ok (.bipush 8, 2) := by decide +kernel
theorem dX7_below_13 : decode cX7_below 13 = .ok (.isub, 1) := by decide +kernel
theorem dX7_below_14 : decode cX7_below 14 = .ok (.ireturn, 1) := by decide +kernel
theorem dX7_above_0 : decode cX7_above 0 = .ok (.iload_n 0, 1) := by decide +kernel
theorem dX7_above_1 : decode cX7_above 1 = .ok (.bipush 40, 2) := by decide +kernel
theorem dX7_above_3 : decode cX7_above 3 = .ok (.if_icmp .ge 10, 3) := by decide +kernel
theorem dX7_above_6 : decode cX7_above 6 = .ok (.iload_n 0, 1) := by decide +kernel
theorem dX7_above_7 : decode cX7_above 7 = .ok (.bipush 8, 2) := by decide +kernel
theorem dX7_above_9 : decode cX7_above 9 = .ok (.iadd, 1) := by decide +kernel
theorem dX7_above_10 : decode cX7_above 10 = .ok (.goto 4, 3) := by decide +kernel
theorem dX7_above_13 : decode cX7_above 13 = .ok (.iconst (-1), 1) := by decide +kernel
theorem dX7_above_14 : decode cX7_above 14 = .ok (.ireturn, 1) := by decide +kernel
theorem dX7_left_0 : decode cX7_left 0 = .ok (.iload_n 0, 1) := by decide +kernel
theorem dX7_left_1 : decode cX7_left 1 = .ok (.bipush 8, 2) := by decide +kernel
theorem dX7_left_3 : decode cX7_left 3 = .ok (.irem, 1) := by decide +kernel
theorem dX7_left_4 : decode cX7_left 4 = .ok (.ifCond .ne 7, 3) := by decide +kernel
theorem dX7_left_7 : decode cX7_left 7 = .ok (.iconst (-1), 1) := by decide +kernel
theorem dX7_left_8 : decode cX7_left 8 = .ok (.goto 6, 3) := by decide +kernel
theorem dX7_left_11 : decode cX7_left 11 = .ok (.iload_n 0, 1) := by decide +kernel
theorem dX7_left_12 : decode cX7_left 12 = .ok (.iconst 1, 1) := by decide +kernel
theorem dX7_left_13 : decode cX7_left 13 = .ok (.isub, 1) := by decide +kernel
theorem dX7_left_14 : decode cX7_left 14 = .ok (.ireturn, 1) := by decide +kernel
theorem dX7_right_0 : decode cX7_right 0 = .ok (.iload_n 0, 1) := by decide +kernel
theorem dX7_right_1 : decode cX7_right 1 = .ok (.bipush 8, 2) := by decide +kernel
theorem dX7_right_3 : decode cX7_right 3 = .ok (.irem, 1) := by decide +kernel
theorem dX7_right_4 : decode cX7_right 4 = .ok (.bipush 7, 2) := by decide +kernel
theorem dX7_right_6 : decode cX7_right 6 = .ok (.if_icmp .ne 7, 3) := by decide +kernel
theorem dX7_right_9 : decode cX7_right 9 = .ok (.iconst (-1), 1) := by decide +kernel
theorem dX7_right_10 : decode cX7_right 10 = .ok (.goto 6, 3) := by decide +kernel
theorem dX7_right_13 : decode cX7_right 13 = .ok (.iload_n 0, 1) := by decide +kernel
theorem dX7_right_14 : decode cX7_right 14 = .ok (.iconst 1, 1) := by decide +kernel
theorem dX7_right_15 : decode cX7_right 15 = .ok (.iadd, 1) := by decide +kernel
theorem dX7_right_16 : decode cX7_right 16 = .ok (.ireturn, 1) := by decide +kernel
set_option maxRecDepth 20000 in
theorem ggX7_isOf_X7_blockOn : GoodIn wsX7_isOf wsX7_blockOn := goodIn_r _ [5, 6, 7, 8, 9, 4, 10, 14, 15, 16, 17, 18, 19, 20, 21, 22, 23, 24, 25, 26, 27, 28, 29, 30, 31] (by decide +kernel) (by decide +kernel)
set_option maxRecDepth 20000 in
theorem gX7_isOf_X7_blockOn : GoodIn wsX7_isOf (wsV RX7 75 RX7 yX7_blockOn wsX7_blockOn) := goodIn_app (goodIn_of _ (by decide +kernel)) ggX7_isOf_X7_blockOn
set_option maxRecDepth 20000 in
theorem ggX7_isOf_X7_has : GoodIn wsX7_isOf wsX7_has := goodIn_r _ [13] (by decide +kernel) (by decide +kernel)
set_option maxRecDepth 20000 in
theorem gX7_isOf_X7_has : GoodIn wsX7_isOf (va_wsS RX7 83 yX7_has wsX7_has) := goodIn_app (goodIn_of _ (by decide +kernel)) ggX7_isOf_X7_has
theorem dX7_isOf_0 : decode cX7_isOf 0 = .ok (.aload_n 0, 1) := by decide +kernel
theorem dX7_isOf_1 : decode cX7_isOf 1 = .ok (.iload_n 2, 1) := by decide +kernel
theorem dX7_isOf_2 : decode cX7_isOf 2 = .ok (.invokevirtual 75, 3) := by decide +kernel
theorem dX7_isOf_5 : decode cX7_isOf 5 = .ok (.istore_n 3, 1) := by decide +kernel
theorem dX7_isOf_6 : decode cX7_isOf 6 = .ok (.iload_n 3, 1) := by decide +kernel
theorem dX7_isOf_7 : decode cX7_isOf 7 = .ok (.ifCond .lt 15, 3) := by decide +kernel
theorem dX7_isOf_10 : decode cX7_isOf 10 = .ok (.iload_n 1, 1) := by decide +kernel
theorem dX7_isOf_11 : decode cX7_isOf 11 = .ok (.iload_n 3, 1) := by decide +kernel
theorem dX7_isOf_12 : decode cX7_isOf 12 = .ok (.invokestatic 83, 3) := by decide +kernel
theorem dX7_isOf_15 : decode cX7_isOf 15 = .ok (.ifCond .eq 7, 3) := by decide +kernel
theorem dX7_isOf_18 : decode cX7_isOf 18 = .ok (.iconst 1, 1) := by decide +kernel
theorem dX7_isOf_19 : decode cX7_isOf 19 = .ok (.goto 4, 3) := by decide +kernel
theorem dX7_isOf_22 : decode cX7_isOf 22 = .ok (.iconst 0, 1) := by decide +kernel
theorem dX7_isOf_23 : decode cX7_isOf 23 = .ok (.ireturn, 1) := by decide +kernel
set_option maxRecDepth 20000 in
theorem ggX7_standsBy_X7_cellOf : GoodIn wsX7_standsBy wsX7_cellOf := goodIn_r _ [5, 6, 34, 35, 36, 37, 38, 39, 40, 41, 42, 43, 44, 45, 46, 47, 48, 49, 50, 51] (by decide +kernel) (by decide +kernel)
set_option maxRecDepth 20000 in
theorem gX7_standsBy_X7_cellOf : GoodIn wsX7_standsBy (wsV RX7 61 RX7 yX7_cellOf wsX7_cellOf) := goodIn_app (goodIn_of _ (by decide +kernel)) ggX7_standsBy_X7_cellOf
set_option maxRecDepth 20000 in
theorem ggX7_standsBy_X7_kindOf : GoodIn wsX7_standsBy wsX7_kindOf := goodIn_r _ [10, 6, 34, 35, 36, 37, 38, 39, 40, 41, 42, 43, 44, 45, 46, 47, 48, 49, 50, 51] (by decide +kernel) (by decide +kernel)
set_option maxRecDepth 20000 in
theorem gX7_standsBy_X7_kindOf : GoodIn wsX7_standsBy (wsV RX7 87 RX7 yX7_kindOf wsX7_kindOf) := goodIn_app (goodIn_of _ (by decide +kernel)) ggX7_standsBy_X7_kindOf
set_option maxRecDepth 20000 in
theorem ggX7_standsBy_X7_above : GoodIn wsX7_standsBy wsX7_above := goodIn_r _ [13] (by decide +kernel) (by decide +kernel)
set_option maxRecDepth 20000 in
theorem gX7_standsBy_X7_above : GoodIn wsX7_standsBy (va_wsS RX7 90 yX7_above wsX7_above) := goodIn_app (goodIn_of _ (by decide +kernel)) ggX7_standsBy_X7_above
set_option maxRecDepth 20000 in
theorem ggX7_standsBy_X7_isOf : GoodIn wsX7_standsBy wsX7_isOf := goodIn_r _ [17, 18, 19, 20, 4, 21, 6, 1, 2, 3, 5, 22, 23, 24, 34, 35, 36, 37, 38, 39, 40, 41, 42, 43, 44, 45, 46, 47, 48, 49, 50, 51] (by decide +kernel) (by decide +kernel)
set_option maxRecDepth 20000 in
theorem gX7_standsBy_X7_isOf : GoodIn wsX7_standsBy (wsV RX7 93 RX7 yX7_isOf wsX7_isOf) := goodIn_app (goodIn_of _ (by decide +kernel)) ggX7_standsBy_X7_isOf
set_option maxRecDepth 20000 in
theorem ggX7_standsBy_X7_left : GoodIn wsX7_standsBy wsX7_left := goodIn_r _ [27] (by decide +kernel) (by decide +kernel)
set_option maxRecDepth 20000 in
theorem gX7_standsBy_X7_left : GoodIn wsX7_standsBy (va_wsS RX7 96 yX7_left wsX7_left) := goodIn_app (goodIn_of _ (by decide +kernel)) ggX7_standsBy_X7_left
set_option maxRecDepth 20000 in
theorem ggX7_standsBy_X7_right : GoodIn wsX7_standsBy wsX7_right := goodIn_r _ [30] (by decide +kernel) (by decide +kernel)
set_option maxRecDepth 20000 in
theorem gX7_standsBy_X7_right : GoodIn wsX7_standsBy (va_wsS RX7 99 yX7_right wsX7_right) := goodIn_app (goodIn_of _ (by decide +kernel)) ggX7_standsBy_X7_right
set_option maxRecDepth 20000 in
theorem ggX7_standsBy_X7_below : GoodIn wsX7_standsBy wsX7_below := goodIn_r _ [33] (by decide +kernel) (by decide +kernel)
set_option maxRecDepth 20000 in
theorem gX7_standsBy_X7_below : GoodIn wsX7_standsBy (va_wsS RX7 102 yX7_below wsX7_below) := goodIn_app (goodIn_of _ (by decide +kernel)) ggX7_standsBy_X7_below
theorem dX7_standsBy_0 : decode cX7_standsBy 0 = .ok (.aload_n 0, 1) := by decide +kernel
theorem dX7_standsBy_1 : decode cX7_standsBy 1 = .ok (.iload_n 1, 1) := by decide +kernel
theorem dX7_standsBy_2 : decode cX7_standsBy 2 = .ok (.invokevirtual 61, 3) := by decide +kernel
theorem dX7_standsBy_5 : decode cX7_standsBy 5 = .ok (.istore_n 3, 1) := by decide +kernel
theorem dX7_standsBy_6 : decode cX7_standsBy 6 = .ok (.iload_n 3, 1) := by decide +kernel
theorem dX7_standsBy_7 : decode cX7_standsBy 7 = .ok (.bipush 8, 2) := by decide +kernel
theorem dX7_standsBy_9 : decode cX7_standsBy 9 = .ok (.if_icmp .ge 5, 3) := by decide +kernel
theorem dX7_standsBy_12 : decode cX7_standsBy 12 = .ok (.iconst 1, 1) := by decide +kernel
theorem dX7_standsBy_13 : decode cX7_standsBy 13 = .ok (.ireturn, 1) := by decide +kernel
theorem dX7_standsBy_14 : decode cX7_standsBy 14 = .ok (.aload_n 0, 1) := by decide +kernel
theorem dX7_standsBy_15 : decode cX7_standsBy 15 = .ok (.iload_n 1, 1) := by decide +kernel
theorem dX7_standsBy_16 : decode cX7_standsBy 16 = .ok (.invokevirtual 87, 3) := by decide +kernel
theorem dX7_standsBy_19 : decode cX7_standsBy 19 = .ok (.bipush 6, 2) := by decide +kernel
theorem dX7_standsBy_21 : decode cX7_standsBy 21 = .ok (.if_icmp .ne 13, 3) := by decide +kernel
theorem dX7_standsBy_24 : decode cX7_standsBy 24 = .ok (.aload_n 0, 1) := by decide +kernel
theorem dX7_standsBy_25 : decode cX7_standsBy 25 = .ok (.iload_n 2, 1) := by decide +kernel
theorem dX7_standsBy_26 : decode cX7_standsBy 26 = .ok (.iload_n 3, 1) := by decide +kernel
theorem dX7_standsBy_27 : decode cX7_standsBy 27 = .ok (.invokestatic 90, 3) := by decide +kernel
theorem dX7_standsBy_30 : decode cX7_standsBy 30 = .ok (.invokevirtual 93, 3) := by decide +kernel
theorem dX7_standsBy_33 : decode cX7_standsBy 33 = .ok (.ireturn, 1) := by decide +kernel
theorem dX7_standsBy_34 : decode cX7_standsBy 34 = .ok (.aload_n 0, 1) := by decide +kernel
theorem dX7_standsBy_35 : decode cX7_standsBy 35 = .ok (.iload_n 2, 1) := by decide +kernel
theorem dX7_standsBy_36 : decode cX7_standsBy 36 = .ok (.iload_n 3, 1) := by decide +kernel
theorem dX7_standsBy_37 : decode cX7_standsBy 37 = .ok (.invokestatic 96, 3) := by decide +kernel
theorem dX7_standsBy_40 : decode cX7_standsBy 40 = .ok (.invokevirtual 93, 3) := by decide +kernel
theorem dX7_standsBy_43 : decode cX7_standsBy 43 = .ok (.istore 4, 2) := by decide +kernel
theorem dX7_standsBy_45 : decode cX7_standsBy 45 = .ok (.aload_n 0, 1) := by decide +kernel
theorem dX7_standsBy_46 : decode cX7_standsBy 46 = .ok (.iload_n 2, 1) := by decide +kernel
theorem dX7_standsBy_47 : decode cX7_standsBy 47 = .ok (.iload_n 3, 1) := by decide +kernel
theorem dX7_standsBy_48 : decode cX7_standsBy 48 = .ok (.invokestatic 99, 3) := by decide +kernel
theorem dX7_standsBy_51 : decode cX7_standsBy 51 = .ok (.invokevirtual 93, 3) := by decide +kernel
theorem dX7_standsBy_54 : decode cX7_standsBy 54 = .ok (.istore 5, 2) := by decide +kernel
theorem dX7_standsBy_56 : decode cX7_standsBy 56 = .ok (.aload_n 0, 1) := by decide +kernel
theorem dX7_standsBy_57 : decode cX7_standsBy 57 = .ok (.iload_n 1, 1) := by decide +kernel
theorem dX7_standsBy_58 : decode cX7_standsBy 58 = .ok (.invokevirtual 87, 3) := by decide +kernel
theorem dX7_standsBy_61 : decode cX7_standsBy 61 = .ok (.tableswitch 91 1 5 #[35, 63, 35, 91, 63], 35) := by decide +kernel
theorem dX7_standsBy_96 : decode cX7_standsBy 96 = .ok (.aload_n 0, 1) := by decide +kernel
theorem dX7_standsBy_97 : decode cX7_standsBy 97 = .ok (.iload_n 2, 1) := by decide +kernel
theorem dX7_standsBy_98 : decode cX7_standsBy 98 = .ok (.iload_n 3, 1) := by decide +kernel
theorem dX7_standsBy_99 : decode cX7_standsBy 99 = .ok (.invokestatic 102, 3) := by decide +kernel
theorem dX7_standsBy_102 : decode cX7_standsBy 102 = .ok (.invokevirtual 93, 3) := by decide +kernel
theorem dX7_standsBy_105 : decode cX7_standsBy 105 = .ok (.ifCond .ne 13, 3) := by decide +kernel
theorem dX7_standsBy_108 : decode cX7_standsBy 108 = .ok (.iload 4, 2) := by decide +kernel
theorem dX7_standsBy_110 : decode cX7_standsBy 110 = .ok (.ifCond .eq 12, 3) := by decide +kernel
theorem dX7_standsBy_113 : decode cX7_standsBy 113 = .ok (.iload 5, 2) := by decide +kernel
theorem dX7_standsBy_115 : decode cX7_standsBy 115 = .ok (.ifCond .eq 7, 3) := by decide +kernel
theorem dX7_standsBy_118 : decode cX7_standsBy 118 = .ok (.iconst 1, 1) := by decide +kernel
theorem dX7_standsBy_119 : decode cX7_standsBy 119 = .ok (.goto 4, 3) := by decide +kernel
theorem dX7_standsBy_122 : decode cX7_standsBy 122 = .ok (.iconst 0, 1) := by decide +kernel
theorem dX7_standsBy_123 : decode cX7_standsBy 123 = .ok (.ireturn, 1) := by decide +kernel
theorem dX7_standsBy_124 : decode cX7_standsBy 124 = .ok (.aload_n 0, 1) := by decide +kernel
theorem dX7_standsBy_125 : decode cX7_standsBy 125 = .ok (.iload_n 2, 1) := by decide +kernel
theorem dX7_standsBy_126 : decode cX7_standsBy 126 = .ok (.iload_n 3, 1) := by decide +kernel
theorem dX7_standsBy_127 : decode cX7_standsBy 127 = .ok (.invokestatic 102, 3) := by decide +kernel
theorem dX7_standsBy_130 : decode cX7_standsBy 130 = .ok (.invokevirtual 93, 3) := by decide +kernel
theorem dX7_standsBy_133 : decode cX7_standsBy 133 = .ok (.ifCond .ne 13, 3) := by decide +kernel
theorem dX7_standsBy_136 : decode cX7_standsBy 136 = .ok (.iload 4, 2) := by decide +kernel
theorem dX7_standsBy_138 : decode cX7_standsBy 138 = .ok (.ifCond .ne 8, 3) := by decide +kernel
theorem dX7_standsBy_141 : decode cX7_standsBy 141 = .ok (.iload 5, 2) := by decide +kernel
theorem dX7_standsBy_143 : decode cX7_standsBy 143 = .ok (.ifCond .eq 7, 3) := by decide +kernel
theorem dX7_standsBy_146 : decode cX7_standsBy 146 = .ok (.iconst 1, 1) := by decide +kernel
theorem dX7_standsBy_147 : decode cX7_standsBy 147 = .ok (.goto 4, 3) := by decide +kernel
theorem dX7_standsBy_150 : decode cX7_standsBy 150 = .ok (.iconst 0, 1) := by decide +kernel
theorem dX7_standsBy_151 : decode cX7_standsBy 151 = .ok (.ireturn, 1) := by decide +kernel
theorem dX7_standsBy_152 : decode cX7_standsBy 152 = .ok (.aload_n 0, 1) := by decide +kernel
theorem dX7_standsBy_153 : decode cX7_standsBy 153 = .ok (.iload_n 2, 1) := by decide +kernel
theorem dX7_standsBy_154 : decode cX7_standsBy 154 = .ok (.iload_n 3, 1) := by decide +kernel
theorem dX7_standsBy_155 : decode cX7_standsBy 155 = .ok (.invokestatic 102, 3) := by decide +kernel
theorem dX7_standsBy_158 : decode cX7_standsBy 158 = .ok (.invokevirtual 93, 3) := by decide +kernel
theorem dX7_standsBy_161 : decode cX7_standsBy 161 = .ok (.ireturn, 1) := by decide +kernel
set_option maxRecDepth 20000 in
theorem ggX7_standing_X7_isGone : GoodIn wsX7_standing wsX7_isGone := goodIn_r _ [6, 7, 8, 9, 5, 10, 1, 42, 43, 44, 45, 46, 47, 48, 49, 50, 51, 52, 53, 54, 55, 56, 57, 58, 59] (by decide +kernel) (by decide +kernel)
set_option maxRecDepth 20000 in
theorem gX7_standing_X7_isGone : GoodIn wsX7_standing (wsV RX7 105 RX7 yX7_isGone wsX7_isGone) := goodIn_app (goodIn_of _ (by decide +kernel)) ggX7_standing_X7_isGone
set_option maxRecDepth 20000 in
theorem ggX7_standing_X7_standsBy : GoodIn wsX7_standing wsX7_standsBy := goodIn_r _ [14, 7, 8, 9, 5, 10, 1, 15, 16, 17, 18, 19, 20, 21, 22, 23, 24, 25, 26, 27, 28, 29, 30, 31, 32, 33, 34, 35, 36, 37, 38, 39, 40, 41, 42, 43, 44, 45, 46, 47, 48, 49, 50, 51, 52, 53, 54, 55, 56, 57, 58, 59] (by decide +kernel) (by decide +kernel)
set_option maxRecDepth 20000 in
theorem gX7_standing_X7_standsBy : GoodIn wsX7_standing (wsV RX7 108 RX7 yX7_standsBy wsX7_standsBy) := goodIn_app (goodIn_of _ (by decide +kernel)) ggX7_standing_X7_standsBy
theorem dX7_standing_0 : decode cX7_standing 0 = .ok (.iconst 0, 1) := by decide +kernel
theorem dX7_standing_1 : decode cX7_standing 1 = .ok (.istore_n 1, 1) := by decide +kernel
theorem dX7_standing_2 : decode cX7_standing 2 = .ok (.iconst (-1), 1) := by decide +kernel
theorem dX7_standing_3 : decode cX7_standing 3 = .ok (.istore_n 2, 1) := by decide +kernel
theorem dX7_standing_4 : decode cX7_standing 4 = .ok (.iload_n 1, 1) := by decide +kernel
theorem dX7_standing_5 : decode cX7_standing 5 = .ok (.iload_n 2, 1) := by decide +kernel
theorem dX7_standing_6 : decode cX7_standing 6 = .ok (.if_icmp .eq 53, 3) := by decide +kernel
theorem dX7_standing_9 : decode cX7_standing 9 = .ok (.iload_n 1, 1) := by decide +kernel
theorem dX7_standing_10 : decode cX7_standing 10 = .ok (.istore_n 2, 1) := by decide +kernel
theorem dX7_standing_11 : decode cX7_standing 11 = .ok (.iconst 0, 1) := by decide +kernel
theorem dX7_standing_12 : decode cX7_standing 12 = .ok (.istore_n 3, 1) := by decide +kernel
theorem dX7_standing_13 : decode cX7_standing 13 = .ok (.iload_n 3, 1) := by decide +kernel
theorem dX7_standing_14 : decode cX7_standing 14 = .ok (.aload_n 0, 1) := by decide +kernel
theorem dX7_standing_15 : decode cX7_standing 15 = .ok (.getfield 9, 3) := by decide +kernel
theorem dX7_standing_18 : decode cX7_standing 18 = .ok (.iconst 5, 1) := by decide +kernel
theorem dX7_standing_19 : decode cX7_standing 19 = .ok (.iaload, 1) := by decide +kernel
theorem dX7_standing_20 : decode cX7_standing 20 = .ok (.if_icmp .ge 36, 3) := by decide +kernel
theorem dX7_standing_23 : decode cX7_standing 23 = .ok (.iload_n 1, 1) := by decide +kernel
theorem dX7_standing_24 : decode cX7_standing 24 = .ok (.aload_n 0, 1) := by decide +kernel
theorem dX7_standing_25 : decode cX7_standing 25 = .ok (.iload_n 3, 1) := by decide +kernel
theorem dX7_standing_26 : decode cX7_standing 26 = .ok (.invokevirtual 105, 3) := by decide +kernel
theorem dX7_standing_29 : decode cX7_standing 29 = .ok (.ifCond .ne 18, 3) := by decide +kernel
theorem dX7_standing_32 : decode cX7_standing 32 = .ok (.aload_n 0, 1) := by decide +kernel
theorem dX7_standing_33 : decode cX7_standing 33 = .ok (.iload_n 3, 1) := by decide +kernel
theorem dX7_standing_34 : decode cX7_standing 34 = .ok (.iload_n 1, 1) := by decide +kernel
theorem dX7_standing_35 : decode cX7_standing 35 = .ok (.invokevirtual 108, 3) := by decide +kernel
theorem dX7_standing_38 : decode cX7_standing 38 = .ok (.ifCond .eq 9, 3) := by decide +kernel
theorem dX7_standing_41 : decode cX7_standing 41 = .ok (.iconst 1, 1) := by decide +kernel
theorem dX7_standing_42 : decode cX7_standing 42 = .ok (.iload_n 3, 1) := by decide +kernel
theorem dX7_standing_43 : decode cX7_standing 43 = .ok (.ishl, 1) := by decide +kernel
theorem dX7_standing_44 : decode cX7_standing 44 = .ok (.goto 4, 3) := by decide +kernel
theorem dX7_standing_47 : decode cX7_standing 47 = .ok (.iconst 0, 1) := by decide +kernel
theorem dX7_standing_48 : decode cX7_standing 48 = .ok (.ior, 1) := by decide +kernel
theorem dX7_standing_49 : decode cX7_standing 49 = .ok (.istore_n 1, 1) := by decide +kernel
theorem dX7_standing_50 : decode cX7_standing 50 = .ok (.iinc 3 1, 3) := by decide +kernel
theorem dX7_standing_53 : decode cX7_standing 53 = .ok (.goto (-40), 3) := by decide +kernel
theorem dX7_standing_56 : decode cX7_standing 56 = .ok (.goto (-52), 3) := by decide +kernel
theorem dX7_standing_59 : decode cX7_standing 59 = .ok (.iload_n 1, 1) := by decide +kernel
theorem dX7_standing_60 : decode cX7_standing 60 = .ok (.ireturn, 1) := by decide +kernel
set_option maxRecDepth 20000 in
theorem ggX7_loadOf_X7_cellOf : GoodIn wsX7_loadOf wsX7_cellOf := goodIn_r _ [5, 6, 18, 19, 20, 21, 22, 23, 24, 25, 26, 27, 28, 29, 30, 31, 32, 33, 34, 35] (by decide +kernel) (by decide +kernel)
set_option maxRecDepth 20000 in
theorem gX7_loadOf_X7_cellOf : GoodIn wsX7_loadOf (wsV RX7 61 RX7 yX7_cellOf wsX7_cellOf) := goodIn_app (goodIn_of _ (by decide +kernel)) ggX7_loadOf_X7_cellOf
set_option maxRecDepth 20000 in
theorem ggX7_loadOf_X7_above : GoodIn wsX7_loadOf wsX7_above := goodIn_r _ [9] (by decide +kernel) (by decide +kernel)
set_option maxRecDepth 20000 in
theorem gX7_loadOf_X7_above : GoodIn wsX7_loadOf (va_wsS RX7 90 yX7_above wsX7_above) := goodIn_app (goodIn_of _ (by decide +kernel)) ggX7_loadOf_X7_above
set_option maxRecDepth 20000 in
theorem ggX7_loadOf_X7_blockOn : GoodIn wsX7_loadOf wsX7_blockOn := goodIn_r _ [13, 6, 1, 2, 3, 4, 5, 18, 19, 20, 21, 22, 23, 24, 25, 26, 27, 28, 29, 30, 31, 32, 33, 34, 35] (by decide +kernel) (by decide +kernel)
set_option maxRecDepth 20000 in
theorem gX7_loadOf_X7_blockOn : GoodIn wsX7_loadOf (wsV RX7 75 RX7 yX7_blockOn wsX7_blockOn) := goodIn_app (goodIn_of _ (by decide +kernel)) ggX7_loadOf_X7_blockOn
set_option maxRecDepth 20000 in
theorem ggX7_loadOf_X7_grains : GoodIn wsX7_loadOf wsX7_grains := goodIn_r _ [17, 6, 18, 19, 20, 21, 22, 23, 24, 25, 26, 27, 28, 29, 30, 31, 32, 33, 34, 35] (by decide +kernel) (by decide +kernel)
set_option maxRecDepth 20000 in
theorem gX7_loadOf_X7_grains : GoodIn wsX7_loadOf (wsV RX7 111 RX7 yX7_grains wsX7_grains) := goodIn_app (goodIn_of _ (by decide +kernel)) ggX7_loadOf_X7_grains
theorem dX7_loadOf_0 : decode cX7_loadOf 0 = .ok (.iconst 0, 1) := by decide +kernel
theorem dX7_loadOf_1 : decode cX7_loadOf 1 = .ok (.istore_n 2, 1) := by decide +kernel
theorem dX7_loadOf_2 : decode cX7_loadOf 2 = .ok (.aload_n 0, 1) := by decide +kernel
theorem dX7_loadOf_3 : decode cX7_loadOf 3 = .ok (.iload_n 1, 1) := by decide +kernel
theorem dX7_loadOf_4 : decode cX7_loadOf 4 = .ok (.invokevirtual 61, 3) := by decide +kernel
theorem dX7_loadOf_7 : decode cX7_loadOf 7 = .ok (.invokestatic 90, 3) := by decide +kernel
theorem dX7_loadOf_10 : decode cX7_loadOf 10 = .ok (.istore_n 3, 1) := by decide +kernel
theorem dX7_loadOf_11 : decode cX7_loadOf 11 = .ok (.aload_n 0, 1) := by decide +kernel
theorem dX7_loadOf_12 : decode cX7_loadOf 12 = .ok (.iload_n 3, 1) := by decide +kernel
theorem dX7_loadOf_13 : decode cX7_loadOf 13 = .ok (.invokevirtual 75, 3) := by decide +kernel
theorem dX7_loadOf_16 : decode cX7_loadOf 16 = .ok (.ifCond .lt 23, 3) := by decide +kernel
theorem dX7_loadOf_19 : decode cX7_loadOf 19 = .ok (.iload_n 2, 1) := by decide +kernel
theorem dX7_loadOf_20 : decode cX7_loadOf 20 = .ok (.aload_n 0, 1) := by decide +kernel
theorem dX7_loadOf_21 : decode cX7_loadOf 21 = .ok (.aload_n 0, 1) := by decide +kernel
theorem dX7_loadOf_22 : decode cX7_loadOf 22 = .ok (.iload_n 3, 1) := by decide +kernel
theorem dX7_loadOf_23 : decode cX7_loadOf 23 = .ok (.invokevirtual 75, 3) := by decide +kernel
theorem dX7_loadOf_26 : decode cX7_loadOf 26 = .ok (.invokevirtual 111, 3) := by decide +kernel
theorem dX7_loadOf_29 : decode cX7_loadOf 29 = .ok (.iadd, 1) := by decide +kernel
theorem dX7_loadOf_30 : decode cX7_loadOf 30 = .ok (.istore_n 2, 1) := by decide +kernel
theorem dX7_loadOf_31 : decode cX7_loadOf 31 = .ok (.iload_n 3, 1) := by decide +kernel
theorem dX7_loadOf_32 : decode cX7_loadOf 32 = .ok (.invokestatic 90, 3) := by decide +kernel
theorem dX7_loadOf_35 : decode cX7_loadOf 35 = .ok (.istore_n 3, 1) := by decide +kernel
theorem dX7_loadOf_36 : decode cX7_loadOf 36 = .ok (.goto (-25), 3) := by decide +kernel
theorem dX7_loadOf_39 : decode cX7_loadOf 39 = .ok (.iload_n 2, 1) := by decide +kernel
theorem dX7_loadOf_40 : decode cX7_loadOf 40 = .ok (.ireturn, 1) := by decide +kernel
set_option maxRecDepth 20000 in
theorem ggX7_strongOf_X7_grains : GoodIn wsX7_strongOf wsX7_grains := goodIn_r _ [5, 6, 11, 12, 13, 14, 15, 16, 17, 18, 19, 20, 21, 22, 23, 24, 25, 26, 27, 28] (by decide +kernel) (by decide +kernel)
set_option maxRecDepth 20000 in
theorem gX7_strongOf_X7_grains : GoodIn wsX7_strongOf (wsV RX7 111 RX7 yX7_grains wsX7_grains) := goodIn_app (goodIn_of _ (by decide +kernel)) ggX7_strongOf_X7_grains
set_option maxRecDepth 20000 in
theorem ggX7_strongOf_X7_kindOf : GoodIn wsX7_strongOf wsX7_kindOf := goodIn_r _ [10, 6, 11, 12, 13, 14, 15, 16, 17, 18, 19, 20, 21, 22, 23, 24, 25, 26, 27, 28] (by decide +kernel) (by decide +kernel)
set_option maxRecDepth 20000 in
theorem gX7_strongOf_X7_kindOf : GoodIn wsX7_strongOf (wsV RX7 87 RX7 yX7_kindOf wsX7_kindOf) := goodIn_app (goodIn_of _ (by decide +kernel)) ggX7_strongOf_X7_kindOf
theorem dX7_strongOf_0 : decode cX7_strongOf 0 = .ok (.iconst 4, 1) := by decide +kernel
theorem dX7_strongOf_1 : decode cX7_strongOf 1 = .ok (.aload_n 0, 1) := by decide +kernel
theorem dX7_strongOf_2 : decode cX7_strongOf 2 = .ok (.iload_n 1, 1) := by decide +kernel
theorem dX7_strongOf_3 : decode cX7_strongOf 3 = .ok (.invokevirtual 111, 3) := by decide +kernel
theorem dX7_strongOf_6 : decode cX7_strongOf 6 = .ok (.imul, 1) := by decide +kernel
theorem dX7_strongOf_7 : decode cX7_strongOf 7 = .ok (.istore_n 2, 1) := by decide +kernel
theorem dX7_strongOf_8 : decode cX7_strongOf 8 = .ok (.aload_n 0, 1) := by decide +kernel
theorem dX7_strongOf_9 : decode cX7_strongOf 9 = .ok (.iload_n 1, 1) := by decide +kernel
theorem dX7_strongOf_10 : decode cX7_strongOf 10 = .ok (.invokevirtual 87, 3) := by decide +kernel
theorem dX7_strongOf_13 : decode cX7_strongOf 13 = .ok (.tableswitch 40 3 5 #[27, 32, 36], 27) := by decide +kernel
theorem dX7_strongOf_40 : decode cX7_strongOf 40 = .ok (.iload_n 2, 1) := by decide +kernel
theorem dX7_strongOf_41 : decode cX7_strongOf 41 = .ok (.bipush 20, 2) := by decide +kernel
theorem dX7_strongOf_43 : decode cX7_strongOf 43 = .ok (.iadd, 1) := by decide +kernel
theorem dX7_strongOf_44 : decode cX7_strongOf 44 = .ok (.ireturn, 1) := by decide +kernel
theorem dX7_strongOf_45 : decode cX7_strongOf 45 = .ok (.iconst 3, 1) := by decide +kernel
theorem dX7_strongOf_46 : decode cX7_strongOf 46 = .ok (.iload_n 2, 1) := by decide +kernel
theorem dX7_strongOf_47 : decode cX7_strongOf 47 = .ok (.imul, 1) := by decide +kernel
theorem dX7_strongOf_48 : decode cX7_strongOf 48 = .ok (.ireturn, 1) := by decide +kernel
theorem dX7_strongOf_49 : decode cX7_strongOf 49 = .ok (.iconst 2, 1) := by decide +kernel
theorem dX7_strongOf_50 : decode cX7_strongOf 50 = .ok (.iload_n 2, 1) := by decide +kernel
theorem dX7_strongOf_51 : decode cX7_strongOf 51 = .ok (.imul, 1) := by decide +kernel
theorem dX7_strongOf_52 : decode cX7_strongOf 52 = .ok (.ireturn, 1) := by decide +kernel
theorem dX7_strongOf_53 : decode cX7_strongOf 53 = .ok (.iload_n 2, 1) := by decide +kernel
theorem dX7_strongOf_54 : decode cX7_strongOf 54 = .ok (.ireturn, 1) := by decide +kernel
set_option maxRecDepth 20000 in
theorem ggX7_blockOf_X7_isBlock : GoodIn wsX7_blockOf wsX7_isBlock := goodIn_r _ [7, 8, 9, 10, 6, 11, 72, 73, 74, 75, 76, 77, 78, 79, 80, 81, 82, 83, 84, 85, 86, 87, 88, 89] (by decide +kernel) (by decide +kernel)
set_option maxRecDepth 20000 in
theorem gX7_blockOf_X7_isBlock : GoodIn wsX7_blockOf (wsV RX7 114 RX7 yX7_isBlock wsX7_isBlock) := goodIn_app (goodIn_of _ (by decide +kernel)) ggX7_blockOf_X7_isBlock
set_option maxRecDepth 20000 in
theorem ggX7_blockOf_X7_in : GoodIn wsX7_blockOf wsX7_in := goodIn_r _ [11] (by decide +kernel) (by decide +kernel)
set_option maxRecDepth 20000 in
theorem gX7_blockOf_X7_in : GoodIn wsX7_blockOf (va_wsS RX7 51 yX7_in wsX7_in) := goodIn_app (goodIn_of _ (by decide +kernel)) ggX7_blockOf_X7_in
set_option maxRecDepth 20000 in
theorem ggX7_blockOf_X7_finds : GoodIn wsX7_blockOf wsX7_finds := goodIn_r _ [15, 16, 2, 72, 73, 74, 75, 76, 77, 78, 79, 80, 81, 82, 83, 84, 85, 86, 87, 88, 89] (by decide +kernel) (by decide +kernel)
set_option maxRecDepth 20000 in
theorem gX7_blockOf_X7_finds : GoodIn wsX7_blockOf (wsV RX7 45 RX7 yX7_finds wsX7_finds) := goodIn_app (goodIn_of _ (by decide +kernel)) ggX7_blockOf_X7_finds
set_option maxRecDepth 20000 in
theorem ggX7_blockOf_X7_kindOf : GoodIn wsX7_blockOf wsX7_kindOf := goodIn_r _ [20, 8, 72, 73, 74, 75, 76, 77, 78, 79, 80, 81, 82, 83, 84, 85, 86, 87, 88, 89] (by decide +kernel) (by decide +kernel)
set_option maxRecDepth 20000 in
theorem gX7_blockOf_X7_kindOf : GoodIn wsX7_blockOf (wsV RX7 87 RX7 yX7_kindOf wsX7_kindOf) := goodIn_app (goodIn_of _ (by decide +kernel)) ggX7_blockOf_X7_kindOf
set_option maxRecDepth 20000 in
theorem ggX7_blockOf_X7_cellOf : GoodIn wsX7_blockOf wsX7_cellOf := goodIn_r _ [24, 8, 72, 73, 74, 75, 76, 77, 78, 79, 80, 81, 82, 83, 84, 85, 86, 87, 88, 89] (by decide +kernel) (by decide +kernel)
set_option maxRecDepth 20000 in
theorem gX7_blockOf_X7_cellOf : GoodIn wsX7_blockOf (wsV RX7 61 RX7 yX7_cellOf wsX7_cellOf) := goodIn_app (goodIn_of _ (by decide +kernel)) ggX7_blockOf_X7_cellOf
set_option maxRecDepth 20000 in
theorem ggX7_blockOf_X7_grains : GoodIn wsX7_blockOf wsX7_grains := goodIn_r _ [28, 8, 72, 73, 74, 75, 76, 77, 78, 79, 80, 81, 82, 83, 84, 85, 86, 87, 88, 89] (by decide +kernel) (by decide +kernel)
set_option maxRecDepth 20000 in
theorem gX7_blockOf_X7_grains : GoodIn wsX7_blockOf (wsV RX7 111 RX7 yX7_grains wsX7_grains) := goodIn_app (goodIn_of _ (by decide +kernel)) ggX7_blockOf_X7_grains
set_option maxRecDepth 20000 in
theorem ggX7_blockOf_X7_isGone : GoodIn wsX7_blockOf wsX7_isGone := goodIn_r _ [32, 21, 22, 23, 6, 24, 8, 72, 73, 74, 75, 76, 77, 78, 79, 80, 81, 82, 83, 84, 85, 86, 87, 88, 89] (by decide +kernel) (by decide +kernel)
set_option maxRecDepth 20000 in
theorem gX7_blockOf_X7_isGone : GoodIn wsX7_blockOf (wsV RX7 105 RX7 yX7_isGone wsX7_isGone) := goodIn_app (goodIn_of _ (by decide +kernel)) ggX7_blockOf_X7_isGone
set_option maxRecDepth 20000 in
theorem ggX7_blockOf_X7_standing : GoodIn wsX7_blockOf wsX7_standing := goodIn_r _ [36, 8, 29, 30, 31, 6, 32, 21, 22, 23, 24, 37, 38, 39, 40, 17, 18, 19, 20, 41, 42, 43, 44, 45, 46, 47, 48, 49, 50, 51, 52, 53, 54, 55, 56, 57, 58, 59, 60, 61, 62, 63, 72, 73, 74, 75, 76, 77, 78, 79, 80, 81, 82, 83, 84, 85, 86, 87, 88, 89] (by decide +kernel) (by decide +kernel)
set_option maxRecDepth 20000 in
theorem gX7_blockOf_X7_standing : GoodIn wsX7_blockOf (wsV RX7 117 RX7 yX7_standing wsX7_standing) := goodIn_app (goodIn_of _ (by decide +kernel)) ggX7_blockOf_X7_standing
set_option maxRecDepth 20000 in
theorem ggX7_blockOf_X7_has : GoodIn wsX7_blockOf wsX7_has := goodIn_r _ [54] (by decide +kernel) (by decide +kernel)
set_option maxRecDepth 20000 in
theorem gX7_blockOf_X7_has : GoodIn wsX7_blockOf (va_wsS RX7 83 yX7_has wsX7_has) := goodIn_app (goodIn_of _ (by decide +kernel)) ggX7_blockOf_X7_has
set_option maxRecDepth 20000 in
theorem ggX7_blockOf_X7_loadOf : GoodIn wsX7_blockOf wsX7_loadOf := goodIn_r _ [67, 21, 22, 23, 6, 24, 8, 41, 42, 43, 48, 49, 50, 51, 25, 26, 27, 28, 72, 73, 74, 75, 76, 77, 78, 79, 80, 81, 82, 83, 84, 85, 86, 87, 88, 89] (by decide +kernel) (by decide +kernel)
set_option maxRecDepth 20000 in
theorem gX7_blockOf_X7_loadOf : GoodIn wsX7_blockOf (wsV RX7 121 RX7 yX7_loadOf wsX7_loadOf) := goodIn_app (goodIn_of _ (by decide +kernel)) ggX7_blockOf_X7_loadOf
set_option maxRecDepth 20000 in
theorem ggX7_blockOf_X7_strongOf : GoodIn wsX7_blockOf wsX7_strongOf := goodIn_r _ [71, 25, 26, 27, 6, 28, 8, 17, 18, 19, 20, 72, 73, 74, 75, 76, 77, 78, 79, 80, 81, 82, 83, 84, 85, 86, 87, 88, 89] (by decide +kernel) (by decide +kernel)
set_option maxRecDepth 20000 in
theorem gX7_blockOf_X7_strongOf : GoodIn wsX7_blockOf (wsV RX7 124 RX7 yX7_strongOf wsX7_strongOf) := goodIn_app (goodIn_of _ (by decide +kernel)) ggX7_blockOf_X7_strongOf
theorem dX7_blockOf_0 : decode cX7_blockOf 0 = .ok (.aload_n 0, 1) := by decide +kernel
theorem dX7_blockOf_1 : decode cX7_blockOf 1 = .ok (.iload_n 1, 1) := by decide +kernel
theorem dX7_blockOf_2 : decode cX7_blockOf 2 = .ok (.invokevirtual 114, 3) := by decide +kernel
theorem dX7_blockOf_5 : decode cX7_blockOf 5 = .ok (.ifCond .eq 15, 3) := by decide +kernel
theorem dX7_blockOf_8 : decode cX7_blockOf 8 = .ok (.iload_n 2, 1) := by decide +kernel
theorem dX7_blockOf_9 : decode cX7_blockOf 9 = .ok (.i2l, 1) := by decide +kernel
theorem dX7_blockOf_10 : decode cX7_blockOf 10 = .ok (.lconst 0, 1) := by decide +kernel
theorem dX7_blockOf_11 : decode cX7_blockOf 11 = .ok (.ldc2_w 57, 3) := by decide +kernel
theorem dX7_blockOf_14 : decode cX7_blockOf 14 = .ok (.invokestatic 51, 3) := by decide +kernel
theorem dX7_blockOf_17 : decode cX7_blockOf 17 = .ok (.ifCond .ne 10, 3) := by decide +kernel
theorem dX7_blockOf_20 : decode cX7_blockOf 20 = .ok (.aload_n 0, 1) := by decide +kernel
theorem dX7_blockOf_21 : decode cX7_blockOf 21 = .ok (.ldc 43, 2) := by decide +kernel
theorem dX7_blockOf_23 : decode cX7_blockOf 23 = .ok (.invokevirtual 45, 3) := by decide +kernel
theorem dX7_blockOf_26 : decode cX7_blockOf 26 = .ok (.ireturn, 1) := by decide +kernel
theorem dX7_blockOf_27 : decode cX7_blockOf 27 = .ok (.iload_n 2, 1) := by decide +kernel
theorem dX7_blockOf_28 : decode cX7_blockOf 28 = .ok (.tableswitch 107 0 5 #[40, 46, 52, 58, 72, 89], 40) := by decide +kernel
theorem dX7_blockOf_68 : decode cX7_blockOf 68 = .ok (.aload_n 0, 1) := by decide +kernel
theorem dX7_blockOf_69 : decode cX7_blockOf 69 = .ok (.iload_n 1, 1) := by decide +kernel
theorem dX7_blockOf_70 : decode cX7_blockOf 70 = .ok (.invokevirtual 87, 3) := by decide +kernel
theorem dX7_blockOf_73 : decode cX7_blockOf 73 = .ok (.ireturn, 1) := by decide +kernel
theorem dX7_blockOf_74 : decode cX7_blockOf 74 = .ok (.aload_n 0, 1) := by decide +kernel
theorem dX7_blockOf_75 : decode cX7_blockOf 75 = .ok (.iload_n 1, 1) := by decide +kernel
theorem dX7_blockOf_76 : decode cX7_blockOf 76 = .ok (.invokevirtual 61, 3) := by decide +kernel
theorem dX7_blockOf_79 : decode cX7_blockOf 79 = .ok (.ireturn, 1) := by decide +kernel
theorem dX7_blockOf_80 : decode cX7_blockOf 80 = .ok (.aload_n 0, 1) := by decide +kernel
theorem dX7_blockOf_81 : decode cX7_blockOf 81 = .ok (.iload_n 1, 1) := by decide +kernel
theorem dX7_blockOf_82 : decode cX7_blockOf 82 = .ok (.invokevirtual 111, 3) := by decide +kernel
theorem dX7_blockOf_85 : decode cX7_blockOf 85 = .ok (.ireturn, 1) := by decide +kernel
theorem dX7_blockOf_86 : decode cX7_blockOf 86 = .ok (.aload_n 0, 1) := by decide +kernel
theorem dX7_blockOf_87 : decode cX7_blockOf 87 = .ok (.iload_n 1, 1) := by decide +kernel
theorem dX7_blockOf_88 : decode cX7_blockOf 88 = .ok (.invokevirtual 105, 3) := by decide +kernel
theorem dX7_blockOf_91 : decode cX7_blockOf 91 = .ok (.ifCond .eq 7, 3) := by decide +kernel
theorem dX7_blockOf_94 : decode cX7_blockOf 94 = .ok (.iconst 1, 1) := by decide +kernel
theorem dX7_blockOf_95 : decode cX7_blockOf 95 = .ok (.goto 4, 3) := by decide +kernel
theorem dX7_blockOf_98 : decode cX7_blockOf 98 = .ok (.iconst 0, 1) := by decide +kernel
theorem dX7_blockOf_99 : decode cX7_blockOf 99 = .ok (.ireturn, 1) := by decide +kernel
theorem dX7_blockOf_100 : decode cX7_blockOf 100 = .ok (.aload_n 0, 1) := by decide +kernel
theorem dX7_blockOf_101 : decode cX7_blockOf 101 = .ok (.invokevirtual 117, 3) := by decide +kernel
theorem dX7_blockOf_104 : decode cX7_blockOf 104 = .ok (.iload_n 1, 1) := by decide +kernel
theorem dX7_blockOf_105 : decode cX7_blockOf 105 = .ok (.invokestatic 83, 3) := by decide +kernel
theorem dX7_blockOf_108 : decode cX7_blockOf 108 = .ok (.ifCond .eq 7, 3) := by decide +kernel
theorem dX7_blockOf_111 : decode cX7_blockOf 111 = .ok (.iconst 1, 1) := by decide +kernel
theorem dX7_blockOf_112 : decode cX7_blockOf 112 = .ok (.goto 4, 3) := by decide +kernel
theorem dX7_blockOf_115 : decode cX7_blockOf 115 = .ok (.iconst 0, 1) := by decide +kernel
theorem dX7_blockOf_116 : decode cX7_blockOf 116 = .ok (.ireturn, 1) := by decide +kernel
theorem dX7_blockOf_117 : decode cX7_blockOf 117 = .ok (.aload_n 0, 1) := by decide +kernel
theorem dX7_blockOf_118 : decode cX7_blockOf 118 = .ok (.iload_n 1, 1) := by decide +kernel
theorem dX7_blockOf_119 : decode cX7_blockOf 119 = .ok (.invokevirtual 105, 3) := by decide +kernel
theorem dX7_blockOf_122 : decode cX7_blockOf 122 = .ok (.ifCond .eq 7, 3) := by decide +kernel
theorem dX7_blockOf_125 : decode cX7_blockOf 125 = .ok (.iconst 0, 1) := by decide +kernel
theorem dX7_blockOf_126 : decode cX7_blockOf 126 = .ok (.goto 8, 3) := by decide +kernel
theorem dX7_blockOf_129 : decode cX7_blockOf 129 = .ok (.aload_n 0, 1) := by decide +kernel
theorem dX7_blockOf_130 : decode cX7_blockOf 130 = .ok (.iload_n 1, 1) := by decide +kernel
theorem dX7_blockOf_131 : decode cX7_blockOf 131 = .ok (.invokevirtual 121, 3) := by decide +kernel
theorem dX7_blockOf_134 : decode cX7_blockOf 134 = .ok (.ireturn, 1) := by decide +kernel
theorem dX7_blockOf_135 : decode cX7_blockOf 135 = .ok (.aload_n 0, 1) := by decide +kernel
theorem dX7_blockOf_136 : decode cX7_blockOf 136 = .ok (.iload_n 1, 1) := by decide +kernel
theorem dX7_blockOf_137 : decode cX7_blockOf 137 = .ok (.invokevirtual 105, 3) := by decide +kernel
theorem dX7_blockOf_140 : decode cX7_blockOf 140 = .ok (.ifCond .eq 7, 3) := by decide +kernel
theorem dX7_blockOf_143 : decode cX7_blockOf 143 = .ok (.iconst 0, 1) := by decide +kernel
theorem dX7_blockOf_144 : decode cX7_blockOf 144 = .ok (.goto 8, 3) := by decide +kernel
theorem dX7_blockOf_147 : decode cX7_blockOf 147 = .ok (.aload_n 0, 1) := by decide +kernel
theorem dX7_blockOf_148 : decode cX7_blockOf 148 = .ok (.iload_n 1, 1) := by decide +kernel
theorem dX7_blockOf_149 : decode cX7_blockOf 149 = .ok (.invokevirtual 124, 3) := by decide +kernel
theorem dX7_blockOf_152 : decode cX7_blockOf 152 = .ok (.ireturn, 1) := by decide +kernel
set_option maxRecDepth 20000 in
theorem ggX7_turn_X7_isBlock : GoodIn wsX7_turn wsX7_isBlock := goodIn_r _ [6, 7, 8, 9, 5, 10, 24, 25, 26, 27, 28, 29, 30, 31, 32, 33, 34, 35, 36, 37, 38, 39, 40, 41] (by decide +kernel) (by decide +kernel)
set_option maxRecDepth 20000 in
theorem gX7_turn_X7_isBlock : GoodIn wsX7_turn (wsV RX7 114 RX7 yX7_isBlock wsX7_isBlock) := goodIn_app (goodIn_of _ (by decide +kernel)) ggX7_turn_X7_isBlock
set_option maxRecDepth 20000 in
theorem ggX7_turn_X7_isKind : GoodIn wsX7_turn wsX7_isKind := goodIn_r _ [13, 14, 8, 9, 5, 10] (by decide +kernel) (by decide +kernel)
set_option maxRecDepth 20000 in
theorem gX7_turn_X7_isKind : GoodIn wsX7_turn (va_wsS RX7 64 yX7_isKind wsX7_isKind) := goodIn_app (goodIn_of _ (by decide +kernel)) ggX7_turn_X7_isKind
set_option maxRecDepth 20000 in
theorem ggX7_turn_X7_becomes : GoodIn wsX7_turn wsX7_becomes := goodIn_r _ [18, 7, 24, 25, 26, 27, 28, 29, 30, 31, 32, 33, 34, 35, 36, 37, 38, 39, 40, 41] (by decide +kernel) (by decide +kernel)
set_option maxRecDepth 20000 in
theorem gX7_turn_X7_becomes : GoodIn wsX7_turn (wsV RX7 127 RX7 yX7_becomes wsX7_becomes) := goodIn_app (goodIn_of _ (by decide +kernel)) ggX7_turn_X7_becomes
set_option maxRecDepth 20000 in
theorem ggX7_turn_X7_finds : GoodIn wsX7_turn wsX7_finds := goodIn_r _ [22, 23, 1, 24, 25, 26, 27, 28, 29, 30, 31, 32, 33, 34, 35, 36, 37, 38, 39, 40, 41] (by decide +kernel) (by decide +kernel)
set_option maxRecDepth 20000 in
theorem gX7_turn_X7_finds : GoodIn wsX7_turn (wsV RX7 45 RX7 yX7_finds wsX7_finds) := goodIn_app (goodIn_of _ (by decide +kernel)) ggX7_turn_X7_finds
theorem dX7_turn_0 : decode cX7_turn 0 = .ok (.aload_n 0, 1) := by decide +kernel
theorem dX7_turn_1 : decode cX7_turn 1 = .ok (.iload_n 1, 1) := by decide +kernel
theorem dX7_turn_2 : decode cX7_turn 2 = .ok (.invokevirtual 114, 3) := by decide +kernel
theorem dX7_turn_5 : decode cX7_turn 5 = .ok (.ifCond .eq 24, 3) := by decide +kernel
theorem dX7_turn_8 : decode cX7_turn 8 = .ok (.iload_n 2, 1) := by decide +kernel
theorem dX7_turn_9 : decode cX7_turn 9 = .ok (.invokestatic 64, 3) := by decide +kernel
theorem dX7_turn_12 : decode cX7_turn 12 = .ok (.ifCond .eq 17, 3) := by decide +kernel
theorem dX7_turn_15 : decode cX7_turn 15 = .ok (.aload_n 0, 1) := by decide +kernel
theorem dX7_turn_16 : decode cX7_turn 16 = .ok (.bipush 24, 2) := by decide +kernel
theorem dX7_turn_18 : decode cX7_turn 18 = .ok (.iconst 3, 1) := by decide +kernel
theorem dX7_turn_19 : decode cX7_turn 19 = .ok (.iload_n 1, 1) := by decide +kernel
theorem dX7_turn_20 : decode cX7_turn 20 = .ok (.imul, 1) := by decide +kernel
theorem dX7_turn_21 : decode cX7_turn 21 = .ok (.iadd, 1) := by decide +kernel
theorem dX7_turn_22 : decode cX7_turn 22 = .ok (.iload_n 2, 1) := by decide +kernel
theorem dX7_turn_23 : decode cX7_turn 23 = .ok (.invokevirtual 127, 3) := by decide +kernel
theorem dX7_turn_26 : decode cX7_turn 26 = .ok (.goto 9, 3) := by decide +kernel
theorem dX7_turn_29 : decode cX7_turn 29 = .ok (.aload_n 0, 1) := by decide +kernel
theorem dX7_turn_30 : decode cX7_turn 30 = .ok (.ldc 43, 2) := by decide +kernel
theorem dX7_turn_32 : decode cX7_turn 32 = .ok (.invokevirtual 45, 3) := by decide +kernel
theorem dX7_turn_35 : decode cX7_turn 35 = .ok (.ireturn, 1) := by decide +kernel
set_option maxRecDepth 20000 in
theorem ggX7_take_X7_isBlock : GoodIn wsX7_take wsX7_isBlock := goodIn_r _ [7, 8, 9, 10, 6, 11, 37, 38, 39, 40, 41, 42, 43, 44, 45, 46, 47, 48, 49, 50, 51, 52, 53, 54] (by decide +kernel) (by decide +kernel)
set_option maxRecDepth 20000 in
theorem gX7_take_X7_isBlock : GoodIn wsX7_take (wsV RX7 114 RX7 yX7_isBlock wsX7_isBlock) := goodIn_app (goodIn_of _ (by decide +kernel)) ggX7_take_X7_isBlock
set_option maxRecDepth 20000 in
theorem ggX7_take_X7_isCell : GoodIn wsX7_take wsX7_isCell := goodIn_r _ [14, 15, 9, 10, 6, 11] (by decide +kernel) (by decide +kernel)
set_option maxRecDepth 20000 in
theorem gX7_take_X7_isCell : GoodIn wsX7_take (va_wsS RX7 68 yX7_isCell wsX7_isCell) := goodIn_app (goodIn_of _ (by decide +kernel)) ggX7_take_X7_isCell
set_option maxRecDepth 20000 in
theorem ggX7_take_X7_finds : GoodIn wsX7_take wsX7_finds := goodIn_r _ [19, 20, 1, 37, 38, 39, 40, 41, 42, 43, 44, 45, 46, 47, 48, 49, 50, 51, 52, 53, 54] (by decide +kernel) (by decide +kernel)
set_option maxRecDepth 20000 in
theorem gX7_take_X7_finds : GoodIn wsX7_take (wsV RX7 45 RX7 yX7_finds wsX7_finds) := goodIn_app (goodIn_of _ (by decide +kernel)) ggX7_take_X7_finds
set_option maxRecDepth 20000 in
theorem ggX7_take_X7_blockOn : GoodIn wsX7_take wsX7_blockOn := goodIn_r _ [24, 8, 25, 26, 27, 6, 28, 37, 38, 39, 40, 41, 42, 43, 44, 45, 46, 47, 48, 49, 50, 51, 52, 53, 54] (by decide +kernel) (by decide +kernel)
set_option maxRecDepth 20000 in
theorem gX7_take_X7_blockOn : GoodIn wsX7_take (wsV RX7 75 RX7 yX7_blockOn wsX7_blockOn) := goodIn_app (goodIn_of _ (by decide +kernel)) ggX7_take_X7_blockOn
set_option maxRecDepth 20000 in
theorem ggX7_take_X7_isGone : GoodIn wsX7_take wsX7_isGone := goodIn_r _ [32, 25, 26, 27, 6, 28, 8, 37, 38, 39, 40, 41, 42, 43, 44, 45, 46, 47, 48, 49, 50, 51, 52, 53, 54] (by decide +kernel) (by decide +kernel)
set_option maxRecDepth 20000 in
theorem gX7_take_X7_isGone : GoodIn wsX7_take (wsV RX7 105 RX7 yX7_isGone wsX7_isGone) := goodIn_app (goodIn_of _ (by decide +kernel)) ggX7_take_X7_isGone
set_option maxRecDepth 20000 in
theorem ggX7_take_X7_becomes : GoodIn wsX7_take wsX7_becomes := goodIn_r _ [36, 8, 37, 38, 39, 40, 41, 42, 43, 44, 45, 46, 47, 48, 49, 50, 51, 52, 53, 54] (by decide +kernel) (by decide +kernel)
set_option maxRecDepth 20000 in
theorem gX7_take_X7_becomes : GoodIn wsX7_take (wsV RX7 127 RX7 yX7_becomes wsX7_becomes) := goodIn_app (goodIn_of _ (by decide +kernel)) ggX7_take_X7_becomes
theorem dX7_take_0 : decode cX7_take 0 = .ok (.aload_n 0, 1) := by decide +kernel
theorem dX7_take_1 : decode cX7_take 1 = .ok (.iload_n 1, 1) := by decide +kernel
theorem dX7_take_2 : decode cX7_take 2 = .ok (.invokevirtual 114, 3) := by decide +kernel
theorem dX7_take_5 : decode cX7_take 5 = .ok (.ifCond .eq 10, 3) := by decide +kernel
theorem dX7_take_8 : decode cX7_take 8 = .ok (.iload_n 2, 1) := by decide +kernel
theorem dX7_take_9 : decode cX7_take 9 = .ok (.invokestatic 68, 3) := by decide +kernel
theorem dX7_take_12 : decode cX7_take 12 = .ok (.ifCond .ne 10, 3) := by decide +kernel
theorem dX7_take_15 : decode cX7_take 15 = .ok (.aload_n 0, 1) := by decide +kernel
theorem dX7_take_16 : decode cX7_take 16 = .ok (.ldc 43, 2) := by decide +kernel
theorem dX7_take_18 : decode cX7_take 18 = .ok (.invokevirtual 45, 3) := by decide +kernel
theorem dX7_take_21 : decode cX7_take 21 = .ok (.ireturn, 1) := by decide +kernel
theorem dX7_take_22 : decode cX7_take 22 = .ok (.aload_n 0, 1) := by decide +kernel
theorem dX7_take_23 : decode cX7_take 23 = .ok (.iload_n 2, 1) := by decide +kernel
theorem dX7_take_24 : decode cX7_take 24 = .ok (.invokevirtual 75, 3) := by decide +kernel
theorem dX7_take_27 : decode cX7_take 27 = .ok (.istore_n 3, 1) := by decide +kernel
theorem dX7_take_28 : decode cX7_take 28 = .ok (.aload_n 0, 1) := by decide +kernel
theorem dX7_take_29 : decode cX7_take 29 = .ok (.iload_n 1, 1) := by decide +kernel
theorem dX7_take_30 : decode cX7_take 30 = .ok (.invokevirtual 105, 3) := by decide +kernel
theorem dX7_take_33 : decode cX7_take 33 = .ok (.ifCond .ne 12, 3) := by decide +kernel
theorem dX7_take_36 : decode cX7_take 36 = .ok (.iload_n 3, 1) := by decide +kernel
theorem dX7_take_37 : decode cX7_take 37 = .ok (.ifCond .lt 15, 3) := by decide +kernel
theorem dX7_take_40 : decode cX7_take 40 = .ok (.iload_n 3, 1) := by decide +kernel
theorem dX7_take_41 : decode cX7_take 41 = .ok (.iload_n 1, 1) := by decide +kernel
theorem dX7_take_42 : decode cX7_take 42 = .ok (.if_icmp .eq 10, 3) := by decide +kernel
theorem dX7_take_45 : decode cX7_take 45 = .ok (.aload_n 0, 1) := by decide +kernel
theorem dX7_take_46 : decode cX7_take 46 = .ok (.ldc 78, 2) := by decide +kernel
theorem dX7_take_48 : decode cX7_take 48 = .ok (.invokevirtual 45, 3) := by decide +kernel
theorem dX7_take_51 : decode cX7_take 51 = .ok (.ireturn, 1) := by decide +kernel
theorem dX7_take_52 : decode cX7_take 52 = .ok (.aload_n 0, 1) := by decide +kernel
theorem dX7_take_53 : decode cX7_take 53 = .ok (.bipush 24, 2) := by decide +kernel
theorem dX7_take_55 : decode cX7_take 55 = .ok (.iconst 3, 1) := by decide +kernel
theorem dX7_take_56 : decode cX7_take 56 = .ok (.iload_n 1, 1) := by decide +kernel
theorem dX7_take_57 : decode cX7_take 57 = .ok (.imul, 1) := by decide +kernel
theorem dX7_take_58 : decode cX7_take 58 = .ok (.iadd, 1) := by decide +kernel
theorem dX7_take_59 : decode cX7_take 59 = .ok (.iconst 1, 1) := by decide +kernel
theorem dX7_take_60 : decode cX7_take 60 = .ok (.iadd, 1) := by decide +kernel
theorem dX7_take_61 : decode cX7_take 61 = .ok (.iload_n 2, 1) := by decide +kernel
theorem dX7_take_62 : decode cX7_take 62 = .ok (.invokevirtual 127, 3) := by decide +kernel
theorem dX7_take_65 : decode cX7_take 65 = .ok (.ireturn, 1) := by decide +kernel
set_option maxRecDepth 20000 in
theorem ggX7_on_X7_isCell : GoodIn wsX7_on wsX7_isCell := goodIn_r _ [5, 6, 7, 8, 4, 9] (by decide +kernel) (by decide +kernel)
set_option maxRecDepth 20000 in
theorem gX7_on_X7_isCell : GoodIn wsX7_on (va_wsS RX7 68 yX7_isCell wsX7_isCell) := goodIn_app (goodIn_of _ (by decide +kernel)) ggX7_on_X7_isCell
set_option maxRecDepth 20000 in
theorem ggX7_on_X7_blockOn : GoodIn wsX7_on wsX7_blockOn := goodIn_r _ [13, 14, 15, 16, 17, 4, 18, 24, 25, 26, 27, 28, 29, 30, 31, 32, 33, 34, 35, 36, 37, 38, 39, 40, 41] (by decide +kernel) (by decide +kernel)
set_option maxRecDepth 20000 in
theorem gX7_on_X7_blockOn : GoodIn wsX7_on (wsV RX7 75 RX7 yX7_blockOn wsX7_blockOn) := goodIn_app (goodIn_of _ (by decide +kernel)) ggX7_on_X7_blockOn
set_option maxRecDepth 20000 in
theorem ggX7_on_X7_finds : GoodIn wsX7_on wsX7_finds := goodIn_r _ [22, 23, 1, 24, 25, 26, 27, 28, 29, 30, 31, 32, 33, 34, 35, 36, 37, 38, 39, 40, 41] (by decide +kernel) (by decide +kernel)
set_option maxRecDepth 20000 in
theorem gX7_on_X7_finds : GoodIn wsX7_on (wsV RX7 45 RX7 yX7_finds wsX7_finds) := goodIn_app (goodIn_of _ (by decide +kernel)) ggX7_on_X7_finds
theorem dX7_on_0 : decode cX7_on 0 = .ok (.iload_n 1, 1) := by decide +kernel
theorem dX7_on_1 : decode cX7_on 1 = .ok (.invokestatic 68, 3) := by decide +kernel
theorem dX7_on_4 : decode cX7_on 4 = .ok (.ifCond .eq 11, 3) := by decide +kernel
theorem dX7_on_7 : decode cX7_on 7 = .ok (.aload_n 0, 1) := by decide +kernel
theorem dX7_on_8 : decode cX7_on 8 = .ok (.iload_n 1, 1) := by decide +kernel
theorem dX7_on_9 : decode cX7_on 9 = .ok (.invokevirtual 75, 3) := by decide +kernel
theorem dX7_on_12 : decode cX7_on 12 = .ok (.goto 9, 3) := by decide +kernel
theorem dX7_on_15 : decode cX7_on 15 = .ok (.aload_n 0, 1) := by decide +kernel
theorem dX7_on_16 : decode cX7_on 16 = .ok (.ldc 43, 2) := by decide +kernel
theorem dX7_on_18 : decode cX7_on 18 = .ok (.invokevirtual 45, 3) := by decide +kernel
theorem dX7_on_21 : decode cX7_on 21 = .ok (.ireturn, 1) := by decide +kernel
theorem dX7_distance_0 : decode cX7_distance 0 = .ok (.iload_n 0, 1) := by decide +kernel
theorem dX7_distance_1 : decode cX7_distance 1 = .ok (.bipush 8, 2) := by decide +kernel
theorem dX7_distance_3 : decode cX7_distance 3 = .ok (.idiv, 1) := by decide +kernel
theorem dX7_distance_4 : decode cX7_distance 4 = .ok (.iload_n 1, 1) := by decide +kernel
theorem dX7_distance_5 : decode cX7_distance 5 = .ok (.bipush 8, 2) := by decide +kernel
theorem dX7_distance_7 : decode cX7_distance 7 = .ok (.idiv, 1) := by decide +kernel
theorem dX7_distance_8 : decode cX7_distance 8 = .ok (.isub, 1) := by decide +kernel
theorem dX7_distance_9 : decode cX7_distance 9 = .ok (.istore_n 2, 1) := by decide +kernel
theorem dX7_distance_10 : decode cX7_distance 10 = .ok (.iload_n 0, 1) := by decide +kernel
theorem dX7_distance_11 : decode cX7_distance 11 = .ok (.bipush 8, 2) := by decide +kernel
theorem dX7_distance_13 : decode cX7_distance 13 = .ok (.irem, 1) := by decide +kernel
theorem dX7_distance_14 : decode cX7_distance 14 = .ok (.iload_n 1, 1) := by decide +kernel
theorem dX7_distance_15 : decode cX7_distance 15 = .ok (.bipush 8, 2) := by decide +kernel
theorem dX7_distance_17 : decode cX7_distance 17 = .ok (.irem, 1) := by decide +kernel
theorem dX7_distance_18 : decode cX7_distance 18 = .ok (.isub, 1) := by decide +kernel
theorem dX7_distance_19 : decode cX7_distance 19 = .ok (.istore_n 3, 1) := by decide +kernel
theorem dX7_distance_20 : decode cX7_distance 20 = .ok (.iload_n 2, 1) := by decide +kernel
theorem dX7_distance_21 : decode cX7_distance 21 = .ok (.ifCond .ge 8, 3) := by decide +kernel
theorem dX7_distance_24 : decode cX7_distance 24 = .ok (.iload_n 2, 1) := by decide +kernel
theorem dX7_distance_25 : decode cX7_distance 25 = .ok (.ineg, 1) := by decide +kernel
theorem dX7_distance_26 : decode cX7_distance 26 = .ok (.goto 4, 3) := by decide +kernel
theorem dX7_distance_29 : decode cX7_distance 29 = .ok (.iload_n 2, 1) := by decide +kernel
theorem dX7_distance_30 : decode cX7_distance 30 = .ok (.iload_n 3, 1) := by decide +kernel
theorem dX7_distance_31 : decode cX7_distance 31 = .ok (.ifCond .ge 8, 3) := by decide +kernel
theorem dX7_distance_34 : decode cX7_distance 34 = .ok (.iload_n 3, 1) := by decide +kernel
theorem dX7_distance_35 : decode cX7_distance 35 = .ok (.ineg, 1) := by decide +kernel
theorem dX7_distance_36 : decode cX7_distance 36 = .ok (.goto 4, 3) := by decide +kernel
theorem dX7_distance_39 : decode cX7_distance 39 = .ok (.iload_n 3, 1) := by decide +kernel
theorem dX7_distance_40 : decode cX7_distance 40 = .ok (.iadd, 1) := by decide +kernel
theorem dX7_distance_41 : decode cX7_distance 41 = .ok (.ireturn, 1) := by decide +kernel
theorem dX7_isLit_0 : decode cX7_isLit 0 = .ok (.aload_n 0, 1) := by decide +kernel
theorem dX7_isLit_1 : decode cX7_isLit 1 = .ok (.getfield 9, 3) := by decide +kernel
theorem dX7_isLit_4 : decode cX7_isLit 4 = .ok (.bipush 6, 2) := by decide +kernel
theorem dX7_isLit_6 : decode cX7_isLit 6 = .ok (.iconst 3, 1) := by decide +kernel
theorem dX7_isLit_7 : decode cX7_isLit 7 = .ok (.iload_n 1, 1) := by decide +kernel
theorem dX7_isLit_8 : decode cX7_isLit 8 = .ok (.imul, 1) := by decide +kernel
theorem dX7_isLit_9 : decode cX7_isLit 9 = .ok (.iadd, 1) := by decide +kernel
theorem dX7_isLit_10 : decode cX7_isLit 10 = .ok (.iconst 2, 1) := by decide +kernel
theorem dX7_isLit_11 : decode cX7_isLit 11 = .ok (.iadd, 1) := by decide +kernel
theorem dX7_isLit_12 : decode cX7_isLit 12 = .ok (.iaload, 1) := by decide +kernel
theorem dX7_isLit_13 : decode cX7_isLit 13 = .ok (.iconst 1, 1) := by decide +kernel
theorem dX7_isLit_14 : decode cX7_isLit 14 = .ok (.if_icmp .ne 7, 3) := by decide +kernel
theorem dX7_isLit_17 : decode cX7_isLit 17 = .ok (.iconst 1, 1) := by decide +kernel
theorem dX7_isLit_18 : decode cX7_isLit 18 = .ok (.goto 4, 3) := by decide +kernel
theorem dX7_isLit_21 : decode cX7_isLit 21 = .ok (.iconst 0, 1) := by decide +kernel
theorem dX7_isLit_22 : decode cX7_isLit 22 = .ok (.ireturn, 1) := by decide +kernel
set_option maxRecDepth 20000 in
theorem ggX7_warmthOf_X7_isLit : GoodIn wsX7_warmthOf wsX7_isLit := goodIn_r _ [6, 1, 10, 11, 12, 13, 14, 15, 16, 17, 18, 19, 20, 21, 22, 23, 24, 25, 26, 27] (by decide +kernel) (by decide +kernel)
set_option maxRecDepth 20000 in
theorem gX7_warmthOf_X7_isLit : GoodIn wsX7_warmthOf (wsV RX7 131 RX7 yX7_isLit wsX7_isLit) := goodIn_app (goodIn_of _ (by decide +kernel)) ggX7_warmthOf_X7_isLit
set_option maxRecDepth 20000 in
theorem ggX7_warmthOf_X7_distance : GoodIn wsX7_warmthOf wsX7_distance := goodIn_r _ [9] (by decide +kernel) (by decide +kernel)
set_option maxRecDepth 20000 in
theorem gX7_warmthOf_X7_distance : GoodIn wsX7_warmthOf (va_wsS RX7 134 yX7_distance wsX7_distance) := goodIn_app (goodIn_of _ (by decide +kernel)) ggX7_warmthOf_X7_distance
theorem dX7_warmthOf_0 : decode cX7_warmthOf 0 = .ok (.aload_n 0, 1) := by decide +kernel
theorem dX7_warmthOf_1 : decode cX7_warmthOf 1 = .ok (.getfield 9, 3) := by decide +kernel
theorem dX7_warmthOf_4 : decode cX7_warmthOf 4 = .ok (.iconst 1, 1) := by decide +kernel
theorem dX7_warmthOf_5 : decode cX7_warmthOf 5 = .ok (.iaload, 1) := by decide +kernel
theorem dX7_warmthOf_6 : decode cX7_warmthOf 6 = .ok (.istore_n 2, 1) := by decide +kernel
theorem dX7_warmthOf_7 : decode cX7_warmthOf 7 = .ok (.iconst 0, 1) := by decide +kernel
theorem dX7_warmthOf_8 : decode cX7_warmthOf 8 = .ok (.istore_n 3, 1) := by decide +kernel
theorem dX7_warmthOf_9 : decode cX7_warmthOf 9 = .ok (.iload_n 3, 1) := by decide +kernel
theorem dX7_warmthOf_10 : decode cX7_warmthOf 10 = .ok (.bipush 6, 2) := by decide +kernel
theorem dX7_warmthOf_12 : decode cX7_warmthOf 12 = .ok (.if_icmp .ge 55, 3) := by decide +kernel
theorem dX7_warmthOf_15 : decode cX7_warmthOf 15 = .ok (.iload_n 2, 1) := by decide +kernel
theorem dX7_warmthOf_16 : decode cX7_warmthOf 16 = .ok (.aload_n 0, 1) := by decide +kernel
theorem dX7_warmthOf_17 : decode cX7_warmthOf 17 = .ok (.iload_n 3, 1) := by decide +kernel
theorem dX7_warmthOf_18 : decode cX7_warmthOf 18 = .ok (.invokevirtual 131, 3) := by decide +kernel
theorem dX7_warmthOf_21 : decode cX7_warmthOf 21 = .ok (.ifCond .eq 37, 3) := by decide +kernel
theorem dX7_warmthOf_24 : decode cX7_warmthOf 24 = .ok (.aload_n 0, 1) := by decide +kernel
theorem dX7_warmthOf_25 : decode cX7_warmthOf 25 = .ok (.getfield 9, 3) := by decide +kernel
theorem dX7_warmthOf_28 : decode cX7_warmthOf 28 = .ok (.bipush 6, 2) := by decide +kernel
