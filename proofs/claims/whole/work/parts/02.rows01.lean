theorem dX5_standing_42 : decode cX5_standing 42 = .ok (.lor, 1) := by decide +kernel
theorem dX5_standing_43 : decode cX5_standing 43 = .ok (.lstore_n 1, 1) := by decide +kernel
theorem dX5_standing_44 : decode cX5_standing 44 = .ok (.iinc 6 1, 3) := by decide +kernel
theorem dX5_standing_47 : decode cX5_standing 47 = .ok (.goto (-31), 3) := by decide +kernel
theorem dX5_standing_50 : decode cX5_standing 50 = .ok (.lload_n 1, 1) := by decide +kernel
theorem dX5_standing_51 : decode cX5_standing 51 = .ok (.lload 4, 2) := by decide +kernel
theorem dX5_standing_53 : decode cX5_standing 53 = .ok (.lcmp, 1) := by decide +kernel
theorem dX5_standing_54 : decode cX5_standing 54 = .ok (.ifCond .ne 6, 3) := by decide +kernel
theorem dX5_standing_57 : decode cX5_standing 57 = .ok (.goto 9, 3) := by decide +kernel
theorem dX5_standing_60 : decode cX5_standing 60 = .ok (.iinc 3 1, 3) := by decide +kernel
theorem dX5_standing_63 : decode cX5_standing 63 = .ok (.goto (-59), 3) := by decide +kernel
theorem dX5_standing_66 : decode cX5_standing 66 = .ok (.lload_n 1, 1) := by decide +kernel
theorem dX5_standing_67 : decode cX5_standing 67 = .ok (.lreturn, 1) := by decide +kernel
set_option maxRecDepth 20000 in
theorem ggX5_looseSet_X5_standing : GoodIn wsX5_looseSet wsX5_standing := goodIn_r _ [6, 1, 7, 8, 9, 5, 10, 11, 12, 13, 14, 15, 16, 21, 22, 23, 24, 25] (by decide +kernel) (by decide +kernel)
set_option maxRecDepth 20000 in
theorem gX5_looseSet_X5_standing : GoodIn wsX5_looseSet (wsV RX5 65 RX5 yX5_standing wsX5_standing) := goodIn_app (goodIn_of _ (by decide +kernel)) ggX5_looseSet_X5_standing
set_option maxRecDepth 20000 in
theorem ggX5_looseSet_X5_isGone : GoodIn wsX5_looseSet wsX5_isGone := goodIn_r _ [20, 11, 21, 22, 23, 24, 25] (by decide +kernel) (by decide +kernel)
set_option maxRecDepth 20000 in
theorem gX5_looseSet_X5_isGone : GoodIn wsX5_looseSet (wsV RX5 54 RX5 yX5_isGone wsX5_isGone) := goodIn_app (goodIn_of _ (by decide +kernel)) ggX5_looseSet_X5_isGone
set_option maxRecDepth 20000 in
theorem ggX5_looseSet_X5_cellBit : GoodIn wsX5_looseSet wsX5_cellBit := goodIn_r _ [16, 11, 21, 22, 23, 24, 25] (by decide +kernel) (by decide +kernel)
set_option maxRecDepth 20000 in
theorem gX5_looseSet_X5_cellBit : GoodIn wsX5_looseSet (wsV RX5 57 RX5 yX5_cellBit wsX5_cellBit) := goodIn_app (goodIn_of _ (by decide +kernel)) ggX5_looseSet_X5_cellBit
theorem dX5_looseSet_0 : decode cX5_looseSet 0 = .ok (.aload_n 0, 1) := by decide +kernel
theorem dX5_looseSet_1 : decode cX5_looseSet 1 = .ok (.invokevirtual 65, 3) := by decide +kernel
theorem dX5_looseSet_4 : decode cX5_looseSet 4 = .ok (.lstore_n 1, 1) := by decide +kernel
theorem dX5_looseSet_5 : decode cX5_looseSet 5 = .ok (.iconst 0, 1) := by decide +kernel
theorem dX5_looseSet_6 : decode cX5_looseSet 6 = .ok (.istore_n 3, 1) := by decide +kernel
theorem dX5_looseSet_7 : decode cX5_looseSet 7 = .ok (.iconst 0, 1) := by decide +kernel
theorem dX5_looseSet_8 : decode cX5_looseSet 8 = .ok (.istore 4, 2) := by decide +kernel
theorem dX5_looseSet_10 : decode cX5_looseSet 10 = .ok (.iload 4, 2) := by decide +kernel
theorem dX5_looseSet_12 : decode cX5_looseSet 12 = .ok (.aload_n 0, 1) := by decide +kernel
theorem dX5_looseSet_13 : decode cX5_looseSet 13 = .ok (.getfield 30, 3) := by decide +kernel
theorem dX5_looseSet_16 : decode cX5_looseSet 16 = .ok (.if_icmp .ge 38, 3) := by decide +kernel
theorem dX5_looseSet_19 : decode cX5_looseSet 19 = .ok (.aload_n 0, 1) := by decide +kernel
theorem dX5_looseSet_20 : decode cX5_looseSet 20 = .ok (.iload 4, 2) := by decide +kernel
theorem dX5_looseSet_22 : decode cX5_looseSet 22 = .ok (.invokevirtual 54, 3) := by decide +kernel
theorem dX5_looseSet_25 : decode cX5_looseSet 25 = .ok (.ifCond .ne 23, 3) := by decide +kernel
theorem dX5_looseSet_28 : decode cX5_looseSet 28 = .ok (.lload_n 1, 1) := by decide +kernel
theorem dX5_looseSet_29 : decode cX5_looseSet 29 = .ok (.aload_n 0, 1) := by decide +kernel
theorem dX5_looseSet_30 : decode cX5_looseSet 30 = .ok (.iload 4, 2) := by decide +kernel
theorem dX5_looseSet_32 : decode cX5_looseSet 32 = .ok (.invokevirtual 57, 3) := by decide +kernel
theorem dX5_looseSet_35 : decode cX5_looseSet 35 = .ok (.land, 1) := by decide +kernel
theorem dX5_looseSet_36 : decode cX5_looseSet 36 = .ok (.lconst 0, 1) := by decide +kernel
theorem dX5_looseSet_37 : decode cX5_looseSet 37 = .ok (.lcmp, 1) := by decide +kernel
theorem dX5_looseSet_38 : decode cX5_looseSet 38 = .ok (.ifCond .ne 10, 3) := by decide +kernel
theorem dX5_looseSet_41 : decode cX5_looseSet 41 = .ok (.iload_n 3, 1) := by decide +kernel
theorem dX5_looseSet_42 : decode cX5_looseSet 42 = .ok (.iconst 1, 1) := by decide +kernel
theorem dX5_looseSet_43 : decode cX5_looseSet 43 = .ok (.iload 4, 2) := by decide +kernel
theorem dX5_looseSet_45 : decode cX5_looseSet 45 = .ok (.ishl, 1) := by decide +kernel
theorem dX5_looseSet_46 : decode cX5_looseSet 46 = .ok (.ior, 1) := by decide +kernel
theorem dX5_looseSet_47 : decode cX5_looseSet 47 = .ok (.istore_n 3, 1) := by decide +kernel
theorem dX5_looseSet_48 : decode cX5_looseSet 48 = .ok (.iinc 4 1, 3) := by decide +kernel
theorem dX5_looseSet_51 : decode cX5_looseSet 51 = .ok (.goto (-41), 3) := by decide +kernel
theorem dX5_looseSet_54 : decode cX5_looseSet 54 = .ok (.iload_n 3, 1) := by decide +kernel
theorem dX5_looseSet_55 : decode cX5_looseSet 55 = .ok (.ireturn, 1) := by decide +kernel
set_option maxRecDepth 20000 in
theorem ggX5_weakSet_X5_loadOf : GoodIn wsX5_weakSet wsX5_loadOf := goodIn_r _ [6, 7, 8, 9, 10, 11, 12, 5, 13, 19, 20, 21, 22, 23] (by decide +kernel) (by decide +kernel)
set_option maxRecDepth 20000 in
theorem gX5_weakSet_X5_loadOf : GoodIn wsX5_weakSet (wsV RX5 69 RX5 yX5_loadOf wsX5_loadOf) := goodIn_app (goodIn_of _ (by decide +kernel)) ggX5_weakSet_X5_loadOf
set_option maxRecDepth 20000 in
theorem ggX5_weakSet_X5_strengthOf : GoodIn wsX5_weakSet wsX5_strengthOf := goodIn_r _ [17, 9, 18, 10, 11, 12, 5, 13, 7, 19, 20, 21, 22, 23] (by decide +kernel) (by decide +kernel)
set_option maxRecDepth 20000 in
theorem gX5_weakSet_X5_strengthOf : GoodIn wsX5_weakSet (wsV RX5 73 RX5 yX5_strengthOf wsX5_strengthOf) := goodIn_app (goodIn_of _ (by decide +kernel)) ggX5_weakSet_X5_strengthOf
theorem dX5_weakSet_0 : decode cX5_weakSet 0 = .ok (.iconst 0, 1) := by decide +kernel
theorem dX5_weakSet_1 : decode cX5_weakSet 1 = .ok (.istore_n 1, 1) := by decide +kernel
theorem dX5_weakSet_2 : decode cX5_weakSet 2 = .ok (.iconst 0, 1) := by decide +kernel
theorem dX5_weakSet_3 : decode cX5_weakSet 3 = .ok (.istore_n 2, 1) := by decide +kernel
theorem dX5_weakSet_4 : decode cX5_weakSet 4 = .ok (.iload_n 2, 1) := by decide +kernel
theorem dX5_weakSet_5 : decode cX5_weakSet 5 = .ok (.aload_n 0, 1) := by decide +kernel
theorem dX5_weakSet_6 : decode cX5_weakSet 6 = .ok (.getfield 30, 3) := by decide +kernel
theorem dX5_weakSet_9 : decode cX5_weakSet 9 = .ok (.if_icmp .ge 28, 3) := by decide +kernel
theorem dX5_weakSet_12 : decode cX5_weakSet 12 = .ok (.aload_n 0, 1) := by decide +kernel
theorem dX5_weakSet_13 : decode cX5_weakSet 13 = .ok (.iload_n 2, 1) := by decide +kernel
theorem dX5_weakSet_14 : decode cX5_weakSet 14 = .ok (.invokevirtual 69, 3) := by decide +kernel
theorem dX5_weakSet_17 : decode cX5_weakSet 17 = .ok (.aload_n 0, 1) := by decide +kernel
theorem dX5_weakSet_18 : decode cX5_weakSet 18 = .ok (.iload_n 2, 1) := by decide +kernel
theorem dX5_weakSet_19 : decode cX5_weakSet 19 = .ok (.invokevirtual 73, 3) := by decide +kernel
theorem dX5_weakSet_22 : decode cX5_weakSet 22 = .ok (.if_icmp .le 9, 3) := by decide +kernel
theorem dX5_weakSet_25 : decode cX5_weakSet 25 = .ok (.iload_n 1, 1) := by decide +kernel
theorem dX5_weakSet_26 : decode cX5_weakSet 26 = .ok (.iconst 1, 1) := by decide +kernel
theorem dX5_weakSet_27 : decode cX5_weakSet 27 = .ok (.iload_n 2, 1) := by decide +kernel
theorem dX5_weakSet_28 : decode cX5_weakSet 28 = .ok (.ishl, 1) := by decide +kernel
theorem dX5_weakSet_29 : decode cX5_weakSet 29 = .ok (.ior, 1) := by decide +kernel
theorem dX5_weakSet_30 : decode cX5_weakSet 30 = .ok (.istore_n 1, 1) := by decide +kernel
theorem dX5_weakSet_31 : decode cX5_weakSet 31 = .ok (.iinc 2 1, 3) := by decide +kernel
theorem dX5_weakSet_34 : decode cX5_weakSet 34 = .ok (.goto (-30), 3) := by decide +kernel
theorem dX5_weakSet_37 : decode cX5_weakSet 37 = .ok (.iload_n 1, 1) := by decide +kernel
theorem dX5_weakSet_38 : decode cX5_weakSet 38 = .ok (.ireturn, 1) := by decide +kernel
set_option maxRecDepth 20000 in
theorem ggX5_shakenSet_X5_isGone : GoodIn wsX5_shakenSet wsX5_isGone := goodIn_r _ [7, 8, 9, 10, 11, 12, 13] (by decide +kernel) (by decide +kernel)
set_option maxRecDepth 20000 in
theorem gX5_shakenSet_X5_isGone : GoodIn wsX5_shakenSet (wsV RX5 54 RX5 yX5_isGone wsX5_isGone) := goodIn_app (goodIn_of _ (by decide +kernel)) ggX5_shakenSet_X5_isGone
theorem dX5_shakenSet_0 : decode cX5_shakenSet 0 = .ok (.iconst 0, 1) := by decide +kernel
theorem dX5_shakenSet_1 : decode cX5_shakenSet 1 = .ok (.istore_n 2, 1) := by decide +kernel
theorem dX5_shakenSet_2 : decode cX5_shakenSet 2 = .ok (.iconst 0, 1) := by decide +kernel
theorem dX5_shakenSet_3 : decode cX5_shakenSet 3 = .ok (.istore_n 3, 1) := by decide +kernel
theorem dX5_shakenSet_4 : decode cX5_shakenSet 4 = .ok (.iload_n 3, 1) := by decide +kernel
theorem dX5_shakenSet_5 : decode cX5_shakenSet 5 = .ok (.aload_n 0, 1) := by decide +kernel
theorem dX5_shakenSet_6 : decode cX5_shakenSet 6 = .ok (.getfield 30, 3) := by decide +kernel
theorem dX5_shakenSet_9 : decode cX5_shakenSet 9 = .ok (.if_icmp .ge 38, 3) := by decide +kernel
theorem dX5_shakenSet_12 : decode cX5_shakenSet 12 = .ok (.aload_n 0, 1) := by decide +kernel
theorem dX5_shakenSet_13 : decode cX5_shakenSet 13 = .ok (.iload_n 3, 1) := by decide +kernel
theorem dX5_shakenSet_14 : decode cX5_shakenSet 14 = .ok (.invokevirtual 54, 3) := by decide +kernel
theorem dX5_shakenSet_17 : decode cX5_shakenSet 17 = .ok (.ifCond .ne 24, 3) := by decide +kernel
theorem dX5_shakenSet_20 : decode cX5_shakenSet 20 = .ok (.iload_n 1, 1) := by decide +kernel
theorem dX5_shakenSet_21 : decode cX5_shakenSet 21 = .ok (.ifCond .le 20, 3) := by decide +kernel
theorem dX5_shakenSet_24 : decode cX5_shakenSet 24 = .ok (.aload_n 0, 1) := by decide +kernel
theorem dX5_shakenSet_25 : decode cX5_shakenSet 25 = .ok (.getfield 18, 3) := by decide +kernel
theorem dX5_shakenSet_28 : decode cX5_shakenSet 28 = .ok (.iload_n 3, 1) := by decide +kernel
theorem dX5_shakenSet_29 : decode cX5_shakenSet 29 = .ok (.iaload, 1) := by decide +kernel
theorem dX5_shakenSet_30 : decode cX5_shakenSet 30 = .ok (.iload_n 1, 1) := by decide +kernel
theorem dX5_shakenSet_31 : decode cX5_shakenSet 31 = .ok (.irem, 1) := by decide +kernel
theorem dX5_shakenSet_32 : decode cX5_shakenSet 32 = .ok (.ifCond .ne 9, 3) := by decide +kernel
theorem dX5_shakenSet_35 : decode cX5_shakenSet 35 = .ok (.iload_n 2, 1) := by decide +kernel
theorem dX5_shakenSet_36 : decode cX5_shakenSet 36 = .ok (.iconst 1, 1) := by decide +kernel
theorem dX5_shakenSet_37 : decode cX5_shakenSet 37 = .ok (.iload_n 3, 1) := by decide +kernel
theorem dX5_shakenSet_38 : decode cX5_shakenSet 38 = .ok (.ishl, 1) := by decide +kernel
theorem dX5_shakenSet_39 : decode cX5_shakenSet 39 = .ok (.ior, 1) := by decide +kernel
theorem dX5_shakenSet_40 : decode cX5_shakenSet 40 = .ok (.istore_n 2, 1) := by decide +kernel
theorem dX5_shakenSet_41 : decode cX5_shakenSet 41 = .ok (.iinc 3 1, 3) := by decide +kernel
theorem dX5_shakenSet_44 : decode cX5_shakenSet 44 = .ok (.goto (-40), 3) := by decide +kernel
theorem dX5_shakenSet_47 : decode cX5_shakenSet 47 = .ok (.iload_n 2, 1) := by decide +kernel
theorem dX5_shakenSet_48 : decode cX5_shakenSet 48 = .ok (.ireturn, 1) := by decide +kernel
set_option maxRecDepth 20000 in
theorem ggX5_loadOf_X5_isGone : GoodIn wsX5_loadOf wsX5_isGone := goodIn_r _ [8, 1, 9, 10, 11, 12, 13] (by decide +kernel) (by decide +kernel)
set_option maxRecDepth 20000 in
theorem gX5_loadOf_X5_isGone : GoodIn wsX5_loadOf (wsV RX5 54 RX5 yX5_isGone wsX5_isGone) := goodIn_app (goodIn_of _ (by decide +kernel)) ggX5_loadOf_X5_isGone
theorem dX5_loadOf_0 : decode cX5_loadOf 0 = .ok (.aload_n 0, 1) := by decide +kernel
theorem dX5_loadOf_1 : decode cX5_loadOf 1 = .ok (.iload_n 1, 1) := by decide +kernel
theorem dX5_loadOf_2 : decode cX5_loadOf 2 = .ok (.invokevirtual 54, 3) := by decide +kernel
theorem dX5_loadOf_5 : decode cX5_loadOf 5 = .ok (.ifCond .eq 5, 3) := by decide +kernel
theorem dX5_loadOf_8 : decode cX5_loadOf 8 = .ok (.iconst 0, 1) := by decide +kernel
theorem dX5_loadOf_9 : decode cX5_loadOf 9 = .ok (.ireturn, 1) := by decide +kernel
theorem dX5_loadOf_10 : decode cX5_loadOf 10 = .ok (.iconst 0, 1) := by decide +kernel
theorem dX5_loadOf_11 : decode cX5_loadOf 11 = .ok (.istore_n 2, 1) := by decide +kernel
theorem dX5_loadOf_12 : decode cX5_loadOf 12 = .ok (.aload_n 0, 1) := by decide +kernel
theorem dX5_loadOf_13 : decode cX5_loadOf 13 = .ok (.getfield 15, 3) := by decide +kernel
theorem dX5_loadOf_16 : decode cX5_loadOf 16 = .ok (.iload_n 1, 1) := by decide +kernel
theorem dX5_loadOf_17 : decode cX5_loadOf 17 = .ok (.iaload, 1) := by decide +kernel
theorem dX5_loadOf_18 : decode cX5_loadOf 18 = .ok (.bipush 8, 2) := by decide +kernel
theorem dX5_loadOf_20 : decode cX5_loadOf 20 = .ok (.iadd, 1) := by decide +kernel
theorem dX5_loadOf_21 : decode cX5_loadOf 21 = .ok (.istore_n 3, 1) := by decide +kernel
theorem dX5_loadOf_22 : decode cX5_loadOf 22 = .ok (.iload_n 3, 1) := by decide +kernel
theorem dX5_loadOf_23 : decode cX5_loadOf 23 = .ok (.bipush 48, 2) := by decide +kernel
theorem dX5_loadOf_25 : decode cX5_loadOf 25 = .ok (.if_icmp .ge 35, 3) := by decide +kernel
theorem dX5_loadOf_28 : decode cX5_loadOf 28 = .ok (.aload_n 0, 1) := by decide +kernel
theorem dX5_loadOf_29 : decode cX5_loadOf 29 = .ok (.getfield 21, 3) := by decide +kernel
theorem dX5_loadOf_32 : decode cX5_loadOf 32 = .ok (.iload_n 3, 1) := by decide +kernel
theorem dX5_loadOf_33 : decode cX5_loadOf 33 = .ok (.iaload, 1) := by decide +kernel
theorem dX5_loadOf_34 : decode cX5_loadOf 34 = .ok (.istore 4, 2) := by decide +kernel
theorem dX5_loadOf_36 : decode cX5_loadOf 36 = .ok (.iload 4, 2) := by decide +kernel
theorem dX5_loadOf_38 : decode cX5_loadOf 38 = .ok (.ifCond .ge 6, 3) := by decide +kernel
theorem dX5_loadOf_41 : decode cX5_loadOf 41 = .ok (.goto 19, 3) := by decide +kernel
theorem dX5_loadOf_44 : decode cX5_loadOf 44 = .ok (.iload_n 2, 1) := by decide +kernel
theorem dX5_loadOf_45 : decode cX5_loadOf 45 = .ok (.aload_n 0, 1) := by decide +kernel
theorem dX5_loadOf_46 : decode cX5_loadOf 46 = .ok (.getfield 18, 3) := by decide +kernel
theorem dX5_loadOf_49 : decode cX5_loadOf 49 = .ok (.iload 4, 2) := by decide +kernel
theorem dX5_loadOf_51 : decode cX5_loadOf 51 = .ok (.iaload, 1) := by decide +kernel
theorem dX5_loadOf_52 : decode cX5_loadOf 52 = .ok (.iadd, 1) := by decide +kernel
theorem dX5_loadOf_53 : decode cX5_loadOf 53 = .ok (.istore_n 2, 1) := by decide +kernel
theorem dX5_loadOf_54 : decode cX5_loadOf 54 = .ok (.iinc 3 8, 3) := by decide +kernel
theorem dX5_loadOf_57 : decode cX5_loadOf 57 = .ok (.goto (-35), 3) := by decide +kernel
theorem dX5_loadOf_60 : decode cX5_loadOf 60 = .ok (.iload_n 2, 1) := by decide +kernel
theorem dX5_loadOf_61 : decode cX5_loadOf 61 = .ok (.ireturn, 1) := by decide +kernel
set_option maxRecDepth 20000 in
theorem ggX5_strengthOf_X5_isGone : GoodIn wsX5_strengthOf wsX5_isGone := goodIn_r _ [7, 8, 9, 10, 11, 12, 13] (by decide +kernel) (by decide +kernel)
set_option maxRecDepth 20000 in
theorem gX5_strengthOf_X5_isGone : GoodIn wsX5_strengthOf (wsV RX5 54 RX5 yX5_isGone wsX5_isGone) := goodIn_app (goodIn_of _ (by decide +kernel)) ggX5_strengthOf_X5_isGone
theorem dX5_strengthOf_0 : decode cX5_strengthOf 0 = .ok (.aload_n 0, 1) := by decide +kernel
theorem dX5_strengthOf_1 : decode cX5_strengthOf 1 = .ok (.iload_n 1, 1) := by decide +kernel
theorem dX5_strengthOf_2 : decode cX5_strengthOf 2 = .ok (.invokevirtual 54, 3) := by decide +kernel
theorem dX5_strengthOf_5 : decode cX5_strengthOf 5 = .ok (.ifCond .eq 5, 3) := by decide +kernel
theorem dX5_strengthOf_8 : decode cX5_strengthOf 8 = .ok (.iconst 0, 1) := by decide +kernel
theorem dX5_strengthOf_9 : decode cX5_strengthOf 9 = .ok (.ireturn, 1) := by decide +kernel
theorem dX5_strengthOf_10 : decode cX5_strengthOf 10 = .ok (.iconst 4, 1) := by decide +kernel
theorem dX5_strengthOf_11 : decode cX5_strengthOf 11 = .ok (.aload_n 0, 1) := by decide +kernel
theorem dX5_strengthOf_12 : decode cX5_strengthOf 12 = .ok (.getfield 18, 3) := by decide +kernel
theorem dX5_strengthOf_15 : decode cX5_strengthOf 15 = .ok (.iload_n 1, 1) := by decide +kernel
theorem dX5_strengthOf_16 : decode cX5_strengthOf 16 = .ok (.iaload, 1) := by decide +kernel
theorem dX5_strengthOf_17 : decode cX5_strengthOf 17 = .ok (.imul, 1) := by decide +kernel
theorem dX5_strengthOf_18 : decode cX5_strengthOf 18 = .ok (.istore_n 2, 1) := by decide +kernel
theorem dX5_strengthOf_19 : decode cX5_strengthOf 19 = .ok (.aload_n 0, 1) := by decide +kernel
theorem dX5_strengthOf_20 : decode cX5_strengthOf 20 = .ok (.getfield 9, 3) := by decide +kernel
theorem dX5_strengthOf_23 : decode cX5_strengthOf 23 = .ok (.iload_n 1, 1) := by decide +kernel
theorem dX5_strengthOf_24 : decode cX5_strengthOf 24 = .ok (.iaload, 1) := by decide +kernel
theorem dX5_strengthOf_25 : decode cX5_strengthOf 25 = .ok (.tableswitch 40 3 5 #[27, 32, 36], 27) := by decide +kernel
theorem dX5_strengthOf_52 : decode cX5_strengthOf 52 = .ok (.iload_n 2, 1) := by decide +kernel
theorem dX5_strengthOf_53 : decode cX5_strengthOf 53 = .ok (.bipush 20, 2) := by decide +kernel
theorem dX5_strengthOf_55 : decode cX5_strengthOf 55 = .ok (.iadd, 1) := by decide +kernel
theorem dX5_strengthOf_56 : decode cX5_strengthOf 56 = .ok (.ireturn, 1) := by decide +kernel
theorem dX5_strengthOf_57 : decode cX5_strengthOf 57 = .ok (.iconst 3, 1) := by decide +kernel
theorem dX5_strengthOf_58 : decode cX5_strengthOf 58 = .ok (.iload_n 2, 1) := by decide +kernel
theorem dX5_strengthOf_59 : decode cX5_strengthOf 59 = .ok (.imul, 1) := by decide +kernel
theorem dX5_strengthOf_60 : decode cX5_strengthOf 60 = .ok (.ireturn, 1) := by decide +kernel
theorem dX5_strengthOf_61 : decode cX5_strengthOf 61 = .ok (.iconst 2, 1) := by decide +kernel
theorem dX5_strengthOf_62 : decode cX5_strengthOf 62 = .ok (.iload_n 2, 1) := by decide +kernel
theorem dX5_strengthOf_63 : decode cX5_strengthOf 63 = .ok (.imul, 1) := by decide +kernel
theorem dX5_strengthOf_64 : decode cX5_strengthOf 64 = .ok (.ireturn, 1) := by decide +kernel
theorem dX5_strengthOf_65 : decode cX5_strengthOf 65 = .ok (.iload_n 2, 1) := by decide +kernel
theorem dX5_strengthOf_66 : decode cX5_strengthOf 66 = .ok (.ireturn, 1) := by decide +kernel
set_option maxRecDepth 20000 in
theorem ggX5_isComer_X5_cellBit : GoodIn wsX5_isComer wsX5_cellBit := goodIn_r _ [5, 6, 12, 13, 14, 15, 16] (by decide +kernel) (by decide +kernel)
set_option maxRecDepth 20000 in
theorem gX5_isComer_X5_cellBit : GoodIn wsX5_isComer (wsV RX5 57 RX5 yX5_cellBit wsX5_cellBit) := goodIn_app (goodIn_of _ (by decide +kernel)) ggX5_isComer_X5_cellBit
set_option maxRecDepth 20000 in
theorem ggX5_isComer_X5_standsBy : GoodIn wsX5_isComer wsX5_standsBy := goodIn_r _ [10, 6, 11, 12, 13, 14, 15, 16] (by decide +kernel) (by decide +kernel)
set_option maxRecDepth 20000 in
theorem gX5_isComer_X5_standsBy : GoodIn wsX5_isComer (wsV RX5 61 RX5 yX5_standsBy wsX5_standsBy) := goodIn_app (goodIn_of _ (by decide +kernel)) ggX5_isComer_X5_standsBy
theorem dX5_isComer_0 : decode cX5_isComer 0 = .ok (.lload_n 2, 1) := by decide +kernel
theorem dX5_isComer_1 : decode cX5_isComer 1 = .ok (.aload_n 0, 1) := by decide +kernel
theorem dX5_isComer_2 : decode cX5_isComer 2 = .ok (.iload_n 1, 1) := by decide +kernel
theorem dX5_isComer_3 : decode cX5_isComer 3 = .ok (.invokevirtual 57, 3) := by decide +kernel
theorem dX5_isComer_6 : decode cX5_isComer 6 = .ok (.land, 1) := by decide +kernel
theorem dX5_isComer_7 : decode cX5_isComer 7 = .ok (.lconst 0, 1) := by decide +kernel
theorem dX5_isComer_8 : decode cX5_isComer 8 = .ok (.lcmp, 1) := by decide +kernel
theorem dX5_isComer_9 : decode cX5_isComer 9 = .ok (.ifCond .ne 16, 3) := by decide +kernel
theorem dX5_isComer_12 : decode cX5_isComer 12 = .ok (.aload_n 0, 1) := by decide +kernel
theorem dX5_isComer_13 : decode cX5_isComer 13 = .ok (.iload_n 1, 1) := by decide +kernel
theorem dX5_isComer_14 : decode cX5_isComer 14 = .ok (.lload_n 2, 1) := by decide +kernel
theorem dX5_isComer_15 : decode cX5_isComer 15 = .ok (.invokevirtual 61, 3) := by decide +kernel
theorem dX5_isComer_18 : decode cX5_isComer 18 = .ok (.ifCond .eq 7, 3) := by decide +kernel
theorem dX5_isComer_21 : decode cX5_isComer 21 = .ok (.iconst 1, 1) := by decide +kernel
theorem dX5_isComer_22 : decode cX5_isComer 22 = .ok (.goto 4, 3) := by decide +kernel
theorem dX5_isComer_25 : decode cX5_isComer 25 = .ok (.iconst 0, 1) := by decide +kernel
theorem dX5_isComer_26 : decode cX5_isComer 26 = .ok (.ireturn, 1) := by decide +kernel
set_option maxRecDepth 20000 in
theorem ggX5_nextComer_X5_isComer : GoodIn wsX5_nextComer wsX5_isComer := goodIn_r _ [6, 7, 8, 9, 5, 10, 11, 12, 13, 14, 15, 16, 17, 18, 19, 20, 21] (by decide +kernel) (by decide +kernel)
set_option maxRecDepth 20000 in
theorem gX5_nextComer_X5_isComer : GoodIn wsX5_nextComer (wsV RX5 76 RX5 yX5_isComer wsX5_isComer) := goodIn_app (goodIn_of _ (by decide +kernel)) ggX5_nextComer_X5_isComer
theorem dX5_nextComer_0 : decode cX5_nextComer 0 = .ok (.iload_n 3, 1) := by decide +kernel
theorem dX5_nextComer_1 : decode cX5_nextComer 1 = .ok (.istore 4, 2) := by decide +kernel
theorem dX5_nextComer_3 : decode cX5_nextComer 3 = .ok (.iload 4, 2) := by decide +kernel
theorem dX5_nextComer_5 : decode cX5_nextComer 5 = .ok (.aload_n 0, 1) := by decide +kernel
theorem dX5_nextComer_6 : decode cX5_nextComer 6 = .ok (.getfield 30, 3) := by decide +kernel
theorem dX5_nextComer_9 : decode cX5_nextComer 9 = .ok (.if_icmp .ge 22, 3) := by decide +kernel
theorem dX5_nextComer_12 : decode cX5_nextComer 12 = .ok (.aload_n 0, 1) := by decide +kernel
theorem dX5_nextComer_13 : decode cX5_nextComer 13 = .ok (.iload 4, 2) := by decide +kernel
theorem dX5_nextComer_15 : decode cX5_nextComer 15 = .ok (.lload_n 1, 1) := by decide +kernel
theorem dX5_nextComer_16 : decode cX5_nextComer 16 = .ok (.invokevirtual 76, 3) := by decide +kernel
theorem dX5_nextComer_19 : decode cX5_nextComer 19 = .ok (.ifCond .eq 6, 3) := by decide +kernel
theorem dX5_nextComer_22 : decode cX5_nextComer 22 = .ok (.iload 4, 2) := by decide +kernel
theorem dX5_nextComer_24 : decode cX5_nextComer 24 = .ok (.ireturn, 1) := by decide +kernel
theorem dX5_nextComer_25 : decode cX5_nextComer 25 = .ok (.iinc 4 1, 3) := by decide +kernel
theorem dX5_nextComer_28 : decode cX5_nextComer 28 = .ok (.goto (-25), 3) := by decide +kernel
theorem dX5_nextComer_31 : decode cX5_nextComer 31 = .ok (.iconst (-1), 1) := by decide +kernel
theorem dX5_nextComer_32 : decode cX5_nextComer 32 = .ok (.ireturn, 1) := by decide +kernel
set_option maxRecDepth 20000 in
theorem ggX5_comers_X5_nextComer : GoodIn wsX5_comers wsX5_nextComer := goodIn_r _ [5, 6, 7, 8, 9, 4, 10, 11, 12, 13, 14, 15, 16, 17, 18, 19, 20, 21, 22, 23, 24, 25] (by decide +kernel) (by decide +kernel)
set_option maxRecDepth 20000 in
theorem gX5_comers_X5_nextComer : GoodIn wsX5_comers (wsV RX5 79 RX5 yX5_nextComer wsX5_nextComer) := goodIn_app (goodIn_of _ (by decide +kernel)) ggX5_comers_X5_nextComer
set_option maxRecDepth 20000 in
theorem ggX5_comers_X5_cellBit : GoodIn wsX5_comers wsX5_cellBit := goodIn_r _ [14, 15, 21, 22, 23, 24, 25] (by decide +kernel) (by decide +kernel)
set_option maxRecDepth 20000 in
theorem gX5_comers_X5_cellBit : GoodIn wsX5_comers (wsV RX5 57 RX5 yX5_cellBit wsX5_cellBit) := goodIn_app (goodIn_of _ (by decide +kernel)) ggX5_comers_X5_cellBit
theorem dX5_comers_0 : decode cX5_comers 0 = .ok (.lconst 0, 1) := by decide +kernel
theorem dX5_comers_1 : decode cX5_comers 1 = .ok (.lstore 4, 2) := by decide +kernel
theorem dX5_comers_3 : decode cX5_comers 3 = .ok (.iconst 0, 1) := by decide +kernel
theorem dX5_comers_4 : decode cX5_comers 4 = .ok (.istore 6, 2) := by decide +kernel
theorem dX5_comers_6 : decode cX5_comers 6 = .ok (.iconst 0, 1) := by decide +kernel
theorem dX5_comers_7 : decode cX5_comers 7 = .ok (.istore 7, 2) := by decide +kernel
theorem dX5_comers_9 : decode cX5_comers 9 = .ok (.iload 7, 2) := by decide +kernel
theorem dX5_comers_11 : decode cX5_comers 11 = .ok (.iload_n 3, 1) := by decide +kernel
theorem dX5_comers_12 : decode cX5_comers 12 = .ok (.if_icmp .ge 43, 3) := by decide +kernel
theorem dX5_comers_15 : decode cX5_comers 15 = .ok (.aload_n 0, 1) := by decide +kernel
theorem dX5_comers_16 : decode cX5_comers 16 = .ok (.lload_n 1, 1) := by decide +kernel
theorem dX5_comers_17 : decode cX5_comers 17 = .ok (.iload 6, 2) := by decide +kernel
theorem dX5_comers_19 : decode cX5_comers 19 = .ok (.invokevirtual 79, 3) := by decide +kernel
theorem dX5_comers_22 : decode cX5_comers 22 = .ok (.istore 8, 2) := by decide +kernel
theorem dX5_comers_24 : decode cX5_comers 24 = .ok (.iload 8, 2) := by decide +kernel
theorem dX5_comers_26 : decode cX5_comers 26 = .ok (.ifCond .ge 6, 3) := by decide +kernel
theorem dX5_comers_29 : decode cX5_comers 29 = .ok (.goto 26, 3) := by decide +kernel
theorem dX5_comers_32 : decode cX5_comers 32 = .ok (.lload 4, 2) := by decide +kernel
theorem dX5_comers_34 : decode cX5_comers 34 = .ok (.aload_n 0, 1) := by decide +kernel
theorem dX5_comers_35 : decode cX5_comers 35 = .ok (.iload 8, 2) := by decide +kernel
theorem dX5_comers_37 : decode cX5_comers 37 = .ok (.invokevirtual 57, 3) := by decide +kernel
theorem dX5_comers_40 : decode cX5_comers 40 = .ok (.lor, 1) := by decide +kernel
theorem dX5_comers_41 : decode cX5_comers 41 = .ok (.lstore 4, 2) := by decide +kernel
theorem dX5_comers_43 : decode cX5_comers 43 = .ok (.iload 8, 2) := by decide +kernel
theorem dX5_comers_45 : decode cX5_comers 45 = .ok (.iconst 1, 1) := by decide +kernel
theorem dX5_comers_46 : decode cX5_comers 46 = .ok (.iadd, 1) := by decide +kernel
theorem dX5_comers_47 : decode cX5_comers 47 = .ok (.istore 6, 2) := by decide +kernel
theorem dX5_comers_49 : decode cX5_comers 49 = .ok (.iinc 7 1, 3) := by decide +kernel
theorem dX5_comers_52 : decode cX5_comers 52 = .ok (.goto (-43), 3) := by decide +kernel
theorem dX5_comers_55 : decode cX5_comers 55 = .ok (.lload 4, 2) := by decide +kernel
theorem dX5_comers_57 : decode cX5_comers 57 = .ok (.lreturn, 1) := by decide +kernel
set_option maxRecDepth 20000 in
theorem ggX6_init_X1_init : GoodIn wsX6_init wsX1_init := goodIn_r _ [24, 25, 2, 3, 26, 27, 28, 29, 30, 31, 32, 33, 18, 34, 35, 36, 37, 38, 39, 40, 41, 42, 43, 44, 45, 46, 47, 48, 49, 50, 51, 52, 53, 54, 55, 56, 97, 98, 99, 100, 101, 72, 73, 74, 75, 76, 77, 78, 79, 80, 102, 103, 104, 105] (by decide +kernel) (by decide +kernel)
set_option maxRecDepth 20000 in
theorem gX6_init_X1_init : GoodIn wsX6_init (wsX1_init) := ggX6_init_X1_init
set_option maxRecDepth 20000 in
theorem ggX6_init_X4_init : GoodIn wsX6_init wsX4_init := goodIn_r _ [58, 59, 2, 3, 60, 61, 62, 63, 64, 65, 66, 18, 67, 106, 107, 89, 90, 91, 92, 93] (by decide +kernel) (by decide +kernel)
set_option maxRecDepth 20000 in
theorem gX6_init_X4_init_n24 : GoodIn wsX6_init (wsX4_init) := ggX6_init_X4_init
set_option maxRecDepth 20000 in
theorem ggX6_init_X2_init : GoodIn wsX6_init wsX2_init := goodIn_r _ [69, 70, 2, 3, 18, 71, 94, 95, 96] (by decide +kernel) (by decide +kernel)
set_option maxRecDepth 20000 in
theorem gX6_init_X2_init_n44 : GoodIn wsX6_init (wsX2_init) := ggX6_init_X2_init
theorem dX6_init_0 : decode cX6_init 0 = .ok (.aload_n 0, 1) := by decide +kernel
theorem dX6_init_1 : decode cX6_init 1 = .ok (.invokespecial 3, 3) := by decide +kernel
theorem dX6_init_4 : decode cX6_init 4 = .ok (.aload_n 0, 1) := by decide +kernel
theorem dX6_init_5 : decode cX6_init 5 = .ok (.new 9, 3) := by decide +kernel
theorem dX6_init_8 : decode cX6_init 8 = .ok (.dup, 1) := by decide +kernel
theorem dX6_init_9 : decode cX6_init 9 = .ok (.invokespecial 11, 3) := by decide +kernel
theorem dX6_init_12 : decode cX6_init 12 = .ok (.putfield 12, 3) := by decide +kernel
theorem dX6_init_15 : decode cX6_init 15 = .ok (.aload_n 0, 1) := by decide +kernel
theorem dX6_init_16 : decode cX6_init 16 = .ok (.new 9, 3) := by decide +kernel
theorem dX6_init_19 : decode cX6_init 19 = .ok (.dup, 1) := by decide +kernel
theorem dX6_init_20 : decode cX6_init 20 = .ok (.invokespecial 11, 3) := by decide +kernel
theorem dX6_init_23 : decode cX6_init 23 = .ok (.putfield 16, 3) := by decide +kernel
theorem dX6_init_26 : decode cX6_init 26 = .ok (.aload_n 0, 1) := by decide +kernel
theorem dX6_init_27 : decode cX6_init 27 = .ok (.new 9, 3) := by decide +kernel
theorem dX6_init_30 : decode cX6_init 30 = .ok (.dup, 1) := by decide +kernel
theorem dX6_init_31 : decode cX6_init 31 = .ok (.invokespecial 11, 3) := by decide +kernel
theorem dX6_init_34 : decode cX6_init 34 = .ok (.putfield 19, 3) := by decide +kernel
theorem dX6_init_37 : decode cX6_init 37 = .ok (.aload_n 0, 1) := by decide +kernel
theorem dX6_init_38 : decode cX6_init 38 = .ok (.new 22, 3) := by decide +kernel
theorem dX6_init_41 : decode cX6_init 41 = .ok (.dup, 1) := by decide +kernel
theorem dX6_init_42 : decode cX6_init 42 = .ok (.invokespecial 24, 3) := by decide +kernel
theorem dX6_init_45 : decode cX6_init 45 = .ok (.putfield 25, 3) := by decide +kernel
theorem dX6_init_48 : decode cX6_init 48 = .ok (.aload_n 0, 1) := by decide +kernel
theorem dX6_init_49 : decode cX6_init 49 = .ok (.aload_n 0, 1) := by decide +kernel
theorem dX6_init_50 : decode cX6_init 50 = .ok (.getfield 25, 3) := by decide +kernel
theorem dX6_init_53 : decode cX6_init 53 = .ok (.getfield 29, 3) := by decide +kernel
theorem dX6_init_56 : decode cX6_init 56 = .ok (.putfield 33, 3) := by decide +kernel
theorem dX6_init_59 : decode cX6_init 59 = .ok (.aload_n 0, 1) := by decide +kernel
theorem dX6_init_60 : decode cX6_init 60 = .ok (.iconst 4, 1) := by decide +kernel
theorem dX6_init_61 : decode cX6_init 61 = .ok (.anewarray 34, 3) := by decide +kernel
theorem dX6_init_64 : decode cX6_init 64 = .ok (.putfield 36, 3) := by decide +kernel
theorem dX6_init_67 : decode cX6_init 67 = .ok (.aload_n 0, 1) := by decide +kernel
theorem dX6_init_68 : decode cX6_init 68 = .ok (.bipush 7, 2) := by decide +kernel
theorem dX6_init_70 : decode cX6_init 70 = .ok (.newarray .int, 2) := by decide +kernel
theorem dX6_init_72 : decode cX6_init 72 = .ok (.putfield 40, 3) := by decide +kernel
theorem dX6_init_75 : decode cX6_init 75 = .ok (.iconst 0, 1) := by decide +kernel
theorem dX6_init_76 : decode cX6_init 76 = .ok (.istore_n 1, 1) := by decide +kernel
theorem dX6_init_77 : decode cX6_init 77 = .ok (.iload_n 1, 1) := by decide +kernel
theorem dX6_init_78 : decode cX6_init 78 = .ok (.iconst 4, 1) := by decide +kernel
theorem dX6_init_79 : decode cX6_init 79 = .ok (.if_icmp .ge 22, 3) := by decide +kernel
theorem dX6_init_82 : decode cX6_init 82 = .ok (.aload_n 0, 1) := by decide +kernel
theorem dX6_init_83 : decode cX6_init 83 = .ok (.getfield 36, 3) := by decide +kernel
theorem dX6_init_86 : decode cX6_init 86 = .ok (.iload_n 1, 1) := by decide +kernel
theorem dX6_init_87 : decode cX6_init 87 = .ok (.new 34, 3) := by decide +kernel
theorem dX6_init_90 : decode cX6_init 90 = .ok (.dup, 1) := by decide +kernel
theorem dX6_init_91 : decode cX6_init 91 = .ok (.invokespecial 44, 3) := by decide +kernel
theorem dX6_init_94 : decode cX6_init 94 = .ok (.aastore, 1) := by decide +kernel
theorem dX6_init_95 : decode cX6_init 95 = .ok (.iinc 1 1, 3) := by decide +kernel
theorem dX6_init_98 : decode cX6_init 98 = .ok (.goto (-21), 3) := by decide +kernel
theorem dX6_init_101 : decode cX6_init 101 = .ok (.return_, 1) := by decide +kernel
set_option maxRecDepth 20000 in
theorem ggX6_block_X6_isKind : GoodIn wsX6_block wsX6_isKind := goodIn_r _ [9, 10, 11, 8, 12] (by decide +kernel) (by decide +kernel)
set_option maxRecDepth 20000 in
theorem gX6_block_X6_isKind : GoodIn wsX6_block (va_wsS RX6 45 yX6_isKind wsX6_isKind) := goodIn_app (goodIn_of _ (by decide +kernel)) ggX6_block_X6_isKind
set_option maxRecDepth 20000 in
theorem ggX6_block_X6_isCell : GoodIn wsX6_block wsX6_isCell := goodIn_r _ [15, 10, 11, 8, 12] (by decide +kernel) (by decide +kernel)
set_option maxRecDepth 20000 in
theorem gX6_block_X6_isCell : GoodIn wsX6_block (va_wsS RX6 49 yX6_isCell wsX6_isCell) := goodIn_app (goodIn_of _ (by decide +kernel)) ggX6_block_X6_isCell
set_option maxRecDepth 20000 in
theorem ggX6_block_X6_isWithin : GoodIn wsX6_block wsX6_isWithin := goodIn_r _ [12] (by decide +kernel) (by decide +kernel)
set_option maxRecDepth 20000 in
theorem gX6_block_X6_isWithin : GoodIn wsX6_block (va_wsS RX6 52 yX6_isWithin wsX6_isWithin) := goodIn_app (goodIn_of _ (by decide +kernel)) ggX6_block_X6_isWithin
set_option maxRecDepth 20000 in
theorem ggX6_block_X6_tell : GoodIn wsX6_block wsX6_tell := goodIn_r _ [19, 1, 20, 10, 11, 8, 12, 40, 41, 42, 43, 44, 45, 46, 47] (by decide +kernel) (by decide +kernel)
set_option maxRecDepth 20000 in
theorem gX6_block_X6_tell : GoodIn wsX6_block (wsV RX6 57 RX6 yX6_tell wsX6_tell) := goodIn_app (goodIn_of _ (by decide +kernel)) ggX6_block_X6_tell
set_option maxRecDepth 20000 in
theorem ggX6_block_X5_isFull : GoodIn wsX6_block wsX5_isFull := goodIn_r _ [25, 26, 57, 58, 59, 60, 61] (by decide +kernel) (by decide +kernel)
set_option maxRecDepth 20000 in
theorem gX6_block_X5_isFull : GoodIn wsX6_block (wsV RX6 65 RX5 yX5_isFull wsX5_isFull) := goodIn_app (goodIn_of _ (by decide +kernel)) ggX6_block_X5_isFull
set_option maxRecDepth 20000 in
theorem ggX6_block_X5_blockAt : GoodIn wsX6_block wsX5_blockAt := goodIn_r _ [30, 31, 14, 8, 15, 10, 11, 12, 57, 58, 59, 60, 61] (by decide +kernel) (by decide +kernel)
set_option maxRecDepth 20000 in
theorem gX6_block_X5_blockAt : GoodIn wsX6_block (wsV RX6 72 RX5 yX5_blockAt wsX5_blockAt) := goodIn_app (goodIn_of _ (by decide +kernel)) ggX6_block_X5_blockAt
set_option maxRecDepth 20000 in
theorem ggX6_block_X5_build : GoodIn wsX6_block wsX5_build := goodIn_r _ [35, 26, 36, 37, 38, 31, 39, 22, 23, 24, 25, 14, 8, 15, 10, 11, 12, 57, 58, 59, 60, 61] (by decide +kernel) (by decide +kernel)
set_option maxRecDepth 20000 in
theorem gX6_block_X5_build : GoodIn wsX6_block (wsV RX6 76 RX5 yX5_build wsX5_build) := goodIn_app (goodIn_of _ (by decide +kernel)) ggX6_block_X5_build
theorem dX6_block_0 : decode cX6_block 0 = .ok (.iload_n 1, 1) := by decide +kernel
theorem dX6_block_1 : decode cX6_block 1 = .ok (.invokestatic 45, 3) := by decide +kernel
theorem dX6_block_4 : decode cX6_block 4 = .ok (.ifCond .eq 20, 3) := by decide +kernel
theorem dX6_block_7 : decode cX6_block 7 = .ok (.iload_n 2, 1) := by decide +kernel
theorem dX6_block_8 : decode cX6_block 8 = .ok (.invokestatic 49, 3) := by decide +kernel
theorem dX6_block_11 : decode cX6_block 11 = .ok (.ifCond .eq 13, 3) := by decide +kernel
theorem dX6_block_14 : decode cX6_block 14 = .ok (.iload_n 3, 1) := by decide +kernel
theorem dX6_block_15 : decode cX6_block 15 = .ok (.iconst 1, 1) := by decide +kernel
theorem dX6_block_16 : decode cX6_block 16 = .ok (.bipush 99, 2) := by decide +kernel
theorem dX6_block_18 : decode cX6_block 18 = .ok (.invokestatic 52, 3) := by decide +kernel
theorem dX6_block_21 : decode cX6_block 21 = .ok (.ifCond .ne 10, 3) := by decide +kernel
theorem dX6_block_24 : decode cX6_block 24 = .ok (.aload_n 0, 1) := by decide +kernel
theorem dX6_block_25 : decode cX6_block 25 = .ok (.ldc 56, 2) := by decide +kernel
theorem dX6_block_27 : decode cX6_block 27 = .ok (.invokevirtual 57, 3) := by decide +kernel
theorem dX6_block_30 : decode cX6_block 30 = .ok (.ireturn, 1) := by decide +kernel
theorem dX6_block_31 : decode cX6_block 31 = .ok (.aload_n 0, 1) := by decide +kernel
theorem dX6_block_32 : decode cX6_block 32 = .ok (.getfield 12, 3) := by decide +kernel
theorem dX6_block_35 : decode cX6_block 35 = .ok (.getfield 61, 3) := by decide +kernel
theorem dX6_block_38 : decode cX6_block 38 = .ok (.invokevirtual 65, 3) := by decide +kernel
theorem dX6_block_41 : decode cX6_block 41 = .ok (.ifCond .eq 10, 3) := by decide +kernel
theorem dX6_block_44 : decode cX6_block 44 = .ok (.aload_n 0, 1) := by decide +kernel
theorem dX6_block_45 : decode cX6_block 45 = .ok (.ldc 71, 2) := by decide +kernel
theorem dX6_block_47 : decode cX6_block 47 = .ok (.invokevirtual 57, 3) := by decide +kernel
theorem dX6_block_50 : decode cX6_block 50 = .ok (.ireturn, 1) := by decide +kernel
theorem dX6_block_51 : decode cX6_block 51 = .ok (.aload_n 0, 1) := by decide +kernel
theorem dX6_block_52 : decode cX6_block 52 = .ok (.getfield 12, 3) := by decide +kernel
theorem dX6_block_55 : decode cX6_block 55 = .ok (.getfield 61, 3) := by decide +kernel
theorem dX6_block_58 : decode cX6_block 58 = .ok (.iload_n 2, 1) := by decide +kernel
theorem dX6_block_59 : decode cX6_block 59 = .ok (.invokevirtual 72, 3) := by decide +kernel
theorem dX6_block_62 : decode cX6_block 62 = .ok (.ifCond .lt 10, 3) := by decide +kernel
theorem dX6_block_65 : decode cX6_block 65 = .ok (.aload_n 0, 1) := by decide +kernel
theorem dX6_block_66 : decode cX6_block 66 = .ok (.ldc 75, 2) := by decide +kernel
theorem dX6_block_68 : decode cX6_block 68 = .ok (.invokevirtual 57, 3) := by decide +kernel
theorem dX6_block_71 : decode cX6_block 71 = .ok (.ireturn, 1) := by decide +kernel
theorem dX6_block_72 : decode cX6_block 72 = .ok (.aload_n 0, 1) := by decide +kernel
theorem dX6_block_73 : decode cX6_block 73 = .ok (.getfield 12, 3) := by decide +kernel
theorem dX6_block_76 : decode cX6_block 76 = .ok (.getfield 61, 3) := by decide +kernel
theorem dX6_block_79 : decode cX6_block 79 = .ok (.iload_n 1, 1) := by decide +kernel
theorem dX6_block_80 : decode cX6_block 80 = .ok (.iload_n 2, 1) := by decide +kernel
theorem dX6_block_81 : decode cX6_block 81 = .ok (.iload_n 3, 1) := by decide +kernel
theorem dX6_block_82 : decode cX6_block 82 = .ok (.invokevirtual 76, 3) := by decide +kernel
theorem dX6_block_85 : decode cX6_block 85 = .ok (.ireturn, 1) := by decide +kernel
set_option maxRecDepth 20000 in
theorem ggX6_blockOf_X5_isBlock : GoodIn wsX6_blockOf wsX5_isBlock := goodIn_r _ [11, 12, 69, 70, 71, 72, 73] (by decide +kernel) (by decide +kernel)
set_option maxRecDepth 20000 in
theorem gX6_blockOf_X5_isBlock : GoodIn wsX6_blockOf (wsV RX6 80 RX5 yX5_isBlock wsX5_isBlock) := goodIn_app (goodIn_of _ (by decide +kernel)) ggX6_blockOf_X5_isBlock
set_option maxRecDepth 20000 in
theorem ggX6_blockOf_X6_isWithin : GoodIn wsX6_blockOf wsX6_isWithin := goodIn_r _ [16] (by decide +kernel) (by decide +kernel)
set_option maxRecDepth 20000 in
theorem gX6_blockOf_X6_isWithin : GoodIn wsX6_blockOf (va_wsS RX6 52 yX6_isWithin wsX6_isWithin) := goodIn_app (goodIn_of _ (by decide +kernel)) ggX6_blockOf_X6_isWithin
set_option maxRecDepth 20000 in
theorem ggX6_blockOf_X6_tell : GoodIn wsX6_blockOf wsX6_tell := goodIn_r _ [20, 3, 21, 13, 14, 15, 16, 52, 53, 54, 55, 56, 57, 58, 59] (by decide +kernel) (by decide +kernel)
set_option maxRecDepth 20000 in
theorem gX6_blockOf_X6_tell : GoodIn wsX6_blockOf (wsV RX6 57 RX6 yX6_tell wsX6_tell) := goodIn_app (goodIn_of _ (by decide +kernel)) ggX6_blockOf_X6_tell
set_option maxRecDepth 20000 in
theorem ggX6_blockOf_X5_isGone : GoodIn wsX6_blockOf wsX5_isGone := goodIn_r _ [25, 26, 69, 70, 71, 72, 73] (by decide +kernel) (by decide +kernel)
set_option maxRecDepth 20000 in
theorem gX6_blockOf_X5_isGone : GoodIn wsX6_blockOf (wsV RX6 92 RX5 yX5_isGone wsX5_isGone) := goodIn_app (goodIn_of _ (by decide +kernel)) ggX6_blockOf_X5_isGone
set_option maxRecDepth 20000 in
theorem ggX6_blockOf_X5_standing : GoodIn wsX6_blockOf wsX5_standing := goodIn_r _ [30, 12, 31, 32, 33, 10, 34, 26, 35, 36, 37, 38, 39, 69, 70, 71, 72, 73] (by decide +kernel) (by decide +kernel)
set_option maxRecDepth 20000 in
theorem gX6_blockOf_X5_standing : GoodIn wsX6_blockOf (wsV RX6 95 RX5 yX5_standing wsX5_standing) := goodIn_app (goodIn_of _ (by decide +kernel)) ggX6_blockOf_X5_standing
set_option maxRecDepth 20000 in
theorem ggX6_blockOf_X5_cellBit : GoodIn wsX6_blockOf wsX5_cellBit := goodIn_r _ [39, 26, 69, 70, 71, 72, 73] (by decide +kernel) (by decide +kernel)
set_option maxRecDepth 20000 in
theorem gX6_blockOf_X5_cellBit : GoodIn wsX6_blockOf (wsV RX6 99 RX5 yX5_cellBit wsX5_cellBit) := goodIn_app (goodIn_of _ (by decide +kernel)) ggX6_blockOf_X5_cellBit
set_option maxRecDepth 20000 in
theorem ggX6_blockOf_X5_loadOf : GoodIn wsX6_blockOf wsX5_loadOf := goodIn_r _ [44, 26, 45, 46, 47, 23, 24, 10, 25, 69, 70, 71, 72, 73] (by decide +kernel) (by decide +kernel)
set_option maxRecDepth 20000 in
theorem gX6_blockOf_X5_loadOf : GoodIn wsX6_blockOf (wsV RX6 103 RX5 yX5_loadOf wsX5_loadOf) := goodIn_app (goodIn_of _ (by decide +kernel)) ggX6_blockOf_X5_loadOf
set_option maxRecDepth 20000 in
theorem ggX6_blockOf_X5_strengthOf : GoodIn wsX6_blockOf wsX5_strengthOf := goodIn_r _ [51, 46, 35, 47, 23, 24, 10, 25, 26, 69, 70, 71, 72, 73] (by decide +kernel) (by decide +kernel)
set_option maxRecDepth 20000 in
theorem gX6_blockOf_X5_strengthOf : GoodIn wsX6_blockOf (wsV RX6 106 RX5 yX5_strengthOf wsX5_strengthOf) := goodIn_app (goodIn_of _ (by decide +kernel)) ggX6_blockOf_X5_strengthOf
theorem dX6_blockOf_0 : decode cX6_blockOf 0 = .ok (.aload_n 0, 1) := by decide +kernel
theorem dX6_blockOf_1 : decode cX6_blockOf 1 = .ok (.getfield 12, 3) := by decide +kernel
theorem dX6_blockOf_4 : decode cX6_blockOf 4 = .ok (.getfield 61, 3) := by decide +kernel
theorem dX6_blockOf_7 : decode cX6_blockOf 7 = .ok (.astore_n 3, 1) := by decide +kernel
theorem dX6_blockOf_8 : decode cX6_blockOf 8 = .ok (.aload_n 3, 1) := by decide +kernel
theorem dX6_blockOf_9 : decode cX6_blockOf 9 = .ok (.iload_n 1, 1) := by decide +kernel
theorem dX6_blockOf_10 : decode cX6_blockOf 10 = .ok (.invokevirtual 80, 3) := by decide +kernel
theorem dX6_blockOf_13 : decode cX6_blockOf 13 = .ok (.ifCond .eq 13, 3) := by decide +kernel
theorem dX6_blockOf_16 : decode cX6_blockOf 16 = .ok (.iload_n 2, 1) := by decide +kernel
theorem dX6_blockOf_17 : decode cX6_blockOf 17 = .ok (.iconst 0, 1) := by decide +kernel
theorem dX6_blockOf_18 : decode cX6_blockOf 18 = .ok (.bipush 6, 2) := by decide +kernel
theorem dX6_blockOf_20 : decode cX6_blockOf 20 = .ok (.invokestatic 52, 3) := by decide +kernel
theorem dX6_blockOf_23 : decode cX6_blockOf 23 = .ok (.ifCond .ne 10, 3) := by decide +kernel
theorem dX6_blockOf_26 : decode cX6_blockOf 26 = .ok (.aload_n 0, 1) := by decide +kernel
theorem dX6_blockOf_27 : decode cX6_blockOf 27 = .ok (.ldc 56, 2) := by decide +kernel
theorem dX6_blockOf_29 : decode cX6_blockOf 29 = .ok (.invokevirtual 57, 3) := by decide +kernel
theorem dX6_blockOf_32 : decode cX6_blockOf 32 = .ok (.ireturn, 1) := by decide +kernel
theorem dX6_blockOf_33 : decode cX6_blockOf 33 = .ok (.iload_n 2, 1) := by decide +kernel
theorem dX6_blockOf_34 : decode cX6_blockOf 34 = .ok (.tableswitch 100 0 5 #[38, 45, 52, 59, 73, 94], 38) := by decide +kernel
theorem dX6_blockOf_72 : decode cX6_blockOf 72 = .ok (.aload_n 3, 1) := by decide +kernel
theorem dX6_blockOf_73 : decode cX6_blockOf 73 = .ok (.getfield 83, 3) := by decide +kernel
theorem dX6_blockOf_76 : decode cX6_blockOf 76 = .ok (.iload_n 1, 1) := by decide +kernel
theorem dX6_blockOf_77 : decode cX6_blockOf 77 = .ok (.iaload, 1) := by decide +kernel
theorem dX6_blockOf_78 : decode cX6_blockOf 78 = .ok (.ireturn, 1) := by decide +kernel
theorem dX6_blockOf_79 : decode cX6_blockOf 79 = .ok (.aload_n 3, 1) := by decide +kernel
theorem dX6_blockOf_80 : decode cX6_blockOf 80 = .ok (.getfield 86, 3) := by decide +kernel
theorem dX6_blockOf_83 : decode cX6_blockOf 83 = .ok (.iload_n 1, 1) := by decide +kernel
theorem dX6_blockOf_84 : decode cX6_blockOf 84 = .ok (.iaload, 1) := by decide +kernel
theorem dX6_blockOf_85 : decode cX6_blockOf 85 = .ok (.ireturn, 1) := by decide +kernel
theorem dX6_blockOf_86 : decode cX6_blockOf 86 = .ok (.aload_n 3, 1) := by decide +kernel
theorem dX6_blockOf_87 : decode cX6_blockOf 87 = .ok (.getfield 89, 3) := by decide +kernel
theorem dX6_blockOf_90 : decode cX6_blockOf 90 = .ok (.iload_n 1, 1) := by decide +kernel
theorem dX6_blockOf_91 : decode cX6_blockOf 91 = .ok (.iaload, 1) := by decide +kernel
theorem dX6_blockOf_92 : decode cX6_blockOf 92 = .ok (.ireturn, 1) := by decide +kernel
theorem dX6_blockOf_93 : decode cX6_blockOf 93 = .ok (.aload_n 3, 1) := by decide +kernel
theorem dX6_blockOf_94 : decode cX6_blockOf 94 = .ok (.iload_n 1, 1) := by decide +kernel
theorem dX6_blockOf_95 : decode cX6_blockOf 95 = .ok (.invokevirtual 92, 3) := by decide +kernel
theorem dX6_blockOf_98 : decode cX6_blockOf 98 = .ok (.ifCond .eq 7, 3) := by decide +kernel
theorem dX6_blockOf_101 : decode cX6_blockOf 101 = .ok (.iconst 1, 1) := by decide +kernel
theorem dX6_blockOf_102 : decode cX6_blockOf 102 = .ok (.goto 4, 3) := by decide +kernel
theorem dX6_blockOf_105 : decode cX6_blockOf 105 = .ok (.iconst 0, 1) := by decide +kernel
theorem dX6_blockOf_106 : decode cX6_blockOf 106 = .ok (.ireturn, 1) := by decide +kernel
theorem dX6_blockOf_107 : decode cX6_blockOf 107 = .ok (.aload_n 3, 1) := by decide +kernel
theorem dX6_blockOf_108 : decode cX6_blockOf 108 = .ok (.invokevirtual 95, 3) := by decide +kernel
theorem dX6_blockOf_111 : decode cX6_blockOf 111 = .ok (.aload_n 3, 1) := by decide +kernel
theorem dX6_blockOf_112 : decode cX6_blockOf 112 = .ok (.iload_n 1, 1) := by decide +kernel
theorem dX6_blockOf_113 : decode cX6_blockOf 113 = .ok (.invokevirtual 99, 3) := by decide +kernel
theorem dX6_blockOf_116 : decode cX6_blockOf 116 = .ok (.land, 1) := by decide +kernel
theorem dX6_blockOf_117 : decode cX6_blockOf 117 = .ok (.lconst 0, 1) := by decide +kernel
theorem dX6_blockOf_118 : decode cX6_blockOf 118 = .ok (.lcmp, 1) := by decide +kernel
theorem dX6_blockOf_119 : decode cX6_blockOf 119 = .ok (.ifCond .eq 7, 3) := by decide +kernel
theorem dX6_blockOf_122 : decode cX6_blockOf 122 = .ok (.iconst 1, 1) := by decide +kernel
theorem dX6_blockOf_123 : decode cX6_blockOf 123 = .ok (.goto 4, 3) := by decide +kernel
theorem dX6_blockOf_126 : decode cX6_blockOf 126 = .ok (.iconst 0, 1) := by decide +kernel
theorem dX6_blockOf_127 : decode cX6_blockOf 127 = .ok (.ireturn, 1) := by decide +kernel
theorem dX6_blockOf_128 : decode cX6_blockOf 128 = .ok (.aload_n 3, 1) := by decide +kernel
theorem dX6_blockOf_129 : decode cX6_blockOf 129 = .ok (.iload_n 1, 1) := by decide +kernel
theorem dX6_blockOf_130 : decode cX6_blockOf 130 = .ok (.invokevirtual 103, 3) := by decide +kernel
theorem dX6_blockOf_133 : decode cX6_blockOf 133 = .ok (.ireturn, 1) := by decide +kernel
theorem dX6_blockOf_134 : decode cX6_blockOf 134 = .ok (.aload_n 3, 1) := by decide +kernel
theorem dX6_blockOf_135 : decode cX6_blockOf 135 = .ok (.iload_n 1, 1) := by decide +kernel
theorem dX6_blockOf_136 : decode cX6_blockOf 136 = .ok (.invokevirtual 106, 3) := by decide +kernel
theorem dX6_blockOf_139 : decode cX6_blockOf 139 = .ok (.ireturn, 1) := by decide +kernel
set_option maxRecDepth 20000 in
theorem ggX6_turn_X5_isBlock : GoodIn wsX6_turn wsX5_isBlock := goodIn_r _ [9, 10, 40, 41, 42, 43, 44] (by decide +kernel) (by decide +kernel)
set_option maxRecDepth 20000 in
theorem gX6_turn_X5_isBlock : GoodIn wsX6_turn (wsV RX6 80 RX5 yX5_isBlock wsX5_isBlock) := goodIn_app (goodIn_of _ (by decide +kernel)) ggX6_turn_X5_isBlock
set_option maxRecDepth 20000 in
theorem ggX6_turn_X6_isKind : GoodIn wsX6_turn wsX6_isKind := goodIn_r _ [14, 15, 16, 13, 17] (by decide +kernel) (by decide +kernel)
set_option maxRecDepth 20000 in
theorem gX6_turn_X6_isKind : GoodIn wsX6_turn (va_wsS RX6 45 yX6_isKind wsX6_isKind) := goodIn_app (goodIn_of _ (by decide +kernel)) ggX6_turn_X6_isKind
set_option maxRecDepth 20000 in
theorem ggX6_turn_X6_tell : GoodIn wsX6_turn wsX6_tell := goodIn_r _ [21, 3, 22, 15, 16, 13, 17, 23, 24, 25, 26, 27, 28, 29, 30] (by decide +kernel) (by decide +kernel)
set_option maxRecDepth 20000 in
theorem gX6_turn_X6_tell : GoodIn wsX6_turn (wsV RX6 57 RX6 yX6_tell wsX6_tell) := goodIn_app (goodIn_of _ (by decide +kernel)) ggX6_turn_X6_tell
theorem dX6_turn_0 : decode cX6_turn 0 = .ok (.aload_n 0, 1) := by decide +kernel
theorem dX6_turn_1 : decode cX6_turn 1 = .ok (.getfield 12, 3) := by decide +kernel
theorem dX6_turn_4 : decode cX6_turn 4 = .ok (.getfield 61, 3) := by decide +kernel
theorem dX6_turn_7 : decode cX6_turn 7 = .ok (.iload_n 1, 1) := by decide +kernel
theorem dX6_turn_8 : decode cX6_turn 8 = .ok (.invokevirtual 80, 3) := by decide +kernel
theorem dX6_turn_11 : decode cX6_turn 11 = .ok (.ifCond .eq 10, 3) := by decide +kernel
theorem dX6_turn_14 : decode cX6_turn 14 = .ok (.iload_n 2, 1) := by decide +kernel
theorem dX6_turn_15 : decode cX6_turn 15 = .ok (.invokestatic 45, 3) := by decide +kernel
theorem dX6_turn_18 : decode cX6_turn 18 = .ok (.ifCond .ne 10, 3) := by decide +kernel
theorem dX6_turn_21 : decode cX6_turn 21 = .ok (.aload_n 0, 1) := by decide +kernel
theorem dX6_turn_22 : decode cX6_turn 22 = .ok (.ldc 56, 2) := by decide +kernel
theorem dX6_turn_24 : decode cX6_turn 24 = .ok (.invokevirtual 57, 3) := by decide +kernel
theorem dX6_turn_27 : decode cX6_turn 27 = .ok (.ireturn, 1) := by decide +kernel
theorem dX6_turn_28 : decode cX6_turn 28 = .ok (.aload_n 0, 1) := by decide +kernel
theorem dX6_turn_29 : decode cX6_turn 29 = .ok (.getfield 12, 3) := by decide +kernel
theorem dX6_turn_32 : decode cX6_turn 32 = .ok (.getfield 61, 3) := by decide +kernel
theorem dX6_turn_35 : decode cX6_turn 35 = .ok (.getfield 83, 3) := by decide +kernel
theorem dX6_turn_38 : decode cX6_turn 38 = .ok (.iload_n 1, 1) := by decide +kernel
theorem dX6_turn_39 : decode cX6_turn 39 = .ok (.iaload, 1) := by decide +kernel
theorem dX6_turn_40 : decode cX6_turn 40 = .ok (.istore_n 3, 1) := by decide +kernel
theorem dX6_turn_41 : decode cX6_turn 41 = .ok (.aload_n 0, 1) := by decide +kernel
theorem dX6_turn_42 : decode cX6_turn 42 = .ok (.getfield 12, 3) := by decide +kernel
theorem dX6_turn_45 : decode cX6_turn 45 = .ok (.getfield 61, 3) := by decide +kernel
theorem dX6_turn_48 : decode cX6_turn 48 = .ok (.getfield 83, 3) := by decide +kernel
theorem dX6_turn_51 : decode cX6_turn 51 = .ok (.iload_n 1, 1) := by decide +kernel
theorem dX6_turn_52 : decode cX6_turn 52 = .ok (.iload_n 2, 1) := by decide +kernel
theorem dX6_turn_53 : decode cX6_turn 53 = .ok (.iastore, 1) := by decide +kernel
theorem dX6_turn_54 : decode cX6_turn 54 = .ok (.iload_n 3, 1) := by decide +kernel
theorem dX6_turn_55 : decode cX6_turn 55 = .ok (.ireturn, 1) := by decide +kernel
set_option maxRecDepth 20000 in
theorem ggX6_take_X5_isBlock : GoodIn wsX6_take wsX5_isBlock := goodIn_r _ [9, 10, 54, 55, 56, 57, 58] (by decide +kernel) (by decide +kernel)
set_option maxRecDepth 20000 in
theorem gX6_take_X5_isBlock : GoodIn wsX6_take (wsV RX6 80 RX5 yX5_isBlock wsX5_isBlock) := goodIn_app (goodIn_of _ (by decide +kernel)) ggX6_take_X5_isBlock
set_option maxRecDepth 20000 in
theorem ggX6_take_X6_isCell : GoodIn wsX6_take wsX6_isCell := goodIn_r _ [14, 15, 16, 13, 17] (by decide +kernel) (by decide +kernel)
set_option maxRecDepth 20000 in
theorem gX6_take_X6_isCell : GoodIn wsX6_take (va_wsS RX6 49 yX6_isCell wsX6_isCell) := goodIn_app (goodIn_of _ (by decide +kernel)) ggX6_take_X6_isCell
set_option maxRecDepth 20000 in
theorem ggX6_take_X6_tell : GoodIn wsX6_take wsX6_tell := goodIn_r _ [21, 3, 22, 15, 16, 13, 17, 37, 38, 39, 40, 41, 42, 43, 44] (by decide +kernel) (by decide +kernel)
set_option maxRecDepth 20000 in
theorem gX6_take_X6_tell : GoodIn wsX6_take (wsV RX6 57 RX6 yX6_tell wsX6_tell) := goodIn_app (goodIn_of _ (by decide +kernel)) ggX6_take_X6_tell
set_option maxRecDepth 20000 in
theorem ggX6_take_X5_blockAt : GoodIn wsX6_take wsX5_blockAt := goodIn_r _ [26, 27, 12, 13, 14, 15, 16, 17, 54, 55, 56, 57, 58] (by decide +kernel) (by decide +kernel)
set_option maxRecDepth 20000 in
theorem gX6_take_X5_blockAt : GoodIn wsX6_take (wsV RX6 72 RX5 yX5_blockAt wsX5_blockAt) := goodIn_app (goodIn_of _ (by decide +kernel)) ggX6_take_X5_blockAt
set_option maxRecDepth 20000 in
theorem ggX6_take_X5_isGone : GoodIn wsX6_take wsX5_isGone := goodIn_r _ [31, 32, 54, 55, 56, 57, 58] (by decide +kernel) (by decide +kernel)
set_option maxRecDepth 20000 in
theorem gX6_take_X5_isGone : GoodIn wsX6_take (wsV RX6 92 RX5 yX5_isGone wsX5_isGone) := goodIn_app (goodIn_of _ (by decide +kernel)) ggX6_take_X5_isGone
set_option maxRecDepth 20000 in
theorem ggX6_take_X5_move : GoodIn wsX6_take wsX5_move := goodIn_r _ [36, 32, 27, 12, 13, 14, 15, 16, 17, 54, 55, 56, 57, 58] (by decide +kernel) (by decide +kernel)
set_option maxRecDepth 20000 in
theorem gX6_take_X5_move : GoodIn wsX6_take (wsV RX6 109 RX5 yX5_move wsX5_move) := goodIn_app (goodIn_of _ (by decide +kernel)) ggX6_take_X5_move
theorem dX6_take_0 : decode cX6_take 0 = .ok (.aload_n 0, 1) := by decide +kernel
theorem dX6_take_1 : decode cX6_take 1 = .ok (.getfield 12, 3) := by decide +kernel
theorem dX6_take_4 : decode cX6_take 4 = .ok (.getfield 61, 3) := by decide +kernel
theorem dX6_take_7 : decode cX6_take 7 = .ok (.astore_n 3, 1) := by decide +kernel
theorem dX6_take_8 : decode cX6_take 8 = .ok (.aload_n 3, 1) := by decide +kernel
theorem dX6_take_9 : decode cX6_take 9 = .ok (.iload_n 1, 1) := by decide +kernel
theorem dX6_take_10 : decode cX6_take 10 = .ok (.invokevirtual 80, 3) := by decide +kernel
theorem dX6_take_13 : decode cX6_take 13 = .ok (.ifCond .eq 10, 3) := by decide +kernel
theorem dX6_take_16 : decode cX6_take 16 = .ok (.iload_n 2, 1) := by decide +kernel
theorem dX6_take_17 : decode cX6_take 17 = .ok (.invokestatic 49, 3) := by decide +kernel
theorem dX6_take_20 : decode cX6_take 20 = .ok (.ifCond .ne 10, 3) := by decide +kernel
theorem dX6_take_23 : decode cX6_take 23 = .ok (.aload_n 0, 1) := by decide +kernel
theorem dX6_take_24 : decode cX6_take 24 = .ok (.ldc 56, 2) := by decide +kernel
theorem dX6_take_26 : decode cX6_take 26 = .ok (.invokevirtual 57, 3) := by decide +kernel
theorem dX6_take_29 : decode cX6_take 29 = .ok (.ireturn, 1) := by decide +kernel
theorem dX6_take_30 : decode cX6_take 30 = .ok (.aload_n 3, 1) := by decide +kernel
theorem dX6_take_31 : decode cX6_take 31 = .ok (.iload_n 2, 1) := by decide +kernel
theorem dX6_take_32 : decode cX6_take 32 = .ok (.invokevirtual 72, 3) := by decide +kernel
theorem dX6_take_35 : decode cX6_take 35 = .ok (.istore 4, 2) := by decide +kernel
theorem dX6_take_37 : decode cX6_take 37 = .ok (.aload_n 3, 1) := by decide +kernel
theorem dX6_take_38 : decode cX6_take 38 = .ok (.iload_n 1, 1) := by decide +kernel
theorem dX6_take_39 : decode cX6_take 39 = .ok (.invokevirtual 92, 3) := by decide +kernel
theorem dX6_take_42 : decode cX6_take 42 = .ok (.ifCond .ne 14, 3) := by decide +kernel
theorem dX6_take_45 : decode cX6_take 45 = .ok (.iload 4, 2) := by decide +kernel
theorem dX6_take_47 : decode cX6_take 47 = .ok (.ifCond .lt 16, 3) := by decide +kernel
theorem dX6_take_50 : decode cX6_take 50 = .ok (.iload 4, 2) := by decide +kernel
theorem dX6_take_52 : decode cX6_take 52 = .ok (.iload_n 1, 1) := by decide +kernel
theorem dX6_take_53 : decode cX6_take 53 = .ok (.if_icmp .eq 10, 3) := by decide +kernel
theorem dX6_take_56 : decode cX6_take 56 = .ok (.aload_n 0, 1) := by decide +kernel
theorem dX6_take_57 : decode cX6_take 57 = .ok (.ldc 75, 2) := by decide +kernel
theorem dX6_take_59 : decode cX6_take 59 = .ok (.invokevirtual 57, 3) := by decide +kernel
theorem dX6_take_62 : decode cX6_take 62 = .ok (.ireturn, 1) := by decide +kernel
theorem dX6_take_63 : decode cX6_take 63 = .ok (.aload_n 3, 1) := by decide +kernel
theorem dX6_take_64 : decode cX6_take 64 = .ok (.iload_n 1, 1) := by decide +kernel
theorem dX6_take_65 : decode cX6_take 65 = .ok (.iload_n 2, 1) := by decide +kernel
theorem dX6_take_66 : decode cX6_take 66 = .ok (.invokevirtual 109, 3) := by decide +kernel
theorem dX6_take_69 : decode cX6_take 69 = .ok (.ireturn, 1) := by decide +kernel
set_option maxRecDepth 20000 in
theorem ggX6_on_X6_isCell : GoodIn wsX6_on wsX6_isCell := goodIn_r _ [7, 8, 9, 6, 10] (by decide +kernel) (by decide +kernel)
set_option maxRecDepth 20000 in
theorem gX6_on_X6_isCell : GoodIn wsX6_on (va_wsS RX6 49 yX6_isCell wsX6_isCell) := goodIn_app (goodIn_of _ (by decide +kernel)) ggX6_on_X6_isCell
set_option maxRecDepth 20000 in
theorem ggX6_on_X6_tell : GoodIn wsX6_on wsX6_tell := goodIn_r _ [14, 1, 15, 8, 9, 6, 10, 22, 23, 24, 25, 26, 27, 28, 29] (by decide +kernel) (by decide +kernel)
set_option maxRecDepth 20000 in
theorem gX6_on_X6_tell : GoodIn wsX6_on (wsV RX6 57 RX6 yX6_tell wsX6_tell) := goodIn_app (goodIn_of _ (by decide +kernel)) ggX6_on_X6_tell
set_option maxRecDepth 20000 in
theorem ggX6_on_X5_blockAt : GoodIn wsX6_on wsX5_blockAt := goodIn_r _ [20, 21, 5, 6, 7, 8, 9, 10, 39, 40, 41, 42, 43] (by decide +kernel) (by decide +kernel)
set_option maxRecDepth 20000 in
theorem gX6_on_X5_blockAt : GoodIn wsX6_on (wsV RX6 72 RX5 yX5_blockAt wsX5_blockAt) := goodIn_app (goodIn_of _ (by decide +kernel)) ggX6_on_X5_blockAt
theorem dX6_on_0 : decode cX6_on 0 = .ok (.iload_n 1, 1) := by decide +kernel
theorem dX6_on_1 : decode cX6_on 1 = .ok (.invokestatic 49, 3) := by decide +kernel
theorem dX6_on_4 : decode cX6_on 4 = .ok (.ifCond .ne 10, 3) := by decide +kernel
theorem dX6_on_7 : decode cX6_on 7 = .ok (.aload_n 0, 1) := by decide +kernel
theorem dX6_on_8 : decode cX6_on 8 = .ok (.ldc 56, 2) := by decide +kernel
theorem dX6_on_10 : decode cX6_on 10 = .ok (.invokevirtual 57, 3) := by decide +kernel
theorem dX6_on_13 : decode cX6_on 13 = .ok (.ireturn, 1) := by decide +kernel
theorem dX6_on_14 : decode cX6_on 14 = .ok (.aload_n 0, 1) := by decide +kernel
theorem dX6_on_15 : decode cX6_on 15 = .ok (.getfield 12, 3) := by decide +kernel
theorem dX6_on_18 : decode cX6_on 18 = .ok (.getfield 61, 3) := by decide +kernel
theorem dX6_on_21 : decode cX6_on 21 = .ok (.iload_n 1, 1) := by decide +kernel
theorem dX6_on_22 : decode cX6_on 22 = .ok (.invokevirtual 72, 3) := by decide +kernel
theorem dX6_on_25 : decode cX6_on 25 = .ok (.ireturn, 1) := by decide +kernel
set_option maxRecDepth 20000 in
theorem ggX6_water_X5_isBlock : GoodIn wsX6_water wsX5_isBlock := goodIn_r _ [11, 12, 72, 73, 74, 75, 76] (by decide +kernel) (by decide +kernel)
set_option maxRecDepth 20000 in
theorem gX6_water_X5_isBlock : GoodIn wsX6_water (wsV RX6 80 RX5 yX5_isBlock wsX5_isBlock) := goodIn_app (goodIn_of _ (by decide +kernel)) ggX6_water_X5_isBlock
set_option maxRecDepth 20000 in
theorem ggX6_water_X6_isWithin : GoodIn wsX6_water wsX6_isWithin := goodIn_r _ [16] (by decide +kernel) (by decide +kernel)
set_option maxRecDepth 20000 in
theorem gX6_water_X6_isWithin : GoodIn wsX6_water (va_wsS RX6 52 yX6_isWithin wsX6_isWithin) := goodIn_app (goodIn_of _ (by decide +kernel)) ggX6_water_X6_isWithin
set_option maxRecDepth 20000 in
theorem ggX6_water_X6_tell : GoodIn wsX6_water wsX6_tell := goodIn_r _ [20, 3, 21, 13, 14, 15, 16, 55, 56, 57, 58, 59, 60, 61, 62] (by decide +kernel) (by decide +kernel)
set_option maxRecDepth 20000 in
theorem gX6_water_X6_tell : GoodIn wsX6_water (wsV RX6 57 RX6 yX6_tell wsX6_tell) := goodIn_app (goodIn_of _ (by decide +kernel)) ggX6_water_X6_tell
set_option maxRecDepth 20000 in
theorem ggX6_water_X5_isGone : GoodIn wsX6_water wsX5_isGone := goodIn_r _ [25, 26, 72, 73, 74, 75, 76] (by decide +kernel) (by decide +kernel)
set_option maxRecDepth 20000 in
theorem gX6_water_X5_isGone : GoodIn wsX6_water (wsV RX6 92 RX5 yX5_isGone wsX5_isGone) := goodIn_app (goodIn_of _ (by decide +kernel)) ggX6_water_X5_isGone
set_option maxRecDepth 20000 in
theorem ggX6_water_X0_warmthAt : GoodIn wsX6_water wsX0_warmthAt := goodIn_r _ [31, 32, 33, 34, 35, 36, 37, 30, 38, 39, 40, 41, 42, 43, 44, 45, 46, 77, 78, 79, 80] (by decide +kernel) (by decide +kernel)
set_option maxRecDepth 20000 in
theorem gX6_water_X0_warmthAt : GoodIn wsX6_water (wsV RX6 117 RX0 yX0_warmthAt wsX0_warmthAt) := goodIn_app (goodIn_of _ (by decide +kernel)) ggX6_water_X0_warmthAt
set_option maxRecDepth 20000 in
theorem ggX6_water_X5_thicken : GoodIn wsX6_water wsX5_thicken := goodIn_r _ [50, 51, 52, 53, 45, 54, 72, 73, 74, 75, 76] (by decide +kernel) (by decide +kernel)
set_option maxRecDepth 20000 in
theorem gX6_water_X5_thicken : GoodIn wsX6_water (wsV RX6 122 RX5 yX5_thicken wsX5_thicken) := goodIn_app (goodIn_of _ (by decide +kernel)) ggX6_water_X5_thicken
theorem dX6_water_0 : decode cX6_water 0 = .ok (.aload_n 0, 1) := by decide +kernel
theorem dX6_water_1 : decode cX6_water 1 = .ok (.getfield 12, 3) := by decide +kernel
theorem dX6_water_4 : decode cX6_water 4 = .ok (.getfield 61, 3) := by decide +kernel
theorem dX6_water_7 : decode cX6_water 7 = .ok (.astore_n 3, 1) := by decide +kernel
theorem dX6_water_8 : decode cX6_water 8 = .ok (.aload_n 3, 1) := by decide +kernel
theorem dX6_water_9 : decode cX6_water 9 = .ok (.iload_n 1, 1) := by decide +kernel
theorem dX6_water_10 : decode cX6_water 10 = .ok (.invokevirtual 80, 3) := by decide +kernel
theorem dX6_water_13 : decode cX6_water 13 = .ok (.ifCond .eq 13, 3) := by decide +kernel
theorem dX6_water_16 : decode cX6_water 16 = .ok (.iload_n 2, 1) := by decide +kernel
theorem dX6_water_17 : decode cX6_water 17 = .ok (.iconst 1, 1) := by decide +kernel
theorem dX6_water_18 : decode cX6_water 18 = .ok (.bipush 99, 2) := by decide +kernel
theorem dX6_water_20 : decode cX6_water 20 = .ok (.invokestatic 52, 3) := by decide +kernel
theorem dX6_water_23 : decode cX6_water 23 = .ok (.ifCond .ne 10, 3) := by decide +kernel
theorem dX6_water_26 : decode cX6_water 26 = .ok (.aload_n 0, 1) := by decide +kernel
theorem dX6_water_27 : decode cX6_water 27 = .ok (.ldc 56, 2) := by decide +kernel
theorem dX6_water_29 : decode cX6_water 29 = .ok (.invokevirtual 57, 3) := by decide +kernel
theorem dX6_water_32 : decode cX6_water 32 = .ok (.ireturn, 1) := by decide +kernel
theorem dX6_water_33 : decode cX6_water 33 = .ok (.aload_n 3, 1) := by decide +kernel
theorem dX6_water_34 : decode cX6_water 34 = .ok (.iload_n 1, 1) := by decide +kernel
theorem dX6_water_35 : decode cX6_water 35 = .ok (.invokevirtual 92, 3) := by decide +kernel
theorem dX6_water_38 : decode cX6_water 38 = .ok (.ifCond .ne 22, 3) := by decide +kernel
theorem dX6_water_41 : decode cX6_water 41 = .ok (.aload_n 0, 1) := by decide +kernel
theorem dX6_water_42 : decode cX6_water 42 = .ok (.getfield 12, 3) := by decide +kernel
theorem dX6_water_45 : decode cX6_water 45 = .ok (.getfield 113, 3) := by decide +kernel
theorem dX6_water_48 : decode cX6_water 48 = .ok (.aload_n 3, 1) := by decide +kernel
theorem dX6_water_49 : decode cX6_water 49 = .ok (.getfield 86, 3) := by decide +kernel
theorem dX6_water_52 : decode cX6_water 52 = .ok (.iload_n 1, 1) := by decide +kernel
theorem dX6_water_53 : decode cX6_water 53 = .ok (.iaload, 1) := by decide +kernel
theorem dX6_water_54 : decode cX6_water 54 = .ok (.invokevirtual 117, 3) := by decide +kernel
theorem dX6_water_57 : decode cX6_water 57 = .ok (.ifCond .lt 10, 3) := by decide +kernel
theorem dX6_water_60 : decode cX6_water 60 = .ok (.aload_n 0, 1) := by decide +kernel
theorem dX6_water_61 : decode cX6_water 61 = .ok (.ldc 75, 2) := by decide +kernel
theorem dX6_water_63 : decode cX6_water 63 = .ok (.invokevirtual 57, 3) := by decide +kernel
theorem dX6_water_66 : decode cX6_water 66 = .ok (.ireturn, 1) := by decide +kernel
theorem dX6_water_67 : decode cX6_water 67 = .ok (.aload_n 3, 1) := by decide +kernel
theorem dX6_water_68 : decode cX6_water 68 = .ok (.iload_n 1, 1) := by decide +kernel
theorem dX6_water_69 : decode cX6_water 69 = .ok (.iload_n 2, 1) := by decide +kernel
theorem dX6_water_70 : decode cX6_water 70 = .ok (.invokevirtual 122, 3) := by decide +kernel
theorem dX6_water_73 : decode cX6_water 73 = .ok (.ireturn, 1) := by decide +kernel
set_option maxRecDepth 20000 in
theorem ggX6_candle_X6_isCandle : GoodIn wsX6_candle wsX6_isCandle := goodIn_r _ [9, 10, 11, 8, 12] (by decide +kernel) (by decide +kernel)
set_option maxRecDepth 20000 in
theorem gX6_candle_X6_isCandle : GoodIn wsX6_candle (va_wsS RX6 125 yX6_isCandle wsX6_isCandle) := goodIn_app (goodIn_of _ (by decide +kernel)) ggX6_candle_X6_isCandle
set_option maxRecDepth 20000 in
theorem ggX6_candle_X6_isWithin : GoodIn wsX6_candle wsX6_isWithin := goodIn_r _ [12] (by decide +kernel) (by decide +kernel)
set_option maxRecDepth 20000 in
theorem gX6_candle_X6_isWithin : GoodIn wsX6_candle (va_wsS RX6 52 yX6_isWithin wsX6_isWithin) := goodIn_app (goodIn_of _ (by decide +kernel)) ggX6_candle_X6_isWithin
set_option maxRecDepth 20000 in
theorem ggX6_candle_X6_isCell : GoodIn wsX6_candle wsX6_isCell := goodIn_r _ [15, 10, 11, 8, 12] (by decide +kernel) (by decide +kernel)
set_option maxRecDepth 20000 in
theorem gX6_candle_X6_isCell : GoodIn wsX6_candle (va_wsS RX6 49 yX6_isCell wsX6_isCell) := goodIn_app (goodIn_of _ (by decide +kernel)) ggX6_candle_X6_isCell
set_option maxRecDepth 20000 in
theorem ggX6_candle_X6_tell : GoodIn wsX6_candle wsX6_tell := goodIn_r _ [19, 1, 20, 10, 11, 8, 12, 21, 22, 23, 24, 25, 26, 27, 28] (by decide +kernel) (by decide +kernel)
set_option maxRecDepth 20000 in
theorem gX6_candle_X6_tell : GoodIn wsX6_candle (wsV RX6 57 RX6 yX6_tell wsX6_tell) := goodIn_app (goodIn_of _ (by decide +kernel)) ggX6_candle_X6_tell
theorem dX6_candle_0 : decode cX6_candle 0 = .ok (.iload_n 1, 1) := by decide +kernel
theorem dX6_candle_1 : decode cX6_candle 1 = .ok (.invokestatic 125, 3) := by decide +kernel
theorem dX6_candle_4 : decode cX6_candle 4 = .ok (.ifCond .eq 36, 3) := by decide +kernel
theorem dX6_candle_7 : decode cX6_candle 7 = .ok (.iload_n 2, 1) := by decide +kernel
theorem dX6_candle_8 : decode cX6_candle 8 = .ok (.iconst 0, 1) := by decide +kernel
theorem dX6_candle_9 : decode cX6_candle 9 = .ok (.iconst 1, 1) := by decide +kernel
theorem dX6_candle_10 : decode cX6_candle 10 = .ok (.invokestatic 52, 3) := by decide +kernel
theorem dX6_candle_13 : decode cX6_candle 13 = .ok (.ifCond .eq 27, 3) := by decide +kernel
theorem dX6_candle_16 : decode cX6_candle 16 = .ok (.iload_n 2, 1) := by decide +kernel
theorem dX6_candle_17 : decode cX6_candle 17 = .ok (.ifCond .ne 13, 3) := by decide +kernel
theorem dX6_candle_20 : decode cX6_candle 20 = .ok (.iload_n 3, 1) := by decide +kernel
theorem dX6_candle_21 : decode cX6_candle 21 = .ok (.invokestatic 49, 3) := by decide +kernel
theorem dX6_candle_24 : decode cX6_candle 24 = .ok (.ifCond .eq 16, 3) := by decide +kernel
theorem dX6_candle_27 : decode cX6_candle 27 = .ok (.goto 20, 3) := by decide +kernel
theorem dX6_candle_30 : decode cX6_candle 30 = .ok (.iload_n 3, 1) := by decide +kernel
theorem dX6_candle_31 : decode cX6_candle 31 = .ok (.iconst 0, 1) := by decide +kernel
theorem dX6_candle_32 : decode cX6_candle 32 = .ok (.bipush 30, 2) := by decide +kernel
theorem dX6_candle_34 : decode cX6_candle 34 = .ok (.invokestatic 52, 3) := by decide +kernel
theorem dX6_candle_37 : decode cX6_candle 37 = .ok (.ifCond .ne 10, 3) := by decide +kernel
theorem dX6_candle_40 : decode cX6_candle 40 = .ok (.aload_n 0, 1) := by decide +kernel
theorem dX6_candle_41 : decode cX6_candle 41 = .ok (.ldc 56, 2) := by decide +kernel
theorem dX6_candle_43 : decode cX6_candle 43 = .ok (.invokevirtual 57, 3) := by decide +kernel
theorem dX6_candle_46 : decode cX6_candle 46 = .ok (.ireturn, 1) := by decide +kernel
theorem dX6_candle_47 : decode cX6_candle 47 = .ok (.iload_n 2, 1) := by decide +kernel
theorem dX6_candle_48 : decode cX6_candle 48 = .ok (.ifCond .ne 16, 3) := by decide +kernel
theorem dX6_candle_51 : decode cX6_candle 51 = .ok (.aload_n 0, 1) := by decide +kernel
theorem dX6_candle_52 : decode cX6_candle 52 = .ok (.getfield 12, 3) := by decide +kernel
theorem dX6_candle_55 : decode cX6_candle 55 = .ok (.getfield 113, 3) := by decide +kernel
theorem dX6_candle_58 : decode cX6_candle 58 = .ok (.getfield 128, 3) := by decide +kernel
theorem dX6_candle_61 : decode cX6_candle 61 = .ok (.goto 13, 3) := by decide +kernel
theorem dX6_candle_64 : decode cX6_candle 64 = .ok (.aload_n 0, 1) := by decide +kernel
theorem dX6_candle_65 : decode cX6_candle 65 = .ok (.getfield 12, 3) := by decide +kernel
theorem dX6_candle_68 : decode cX6_candle 68 = .ok (.getfield 113, 3) := by decide +kernel
theorem dX6_candle_71 : decode cX6_candle 71 = .ok (.getfield 129, 3) := by decide +kernel
theorem dX6_candle_74 : decode cX6_candle 74 = .ok (.astore 4, 2) := by decide +kernel
theorem dX6_candle_76 : decode cX6_candle 76 = .ok (.aload 4, 2) := by decide +kernel
theorem dX6_candle_78 : decode cX6_candle 78 = .ok (.iload_n 1, 1) := by decide +kernel
theorem dX6_candle_79 : decode cX6_candle 79 = .ok (.iaload, 1) := by decide +kernel
theorem dX6_candle_80 : decode cX6_candle 80 = .ok (.istore 5, 2) := by decide +kernel
theorem dX6_candle_82 : decode cX6_candle 82 = .ok (.aload 4, 2) := by decide +kernel
theorem dX6_candle_84 : decode cX6_candle 84 = .ok (.iload_n 1, 1) := by decide +kernel
theorem dX6_candle_85 : decode cX6_candle 85 = .ok (.iload_n 3, 1) := by decide +kernel
theorem dX6_candle_86 : decode cX6_candle 86 = .ok (.iastore, 1) := by decide +kernel
theorem dX6_candle_87 : decode cX6_candle 87 = .ok (.iload 5, 2) := by decide +kernel
theorem dX6_candle_89 : decode cX6_candle 89 = .ok (.ireturn, 1) := by decide +kernel
set_option maxRecDepth 20000 in
theorem ggX6_lit_X6_isCandle : GoodIn wsX6_lit wsX6_isCandle := goodIn_r _ [7, 8, 9, 6, 10] (by decide +kernel) (by decide +kernel)
set_option maxRecDepth 20000 in
theorem gX6_lit_X6_isCandle : GoodIn wsX6_lit (va_wsS RX6 125 yX6_isCandle wsX6_isCandle) := goodIn_app (goodIn_of _ (by decide +kernel)) ggX6_lit_X6_isCandle
set_option maxRecDepth 20000 in
theorem ggX6_lit_X6_tell : GoodIn wsX6_lit wsX6_tell := goodIn_r _ [14, 1, 15, 8, 9, 6, 10, 26, 27, 28, 29, 30, 31, 32, 33] (by decide +kernel) (by decide +kernel)
set_option maxRecDepth 20000 in
theorem gX6_lit_X6_tell : GoodIn wsX6_lit (wsV RX6 57 RX6 yX6_tell wsX6_tell) := goodIn_app (goodIn_of _ (by decide +kernel)) ggX6_lit_X6_tell
set_option maxRecDepth 20000 in
theorem ggX6_lit_X0_isLit : GoodIn wsX6_lit wsX0_isLit := goodIn_r _ [20, 21, 43, 44, 45, 46] (by decide +kernel) (by decide +kernel)
set_option maxRecDepth 20000 in
theorem gX6_lit_X0_isLit : GoodIn wsX6_lit (wsV RX6 132 RX0 yX0_isLit wsX0_isLit) := goodIn_app (goodIn_of _ (by decide +kernel)) ggX6_lit_X0_isLit
set_option maxRecDepth 20000 in
theorem ggX6_lit_X0_setLit : GoodIn wsX6_lit wsX0_setLit := goodIn_r _ [25, 21, 43, 44, 45, 46] (by decide +kernel) (by decide +kernel)
set_option maxRecDepth 20000 in
theorem gX6_lit_X0_setLit : GoodIn wsX6_lit (wsV RX6 135 RX0 yX0_setLit wsX0_setLit) := goodIn_app (goodIn_of _ (by decide +kernel)) ggX6_lit_X0_setLit
theorem dX6_lit_0 : decode cX6_lit 0 = .ok (.iload_n 1, 1) := by decide +kernel
theorem dX6_lit_1 : decode cX6_lit 1 = .ok (.invokestatic 125, 3) := by decide +kernel
theorem dX6_lit_4 : decode cX6_lit 4 = .ok (.ifCond .ne 10, 3) := by decide +kernel
theorem dX6_lit_7 : decode cX6_lit 7 = .ok (.aload_n 0, 1) := by decide +kernel
theorem dX6_lit_8 : decode cX6_lit 8 = .ok (.ldc 56, 2) := by decide +kernel
theorem dX6_lit_10 : decode cX6_lit 10 = .ok (.invokevirtual 57, 3) := by decide +kernel
theorem dX6_lit_13 : decode cX6_lit 13 = .ok (.ireturn, 1) := by decide +kernel
theorem dX6_lit_14 : decode cX6_lit 14 = .ok (.aload_n 0, 1) := by decide +kernel
theorem dX6_lit_15 : decode cX6_lit 15 = .ok (.getfield 12, 3) := by decide +kernel
theorem dX6_lit_18 : decode cX6_lit 18 = .ok (.getfield 113, 3) := by decide +kernel
theorem dX6_lit_21 : decode cX6_lit 21 = .ok (.iload_n 1, 1) := by decide +kernel
theorem dX6_lit_22 : decode cX6_lit 22 = .ok (.invokevirtual 132, 3) := by decide +kernel
theorem dX6_lit_25 : decode cX6_lit 25 = .ok (.istore_n 3, 1) := by decide +kernel
theorem dX6_lit_26 : decode cX6_lit 26 = .ok (.aload_n 0, 1) := by decide +kernel
theorem dX6_lit_27 : decode cX6_lit 27 = .ok (.getfield 12, 3) := by decide +kernel
theorem dX6_lit_30 : decode cX6_lit 30 = .ok (.getfield 113, 3) := by decide +kernel
theorem dX6_lit_33 : decode cX6_lit 33 = .ok (.iload_n 1, 1) := by decide +kernel
theorem dX6_lit_34 : decode cX6_lit 34 = .ok (.iload_n 2, 1) := by decide +kernel
theorem dX6_lit_35 : decode cX6_lit 35 = .ok (.invokevirtual 135, 3) := by decide +kernel
theorem dX6_lit_38 : decode cX6_lit 38 = .ok (.iload_n 3, 1) := by decide +kernel
theorem dX6_lit_39 : decode cX6_lit 39 = .ok (.ifCond .eq 7, 3) := by decide +kernel
theorem dX6_lit_42 : decode cX6_lit 42 = .ok (.iconst 1, 1) := by decide +kernel
theorem dX6_lit_43 : decode cX6_lit 43 = .ok (.goto 4, 3) := by decide +kernel
theorem dX6_lit_46 : decode cX6_lit 46 = .ok (.iconst 0, 1) := by decide +kernel
theorem dX6_lit_47 : decode cX6_lit 47 = .ok (.ireturn, 1) := by decide +kernel
set_option maxRecDepth 20000 in
theorem ggX6_cold_X6_isWithin : GoodIn wsX6_cold wsX6_isWithin := goodIn_r _ [8] (by decide +kernel) (by decide +kernel)
set_option maxRecDepth 20000 in
theorem gX6_cold_X6_isWithin : GoodIn wsX6_cold (va_wsS RX6 52 yX6_isWithin wsX6_isWithin) := goodIn_app (goodIn_of _ (by decide +kernel)) ggX6_cold_X6_isWithin
set_option maxRecDepth 20000 in
theorem ggX6_cold_X6_tell : GoodIn wsX6_cold wsX6_tell := goodIn_r _ [12, 1, 13, 5, 6, 7, 8, 14, 15, 16, 17, 18, 19, 20, 21] (by decide +kernel) (by decide +kernel)
set_option maxRecDepth 20000 in
theorem gX6_cold_X6_tell : GoodIn wsX6_cold (wsV RX6 57 RX6 yX6_tell wsX6_tell) := goodIn_app (goodIn_of _ (by decide +kernel)) ggX6_cold_X6_tell
theorem dX6_cold_0 : decode cX6_cold 0 = .ok (.iload_n 1, 1) := by decide +kernel
theorem dX6_cold_1 : decode cX6_cold 1 = .ok (.bipush (-20), 2) := by decide +kernel
theorem dX6_cold_3 : decode cX6_cold 3 = .ok (.bipush 20, 2) := by decide +kernel
theorem dX6_cold_5 : decode cX6_cold 5 = .ok (.invokestatic 52, 3) := by decide +kernel
theorem dX6_cold_8 : decode cX6_cold 8 = .ok (.ifCond .ne 10, 3) := by decide +kernel
theorem dX6_cold_11 : decode cX6_cold 11 = .ok (.aload_n 0, 1) := by decide +kernel
theorem dX6_cold_12 : decode cX6_cold 12 = .ok (.ldc 56, 2) := by decide +kernel
theorem dX6_cold_14 : decode cX6_cold 14 = .ok (.invokevirtual 57, 3) := by decide +kernel
theorem dX6_cold_17 : decode cX6_cold 17 = .ok (.ireturn, 1) := by decide +kernel
theorem dX6_cold_18 : decode cX6_cold 18 = .ok (.aload_n 0, 1) := by decide +kernel
theorem dX6_cold_19 : decode cX6_cold 19 = .ok (.getfield 12, 3) := by decide +kernel
theorem dX6_cold_22 : decode cX6_cold 22 = .ok (.getfield 113, 3) := by decide +kernel
theorem dX6_cold_25 : decode cX6_cold 25 = .ok (.getfield 139, 3) := by decide +kernel
theorem dX6_cold_28 : decode cX6_cold 28 = .ok (.istore_n 2, 1) := by decide +kernel
theorem dX6_cold_29 : decode cX6_cold 29 = .ok (.aload_n 0, 1) := by decide +kernel
theorem dX6_cold_30 : decode cX6_cold 30 = .ok (.getfield 12, 3) := by decide +kernel
theorem dX6_cold_33 : decode cX6_cold 33 = .ok (.getfield 113, 3) := by decide +kernel
theorem dX6_cold_36 : decode cX6_cold 36 = .ok (.iload_n 1, 1) := by decide +kernel
theorem dX6_cold_37 : decode cX6_cold 37 = .ok (.putfield 139, 3) := by decide +kernel
theorem dX6_cold_40 : decode cX6_cold 40 = .ok (.iload_n 2, 1) := by decide +kernel
theorem dX6_cold_41 : decode cX6_cold 41 = .ok (.ireturn, 1) := by decide +kernel
set_option maxRecDepth 20000 in
theorem ggX6_warmth_X6_isCell : GoodIn wsX6_warmth wsX6_isCell := goodIn_r _ [7, 8, 9, 6, 10] (by decide +kernel) (by decide +kernel)
set_option maxRecDepth 20000 in
theorem gX6_warmth_X6_isCell : GoodIn wsX6_warmth (va_wsS RX6 49 yX6_isCell wsX6_isCell) := goodIn_app (goodIn_of _ (by decide +kernel)) ggX6_warmth_X6_isCell
set_option maxRecDepth 20000 in
theorem ggX6_warmth_X6_tell : GoodIn wsX6_warmth wsX6_tell := goodIn_r _ [14, 1, 15, 8, 9, 6, 10, 36, 37, 38, 39, 40, 41, 42, 43] (by decide +kernel) (by decide +kernel)
set_option maxRecDepth 20000 in
theorem gX6_warmth_X6_tell : GoodIn wsX6_warmth (wsV RX6 57 RX6 yX6_tell wsX6_tell) := goodIn_app (goodIn_of _ (by decide +kernel)) ggX6_warmth_X6_tell
set_option maxRecDepth 20000 in
theorem ggX6_warmth_X0_warmthAt : GoodIn wsX6_warmth wsX0_warmthAt := goodIn_r _ [20, 21, 22, 23, 24, 25, 26, 19, 27, 28, 29, 30, 31, 32, 33, 34, 35, 53, 54, 55, 56] (by decide +kernel) (by decide +kernel)
set_option maxRecDepth 20000 in
theorem gX6_warmth_X0_warmthAt : GoodIn wsX6_warmth (wsV RX6 117 RX0 yX0_warmthAt wsX0_warmthAt) := goodIn_app (goodIn_of _ (by decide +kernel)) ggX6_warmth_X0_warmthAt
theorem dX6_warmth_0 : decode cX6_warmth 0 = .ok (.iload_n 1, 1) := by decide +kernel
theorem dX6_warmth_1 : decode cX6_warmth 1 = .ok (.invokestatic 49, 3) := by decide +kernel
theorem dX6_warmth_4 : decode cX6_warmth 4 = .ok (.ifCond .ne 10, 3) := by decide +kernel
theorem dX6_warmth_7 : decode cX6_warmth 7 = .ok (.aload_n 0, 1) := by decide +kernel
theorem dX6_warmth_8 : decode cX6_warmth 8 = .ok (.ldc 56, 2) := by decide +kernel
theorem dX6_warmth_10 : decode cX6_warmth 10 = .ok (.invokevirtual 57, 3) := by decide +kernel
theorem dX6_warmth_13 : decode cX6_warmth 13 = .ok (.ireturn, 1) := by decide +kernel
theorem dX6_warmth_14 : decode cX6_warmth 14 = .ok (.aload_n 0, 1) := by decide +kernel
theorem dX6_warmth_15 : decode cX6_warmth 15 = .ok (.getfield 12, 3) := by decide +kernel
theorem dX6_warmth_18 : decode cX6_warmth 18 = .ok (.getfield 113, 3) := by decide +kernel
theorem dX6_warmth_21 : decode cX6_warmth 21 = .ok (.iload_n 1, 1) := by decide +kernel
theorem dX6_warmth_22 : decode cX6_warmth 22 = .ok (.invokevirtual 117, 3) := by decide +kernel
theorem dX6_warmth_25 : decode cX6_warmth 25 = .ok (.ireturn, 1) := by decide +kernel
set_option maxRecDepth 20000 in
theorem ggX6_light_X0_lightOf : GoodIn wsX6_light wsX0_lightOf := goodIn_r _ [8, 9, 27, 28, 29, 30] (by decide +kernel) (by decide +kernel)
set_option maxRecDepth 20000 in
theorem gX6_light_X0_lightOf : GoodIn wsX6_light (wsV RX6 146 RX0 yX0_lightOf wsX0_lightOf) := goodIn_app (goodIn_of _ (by decide +kernel)) ggX6_light_X0_lightOf
theorem dX6_light_0 : decode cX6_light 0 = .ok (.aload_n 0, 1) := by decide +kernel
theorem dX6_light_1 : decode cX6_light 1 = .ok (.getfield 12, 3) := by decide +kernel
theorem dX6_light_4 : decode cX6_light 4 = .ok (.getfield 113, 3) := by decide +kernel
theorem dX6_light_7 : decode cX6_light 7 = .ok (.aload_n 0, 1) := by decide +kernel
theorem dX6_light_8 : decode cX6_light 8 = .ok (.getfield 12, 3) := by decide +kernel
theorem dX6_light_11 : decode cX6_light 11 = .ok (.getfield 113, 3) := by decide +kernel
theorem dX6_light_14 : decode cX6_light 14 = .ok (.getfield 143, 3) := by decide +kernel
theorem dX6_light_17 : decode cX6_light 17 = .ok (.invokevirtual 146, 3) := by decide +kernel
theorem dX6_light_20 : decode cX6_light 20 = .ok (.ireturn, 1) := by decide +kernel
set_option maxRecDepth 20000 in
theorem ggX6_hours_X6_isWithin : GoodIn wsX6_hours wsX6_isWithin := goodIn_r _ [7] (by decide +kernel) (by decide +kernel)
set_option maxRecDepth 20000 in
theorem gX6_hours_X6_isWithin : GoodIn wsX6_hours (va_wsS RX6 52 yX6_isWithin wsX6_isWithin) := goodIn_app (goodIn_of _ (by decide +kernel)) ggX6_hours_X6_isWithin
set_option maxRecDepth 20000 in
theorem ggX6_hours_X6_tell : GoodIn wsX6_hours wsX6_tell := goodIn_r _ [11, 1, 12, 4, 5, 6, 7, 135, 136, 137, 138, 139, 140, 141, 142] (by decide +kernel) (by decide +kernel)
set_option maxRecDepth 20000 in
theorem gX6_hours_X6_tell : GoodIn wsX6_hours (wsV RX6 57 RX6 yX6_tell wsX6_tell) := goodIn_app (goodIn_of _ (by decide +kernel)) ggX6_hours_X6_tell
set_option maxRecDepth 20000 in
theorem ggX6_hours_X6_hasHours : GoodIn wsX6_hours wsX6_hasHours := goodIn_r _ [16, 3, 17, 135, 136, 137, 138, 139, 140, 141, 142, 143, 144, 145, 146, 147, 148, 149, 150, 151] (by decide +kernel) (by decide +kernel)
set_option maxRecDepth 20000 in
theorem gX6_hours_X6_hasHours : GoodIn wsX6_hours (wsV RX6 149 RX6 yX6_hasHours wsX6_hasHours) := goodIn_app (goodIn_of _ (by decide +kernel)) ggX6_hours_X6_hasHours
set_option maxRecDepth 20000 in
theorem ggX6_hours_X1_passHours : GoodIn wsX6_hours wsX1_passHours := goodIn_r _ [22, 23, 24, 25, 21, 26, 27, 28, 29, 30, 31, 32, 33, 34, 35, 36, 37, 38, 39, 40, 41, 42, 43, 44, 45, 46, 47, 48, 49, 50, 51, 52, 53, 54, 55, 56, 57, 58, 59, 60, 61, 62, 63, 64, 65, 66, 67, 68, 69, 70, 71, 72, 73, 74, 75, 76, 77, 78, 79, 80, 81, 82, 83, 84, 85, 86, 87, 88, 89, 90, 91, 92, 93, 94, 95, 96, 97, 6, 98, 4, 5, 7, 99, 100, 101, 102, 103, 104, 105, 106, 107, 108, 109, 110, 111, 112, 113, 114, 115, 116, 117, 118, 119, 120, 121, 122, 123, 124, 125, 126, 127, 128, 129, 130, 131, 132, 133, 134, 143, 144, 145, 146, 147, 148, 149, 150, 151, 152, 153, 154, 155, 156, 157, 158, 159, 160] (by decide +kernel) (by decide +kernel)
set_option maxRecDepth 20000 in
theorem gX6_hours_X1_passHours : GoodIn wsX6_hours (wsV RX6 152 RX1 yX1_passHours wsX1_passHours) := goodIn_app (goodIn_of _ (by decide +kernel)) ggX6_hours_X1_passHours
theorem dX6_hours_0 : decode cX6_hours 0 = .ok (.iload_n 1, 1) := by decide +kernel
theorem dX6_hours_1 : decode cX6_hours 1 = .ok (.iconst 1, 1) := by decide +kernel
theorem dX6_hours_2 : decode cX6_hours 2 = .ok (.bipush 48, 2) := by decide +kernel
theorem dX6_hours_4 : decode cX6_hours 4 = .ok (.invokestatic 52, 3) := by decide +kernel
theorem dX6_hours_7 : decode cX6_hours 7 = .ok (.ifCond .ne 10, 3) := by decide +kernel
theorem dX6_hours_10 : decode cX6_hours 10 = .ok (.aload_n 0, 1) := by decide +kernel
theorem dX6_hours_11 : decode cX6_hours 11 = .ok (.ldc 56, 2) := by decide +kernel
theorem dX6_hours_13 : decode cX6_hours 13 = .ok (.invokevirtual 57, 3) := by decide +kernel
theorem dX6_hours_16 : decode cX6_hours 16 = .ok (.ireturn, 1) := by decide +kernel
theorem dX6_hours_17 : decode cX6_hours 17 = .ok (.aload_n 0, 1) := by decide +kernel
theorem dX6_hours_18 : decode cX6_hours 18 = .ok (.iload_n 1, 1) := by decide +kernel
theorem dX6_hours_19 : decode cX6_hours 19 = .ok (.invokevirtual 149, 3) := by decide +kernel
theorem dX6_hours_22 : decode cX6_hours 22 = .ok (.ifCond .ne 10, 3) := by decide +kernel
theorem dX6_hours_25 : decode cX6_hours 25 = .ok (.aload_n 0, 1) := by decide +kernel
theorem dX6_hours_26 : decode cX6_hours 26 = .ok (.ldc 75, 2) := by decide +kernel
theorem dX6_hours_28 : decode cX6_hours 28 = .ok (.invokevirtual 57, 3) := by decide +kernel
theorem dX6_hours_31 : decode cX6_hours 31 = .ok (.ireturn, 1) := by decide +kernel
theorem dX6_hours_32 : decode cX6_hours 32 = .ok (.aload_n 0, 1) := by decide +kernel
theorem dX6_hours_33 : decode cX6_hours 33 = .ok (.getfield 12, 3) := by decide +kernel
theorem dX6_hours_36 : decode cX6_hours 36 = .ok (.iload_n 1, 1) := by decide +kernel
theorem dX6_hours_37 : decode cX6_hours 37 = .ok (.invokevirtual 152, 3) := by decide +kernel
theorem dX6_hours_40 : decode cX6_hours 40 = .ok (.ireturn, 1) := by decide +kernel
set_option maxRecDepth 20000 in
theorem ggX6_fall_X1_collapse : GoodIn wsX6_fall wsX1_collapse := goodIn_r _ [6, 7, 8, 9, 10, 11, 12, 13, 14, 15, 16, 17, 18, 19, 20, 21, 22, 23, 24, 25, 26, 27, 28, 29, 30, 31, 32, 33, 34, 35, 36, 37, 38, 39, 40, 41, 42, 43, 44, 45, 46, 47, 48, 49, 50, 51, 52, 53, 54, 55, 56, 57, 66, 67, 68, 69, 70, 71, 72, 73, 74, 75, 76, 77, 78, 79] (by decide +kernel) (by decide +kernel)
set_option maxRecDepth 20000 in
theorem gX6_fall_X1_collapse : GoodIn wsX6_fall (wsV RX6 155 RX1 yX1_collapse wsX1_collapse) := goodIn_app (goodIn_of _ (by decide +kernel)) ggX6_fall_X1_collapse
theorem dX6_fall_0 : decode cX6_fall 0 = .ok (.aload_n 0, 1) := by decide +kernel
theorem dX6_fall_1 : decode cX6_fall 1 = .ok (.getfield 12, 3) := by decide +kernel
theorem dX6_fall_4 : decode cX6_fall 4 = .ok (.invokevirtual 155, 3) := by decide +kernel
theorem dX6_fall_7 : decode cX6_fall 7 = .ok (.ireturn, 1) := by decide +kernel
set_option maxRecDepth 20000 in
theorem ggX6_loose_X5_looseSet : GoodIn wsX6_loose wsX5_looseSet := goodIn_r _ [7, 8, 9, 10, 11, 6, 12, 13, 14, 15, 16, 17, 18, 19, 20, 21, 22, 23, 24, 25, 26, 44, 45, 46, 47, 48] (by decide +kernel) (by decide +kernel)
set_option maxRecDepth 20000 in
theorem gX6_loose_X5_looseSet : GoodIn wsX6_loose (wsV RX6 159 RX5 yX5_looseSet wsX5_looseSet) := goodIn_app (goodIn_of _ (by decide +kernel)) ggX6_loose_X5_looseSet
theorem dX6_loose_0 : decode cX6_loose 0 = .ok (.aload_n 0, 1) := by decide +kernel
theorem dX6_loose_1 : decode cX6_loose 1 = .ok (.getfield 12, 3) := by decide +kernel
theorem dX6_loose_4 : decode cX6_loose 4 = .ok (.getfield 61, 3) := by decide +kernel
theorem dX6_loose_7 : decode cX6_loose 7 = .ok (.invokevirtual 159, 3) := by decide +kernel
theorem dX6_loose_10 : decode cX6_loose 10 = .ok (.ireturn, 1) := by decide +kernel
set_option maxRecDepth 20000 in
theorem ggX6_weak_X5_weakSet : GoodIn wsX6_weak wsX5_weakSet := goodIn_r _ [7, 8, 9, 10, 11, 6, 12, 13, 14, 15, 16, 17, 18, 19, 20, 21, 22, 23, 24, 42, 43, 44, 45, 46] (by decide +kernel) (by decide +kernel)
set_option maxRecDepth 20000 in
theorem gX6_weak_X5_weakSet : GoodIn wsX6_weak (wsV RX6 162 RX5 yX5_weakSet wsX5_weakSet) := goodIn_app (goodIn_of _ (by decide +kernel)) ggX6_weak_X5_weakSet
theorem dX6_weak_0 : decode cX6_weak 0 = .ok (.aload_n 0, 1) := by decide +kernel
theorem dX6_weak_1 : decode cX6_weak 1 = .ok (.getfield 12, 3) := by decide +kernel
theorem dX6_weak_4 : decode cX6_weak 4 = .ok (.getfield 61, 3) := by decide +kernel
theorem dX6_weak_7 : decode cX6_weak 7 = .ok (.invokevirtual 162, 3) := by decide +kernel
theorem dX6_weak_10 : decode cX6_weak 10 = .ok (.ireturn, 1) := by decide +kernel
set_option maxRecDepth 20000 in
theorem ggX6_ahead_X6_isWithin : GoodIn wsX6_ahead wsX6_isWithin := goodIn_r _ [9] (by decide +kernel) (by decide +kernel)
set_option maxRecDepth 20000 in
theorem gX6_ahead_X6_isWithin : GoodIn wsX6_ahead (va_wsS RX6 52 yX6_isWithin wsX6_isWithin) := goodIn_app (goodIn_of _ (by decide +kernel)) ggX6_ahead_X6_isWithin
set_option maxRecDepth 20000 in
theorem ggX6_ahead_X6_tell : GoodIn wsX6_ahead wsX6_tell := goodIn_r _ [13, 1, 14, 6, 7, 8, 9, 180, 181, 182, 183, 184, 185, 186, 187] (by decide +kernel) (by decide +kernel)
set_option maxRecDepth 20000 in
theorem gX6_ahead_X6_tell : GoodIn wsX6_ahead (wsV RX6 57 RX6 yX6_tell wsX6_tell) := goodIn_app (goodIn_of _ (by decide +kernel)) ggX6_ahead_X6_tell
set_option maxRecDepth 20000 in
theorem ggX6_ahead_X6_hasHours : GoodIn wsX6_ahead wsX6_hasHours := goodIn_r _ [18, 19, 20, 180, 181, 182, 183, 184, 185, 186, 187, 171, 172, 173, 174, 175, 176, 177, 178, 179] (by decide +kernel) (by decide +kernel)
set_option maxRecDepth 20000 in
theorem gX6_ahead_X6_hasHours : GoodIn wsX6_ahead (wsV RX6 149 RX6 yX6_hasHours wsX6_hasHours) := goodIn_app (goodIn_of _ (by decide +kernel)) ggX6_ahead_X6_hasHours
set_option maxRecDepth 20000 in
theorem ggX6_ahead_X6_freshTrial : GoodIn wsX6_ahead wsX6_freshTrial := goodIn_r _ [24, 25, 19, 26, 27, 28, 29, 30, 31, 32, 33, 34, 35, 36, 37, 38, 39, 40, 41, 42, 43, 44, 45, 46, 47, 48, 49, 50, 51, 52, 53, 54, 55, 56, 57, 58, 59, 60, 61, 62, 180, 181, 182, 183, 184, 185, 186, 187, 171, 172, 173, 174, 175, 176, 177, 178, 179, 188, 189, 190, 191, 192, 193, 194, 195, 196] (by decide +kernel) (by decide +kernel)
set_option maxRecDepth 20000 in
theorem gX6_ahead_X6_freshTrial : GoodIn wsX6_ahead (wsV RX6 165 RX6 yX6_freshTrial wsX6_freshTrial) := goodIn_app (goodIn_of _ (by decide +kernel)) ggX6_ahead_X6_freshTrial
set_option maxRecDepth 20000 in
theorem ggX6_ahead_X1_passHours : GoodIn wsX6_ahead wsX1_passHours := goodIn_r _ [66, 67, 68, 69, 29, 70, 31, 71, 72, 32, 73, 74, 75, 76, 45, 77, 50, 78, 79, 80, 56, 81, 62, 60, 58, 82, 83, 84, 85, 61, 86, 87, 88, 89, 90, 91, 92, 93, 94, 95, 96, 97, 38, 98, 99, 100, 101, 102, 103, 104, 105, 106, 107, 108, 109, 39, 110, 111, 112, 113, 51, 114, 115, 116, 117, 118, 119, 120, 121, 122, 123, 124, 125, 126, 127, 52, 128, 8, 129, 6, 7, 9, 130, 131, 132, 133, 40, 134, 135, 136, 137, 47, 138, 139, 140, 141, 142, 143, 144, 145, 48, 146, 147, 148, 149, 150, 151, 152, 153, 154, 155, 156, 157, 158, 159, 160, 161, 162, 171, 172, 173, 174, 175, 176, 177, 178, 179, 188, 189, 190, 191, 192, 193, 194, 195, 196] (by decide +kernel) (by decide +kernel)
set_option maxRecDepth 20000 in
theorem gX6_ahead_X1_passHours : GoodIn wsX6_ahead (wsV RX6 152 RX1 yX1_passHours wsX1_passHours) := goodIn_app (goodIn_of _ (by decide +kernel)) ggX6_ahead_X1_passHours
set_option maxRecDepth 20000 in
theorem ggX6_ahead_X5_allGrains : GoodIn wsX6_ahead wsX5_allGrains := goodIn_r _ [166, 47, 51, 188, 189, 190, 191, 192] (by decide +kernel) (by decide +kernel)
set_option maxRecDepth 20000 in
theorem gX6_ahead_X5_allGrains : GoodIn wsX6_ahead (wsV RX6 169 RX5 yX5_allGrains wsX5_allGrains) := goodIn_app (goodIn_of _ (by decide +kernel)) ggX6_ahead_X5_allGrains
set_option maxRecDepth 20000 in
theorem ggX6_ahead_X5_goneSet : GoodIn wsX6_ahead wsX5_goneSet := goodIn_r _ [170, 47, 150, 75, 76, 45, 77, 50, 188, 189, 190, 191, 192] (by decide +kernel) (by decide +kernel)
set_option maxRecDepth 20000 in
theorem gX6_ahead_X5_goneSet : GoodIn wsX6_ahead (wsV RX6 178 RX5 yX5_goneSet wsX5_goneSet) := goodIn_app (goodIn_of _ (by decide +kernel)) ggX6_ahead_X5_goneSet
theorem dX6_ahead_0 : decode cX6_ahead 0 = .ok (.iload_n 1, 1) := by decide +kernel
theorem dX6_ahead_1 : decode cX6_ahead 1 = .ok (.iconst 0, 1) := by decide +kernel
theorem dX6_ahead_2 : decode cX6_ahead 2 = .ok (.bipush 96, 2) := by decide +kernel
theorem dX6_ahead_4 : decode cX6_ahead 4 = .ok (.invokestatic 52, 3) := by decide +kernel
theorem dX6_ahead_7 : decode cX6_ahead 7 = .ok (.ifCond .eq 12, 3) := by decide +kernel
theorem dX6_ahead_10 : decode cX6_ahead 10 = .ok (.iload_n 2, 1) := by decide +kernel
theorem dX6_ahead_11 : decode cX6_ahead 11 = .ok (.iconst 0, 1) := by decide +kernel
theorem dX6_ahead_12 : decode cX6_ahead 12 = .ok (.iconst 4, 1) := by decide +kernel
theorem dX6_ahead_13 : decode cX6_ahead 13 = .ok (.invokestatic 52, 3) := by decide +kernel
theorem dX6_ahead_16 : decode cX6_ahead 16 = .ok (.ifCond .ne 10, 3) := by decide +kernel
theorem dX6_ahead_19 : decode cX6_ahead 19 = .ok (.aload_n 0, 1) := by decide +kernel
theorem dX6_ahead_20 : decode cX6_ahead 20 = .ok (.ldc 56, 2) := by decide +kernel
theorem dX6_ahead_22 : decode cX6_ahead 22 = .ok (.invokevirtual 57, 3) := by decide +kernel
theorem dX6_ahead_25 : decode cX6_ahead 25 = .ok (.ireturn, 1) := by decide +kernel
theorem dX6_ahead_26 : decode cX6_ahead 26 = .ok (.aload_n 0, 1) := by decide +kernel
theorem dX6_ahead_27 : decode cX6_ahead 27 = .ok (.iload_n 1, 1) := by decide +kernel
theorem dX6_ahead_28 : decode cX6_ahead 28 = .ok (.invokevirtual 149, 3) := by decide +kernel
theorem dX6_ahead_31 : decode cX6_ahead 31 = .ok (.ifCond .ne 10, 3) := by decide +kernel
theorem dX6_ahead_34 : decode cX6_ahead 34 = .ok (.aload_n 0, 1) := by decide +kernel
theorem dX6_ahead_35 : decode cX6_ahead 35 = .ok (.ldc 75, 2) := by decide +kernel
theorem dX6_ahead_37 : decode cX6_ahead 37 = .ok (.invokevirtual 57, 3) := by decide +kernel
theorem dX6_ahead_40 : decode cX6_ahead 40 = .ok (.ireturn, 1) := by decide +kernel
theorem dX6_ahead_41 : decode cX6_ahead 41 = .ok (.aload_n 0, 1) := by decide +kernel
theorem dX6_ahead_42 : decode cX6_ahead 42 = .ok (.invokevirtual 165, 3) := by decide +kernel
theorem dX6_ahead_45 : decode cX6_ahead 45 = .ok (.astore_n 3, 1) := by decide +kernel
theorem dX6_ahead_46 : decode cX6_ahead 46 = .ok (.aload_n 3, 1) := by decide +kernel
theorem dX6_ahead_47 : decode cX6_ahead 47 = .ok (.iload_n 1, 1) := by decide +kernel
theorem dX6_ahead_48 : decode cX6_ahead 48 = .ok (.invokevirtual 152, 3) := by decide +kernel
theorem dX6_ahead_51 : decode cX6_ahead 51 = .ok (.istore 4, 2) := by decide +kernel
theorem dX6_ahead_53 : decode cX6_ahead 53 = .ok (.iload_n 2, 1) := by decide +kernel
theorem dX6_ahead_54 : decode cX6_ahead 54 = .ok (.tableswitch 51 0 3 #[30, 33, 41, 46], 30) := by decide +kernel
theorem dX6_ahead_84 : decode cX6_ahead 84 = .ok (.iload 4, 2) := by decide +kernel
theorem dX6_ahead_86 : decode cX6_ahead 86 = .ok (.ireturn, 1) := by decide +kernel
theorem dX6_ahead_87 : decode cX6_ahead 87 = .ok (.aload_n 3, 1) := by decide +kernel
theorem dX6_ahead_88 : decode cX6_ahead 88 = .ok (.getfield 61, 3) := by decide +kernel
theorem dX6_ahead_91 : decode cX6_ahead 91 = .ok (.invokevirtual 169, 3) := by decide +kernel
theorem dX6_ahead_94 : decode cX6_ahead 94 = .ok (.ireturn, 1) := by decide +kernel
theorem dX6_ahead_95 : decode cX6_ahead 95 = .ok (.aload_n 3, 1) := by decide +kernel
theorem dX6_ahead_96 : decode cX6_ahead 96 = .ok (.getfield 172, 3) := by decide +kernel
theorem dX6_ahead_99 : decode cX6_ahead 99 = .ok (.ireturn, 1) := by decide +kernel
theorem dX6_ahead_100 : decode cX6_ahead 100 = .ok (.aload_n 3, 1) := by decide +kernel
theorem dX6_ahead_101 : decode cX6_ahead 101 = .ok (.getfield 175, 3) := by decide +kernel
theorem dX6_ahead_104 : decode cX6_ahead 104 = .ok (.ireturn, 1) := by decide +kernel
theorem dX6_ahead_105 : decode cX6_ahead 105 = .ok (.aload_n 3, 1) := by decide +kernel
theorem dX6_ahead_106 : decode cX6_ahead 106 = .ok (.getfield 61, 3) := by decide +kernel
theorem dX6_ahead_109 : decode cX6_ahead 109 = .ok (.invokevirtual 178, 3) := by decide +kernel
theorem dX6_ahead_112 : decode cX6_ahead 112 = .ok (.ireturn, 1) := by decide +kernel
set_option maxRecDepth 20000 in
theorem ggX6_goes_X5_isBlock : GoodIn wsX6_goes wsX5_isBlock := goodIn_r _ [10, 11, 184, 185, 186, 187, 188] (by decide +kernel) (by decide +kernel)
set_option maxRecDepth 20000 in
theorem gX6_goes_X5_isBlock : GoodIn wsX6_goes (wsV RX6 80 RX5 yX5_isBlock wsX5_isBlock) := goodIn_app (goodIn_of _ (by decide +kernel)) ggX6_goes_X5_isBlock
set_option maxRecDepth 20000 in
theorem ggX6_goes_X6_tell : GoodIn wsX6_goes wsX6_tell := goodIn_r _ [16, 3, 17, 18, 19, 15, 20, 167, 168, 169, 170, 171, 172, 173, 174] (by decide +kernel) (by decide +kernel)
set_option maxRecDepth 20000 in
theorem gX6_goes_X6_tell : GoodIn wsX6_goes (wsV RX6 57 RX6 yX6_tell wsX6_tell) := goodIn_app (goodIn_of _ (by decide +kernel)) ggX6_goes_X6_tell
set_option maxRecDepth 20000 in
theorem ggX6_goes_X5_isGone : GoodIn wsX6_goes wsX5_isGone := goodIn_r _ [24, 25, 184, 185, 186, 187, 188] (by decide +kernel) (by decide +kernel)
set_option maxRecDepth 20000 in
theorem gX6_goes_X5_isGone : GoodIn wsX6_goes (wsV RX6 92 RX5 yX5_isGone wsX5_isGone) := goodIn_app (goodIn_of _ (by decide +kernel)) ggX6_goes_X5_isGone
set_option maxRecDepth 20000 in
theorem ggX6_goes_X6_hasHours : GoodIn wsX6_goes wsX6_hasHours := goodIn_r _ [29, 1, 30, 167, 168, 169, 170, 171, 172, 173, 174, 175, 176, 177, 178, 179, 180, 181, 182, 183] (by decide +kernel) (by decide +kernel)
set_option maxRecDepth 20000 in
theorem gX6_goes_X6_hasHours : GoodIn wsX6_goes (wsV RX6 149 RX6 yX6_hasHours wsX6_hasHours) := goodIn_app (goodIn_of _ (by decide +kernel)) ggX6_goes_X6_hasHours
set_option maxRecDepth 20000 in
theorem ggX6_goes_X6_freshTrial : GoodIn wsX6_goes wsX6_freshTrial := goodIn_r _ [34, 35, 1, 36, 37, 38, 39, 40, 41, 42, 43, 44, 45, 46, 47, 48, 49, 50, 51, 52, 53, 54, 9, 55, 11, 56, 57, 25, 58, 59, 60, 61, 62, 63, 64, 65, 66, 67, 68, 69, 167, 168, 169, 170, 171, 172, 173, 174, 175, 176, 177, 178, 179, 180, 181, 182, 183, 184, 185, 186, 187, 188, 189, 190, 191, 192] (by decide +kernel) (by decide +kernel)
set_option maxRecDepth 20000 in
theorem gX6_goes_X6_freshTrial : GoodIn wsX6_goes (wsV RX6 165 RX6 yX6_freshTrial wsX6_freshTrial) := goodIn_app (goodIn_of _ (by decide +kernel)) ggX6_goes_X6_freshTrial
set_option maxRecDepth 20000 in
theorem ggX6_goes_X1_goneIn : GoodIn wsX6_goes wsX1_goneIn := goodIn_r _ [73, 41, 74, 75, 76, 39, 77, 78, 79, 42, 80, 81, 22, 23, 9, 24, 25, 82, 83, 84, 63, 85, 69, 67, 65, 86, 87, 88, 89, 68, 90, 91, 92, 93, 94, 95, 96, 97, 98, 99, 100, 101, 48, 102, 103, 104, 105, 106, 107, 108, 109, 110, 111, 112, 113, 49, 114, 115, 116, 117, 58, 118, 119, 120, 121, 122, 123, 124, 125, 126, 127, 128, 129, 130, 131, 59, 132, 15, 133, 18, 19, 20, 134, 135, 136, 137, 50, 138, 139, 140, 141, 11, 142, 143, 144, 145, 146, 147, 148, 149, 56, 150, 151, 152, 153, 154, 155, 156, 157, 158, 159, 160, 161, 162, 163, 164, 165, 166, 175, 176, 177, 178, 179, 180, 181, 182, 183, 184, 185, 186, 187, 188, 189, 190, 191, 192] (by decide +kernel) (by decide +kernel)
set_option maxRecDepth 20000 in
theorem gX6_goes_X1_goneIn : GoodIn wsX6_goes (wsV RX6 181 RX1 yX1_goneIn wsX1_goneIn) := goodIn_app (goodIn_of _ (by decide +kernel)) ggX6_goes_X1_goneIn
theorem dX6_goes_0 : decode cX6_goes 0 = .ok (.aload_n 0, 1) := by decide +kernel
theorem dX6_goes_1 : decode cX6_goes 1 = .ok (.getfield 12, 3) := by decide +kernel
theorem dX6_goes_4 : decode cX6_goes 4 = .ok (.getfield 61, 3) := by decide +kernel
theorem dX6_goes_7 : decode cX6_goes 7 = .ok (.iload_n 1, 1) := by decide +kernel
theorem dX6_goes_8 : decode cX6_goes 8 = .ok (.invokevirtual 80, 3) := by decide +kernel
theorem dX6_goes_11 : decode cX6_goes 11 = .ok (.ifCond .ne 10, 3) := by decide +kernel
theorem dX6_goes_14 : decode cX6_goes 14 = .ok (.aload_n 0, 1) := by decide +kernel
theorem dX6_goes_15 : decode cX6_goes 15 = .ok (.ldc 56, 2) := by decide +kernel
theorem dX6_goes_17 : decode cX6_goes 17 = .ok (.invokevirtual 57, 3) := by decide +kernel
theorem dX6_goes_20 : decode cX6_goes 20 = .ok (.ireturn, 1) := by decide +kernel
theorem dX6_goes_21 : decode cX6_goes 21 = .ok (.aload_n 0, 1) := by decide +kernel
theorem dX6_goes_22 : decode cX6_goes 22 = .ok (.getfield 12, 3) := by decide +kernel
theorem dX6_goes_25 : decode cX6_goes 25 = .ok (.getfield 61, 3) := by decide +kernel
theorem dX6_goes_28 : decode cX6_goes 28 = .ok (.iload_n 1, 1) := by decide +kernel
theorem dX6_goes_29 : decode cX6_goes 29 = .ok (.invokevirtual 92, 3) := by decide +kernel
theorem dX6_goes_32 : decode cX6_goes 32 = .ok (.ifCond .ne 12, 3) := by decide +kernel
theorem dX6_goes_35 : decode cX6_goes 35 = .ok (.aload_n 0, 1) := by decide +kernel
theorem dX6_goes_36 : decode cX6_goes 36 = .ok (.bipush 96, 2) := by decide +kernel
theorem dX6_goes_38 : decode cX6_goes 38 = .ok (.invokevirtual 149, 3) := by decide +kernel
theorem dX6_goes_41 : decode cX6_goes 41 = .ok (.ifCond .ne 10, 3) := by decide +kernel
theorem dX6_goes_44 : decode cX6_goes 44 = .ok (.aload_n 0, 1) := by decide +kernel
theorem dX6_goes_45 : decode cX6_goes 45 = .ok (.ldc 75, 2) := by decide +kernel
theorem dX6_goes_47 : decode cX6_goes 47 = .ok (.invokevirtual 57, 3) := by decide +kernel
theorem dX6_goes_50 : decode cX6_goes 50 = .ok (.ireturn, 1) := by decide +kernel
theorem dX6_goes_51 : decode cX6_goes 51 = .ok (.aload_n 0, 1) := by decide +kernel
theorem dX6_goes_52 : decode cX6_goes 52 = .ok (.invokevirtual 165, 3) := by decide +kernel
theorem dX6_goes_55 : decode cX6_goes 55 = .ok (.iload_n 1, 1) := by decide +kernel
theorem dX6_goes_56 : decode cX6_goes 56 = .ok (.bipush 96, 2) := by decide +kernel
theorem dX6_goes_58 : decode cX6_goes 58 = .ok (.invokevirtual 181, 3) := by decide +kernel
theorem dX6_goes_61 : decode cX6_goes 61 = .ok (.istore_n 2, 1) := by decide +kernel
theorem dX6_goes_62 : decode cX6_goes 62 = .ok (.iload_n 2, 1) := by decide +kernel
theorem dX6_goes_63 : decode cX6_goes 63 = .ok (.bipush 96, 2) := by decide +kernel
theorem dX6_goes_65 : decode cX6_goes 65 = .ok (.if_icmp .le 12, 3) := by decide +kernel
theorem dX6_goes_68 : decode cX6_goes 68 = .ok (.aload_n 0, 1) := by decide +kernel
theorem dX6_goes_69 : decode cX6_goes 69 = .ok (.ldc 184, 2) := by decide +kernel
theorem dX6_goes_71 : decode cX6_goes 71 = .ok (.invokevirtual 57, 3) := by decide +kernel
theorem dX6_goes_74 : decode cX6_goes 74 = .ok (.goto 4, 3) := by decide +kernel
theorem dX6_goes_77 : decode cX6_goes 77 = .ok (.iload_n 2, 1) := by decide +kernel
theorem dX6_goes_78 : decode cX6_goes 78 = .ok (.ireturn, 1) := by decide +kernel
set_option maxRecDepth 20000 in
theorem ggX6_holds_X6_hasHours : GoodIn wsX6_holds wsX6_hasHours := goodIn_r _ [6, 7, 8, 160, 161, 162, 163, 164, 165, 166, 167, 168, 169, 170, 171, 172, 173, 174, 175, 176] (by decide +kernel) (by decide +kernel)
set_option maxRecDepth 20000 in
theorem gX6_holds_X6_hasHours : GoodIn wsX6_holds (wsV RX6 149 RX6 yX6_hasHours wsX6_hasHours) := goodIn_app (goodIn_of _ (by decide +kernel)) ggX6_holds_X6_hasHours
set_option maxRecDepth 20000 in
theorem ggX6_holds_X6_tell : GoodIn wsX6_holds wsX6_tell := goodIn_r _ [12, 13, 14, 15, 16, 5, 17, 160, 161, 162, 163, 164, 165, 166, 167] (by decide +kernel) (by decide +kernel)
set_option maxRecDepth 20000 in
theorem gX6_holds_X6_tell : GoodIn wsX6_holds (wsV RX6 57 RX6 yX6_tell wsX6_tell) := goodIn_app (goodIn_of _ (by decide +kernel)) ggX6_holds_X6_tell
set_option maxRecDepth 20000 in
theorem ggX6_holds_X6_freshTrial : GoodIn wsX6_holds wsX6_freshTrial := goodIn_r _ [21, 22, 7, 23, 24, 25, 26, 27, 28, 29, 30, 31, 32, 33, 34, 35, 36, 37, 38, 39, 40, 41, 42, 43, 44, 45, 46, 47, 48, 49, 50, 51, 52, 53, 54, 55, 56, 57, 58, 59, 160, 161, 162, 163, 164, 165, 166, 167, 168, 169, 170, 171, 172, 173, 174, 175, 176, 177, 178, 179, 180, 181, 182, 183, 184, 185] (by decide +kernel) (by decide +kernel)
set_option maxRecDepth 20000 in
theorem gX6_holds_X6_freshTrial : GoodIn wsX6_holds (wsV RX6 165 RX6 yX6_freshTrial wsX6_freshTrial) := goodIn_app (goodIn_of _ (by decide +kernel)) ggX6_holds_X6_freshTrial
set_option maxRecDepth 20000 in
theorem ggX6_holds_X1_hoursHeld : GoodIn wsX6_holds wsX1_hoursHeld := goodIn_r _ [63, 64, 65, 66, 26, 67, 28, 68, 69, 29, 70, 71, 72, 73, 42, 74, 47, 75, 76, 77, 53, 78, 59, 57, 55, 79, 80, 81, 82, 58, 83, 84, 85, 86, 87, 88, 89, 90, 91, 92, 93, 94, 35, 95, 96, 97, 98, 99, 100, 101, 102, 103, 104, 105, 106, 36, 107, 108, 109, 110, 48, 111, 112, 113, 114, 115, 116, 117, 118, 119, 120, 121, 122, 123, 124, 49, 125, 5, 126, 15, 16, 17, 127, 128, 129, 130, 37, 131, 132, 133, 134, 44, 135, 136, 137, 138, 139, 140, 141, 142, 45, 143, 144, 145, 146, 147, 148, 149, 150, 151, 152, 153, 154, 155, 156, 157, 158, 159, 168, 169, 170, 171, 172, 173, 174, 175, 176, 177, 178, 179, 180, 181, 182, 183, 184, 185] (by decide +kernel) (by decide +kernel)
set_option maxRecDepth 20000 in
theorem gX6_holds_X1_hoursHeld : GoodIn wsX6_holds (wsV RX6 185 RX1 yX1_hoursHeld wsX1_hoursHeld) := goodIn_app (goodIn_of _ (by decide +kernel)) ggX6_holds_X1_hoursHeld
theorem dX6_holds_0 : decode cX6_holds 0 = .ok (.aload_n 0, 1) := by decide +kernel
theorem dX6_holds_1 : decode cX6_holds 1 = .ok (.bipush 96, 2) := by decide +kernel
theorem dX6_holds_3 : decode cX6_holds 3 = .ok (.invokevirtual 149, 3) := by decide +kernel
theorem dX6_holds_6 : decode cX6_holds 6 = .ok (.ifCond .ne 10, 3) := by decide +kernel
theorem dX6_holds_9 : decode cX6_holds 9 = .ok (.aload_n 0, 1) := by decide +kernel
theorem dX6_holds_10 : decode cX6_holds 10 = .ok (.ldc 75, 2) := by decide +kernel
theorem dX6_holds_12 : decode cX6_holds 12 = .ok (.invokevirtual 57, 3) := by decide +kernel
theorem dX6_holds_15 : decode cX6_holds 15 = .ok (.ireturn, 1) := by decide +kernel
theorem dX6_holds_16 : decode cX6_holds 16 = .ok (.aload_n 0, 1) := by decide +kernel
theorem dX6_holds_17 : decode cX6_holds 17 = .ok (.invokevirtual 165, 3) := by decide +kernel
theorem dX6_holds_20 : decode cX6_holds 20 = .ok (.bipush 96, 2) := by decide +kernel
theorem dX6_holds_22 : decode cX6_holds 22 = .ok (.invokevirtual 185, 3) := by decide +kernel
theorem dX6_holds_25 : decode cX6_holds 25 = .ok (.ireturn, 1) := by decide +kernel
set_option maxRecDepth 20000 in
theorem ggX6_deal_X6_isWithin : GoodIn wsX6_deal wsX6_isWithin := goodIn_r _ [10] (by decide +kernel) (by decide +kernel)
set_option maxRecDepth 20000 in
theorem gX6_deal_X6_isWithin : GoodIn wsX6_deal (va_wsS RX6 52 yX6_isWithin wsX6_isWithin) := goodIn_app (goodIn_of _ (by decide +kernel)) ggX6_deal_X6_isWithin
set_option maxRecDepth 20000 in
theorem ggX6_deal_X6_tell : GoodIn wsX6_deal wsX6_tell := goodIn_r _ [14, 1, 15, 7, 8, 9, 10, 167, 168, 169, 170, 171, 172, 173, 174] (by decide +kernel) (by decide +kernel)
set_option maxRecDepth 20000 in
theorem gX6_deal_X6_tell : GoodIn wsX6_deal (wsV RX6 57 RX6 yX6_tell wsX6_tell) := goodIn_app (goodIn_of _ (by decide +kernel)) ggX6_deal_X6_tell
set_option maxRecDepth 20000 in
theorem ggX6_deal_X6_hasHours : GoodIn wsX6_deal wsX6_hasHours := goodIn_r _ [19, 3, 20, 167, 168, 169, 170, 171, 172, 173, 174, 175, 176, 177, 178, 179, 180, 181, 182, 183] (by decide +kernel) (by decide +kernel)
set_option maxRecDepth 20000 in
theorem gX6_deal_X6_hasHours : GoodIn wsX6_deal (wsV RX6 149 RX6 yX6_hasHours wsX6_hasHours) := goodIn_app (goodIn_of _ (by decide +kernel)) ggX6_deal_X6_hasHours
set_option maxRecDepth 20000 in
theorem ggX6_deal_X0_lightOf : GoodIn wsX6_deal wsX0_lightOf := goodIn_r _ [25, 26, 184, 185, 186, 187] (by decide +kernel) (by decide +kernel)
set_option maxRecDepth 20000 in
theorem gX6_deal_X0_lightOf : GoodIn wsX6_deal (wsV RX6 146 RX0 yX0_lightOf wsX0_lightOf) := goodIn_app (goodIn_of _ (by decide +kernel)) ggX6_deal_X0_lightOf
set_option maxRecDepth 20000 in
theorem ggX6_deal_X6_freshTrial : GoodIn wsX6_deal wsX6_freshTrial := goodIn_r _ [30, 31, 3, 32, 33, 34, 35, 36, 37, 38, 39, 40, 41, 42, 43, 44, 45, 46, 47, 48, 49, 50, 51, 52, 53, 54, 55, 56, 57, 58, 59, 60, 61, 24, 62, 63, 64, 26, 65, 66, 167, 168, 169, 170, 171, 172, 173, 174, 175, 176, 177, 178, 179, 180, 181, 182, 183, 188, 189, 190, 191, 192, 184, 185, 186, 187] (by decide +kernel) (by decide +kernel)
set_option maxRecDepth 20000 in
theorem gX6_deal_X6_freshTrial : GoodIn wsX6_deal (wsV RX6 165 RX6 yX6_freshTrial wsX6_freshTrial) := goodIn_app (goodIn_of _ (by decide +kernel)) ggX6_deal_X6_freshTrial
set_option maxRecDepth 20000 in
theorem ggX6_deal_X1_hoursHeld : GoodIn wsX6_deal wsX1_hoursHeld := goodIn_r _ [70, 71, 72, 73, 35, 74, 37, 75, 76, 38, 77, 78, 79, 80, 51, 81, 56, 82, 83, 84, 24, 85, 66, 26, 63, 86, 87, 88, 89, 65, 90, 91, 92, 93, 94, 95, 96, 97, 98, 99, 100, 101, 44, 102, 103, 104, 105, 106, 107, 108, 109, 110, 111, 112, 113, 45, 114, 115, 116, 117, 57, 118, 119, 120, 121, 122, 123, 124, 125, 126, 127, 128, 129, 130, 131, 58, 132, 9, 133, 7, 8, 10, 134, 135, 136, 137, 46, 138, 139, 140, 141, 53, 142, 143, 144, 145, 146, 147, 148, 149, 54, 150, 151, 152, 153, 154, 155, 156, 157, 158, 159, 160, 161, 162, 163, 164, 165, 166, 175, 176, 177, 178, 179, 180, 181, 182, 183, 188, 189, 190, 191, 192, 184, 185, 186, 187] (by decide +kernel) (by decide +kernel)
set_option maxRecDepth 20000 in
theorem gX6_deal_X1_hoursHeld : GoodIn wsX6_deal (wsV RX6 185 RX1 yX1_hoursHeld wsX1_hoursHeld) := goodIn_app (goodIn_of _ (by decide +kernel)) ggX6_deal_X1_hoursHeld
theorem dX6_deal_0 : decode cX6_deal 0 = .ok (.iload_n 1, 1) := by decide +kernel
theorem dX6_deal_1 : decode cX6_deal 1 = .ok (.iconst 1, 1) := by decide +kernel
theorem dX6_deal_2 : decode cX6_deal 2 = .ok (.bipush 48, 2) := by decide +kernel
theorem dX6_deal_4 : decode cX6_deal 4 = .ok (.invokestatic 52, 3) := by decide +kernel
theorem dX6_deal_7 : decode cX6_deal 7 = .ok (.ifCond .ne 10, 3) := by decide +kernel
theorem dX6_deal_10 : decode cX6_deal 10 = .ok (.aload_n 0, 1) := by decide +kernel
theorem dX6_deal_11 : decode cX6_deal 11 = .ok (.ldc 56, 2) := by decide +kernel
theorem dX6_deal_13 : decode cX6_deal 13 = .ok (.invokevirtual 57, 3) := by decide +kernel
theorem dX6_deal_16 : decode cX6_deal 16 = .ok (.ireturn, 1) := by decide +kernel
theorem dX6_deal_17 : decode cX6_deal 17 = .ok (.aload_n 0, 1) := by decide +kernel
theorem dX6_deal_18 : decode cX6_deal 18 = .ok (.iload_n 1, 1) := by decide +kernel
theorem dX6_deal_19 : decode cX6_deal 19 = .ok (.invokevirtual 149, 3) := by decide +kernel
theorem dX6_deal_22 : decode cX6_deal 22 = .ok (.ifCond .ne 10, 3) := by decide +kernel
theorem dX6_deal_25 : decode cX6_deal 25 = .ok (.aload_n 0, 1) := by decide +kernel
theorem dX6_deal_26 : decode cX6_deal 26 = .ok (.ldc 75, 2) := by decide +kernel
theorem dX6_deal_28 : decode cX6_deal 28 = .ok (.invokevirtual 57, 3) := by decide +kernel
theorem dX6_deal_31 : decode cX6_deal 31 = .ok (.ireturn, 1) := by decide +kernel
theorem dX6_deal_32 : decode cX6_deal 32 = .ok (.iconst (-1), 1) := by decide +kernel
theorem dX6_deal_33 : decode cX6_deal 33 = .ok (.istore_n 2, 1) := by decide +kernel
theorem dX6_deal_34 : decode cX6_deal 34 = .ok (.iconst (-1), 1) := by decide +kernel
theorem dX6_deal_35 : decode cX6_deal 35 = .ok (.istore_n 3, 1) := by decide +kernel
theorem dX6_deal_36 : decode cX6_deal 36 = .ok (.iconst 0, 1) := by decide +kernel
theorem dX6_deal_37 : decode cX6_deal 37 = .ok (.istore 4, 2) := by decide +kernel
theorem dX6_deal_39 : decode cX6_deal 39 = .ok (.iload 4, 2) := by decide +kernel
theorem dX6_deal_41 : decode cX6_deal 41 = .ok (.bipush 64, 2) := by decide +kernel
theorem dX6_deal_43 : decode cX6_deal 43 = .ok (.if_icmp .ge 64, 3) := by decide +kernel
theorem dX6_deal_46 : decode cX6_deal 46 = .ok (.aload_n 0, 1) := by decide +kernel
theorem dX6_deal_47 : decode cX6_deal 47 = .ok (.getfield 12, 3) := by decide +kernel
theorem dX6_deal_50 : decode cX6_deal 50 = .ok (.getfield 113, 3) := by decide +kernel
theorem dX6_deal_53 : decode cX6_deal 53 = .ok (.iload 4, 2) := by decide +kernel
theorem dX6_deal_55 : decode cX6_deal 55 = .ok (.invokevirtual 146, 3) := by decide +kernel
theorem dX6_deal_58 : decode cX6_deal 58 = .ok (.istore 5, 2) := by decide +kernel
theorem dX6_deal_60 : decode cX6_deal 60 = .ok (.iload 5, 2) := by decide +kernel
theorem dX6_deal_62 : decode cX6_deal 62 = .ok (.iload_n 3, 1) := by decide +kernel
theorem dX6_deal_63 : decode cX6_deal 63 = .ok (.if_icmp .gt 6, 3) := by decide +kernel
theorem dX6_deal_66 : decode cX6_deal 66 = .ok (.goto 35, 3) := by decide +kernel
theorem dX6_deal_69 : decode cX6_deal 69 = .ok (.aload_n 0, 1) := by decide +kernel
theorem dX6_deal_70 : decode cX6_deal 70 = .ok (.invokevirtual 165, 3) := by decide +kernel
theorem dX6_deal_73 : decode cX6_deal 73 = .ok (.astore 6, 2) := by decide +kernel
theorem dX6_deal_75 : decode cX6_deal 75 = .ok (.aload 6, 2) := by decide +kernel
theorem dX6_deal_77 : decode cX6_deal 77 = .ok (.getfield 113, 3) := by decide +kernel
theorem dX6_deal_80 : decode cX6_deal 80 = .ok (.iload 4, 2) := by decide +kernel
theorem dX6_deal_82 : decode cX6_deal 82 = .ok (.putfield 143, 3) := by decide +kernel
theorem dX6_deal_85 : decode cX6_deal 85 = .ok (.aload 6, 2) := by decide +kernel
theorem dX6_deal_87 : decode cX6_deal 87 = .ok (.iload_n 1, 1) := by decide +kernel
theorem dX6_deal_88 : decode cX6_deal 88 = .ok (.invokevirtual 185, 3) := by decide +kernel
theorem dX6_deal_91 : decode cX6_deal 91 = .ok (.iload_n 1, 1) := by decide +kernel
theorem dX6_deal_92 : decode cX6_deal 92 = .ok (.if_icmp .ne 9, 3) := by decide +kernel
theorem dX6_deal_95 : decode cX6_deal 95 = .ok (.iload 4, 2) := by decide +kernel
theorem dX6_deal_97 : decode cX6_deal 97 = .ok (.istore_n 2, 1) := by decide +kernel
theorem dX6_deal_98 : decode cX6_deal 98 = .ok (.iload 5, 2) := by decide +kernel
theorem dX6_deal_100 : decode cX6_deal 100 = .ok (.istore_n 3, 1) := by decide +kernel
theorem dX6_deal_101 : decode cX6_deal 101 = .ok (.iinc 4 1, 3) := by decide +kernel
theorem dX6_deal_104 : decode cX6_deal 104 = .ok (.goto (-65), 3) := by decide +kernel
theorem dX6_deal_107 : decode cX6_deal 107 = .ok (.iload_n 2, 1) := by decide +kernel
theorem dX6_deal_108 : decode cX6_deal 108 = .ok (.ifCond .ge 12, 3) := by decide +kernel
theorem dX6_deal_111 : decode cX6_deal 111 = .ok (.aload_n 0, 1) := by decide +kernel
theorem dX6_deal_112 : decode cX6_deal 112 = .ok (.ldc 184, 2) := by decide +kernel
theorem dX6_deal_114 : decode cX6_deal 114 = .ok (.invokevirtual 57, 3) := by decide +kernel
theorem dX6_deal_117 : decode cX6_deal 117 = .ok (.goto 4, 3) := by decide +kernel
theorem dX6_deal_120 : decode cX6_deal 120 = .ok (.iload_n 2, 1) := by decide +kernel
theorem dX6_deal_121 : decode cX6_deal 121 = .ok (.ireturn, 1) := by decide +kernel
set_option maxRecDepth 20000 in
theorem ggX6_bears_X6_isWithin : GoodIn wsX6_bears wsX6_isWithin := goodIn_r _ [9] (by decide +kernel) (by decide +kernel)
set_option maxRecDepth 20000 in
theorem gX6_bears_X6_isWithin : GoodIn wsX6_bears (va_wsS RX6 52 yX6_isWithin wsX6_isWithin) := goodIn_app (goodIn_of _ (by decide +kernel)) ggX6_bears_X6_isWithin
set_option maxRecDepth 20000 in
theorem ggX6_bears_X6_tell : GoodIn wsX6_bears wsX6_tell := goodIn_r _ [13, 1, 14, 6, 7, 8, 9, 176, 177, 178, 179, 180, 181, 182, 183] (by decide +kernel) (by decide +kernel)
set_option maxRecDepth 20000 in
theorem gX6_bears_X6_tell : GoodIn wsX6_bears (wsV RX6 57 RX6 yX6_tell wsX6_tell) := goodIn_app (goodIn_of _ (by decide +kernel)) ggX6_bears_X6_tell
set_option maxRecDepth 20000 in
theorem ggX6_bears_X6_hasHours : GoodIn wsX6_bears wsX6_hasHours := goodIn_r _ [18, 19, 20, 176, 177, 178, 179, 180, 181, 182, 183, 163, 164, 165, 166, 167, 168, 169, 170, 171] (by decide +kernel) (by decide +kernel)
set_option maxRecDepth 20000 in
theorem gX6_bears_X6_hasHours : GoodIn wsX6_bears (wsV RX6 149 RX6 yX6_hasHours wsX6_hasHours) := goodIn_app (goodIn_of _ (by decide +kernel)) ggX6_bears_X6_hasHours
set_option maxRecDepth 20000 in
theorem ggX6_bears_X6_freshTrial : GoodIn wsX6_bears wsX6_freshTrial := goodIn_r _ [24, 25, 19, 26, 27, 28, 29, 30, 31, 32, 33, 34, 35, 36, 37, 38, 39, 40, 41, 42, 43, 44, 45, 46, 47, 48, 49, 50, 51, 52, 53, 54, 55, 56, 57, 58, 59, 60, 61, 62, 176, 177, 178, 179, 180, 181, 182, 183, 163, 164, 165, 166, 167, 168, 169, 170, 171, 184, 185, 186, 187, 188, 172, 173, 174, 175] (by decide +kernel) (by decide +kernel)
set_option maxRecDepth 20000 in
theorem gX6_bears_X6_freshTrial : GoodIn wsX6_bears (wsV RX6 165 RX6 yX6_freshTrial wsX6_freshTrial) := goodIn_app (goodIn_of _ (by decide +kernel)) ggX6_bears_X6_freshTrial
set_option maxRecDepth 20000 in
theorem ggX6_bears_X1_hoursHeld : GoodIn wsX6_bears wsX1_hoursHeld := goodIn_r _ [66, 67, 68, 69, 29, 70, 31, 71, 72, 32, 73, 74, 75, 76, 45, 77, 50, 78, 79, 80, 56, 81, 62, 60, 58, 82, 83, 84, 85, 61, 86, 87, 88, 89, 90, 91, 92, 93, 94, 95, 96, 97, 38, 98, 99, 100, 101, 102, 103, 104, 105, 106, 107, 108, 109, 39, 110, 111, 112, 113, 51, 114, 115, 116, 117, 118, 119, 120, 121, 122, 123, 124, 125, 126, 127, 52, 128, 8, 129, 6, 7, 9, 130, 131, 132, 133, 40, 134, 135, 136, 137, 47, 138, 139, 140, 141, 142, 143, 144, 145, 48, 146, 147, 148, 149, 150, 151, 152, 153, 154, 155, 156, 157, 158, 159, 160, 161, 162, 163, 164, 165, 166, 167, 168, 169, 170, 171, 184, 185, 186, 187, 188, 172, 173, 174, 175] (by decide +kernel) (by decide +kernel)
set_option maxRecDepth 20000 in
theorem gX6_bears_X1_hoursHeld : GoodIn wsX6_bears (wsV RX6 185 RX1 yX1_hoursHeld wsX1_hoursHeld) := goodIn_app (goodIn_of _ (by decide +kernel)) ggX6_bears_X1_hoursHeld
theorem dX6_bears_0 : decode cX6_bears 0 = .ok (.iload_n 1, 1) := by decide +kernel
theorem dX6_bears_1 : decode cX6_bears 1 = .ok (.iconst 1, 1) := by decide +kernel
theorem dX6_bears_2 : decode cX6_bears 2 = .ok (.bipush 48, 2) := by decide +kernel
theorem dX6_bears_4 : decode cX6_bears 4 = .ok (.invokestatic 52, 3) := by decide +kernel
theorem dX6_bears_7 : decode cX6_bears 7 = .ok (.ifCond .ne 10, 3) := by decide +kernel
theorem dX6_bears_10 : decode cX6_bears 10 = .ok (.aload_n 0, 1) := by decide +kernel
theorem dX6_bears_11 : decode cX6_bears 11 = .ok (.ldc 56, 2) := by decide +kernel
theorem dX6_bears_13 : decode cX6_bears 13 = .ok (.invokevirtual 57, 3) := by decide +kernel
theorem dX6_bears_16 : decode cX6_bears 16 = .ok (.ireturn, 1) := by decide +kernel
theorem dX6_bears_17 : decode cX6_bears 17 = .ok (.aload_n 0, 1) := by decide +kernel
theorem dX6_bears_18 : decode cX6_bears 18 = .ok (.iload_n 1, 1) := by decide +kernel
theorem dX6_bears_19 : decode cX6_bears 19 = .ok (.invokevirtual 149, 3) := by decide +kernel
theorem dX6_bears_22 : decode cX6_bears 22 = .ok (.ifCond .ne 10, 3) := by decide +kernel
theorem dX6_bears_25 : decode cX6_bears 25 = .ok (.aload_n 0, 1) := by decide +kernel
theorem dX6_bears_26 : decode cX6_bears 26 = .ok (.ldc 75, 2) := by decide +kernel
theorem dX6_bears_28 : decode cX6_bears 28 = .ok (.invokevirtual 57, 3) := by decide +kernel
theorem dX6_bears_31 : decode cX6_bears 31 = .ok (.ireturn, 1) := by decide +kernel
theorem dX6_bears_32 : decode cX6_bears 32 = .ok (.bipush 20, 2) := by decide +kernel
theorem dX6_bears_34 : decode cX6_bears 34 = .ok (.istore_n 2, 1) := by decide +kernel
theorem dX6_bears_35 : decode cX6_bears 35 = .ok (.iload_n 2, 1) := by decide +kernel
theorem dX6_bears_36 : decode cX6_bears 36 = .ok (.bipush (-20), 2) := by decide +kernel
theorem dX6_bears_38 : decode cX6_bears 38 = .ok (.if_icmp .lt 33, 3) := by decide +kernel
theorem dX6_bears_41 : decode cX6_bears 41 = .ok (.aload_n 0, 1) := by decide +kernel
theorem dX6_bears_42 : decode cX6_bears 42 = .ok (.invokevirtual 165, 3) := by decide +kernel
theorem dX6_bears_45 : decode cX6_bears 45 = .ok (.astore_n 3, 1) := by decide +kernel
theorem dX6_bears_46 : decode cX6_bears 46 = .ok (.aload_n 3, 1) := by decide +kernel
theorem dX6_bears_47 : decode cX6_bears 47 = .ok (.getfield 113, 3) := by decide +kernel
theorem dX6_bears_50 : decode cX6_bears 50 = .ok (.iload_n 2, 1) := by decide +kernel
theorem dX6_bears_51 : decode cX6_bears 51 = .ok (.putfield 139, 3) := by decide +kernel
theorem dX6_bears_54 : decode cX6_bears 54 = .ok (.aload_n 3, 1) := by decide +kernel
theorem dX6_bears_55 : decode cX6_bears 55 = .ok (.iload_n 1, 1) := by decide +kernel
theorem dX6_bears_56 : decode cX6_bears 56 = .ok (.invokevirtual 185, 3) := by decide +kernel
theorem dX6_bears_59 : decode cX6_bears 59 = .ok (.iload_n 1, 1) := by decide +kernel
theorem dX6_bears_60 : decode cX6_bears 60 = .ok (.if_icmp .ne 5, 3) := by decide +kernel
theorem dX6_bears_63 : decode cX6_bears 63 = .ok (.iload_n 2, 1) := by decide +kernel
theorem dX6_bears_64 : decode cX6_bears 64 = .ok (.ireturn, 1) := by decide +kernel
theorem dX6_bears_65 : decode cX6_bears 65 = .ok (.iinc 2 (-1), 3) := by decide +kernel
theorem dX6_bears_68 : decode cX6_bears 68 = .ok (.goto (-33), 3) := by decide +kernel
theorem dX6_bears_71 : decode cX6_bears 71 = .ok (.aload_n 0, 1) := by decide +kernel
theorem dX6_bears_72 : decode cX6_bears 72 = .ok (.ldc 184, 2) := by decide +kernel
theorem dX6_bears_74 : decode cX6_bears 74 = .ok (.invokevirtual 57, 3) := by decide +kernel
theorem dX6_bears_77 : decode cX6_bears 77 = .ok (.ireturn, 1) := by decide +kernel
set_option maxRecDepth 20000 in
theorem ggX6_needs_X5_isBlock : GoodIn wsX6_needs wsX5_isBlock := goodIn_r _ [11, 12, 186, 187, 188, 189, 190] (by decide +kernel) (by decide +kernel)
set_option maxRecDepth 20000 in
theorem gX6_needs_X5_isBlock : GoodIn wsX6_needs (wsV RX6 80 RX5 yX5_isBlock wsX5_isBlock) := goodIn_app (goodIn_of _ (by decide +kernel)) ggX6_needs_X5_isBlock
set_option maxRecDepth 20000 in
theorem ggX6_needs_X6_isWithin : GoodIn wsX6_needs wsX6_isWithin := goodIn_r _ [16] (by decide +kernel) (by decide +kernel)
set_option maxRecDepth 20000 in
theorem gX6_needs_X6_isWithin : GoodIn wsX6_needs (va_wsS RX6 52 yX6_isWithin wsX6_isWithin) := goodIn_app (goodIn_of _ (by decide +kernel)) ggX6_needs_X6_isWithin
set_option maxRecDepth 20000 in
theorem ggX6_needs_X6_tell : GoodIn wsX6_needs wsX6_tell := goodIn_r _ [20, 3, 21, 13, 14, 15, 16, 169, 170, 171, 172, 173, 174, 175, 176] (by decide +kernel) (by decide +kernel)
set_option maxRecDepth 20000 in
theorem gX6_needs_X6_tell : GoodIn wsX6_needs (wsV RX6 57 RX6 yX6_tell wsX6_tell) := goodIn_app (goodIn_of _ (by decide +kernel)) ggX6_needs_X6_tell
set_option maxRecDepth 20000 in
theorem ggX6_needs_X5_isGone : GoodIn wsX6_needs wsX5_isGone := goodIn_r _ [25, 26, 186, 187, 188, 189, 190] (by decide +kernel) (by decide +kernel)
set_option maxRecDepth 20000 in
theorem gX6_needs_X5_isGone : GoodIn wsX6_needs (wsV RX6 92 RX5 yX5_isGone wsX5_isGone) := goodIn_app (goodIn_of _ (by decide +kernel)) ggX6_needs_X5_isGone
set_option maxRecDepth 20000 in
theorem ggX6_needs_X6_hasHours : GoodIn wsX6_needs wsX6_hasHours := goodIn_r _ [30, 1, 31, 169, 170, 171, 172, 173, 174, 175, 176, 177, 178, 179, 180, 181, 182, 183, 184, 185] (by decide +kernel) (by decide +kernel)
set_option maxRecDepth 20000 in
theorem gX6_needs_X6_hasHours : GoodIn wsX6_needs (wsV RX6 149 RX6 yX6_hasHours wsX6_hasHours) := goodIn_app (goodIn_of _ (by decide +kernel)) ggX6_needs_X6_hasHours
set_option maxRecDepth 20000 in
theorem ggX6_needs_X6_freshTrial : GoodIn wsX6_needs wsX6_freshTrial := goodIn_r _ [35, 36, 1, 37, 38, 39, 40, 41, 42, 43, 44, 45, 46, 47, 48, 49, 50, 51, 52, 53, 54, 55, 10, 56, 12, 57, 58, 26, 59, 60, 61, 62, 63, 64, 65, 66, 67, 68, 69, 70, 169, 170, 171, 172, 173, 174, 175, 176, 177, 178, 179, 180, 181, 182, 183, 184, 185, 186, 187, 188, 189, 190, 191, 192, 193, 194] (by decide +kernel) (by decide +kernel)
set_option maxRecDepth 20000 in
theorem gX6_needs_X6_freshTrial : GoodIn wsX6_needs (wsV RX6 165 RX6 yX6_freshTrial wsX6_freshTrial) := goodIn_app (goodIn_of _ (by decide +kernel)) ggX6_needs_X6_freshTrial
set_option maxRecDepth 20000 in
theorem ggX6_needs_X5_thicken : GoodIn wsX6_needs wsX5_thicken := goodIn_r _ [74, 59, 75, 76, 77, 78, 186, 187, 188, 189, 190] (by decide +kernel) (by decide +kernel)
set_option maxRecDepth 20000 in
theorem gX6_needs_X5_thicken : GoodIn wsX6_needs (wsV RX6 122 RX5 yX5_thicken wsX5_thicken) := goodIn_app (goodIn_of _ (by decide +kernel)) ggX6_needs_X5_thicken
set_option maxRecDepth 20000 in
theorem ggX6_needs_X1_hoursHeld : GoodIn wsX6_needs wsX1_hoursHeld := goodIn_r _ [82, 83, 84, 85, 40, 86, 42, 87, 88, 43, 89, 90, 23, 24, 10, 25, 26, 91, 92, 93, 64, 94, 70, 68, 66, 95, 96, 97, 98, 69, 99, 100, 101, 102, 103, 77, 104, 105, 106, 107, 108, 109, 49, 110, 111, 112, 113, 114, 115, 116, 117, 118, 119, 76, 78, 50, 120, 72, 73, 74, 59, 75, 121, 122, 123, 124, 125, 126, 127, 128, 129, 130, 131, 132, 133, 60, 134, 15, 135, 13, 14, 16, 136, 137, 138, 139, 51, 140, 141, 142, 143, 12, 144, 145, 146, 147, 148, 149, 150, 151, 57, 152, 153, 154, 155, 156, 157, 158, 159, 160, 161, 162, 163, 164, 165, 166, 167, 168, 177, 178, 179, 180, 181, 182, 183, 184, 185, 186, 187, 188, 189, 190, 191, 192, 193, 194] (by decide +kernel) (by decide +kernel)
set_option maxRecDepth 20000 in
theorem gX6_needs_X1_hoursHeld : GoodIn wsX6_needs (wsV RX6 185 RX1 yX1_hoursHeld wsX1_hoursHeld) := goodIn_app (goodIn_of _ (by decide +kernel)) ggX6_needs_X1_hoursHeld
theorem dX6_needs_0 : decode cX6_needs 0 = .ok (.aload_n 0, 1) := by decide +kernel
theorem dX6_needs_1 : decode cX6_needs 1 = .ok (.getfield 12, 3) := by decide +kernel
theorem dX6_needs_4 : decode cX6_needs 4 = .ok (.getfield 61, 3) := by decide +kernel
theorem dX6_needs_7 : decode cX6_needs 7 = .ok (.iload_n 1, 1) := by decide +kernel
theorem dX6_needs_8 : decode cX6_needs 8 = .ok (.invokevirtual 80, 3) := by decide +kernel
theorem dX6_needs_11 : decode cX6_needs 11 = .ok (.ifCond .eq 13, 3) := by decide +kernel
theorem dX6_needs_14 : decode cX6_needs 14 = .ok (.iload_n 2, 1) := by decide +kernel
theorem dX6_needs_15 : decode cX6_needs 15 = .ok (.iconst 1, 1) := by decide +kernel
theorem dX6_needs_16 : decode cX6_needs 16 = .ok (.bipush 48, 2) := by decide +kernel
theorem dX6_needs_18 : decode cX6_needs 18 = .ok (.invokestatic 52, 3) := by decide +kernel
theorem dX6_needs_21 : decode cX6_needs 21 = .ok (.ifCond .ne 10, 3) := by decide +kernel
theorem dX6_needs_24 : decode cX6_needs 24 = .ok (.aload_n 0, 1) := by decide +kernel
theorem dX6_needs_25 : decode cX6_needs 25 = .ok (.ldc 56, 2) := by decide +kernel
theorem dX6_needs_27 : decode cX6_needs 27 = .ok (.invokevirtual 57, 3) := by decide +kernel
theorem dX6_needs_30 : decode cX6_needs 30 = .ok (.ireturn, 1) := by decide +kernel
theorem dX6_needs_31 : decode cX6_needs 31 = .ok (.aload_n 0, 1) := by decide +kernel
theorem dX6_needs_32 : decode cX6_needs 32 = .ok (.getfield 12, 3) := by decide +kernel
theorem dX6_needs_35 : decode cX6_needs 35 = .ok (.getfield 61, 3) := by decide +kernel
theorem dX6_needs_38 : decode cX6_needs 38 = .ok (.iload_n 1, 1) := by decide +kernel
theorem dX6_needs_39 : decode cX6_needs 39 = .ok (.invokevirtual 92, 3) := by decide +kernel
theorem dX6_needs_42 : decode cX6_needs 42 = .ok (.ifCond .ne 11, 3) := by decide +kernel
theorem dX6_needs_45 : decode cX6_needs 45 = .ok (.aload_n 0, 1) := by decide +kernel
theorem dX6_needs_46 : decode cX6_needs 46 = .ok (.iload_n 2, 1) := by decide +kernel
theorem dX6_needs_47 : decode cX6_needs 47 = .ok (.invokevirtual 149, 3) := by decide +kernel
theorem dX6_needs_50 : decode cX6_needs 50 = .ok (.ifCond .ne 10, 3) := by decide +kernel
theorem dX6_needs_53 : decode cX6_needs 53 = .ok (.aload_n 0, 1) := by decide +kernel
theorem dX6_needs_54 : decode cX6_needs 54 = .ok (.ldc 75, 2) := by decide +kernel
theorem dX6_needs_56 : decode cX6_needs 56 = .ok (.invokevirtual 57, 3) := by decide +kernel
theorem dX6_needs_59 : decode cX6_needs 59 = .ok (.ireturn, 1) := by decide +kernel
theorem dX6_needs_60 : decode cX6_needs 60 = .ok (.bipush 99, 2) := by decide +kernel
theorem dX6_needs_62 : decode cX6_needs 62 = .ok (.aload_n 0, 1) := by decide +kernel
theorem dX6_needs_63 : decode cX6_needs 63 = .ok (.getfield 12, 3) := by decide +kernel
theorem dX6_needs_66 : decode cX6_needs 66 = .ok (.getfield 61, 3) := by decide +kernel
theorem dX6_needs_69 : decode cX6_needs 69 = .ok (.getfield 89, 3) := by decide +kernel
theorem dX6_needs_72 : decode cX6_needs 72 = .ok (.iload_n 1, 1) := by decide +kernel
theorem dX6_needs_73 : decode cX6_needs 73 = .ok (.iaload, 1) := by decide +kernel
theorem dX6_needs_74 : decode cX6_needs 74 = .ok (.isub, 1) := by decide +kernel
theorem dX6_needs_75 : decode cX6_needs 75 = .ok (.istore_n 3, 1) := by decide +kernel
theorem dX6_needs_76 : decode cX6_needs 76 = .ok (.iconst 0, 1) := by decide +kernel
theorem dX6_needs_77 : decode cX6_needs 77 = .ok (.istore 4, 2) := by decide +kernel
theorem dX6_needs_79 : decode cX6_needs 79 = .ok (.iload 4, 2) := by decide +kernel
theorem dX6_needs_81 : decode cX6_needs 81 = .ok (.iload_n 3, 1) := by decide +kernel
theorem dX6_needs_82 : decode cX6_needs 82 = .ok (.if_icmp .gt 40, 3) := by decide +kernel
theorem dX6_needs_85 : decode cX6_needs 85 = .ok (.aload_n 0, 1) := by decide +kernel
theorem dX6_needs_86 : decode cX6_needs 86 = .ok (.invokevirtual 165, 3) := by decide +kernel
theorem dX6_needs_89 : decode cX6_needs 89 = .ok (.astore 5, 2) := by decide +kernel
theorem dX6_needs_91 : decode cX6_needs 91 = .ok (.aload 5, 2) := by decide +kernel
theorem dX6_needs_93 : decode cX6_needs 93 = .ok (.getfield 61, 3) := by decide +kernel
theorem dX6_needs_96 : decode cX6_needs 96 = .ok (.iload_n 1, 1) := by decide +kernel
theorem dX6_needs_97 : decode cX6_needs 97 = .ok (.iload 4, 2) := by decide +kernel
theorem dX6_needs_99 : decode cX6_needs 99 = .ok (.invokevirtual 122, 3) := by decide +kernel
theorem dX6_needs_102 : decode cX6_needs 102 = .ok (.pop, 1) := by decide +kernel
theorem dX6_needs_103 : decode cX6_needs 103 = .ok (.aload 5, 2) := by decide +kernel
theorem dX6_needs_105 : decode cX6_needs 105 = .ok (.iload_n 2, 1) := by decide +kernel
theorem dX6_needs_106 : decode cX6_needs 106 = .ok (.invokevirtual 185, 3) := by decide +kernel
theorem dX6_needs_109 : decode cX6_needs 109 = .ok (.iload_n 2, 1) := by decide +kernel
theorem dX6_needs_110 : decode cX6_needs 110 = .ok (.if_icmp .ne 6, 3) := by decide +kernel
theorem dX6_needs_113 : decode cX6_needs 113 = .ok (.iload 4, 2) := by decide +kernel
theorem dX6_needs_115 : decode cX6_needs 115 = .ok (.ireturn, 1) := by decide +kernel
theorem dX6_needs_116 : decode cX6_needs 116 = .ok (.iinc 4 1, 3) := by decide +kernel
theorem dX6_needs_119 : decode cX6_needs 119 = .ok (.goto (-40), 3) := by decide +kernel
theorem dX6_needs_122 : decode cX6_needs 122 = .ok (.aload_n 0, 1) := by decide +kernel
theorem dX6_needs_123 : decode cX6_needs 123 = .ok (.ldc 184, 2) := by decide +kernel
theorem dX6_needs_125 : decode cX6_needs 125 = .ok (.invokevirtual 57, 3) := by decide +kernel
theorem dX6_needs_128 : decode cX6_needs 128 = .ok (.ireturn, 1) := by decide +kernel
set_option maxRecDepth 20000 in
theorem ggX6_mend_X6_isWithin : GoodIn wsX6_mend wsX6_isWithin := goodIn_r _ [10] (by decide +kernel) (by decide +kernel)
set_option maxRecDepth 20000 in
theorem gX6_mend_X6_isWithin : GoodIn wsX6_mend (va_wsS RX6 52 yX6_isWithin wsX6_isWithin) := goodIn_app (goodIn_of _ (by decide +kernel)) ggX6_mend_X6_isWithin
set_option maxRecDepth 20000 in
theorem ggX6_mend_X6_tell : GoodIn wsX6_mend wsX6_tell := goodIn_r _ [14, 1, 15, 7, 8, 9, 10, 165, 166, 167, 168, 169, 170, 171, 172] (by decide +kernel) (by decide +kernel)
set_option maxRecDepth 20000 in
theorem gX6_mend_X6_tell : GoodIn wsX6_mend (wsV RX6 57 RX6 yX6_tell wsX6_tell) := goodIn_app (goodIn_of _ (by decide +kernel)) ggX6_mend_X6_tell
set_option maxRecDepth 20000 in
theorem ggX6_mend_X6_hasHours : GoodIn wsX6_mend wsX6_hasHours := goodIn_r _ [19, 3, 20, 165, 166, 167, 168, 169, 170, 171, 172, 173, 174, 175, 176, 177, 178, 179, 180, 181] (by decide +kernel) (by decide +kernel)
set_option maxRecDepth 20000 in
theorem gX6_mend_X6_hasHours : GoodIn wsX6_mend (wsV RX6 149 RX6 yX6_hasHours wsX6_hasHours) := goodIn_app (goodIn_of _ (by decide +kernel)) ggX6_mend_X6_hasHours
set_option maxRecDepth 20000 in
theorem ggX6_mend_X5_isGone : GoodIn wsX6_mend wsX5_isGone := goodIn_r _ [25, 26, 182, 183, 184, 185, 186] (by decide +kernel) (by decide +kernel)
set_option maxRecDepth 20000 in
theorem gX6_mend_X5_isGone : GoodIn wsX6_mend (wsV RX6 92 RX5 yX5_isGone wsX5_isGone) := goodIn_app (goodIn_of _ (by decide +kernel)) ggX6_mend_X5_isGone
set_option maxRecDepth 20000 in
theorem ggX6_mend_X6_freshTrial : GoodIn wsX6_mend wsX6_freshTrial := goodIn_r _ [30, 31, 3, 32, 33, 34, 35, 36, 37, 38, 39, 40, 41, 42, 43, 44, 45, 46, 47, 48, 49, 50, 24, 51, 52, 53, 54, 26, 55, 56, 57, 58, 59, 60, 61, 62, 63, 64, 65, 66, 165, 166, 167, 168, 169, 170, 171, 172, 173, 174, 175, 176, 177, 178, 179, 180, 181, 182, 183, 184, 185, 186, 187, 188, 189, 190] (by decide +kernel) (by decide +kernel)
set_option maxRecDepth 20000 in
theorem gX6_mend_X6_freshTrial : GoodIn wsX6_mend (wsV RX6 165 RX6 yX6_freshTrial wsX6_freshTrial) := goodIn_app (goodIn_of _ (by decide +kernel)) ggX6_mend_X6_freshTrial
set_option maxRecDepth 20000 in
theorem ggX6_mend_X5_thicken : GoodIn wsX6_mend wsX5_thicken := goodIn_r _ [70, 55, 71, 72, 73, 74, 182, 183, 184, 185, 186] (by decide +kernel) (by decide +kernel)
set_option maxRecDepth 20000 in
theorem gX6_mend_X5_thicken : GoodIn wsX6_mend (wsV RX6 122 RX5 yX5_thicken wsX5_thicken) := goodIn_app (goodIn_of _ (by decide +kernel)) ggX6_mend_X5_thicken
set_option maxRecDepth 20000 in
theorem ggX6_mend_X1_hoursHeld : GoodIn wsX6_mend wsX1_hoursHeld := goodIn_r _ [78, 79, 80, 81, 35, 82, 37, 83, 84, 38, 85, 86, 22, 23, 24, 25, 26, 87, 88, 89, 60, 90, 66, 64, 62, 91, 92, 93, 94, 65, 95, 96, 97, 98, 99, 73, 100, 101, 102, 103, 104, 105, 44, 106, 107, 108, 109, 110, 111, 112, 113, 114, 115, 72, 74, 45, 116, 68, 69, 70, 55, 71, 117, 118, 119, 120, 121, 122, 123, 124, 125, 126, 127, 128, 129, 56, 130, 9, 131, 7, 8, 10, 132, 133, 134, 135, 46, 136, 137, 138, 139, 52, 140, 141, 142, 143, 144, 145, 146, 147, 53, 148, 149, 150, 151, 152, 153, 154, 155, 156, 157, 158, 159, 160, 161, 162, 163, 164, 173, 174, 175, 176, 177, 178, 179, 180, 181, 182, 183, 184, 185, 186, 187, 188, 189, 190] (by decide +kernel) (by decide +kernel)
set_option maxRecDepth 20000 in
theorem gX6_mend_X1_hoursHeld : GoodIn wsX6_mend (wsV RX6 185 RX1 yX1_hoursHeld wsX1_hoursHeld) := goodIn_app (goodIn_of _ (by decide +kernel)) ggX6_mend_X1_hoursHeld
theorem dX6_mend_0 : decode cX6_mend 0 = .ok (.iload_n 1, 1) := by decide +kernel
theorem dX6_mend_1 : decode cX6_mend 1 = .ok (.iconst 1, 1) := by decide +kernel
theorem dX6_mend_2 : decode cX6_mend 2 = .ok (.bipush 98, 2) := by decide +kernel
theorem dX6_mend_4 : decode cX6_mend 4 = .ok (.invokestatic 52, 3) := by decide +kernel
theorem dX6_mend_7 : decode cX6_mend 7 = .ok (.ifCond .ne 10, 3) := by decide +kernel
theorem dX6_mend_10 : decode cX6_mend 10 = .ok (.aload_n 0, 1) := by decide +kernel
theorem dX6_mend_11 : decode cX6_mend 11 = .ok (.ldc 56, 2) := by decide +kernel
theorem dX6_mend_13 : decode cX6_mend 13 = .ok (.invokevirtual 57, 3) := by decide +kernel
theorem dX6_mend_16 : decode cX6_mend 16 = .ok (.ireturn, 1) := by decide +kernel
theorem dX6_mend_17 : decode cX6_mend 17 = .ok (.aload_n 0, 1) := by decide +kernel
theorem dX6_mend_18 : decode cX6_mend 18 = .ok (.bipush 96, 2) := by decide +kernel
theorem dX6_mend_20 : decode cX6_mend 20 = .ok (.invokevirtual 149, 3) := by decide +kernel
theorem dX6_mend_23 : decode cX6_mend 23 = .ok (.ifCond .ne 10, 3) := by decide +kernel
theorem dX6_mend_26 : decode cX6_mend 26 = .ok (.aload_n 0, 1) := by decide +kernel
theorem dX6_mend_27 : decode cX6_mend 27 = .ok (.ldc 75, 2) := by decide +kernel
theorem dX6_mend_29 : decode cX6_mend 29 = .ok (.invokevirtual 57, 3) := by decide +kernel
theorem dX6_mend_32 : decode cX6_mend 32 = .ok (.ireturn, 1) := by decide +kernel
theorem dX6_mend_33 : decode cX6_mend 33 = .ok (.iconst (-1), 1) := by decide +kernel
theorem dX6_mend_34 : decode cX6_mend 34 = .ok (.istore_n 2, 1) := by decide +kernel
theorem dX6_mend_35 : decode cX6_mend 35 = .ok (.iconst (-1), 1) := by decide +kernel
theorem dX6_mend_36 : decode cX6_mend 36 = .ok (.istore_n 3, 1) := by decide +kernel
theorem dX6_mend_37 : decode cX6_mend 37 = .ok (.iconst 0, 1) := by decide +kernel
theorem dX6_mend_38 : decode cX6_mend 38 = .ok (.istore 4, 2) := by decide +kernel
theorem dX6_mend_40 : decode cX6_mend 40 = .ok (.iload 4, 2) := by decide +kernel
theorem dX6_mend_42 : decode cX6_mend 42 = .ok (.aload_n 0, 1) := by decide +kernel
theorem dX6_mend_43 : decode cX6_mend 43 = .ok (.getfield 12, 3) := by decide +kernel
theorem dX6_mend_46 : decode cX6_mend 46 = .ok (.getfield 61, 3) := by decide +kernel
theorem dX6_mend_49 : decode cX6_mend 49 = .ok (.getfield 188, 3) := by decide +kernel
theorem dX6_mend_52 : decode cX6_mend 52 = .ok (.if_icmp .ge 66, 3) := by decide +kernel
theorem dX6_mend_55 : decode cX6_mend 55 = .ok (.aload_n 0, 1) := by decide +kernel
theorem dX6_mend_56 : decode cX6_mend 56 = .ok (.getfield 12, 3) := by decide +kernel
theorem dX6_mend_59 : decode cX6_mend 59 = .ok (.getfield 61, 3) := by decide +kernel
theorem dX6_mend_62 : decode cX6_mend 62 = .ok (.iload 4, 2) := by decide +kernel
theorem dX6_mend_64 : decode cX6_mend 64 = .ok (.invokevirtual 92, 3) := by decide +kernel
theorem dX6_mend_67 : decode cX6_mend 67 = .ok (.ifCond .eq 6, 3) := by decide +kernel
theorem dX6_mend_70 : decode cX6_mend 70 = .ok (.goto 42, 3) := by decide +kernel
theorem dX6_mend_73 : decode cX6_mend 73 = .ok (.aload_n 0, 1) := by decide +kernel
theorem dX6_mend_74 : decode cX6_mend 74 = .ok (.invokevirtual 165, 3) := by decide +kernel
theorem dX6_mend_77 : decode cX6_mend 77 = .ok (.astore 5, 2) := by decide +kernel
theorem dX6_mend_79 : decode cX6_mend 79 = .ok (.aload 5, 2) := by decide +kernel
theorem dX6_mend_81 : decode cX6_mend 81 = .ok (.getfield 61, 3) := by decide +kernel
theorem dX6_mend_84 : decode cX6_mend 84 = .ok (.iload 4, 2) := by decide +kernel
theorem dX6_mend_86 : decode cX6_mend 86 = .ok (.iload_n 1, 1) := by decide +kernel
theorem dX6_mend_87 : decode cX6_mend 87 = .ok (.invokevirtual 122, 3) := by decide +kernel
theorem dX6_mend_90 : decode cX6_mend 90 = .ok (.pop, 1) := by decide +kernel
theorem dX6_mend_91 : decode cX6_mend 91 = .ok (.aload 5, 2) := by decide +kernel
theorem dX6_mend_93 : decode cX6_mend 93 = .ok (.bipush 96, 2) := by decide +kernel
theorem dX6_mend_95 : decode cX6_mend 95 = .ok (.invokevirtual 185, 3) := by decide +kernel
theorem dX6_mend_98 : decode cX6_mend 98 = .ok (.istore 6, 2) := by decide +kernel
theorem dX6_mend_100 : decode cX6_mend 100 = .ok (.iload 6, 2) := by decide +kernel
theorem dX6_mend_102 : decode cX6_mend 102 = .ok (.iload_n 3, 1) := by decide +kernel
theorem dX6_mend_103 : decode cX6_mend 103 = .ok (.if_icmp .le 9, 3) := by decide +kernel
theorem dX6_mend_106 : decode cX6_mend 106 = .ok (.iload 4, 2) := by decide +kernel
theorem dX6_mend_108 : decode cX6_mend 108 = .ok (.istore_n 2, 1) := by decide +kernel
theorem dX6_mend_109 : decode cX6_mend 109 = .ok (.iload 6, 2) := by decide +kernel
theorem dX6_mend_111 : decode cX6_mend 111 = .ok (.istore_n 3, 1) := by decide +kernel
theorem dX6_mend_112 : decode cX6_mend 112 = .ok (.iinc 4 1, 3) := by decide +kernel
theorem dX6_mend_115 : decode cX6_mend 115 = .ok (.goto (-75), 3) := by decide +kernel
theorem dX6_mend_118 : decode cX6_mend 118 = .ok (.iload_n 2, 1) := by decide +kernel
theorem dX6_mend_119 : decode cX6_mend 119 = .ok (.ifCond .ge 12, 3) := by decide +kernel
theorem dX6_mend_122 : decode cX6_mend 122 = .ok (.aload_n 0, 1) := by decide +kernel
theorem dX6_mend_123 : decode cX6_mend 123 = .ok (.ldc 184, 2) := by decide +kernel
theorem dX6_mend_125 : decode cX6_mend 125 = .ok (.invokevirtual 57, 3) := by decide +kernel
theorem dX6_mend_128 : decode cX6_mend 128 = .ok (.goto 4, 3) := by decide +kernel
theorem dX6_mend_131 : decode cX6_mend 131 = .ok (.iload_n 2, 1) := by decide +kernel
theorem dX6_mend_132 : decode cX6_mend 132 = .ok (.ireturn, 1) := by decide +kernel
set_option maxRecDepth 20000 in
theorem ggX6_whose_X5_isBlock : GoodIn wsX6_whose wsX5_isBlock := goodIn_r _ [11, 12, 190, 191, 192, 193, 194] (by decide +kernel) (by decide +kernel)
set_option maxRecDepth 20000 in
theorem gX6_whose_X5_isBlock : GoodIn wsX6_whose (wsV RX6 80 RX5 yX5_isBlock wsX5_isBlock) := goodIn_app (goodIn_of _ (by decide +kernel)) ggX6_whose_X5_isBlock
set_option maxRecDepth 20000 in
theorem ggX6_whose_X6_tell : GoodIn wsX6_whose wsX6_tell := goodIn_r _ [17, 3, 18, 19, 20, 16, 21, 173, 174, 175, 176, 177, 178, 179, 180] (by decide +kernel) (by decide +kernel)
set_option maxRecDepth 20000 in
theorem gX6_whose_X6_tell : GoodIn wsX6_whose (wsV RX6 57 RX6 yX6_tell wsX6_tell) := goodIn_app (goodIn_of _ (by decide +kernel)) ggX6_whose_X6_tell
set_option maxRecDepth 20000 in
theorem ggX6_whose_X5_isGone : GoodIn wsX6_whose wsX5_isGone := goodIn_r _ [25, 26, 190, 191, 192, 193, 194] (by decide +kernel) (by decide +kernel)
set_option maxRecDepth 20000 in
theorem gX6_whose_X5_isGone : GoodIn wsX6_whose (wsV RX6 92 RX5 yX5_isGone wsX5_isGone) := goodIn_app (goodIn_of _ (by decide +kernel)) ggX6_whose_X5_isGone
set_option maxRecDepth 20000 in
theorem ggX6_whose_X6_hasHours : GoodIn wsX6_whose wsX6_hasHours := goodIn_r _ [30, 1, 31, 173, 174, 175, 176, 177, 178, 179, 180, 181, 182, 183, 184, 185, 186, 187, 188, 189] (by decide +kernel) (by decide +kernel)
set_option maxRecDepth 20000 in
theorem gX6_whose_X6_hasHours : GoodIn wsX6_whose (wsV RX6 149 RX6 yX6_hasHours wsX6_hasHours) := goodIn_app (goodIn_of _ (by decide +kernel)) ggX6_whose_X6_hasHours
set_option maxRecDepth 20000 in
theorem ggX6_whose_X0_isLit : GoodIn wsX6_whose wsX0_isLit := goodIn_r _ [36, 37, 195, 196, 197, 198] (by decide +kernel) (by decide +kernel)
set_option maxRecDepth 20000 in
theorem gX6_whose_X0_isLit : GoodIn wsX6_whose (wsV RX6 132 RX0 yX0_isLit wsX0_isLit) := goodIn_app (goodIn_of _ (by decide +kernel)) ggX6_whose_X0_isLit
set_option maxRecDepth 20000 in
theorem ggX6_whose_X6_freshTrial : GoodIn wsX6_whose wsX6_freshTrial := goodIn_r _ [41, 42, 1, 43, 44, 45, 46, 47, 48, 49, 50, 51, 52, 53, 54, 55, 56, 57, 58, 59, 60, 61, 10, 62, 12, 63, 64, 26, 65, 66, 67, 68, 69, 35, 70, 71, 72, 73, 37, 74, 173, 174, 175, 176, 177, 178, 179, 180, 181, 182, 183, 184, 185, 186, 187, 188, 189, 190, 191, 192, 193, 194, 195, 196, 197, 198] (by decide +kernel) (by decide +kernel)
set_option maxRecDepth 20000 in
theorem gX6_whose_X6_freshTrial : GoodIn wsX6_whose (wsV RX6 165 RX6 yX6_freshTrial wsX6_freshTrial) := goodIn_app (goodIn_of _ (by decide +kernel)) ggX6_whose_X6_freshTrial
set_option maxRecDepth 20000 in
theorem ggX6_whose_X0_setLit : GoodIn wsX6_whose wsX0_setLit := goodIn_r _ [78, 37, 195, 196, 197, 198] (by decide +kernel) (by decide +kernel)
set_option maxRecDepth 20000 in
theorem gX6_whose_X0_setLit : GoodIn wsX6_whose (wsV RX6 135 RX0 yX0_setLit wsX0_setLit) := goodIn_app (goodIn_of _ (by decide +kernel)) ggX6_whose_X0_setLit
set_option maxRecDepth 20000 in
theorem ggX6_whose_X1_goneIn : GoodIn wsX6_whose wsX1_goneIn := goodIn_r _ [82, 48, 83, 84, 85, 46, 86, 87, 88, 49, 89, 90, 23, 24, 10, 25, 26, 91, 92, 93, 35, 94, 74, 73, 71, 95, 33, 34, 36, 37, 96, 97, 98, 99, 100, 101, 102, 103, 104, 105, 106, 107, 55, 108, 109, 110, 111, 112, 113, 114, 115, 116, 117, 118, 119, 56, 120, 121, 122, 123, 65, 124, 125, 126, 127, 128, 129, 130, 131, 132, 133, 134, 135, 136, 137, 66, 138, 16, 139, 19, 20, 21, 140, 141, 142, 143, 57, 144, 145, 146, 147, 12, 148, 149, 150, 151, 152, 153, 154, 155, 63, 156, 157, 158, 159, 160, 161, 162, 163, 164, 165, 166, 167, 168, 169, 170, 171, 172, 181, 182, 183, 184, 185, 186, 187, 188, 189, 190, 191, 192, 193, 194, 195, 196, 197, 198] (by decide +kernel) (by decide +kernel)
set_option maxRecDepth 20000 in
theorem gX6_whose_X1_goneIn : GoodIn wsX6_whose (wsV RX6 181 RX1 yX1_goneIn wsX1_goneIn) := goodIn_app (goodIn_of _ (by decide +kernel)) ggX6_whose_X1_goneIn
theorem dX6_whose_0 : decode cX6_whose 0 = .ok (.aload_n 0, 1) := by decide +kernel
theorem dX6_whose_1 : decode cX6_whose 1 = .ok (.getfield 12, 3) := by decide +kernel
theorem dX6_whose_4 : decode cX6_whose 4 = .ok (.getfield 61, 3) := by decide +kernel
theorem dX6_whose_7 : decode cX6_whose 7 = .ok (.iload_n 1, 1) := by decide +kernel
theorem dX6_whose_8 : decode cX6_whose 8 = .ok (.invokevirtual 80, 3) := by decide +kernel
theorem dX6_whose_11 : decode cX6_whose 11 = .ok (.ifCond .ne 10, 3) := by decide +kernel
theorem dX6_whose_14 : decode cX6_whose 14 = .ok (.aload_n 0, 1) := by decide +kernel
theorem dX6_whose_15 : decode cX6_whose 15 = .ok (.ldc 56, 2) := by decide +kernel
theorem dX6_whose_17 : decode cX6_whose 17 = .ok (.invokevirtual 57, 3) := by decide +kernel
theorem dX6_whose_20 : decode cX6_whose 20 = .ok (.ireturn, 1) := by decide +kernel
theorem dX6_whose_21 : decode cX6_whose 21 = .ok (.aload_n 0, 1) := by decide +kernel
theorem dX6_whose_22 : decode cX6_whose 22 = .ok (.getfield 12, 3) := by decide +kernel
theorem dX6_whose_25 : decode cX6_whose 25 = .ok (.getfield 61, 3) := by decide +kernel
theorem dX6_whose_28 : decode cX6_whose 28 = .ok (.iload_n 1, 1) := by decide +kernel
theorem dX6_whose_29 : decode cX6_whose 29 = .ok (.invokevirtual 92, 3) := by decide +kernel
theorem dX6_whose_32 : decode cX6_whose 32 = .ok (.ifCond .ne 12, 3) := by decide +kernel
theorem dX6_whose_35 : decode cX6_whose 35 = .ok (.aload_n 0, 1) := by decide +kernel
theorem dX6_whose_36 : decode cX6_whose 36 = .ok (.bipush 96, 2) := by decide +kernel
theorem dX6_whose_38 : decode cX6_whose 38 = .ok (.invokevirtual 149, 3) := by decide +kernel
theorem dX6_whose_41 : decode cX6_whose 41 = .ok (.ifCond .ne 10, 3) := by decide +kernel
theorem dX6_whose_44 : decode cX6_whose 44 = .ok (.aload_n 0, 1) := by decide +kernel
theorem dX6_whose_45 : decode cX6_whose 45 = .ok (.ldc 75, 2) := by decide +kernel
theorem dX6_whose_47 : decode cX6_whose 47 = .ok (.invokevirtual 57, 3) := by decide +kernel
theorem dX6_whose_50 : decode cX6_whose 50 = .ok (.ireturn, 1) := by decide +kernel
theorem dX6_whose_51 : decode cX6_whose 51 = .ok (.iconst (-1), 1) := by decide +kernel
theorem dX6_whose_52 : decode cX6_whose 52 = .ok (.istore_n 2, 1) := by decide +kernel
theorem dX6_whose_53 : decode cX6_whose 53 = .ok (.iconst 0, 1) := by decide +kernel
theorem dX6_whose_54 : decode cX6_whose 54 = .ok (.istore_n 3, 1) := by decide +kernel
theorem dX6_whose_55 : decode cX6_whose 55 = .ok (.iconst 0, 1) := by decide +kernel
theorem dX6_whose_56 : decode cX6_whose 56 = .ok (.istore 4, 2) := by decide +kernel
theorem dX6_whose_58 : decode cX6_whose 58 = .ok (.iload 4, 2) := by decide +kernel
theorem dX6_whose_60 : decode cX6_whose 60 = .ok (.bipush 6, 2) := by decide +kernel
theorem dX6_whose_62 : decode cX6_whose 62 = .ok (.if_icmp .ge 66, 3) := by decide +kernel
theorem dX6_whose_65 : decode cX6_whose 65 = .ok (.aload_n 0, 1) := by decide +kernel
theorem dX6_whose_66 : decode cX6_whose 66 = .ok (.getfield 12, 3) := by decide +kernel
theorem dX6_whose_69 : decode cX6_whose 69 = .ok (.getfield 113, 3) := by decide +kernel
theorem dX6_whose_72 : decode cX6_whose 72 = .ok (.iload 4, 2) := by decide +kernel
theorem dX6_whose_74 : decode cX6_whose 74 = .ok (.invokevirtual 132, 3) := by decide +kernel
theorem dX6_whose_77 : decode cX6_whose 77 = .ok (.ifCond .ne 6, 3) := by decide +kernel
theorem dX6_whose_80 : decode cX6_whose 80 = .ok (.goto 42, 3) := by decide +kernel
theorem dX6_whose_83 : decode cX6_whose 83 = .ok (.aload_n 0, 1) := by decide +kernel
theorem dX6_whose_84 : decode cX6_whose 84 = .ok (.invokevirtual 165, 3) := by decide +kernel
theorem dX6_whose_87 : decode cX6_whose 87 = .ok (.astore 5, 2) := by decide +kernel
theorem dX6_whose_89 : decode cX6_whose 89 = .ok (.aload 5, 2) := by decide +kernel
theorem dX6_whose_91 : decode cX6_whose 91 = .ok (.getfield 113, 3) := by decide +kernel
theorem dX6_whose_94 : decode cX6_whose 94 = .ok (.iload 4, 2) := by decide +kernel
theorem dX6_whose_96 : decode cX6_whose 96 = .ok (.iconst 0, 1) := by decide +kernel
theorem dX6_whose_97 : decode cX6_whose 97 = .ok (.invokevirtual 135, 3) := by decide +kernel
theorem dX6_whose_100 : decode cX6_whose 100 = .ok (.aload 5, 2) := by decide +kernel
theorem dX6_whose_102 : decode cX6_whose 102 = .ok (.iload_n 1, 1) := by decide +kernel
theorem dX6_whose_103 : decode cX6_whose 103 = .ok (.bipush 96, 2) := by decide +kernel
theorem dX6_whose_105 : decode cX6_whose 105 = .ok (.invokevirtual 181, 3) := by decide +kernel
theorem dX6_whose_108 : decode cX6_whose 108 = .ok (.istore 6, 2) := by decide +kernel
theorem dX6_whose_110 : decode cX6_whose 110 = .ok (.iload 6, 2) := by decide +kernel
theorem dX6_whose_112 : decode cX6_whose 112 = .ok (.iload_n 3, 1) := by decide +kernel
theorem dX6_whose_113 : decode cX6_whose 113 = .ok (.if_icmp .le 9, 3) := by decide +kernel
theorem dX6_whose_116 : decode cX6_whose 116 = .ok (.iload 4, 2) := by decide +kernel
theorem dX6_whose_118 : decode cX6_whose 118 = .ok (.istore_n 2, 1) := by decide +kernel
theorem dX6_whose_119 : decode cX6_whose 119 = .ok (.iload 6, 2) := by decide +kernel
theorem dX6_whose_121 : decode cX6_whose 121 = .ok (.istore_n 3, 1) := by decide +kernel
theorem dX6_whose_122 : decode cX6_whose 122 = .ok (.iinc 4 1, 3) := by decide +kernel
theorem dX6_whose_125 : decode cX6_whose 125 = .ok (.goto (-67), 3) := by decide +kernel
theorem dX6_whose_128 : decode cX6_whose 128 = .ok (.iload_n 2, 1) := by decide +kernel
theorem dX6_whose_129 : decode cX6_whose 129 = .ok (.ifCond .ge 12, 3) := by decide +kernel
theorem dX6_whose_132 : decode cX6_whose 132 = .ok (.aload_n 0, 1) := by decide +kernel
theorem dX6_whose_133 : decode cX6_whose 133 = .ok (.ldc 184, 2) := by decide +kernel
theorem dX6_whose_135 : decode cX6_whose 135 = .ok (.invokevirtual 57, 3) := by decide +kernel
theorem dX6_whose_138 : decode cX6_whose 138 = .ok (.goto 4, 3) := by decide +kernel
theorem dX6_whose_141 : decode cX6_whose 141 = .ok (.iload_n 2, 1) := by decide +kernel
theorem dX6_whose_142 : decode cX6_whose 142 = .ok (.ireturn, 1) := by decide +kernel
set_option maxRecDepth 20000 in
theorem ggX6_drawing_X5_isBlock : GoodIn wsX6_drawing wsX5_isBlock := goodIn_r _ [13, 14, 191, 192, 193, 194, 195] (by decide +kernel) (by decide +kernel)
set_option maxRecDepth 20000 in
theorem gX6_drawing_X5_isBlock : GoodIn wsX6_drawing (wsV RX6 80 RX5 yX5_isBlock wsX5_isBlock) := goodIn_app (goodIn_of _ (by decide +kernel)) ggX6_drawing_X5_isBlock
set_option maxRecDepth 20000 in
theorem ggX6_drawing_X6_isWithin : GoodIn wsX6_drawing wsX6_isWithin := goodIn_r _ [18] (by decide +kernel) (by decide +kernel)
set_option maxRecDepth 20000 in
theorem gX6_drawing_X6_isWithin : GoodIn wsX6_drawing (va_wsS RX6 52 yX6_isWithin wsX6_isWithin) := goodIn_app (goodIn_of _ (by decide +kernel)) ggX6_drawing_X6_isWithin
set_option maxRecDepth 20000 in
theorem ggX6_drawing_X6_tell : GoodIn wsX6_drawing wsX6_tell := goodIn_r _ [22, 3, 23, 15, 16, 17, 18, 170, 171, 172, 173, 174, 175, 176, 177] (by decide +kernel) (by decide +kernel)
set_option maxRecDepth 20000 in
theorem gX6_drawing_X6_tell : GoodIn wsX6_drawing (wsV RX6 57 RX6 yX6_tell wsX6_tell) := goodIn_app (goodIn_of _ (by decide +kernel)) ggX6_drawing_X6_tell
set_option maxRecDepth 20000 in
theorem ggX6_drawing_X5_isGone : GoodIn wsX6_drawing wsX5_isGone := goodIn_r _ [27, 28, 191, 192, 193, 194, 195] (by decide +kernel) (by decide +kernel)
set_option maxRecDepth 20000 in
theorem gX6_drawing_X5_isGone : GoodIn wsX6_drawing (wsV RX6 92 RX5 yX5_isGone wsX5_isGone) := goodIn_app (goodIn_of _ (by decide +kernel)) ggX6_drawing_X5_isGone
set_option maxRecDepth 20000 in
theorem ggX6_drawing_X6_hasHours : GoodIn wsX6_drawing wsX6_hasHours := goodIn_r _ [32, 1, 33, 170, 171, 172, 173, 174, 175, 176, 177, 178, 179, 180, 181, 182, 183, 184, 185, 186] (by decide +kernel) (by decide +kernel)
set_option maxRecDepth 20000 in
theorem gX6_drawing_X6_hasHours : GoodIn wsX6_drawing (wsV RX6 149 RX6 yX6_hasHours wsX6_hasHours) := goodIn_app (goodIn_of _ (by decide +kernel)) ggX6_drawing_X6_hasHours
set_option maxRecDepth 20000 in
theorem ggX6_drawing_X6_freshTrial : GoodIn wsX6_drawing wsX6_freshTrial := goodIn_r _ [37, 38, 1, 39, 40, 41, 42, 43, 44, 45, 46, 47, 48, 49, 50, 51, 52, 53, 54, 55, 56, 57, 12, 58, 14, 59, 60, 28, 61, 62, 63, 64, 65, 66, 67, 68, 69, 70, 71, 72, 170, 171, 172, 173, 174, 175, 176, 177, 178, 179, 180, 181, 182, 183, 184, 185, 186, 191, 192, 193, 194, 195, 187, 188, 189, 190] (by decide +kernel) (by decide +kernel)
set_option maxRecDepth 20000 in
theorem gX6_drawing_X6_freshTrial : GoodIn wsX6_drawing (wsV RX6 165 RX6 yX6_freshTrial wsX6_freshTrial) := goodIn_app (goodIn_of _ (by decide +kernel)) ggX6_drawing_X6_freshTrial
set_option maxRecDepth 20000 in
theorem ggX6_drawing_X1_passHours : GoodIn wsX6_drawing wsX1_passHours := goodIn_r _ [76, 77, 78, 79, 42, 80, 44, 81, 82, 45, 83, 84, 25, 26, 12, 27, 28, 85, 86, 87, 66, 88, 72, 70, 68, 89, 90, 91, 92, 71, 93, 94, 95, 96, 97, 98, 99, 100, 101, 102, 103, 104, 51, 105, 106, 107, 108, 109, 110, 111, 112, 113, 114, 115, 116, 52, 117, 118, 119, 120, 61, 121, 122, 123, 124, 125, 126, 127, 128, 129, 130, 131, 132, 133, 134, 62, 135, 17, 136, 15, 16, 18, 137, 138, 139, 140, 53, 141, 142, 143, 144, 14, 145, 146, 147, 148, 149, 150, 151, 152, 59, 153, 154, 155, 156, 157, 158, 159, 160, 161, 162, 163, 164, 165, 166, 167, 168, 169, 178, 179, 180, 181, 182, 183, 184, 185, 186, 191, 192, 193, 194, 195, 187, 188, 189, 190] (by decide +kernel) (by decide +kernel)
set_option maxRecDepth 20000 in
theorem gX6_drawing_X1_passHours : GoodIn wsX6_drawing (wsV RX6 152 RX1 yX1_passHours wsX1_passHours) := goodIn_app (goodIn_of _ (by decide +kernel)) ggX6_drawing_X1_passHours
theorem dX6_drawing_0 : decode cX6_drawing 0 = .ok (.aload_n 0, 1) := by decide +kernel
theorem dX6_drawing_1 : decode cX6_drawing 1 = .ok (.getfield 12, 3) := by decide +kernel
theorem dX6_drawing_4 : decode cX6_drawing 4 = .ok (.getfield 61, 3) := by decide +kernel
theorem dX6_drawing_7 : decode cX6_drawing 7 = .ok (.iload_n 1, 1) := by decide +kernel
theorem dX6_drawing_8 : decode cX6_drawing 8 = .ok (.invokevirtual 80, 3) := by decide +kernel
theorem dX6_drawing_11 : decode cX6_drawing 11 = .ok (.ifCond .eq 23, 3) := by decide +kernel
theorem dX6_drawing_14 : decode cX6_drawing 14 = .ok (.iload_n 2, 1) := by decide +kernel
theorem dX6_drawing_15 : decode cX6_drawing 15 = .ok (.iconst 1, 1) := by decide +kernel
theorem dX6_drawing_16 : decode cX6_drawing 16 = .ok (.bipush 24, 2) := by decide +kernel
theorem dX6_drawing_18 : decode cX6_drawing 18 = .ok (.invokestatic 52, 3) := by decide +kernel
theorem dX6_drawing_21 : decode cX6_drawing 21 = .ok (.ifCond .eq 13, 3) := by decide +kernel
theorem dX6_drawing_24 : decode cX6_drawing 24 = .ok (.iload_n 3, 1) := by decide +kernel
theorem dX6_drawing_25 : decode cX6_drawing 25 = .ok (.iconst 0, 1) := by decide +kernel
theorem dX6_drawing_26 : decode cX6_drawing 26 = .ok (.bipush 99, 2) := by decide +kernel
theorem dX6_drawing_28 : decode cX6_drawing 28 = .ok (.invokestatic 52, 3) := by decide +kernel
theorem dX6_drawing_31 : decode cX6_drawing 31 = .ok (.ifCond .ne 10, 3) := by decide +kernel
theorem dX6_drawing_34 : decode cX6_drawing 34 = .ok (.aload_n 0, 1) := by decide +kernel
theorem dX6_drawing_35 : decode cX6_drawing 35 = .ok (.ldc 56, 2) := by decide +kernel
theorem dX6_drawing_37 : decode cX6_drawing 37 = .ok (.invokevirtual 57, 3) := by decide +kernel
theorem dX6_drawing_40 : decode cX6_drawing 40 = .ok (.ireturn, 1) := by decide +kernel
theorem dX6_drawing_41 : decode cX6_drawing 41 = .ok (.aload_n 0, 1) := by decide +kernel
theorem dX6_drawing_42 : decode cX6_drawing 42 = .ok (.getfield 12, 3) := by decide +kernel
theorem dX6_drawing_45 : decode cX6_drawing 45 = .ok (.getfield 61, 3) := by decide +kernel
theorem dX6_drawing_48 : decode cX6_drawing 48 = .ok (.iload_n 1, 1) := by decide +kernel
theorem dX6_drawing_49 : decode cX6_drawing 49 = .ok (.invokevirtual 92, 3) := by decide +kernel
theorem dX6_drawing_52 : decode cX6_drawing 52 = .ok (.ifCond .ne 11, 3) := by decide +kernel
theorem dX6_drawing_55 : decode cX6_drawing 55 = .ok (.aload_n 0, 1) := by decide +kernel
theorem dX6_drawing_56 : decode cX6_drawing 56 = .ok (.iload_n 2, 1) := by decide +kernel
theorem dX6_drawing_57 : decode cX6_drawing 57 = .ok (.invokevirtual 149, 3) := by decide +kernel
theorem dX6_drawing_60 : decode cX6_drawing 60 = .ok (.ifCond .ne 10, 3) := by decide +kernel
theorem dX6_drawing_63 : decode cX6_drawing 63 = .ok (.aload_n 0, 1) := by decide +kernel
theorem dX6_drawing_64 : decode cX6_drawing 64 = .ok (.ldc 75, 2) := by decide +kernel
theorem dX6_drawing_66 : decode cX6_drawing 66 = .ok (.invokevirtual 57, 3) := by decide +kernel
theorem dX6_drawing_69 : decode cX6_drawing 69 = .ok (.ireturn, 1) := by decide +kernel
theorem dX6_drawing_70 : decode cX6_drawing 70 = .ok (.iconst 0, 1) := by decide +kernel
theorem dX6_drawing_71 : decode cX6_drawing 71 = .ok (.istore 4, 2) := by decide +kernel
theorem dX6_drawing_73 : decode cX6_drawing 73 = .ok (.iconst 0, 1) := by decide +kernel
theorem dX6_drawing_74 : decode cX6_drawing 74 = .ok (.istore 5, 2) := by decide +kernel
theorem dX6_drawing_76 : decode cX6_drawing 76 = .ok (.bipush 20, 2) := by decide +kernel
theorem dX6_drawing_78 : decode cX6_drawing 78 = .ok (.istore 6, 2) := by decide +kernel
theorem dX6_drawing_80 : decode cX6_drawing 80 = .ok (.iload 6, 2) := by decide +kernel
theorem dX6_drawing_82 : decode cX6_drawing 82 = .ok (.bipush (-20), 2) := by decide +kernel
theorem dX6_drawing_84 : decode cX6_drawing 84 = .ok (.if_icmp .lt 53, 3) := by decide +kernel
theorem dX6_drawing_87 : decode cX6_drawing 87 = .ok (.aload_n 0, 1) := by decide +kernel
theorem dX6_drawing_88 : decode cX6_drawing 88 = .ok (.invokevirtual 165, 3) := by decide +kernel
theorem dX6_drawing_91 : decode cX6_drawing 91 = .ok (.astore 7, 2) := by decide +kernel
theorem dX6_drawing_93 : decode cX6_drawing 93 = .ok (.aload 7, 2) := by decide +kernel
theorem dX6_drawing_95 : decode cX6_drawing 95 = .ok (.getfield 113, 3) := by decide +kernel
theorem dX6_drawing_98 : decode cX6_drawing 98 = .ok (.iload 6, 2) := by decide +kernel
theorem dX6_drawing_100 : decode cX6_drawing 100 = .ok (.putfield 139, 3) := by decide +kernel
theorem dX6_drawing_103 : decode cX6_drawing 103 = .ok (.aload 7, 2) := by decide +kernel
theorem dX6_drawing_105 : decode cX6_drawing 105 = .ok (.iload_n 2, 1) := by decide +kernel
theorem dX6_drawing_106 : decode cX6_drawing 106 = .ok (.invokevirtual 152, 3) := by decide +kernel
theorem dX6_drawing_109 : decode cX6_drawing 109 = .ok (.pop, 1) := by decide +kernel
theorem dX6_drawing_110 : decode cX6_drawing 110 = .ok (.aload 7, 2) := by decide +kernel
theorem dX6_drawing_112 : decode cX6_drawing 112 = .ok (.getfield 61, 3) := by decide +kernel
theorem dX6_drawing_115 : decode cX6_drawing 115 = .ok (.getfield 89, 3) := by decide +kernel
theorem dX6_drawing_118 : decode cX6_drawing 118 = .ok (.iload_n 1, 1) := by decide +kernel
theorem dX6_drawing_119 : decode cX6_drawing 119 = .ok (.iaload, 1) := by decide +kernel
theorem dX6_drawing_120 : decode cX6_drawing 120 = .ok (.iload_n 3, 1) := by decide +kernel
theorem dX6_drawing_121 : decode cX6_drawing 121 = .ok (.if_icmp .ne 10, 3) := by decide +kernel
theorem dX6_drawing_124 : decode cX6_drawing 124 = .ok (.iinc 4 1, 3) := by decide +kernel
theorem dX6_drawing_127 : decode cX6_drawing 127 = .ok (.iload 6, 2) := by decide +kernel
theorem dX6_drawing_129 : decode cX6_drawing 129 = .ok (.istore 5, 2) := by decide +kernel
theorem dX6_drawing_131 : decode cX6_drawing 131 = .ok (.iinc 6 (-1), 3) := by decide +kernel
theorem dX6_drawing_134 : decode cX6_drawing 134 = .ok (.goto (-54), 3) := by decide +kernel
theorem dX6_drawing_137 : decode cX6_drawing 137 = .ok (.iload 4, 2) := by decide +kernel
theorem dX6_drawing_139 : decode cX6_drawing 139 = .ok (.ifCond .ne 12, 3) := by decide +kernel
theorem dX6_drawing_142 : decode cX6_drawing 142 = .ok (.aload_n 0, 1) := by decide +kernel
theorem dX6_drawing_143 : decode cX6_drawing 143 = .ok (.ldc 184, 2) := by decide +kernel
theorem dX6_drawing_145 : decode cX6_drawing 145 = .ok (.invokevirtual 57, 3) := by decide +kernel
theorem dX6_drawing_148 : decode cX6_drawing 148 = .ok (.goto 14, 3) := by decide +kernel
theorem dX6_drawing_151 : decode cX6_drawing 151 = .ok (.bipush 100, 2) := by decide +kernel
theorem dX6_drawing_153 : decode cX6_drawing 153 = .ok (.iload 4, 2) := by decide +kernel
theorem dX6_drawing_155 : decode cX6_drawing 155 = .ok (.imul, 1) := by decide +kernel
theorem dX6_drawing_156 : decode cX6_drawing 156 = .ok (.bipush 20, 2) := by decide +kernel
theorem dX6_drawing_158 : decode cX6_drawing 158 = .ok (.iadd, 1) := by decide +kernel
theorem dX6_drawing_159 : decode cX6_drawing 159 = .ok (.iload 5, 2) := by decide +kernel
theorem dX6_drawing_161 : decode cX6_drawing 161 = .ok (.iadd, 1) := by decide +kernel
theorem dX6_drawing_162 : decode cX6_drawing 162 = .ok (.ireturn, 1) := by decide +kernel
set_option maxRecDepth 20000 in
theorem ggX6_order_X6_isWithin : GoodIn wsX6_order wsX6_isWithin := goodIn_r _ [8] (by decide +kernel) (by decide +kernel)
set_option maxRecDepth 20000 in
theorem gX6_order_X6_isWithin : GoodIn wsX6_order (va_wsS RX6 52 yX6_isWithin wsX6_isWithin) := goodIn_app (goodIn_of _ (by decide +kernel)) ggX6_order_X6_isWithin
set_option maxRecDepth 20000 in
theorem ggX6_order_X6_tell : GoodIn wsX6_order wsX6_tell := goodIn_r _ [12, 1, 13, 5, 6, 7, 8, 39, 40, 41, 42, 43, 44, 45, 46] (by decide +kernel) (by decide +kernel)
set_option maxRecDepth 20000 in
theorem gX6_order_X6_tell : GoodIn wsX6_order (wsV RX6 57 RX6 yX6_tell wsX6_tell) := goodIn_app (goodIn_of _ (by decide +kernel)) ggX6_order_X6_tell
set_option maxRecDepth 20000 in
theorem ggX6_order_X5_occupied : GoodIn wsX6_order wsX5_occupied := goodIn_r _ [18, 19, 20, 21, 22, 17, 23, 24, 56, 57, 58, 59, 60] (by decide +kernel) (by decide +kernel)
set_option maxRecDepth 20000 in
theorem gX6_order_X5_occupied : GoodIn wsX6_order (wsV RX6 191 RX5 yX5_occupied wsX5_occupied) := goodIn_app (goodIn_of _ (by decide +kernel)) ggX6_order_X5_occupied
set_option maxRecDepth 20000 in
theorem ggX6_order_X5_nextComer : GoodIn wsX6_order wsX5_nextComer := goodIn_r _ [28, 19, 29, 30, 31, 17, 32, 20, 21, 22, 23, 24, 33, 34, 35, 36, 37, 56, 57, 58, 59, 60] (by decide +kernel) (by decide +kernel)
set_option maxRecDepth 20000 in
theorem gX6_order_X5_nextComer : GoodIn wsX6_order (wsV RX6 194 RX5 yX5_nextComer wsX5_nextComer) := goodIn_app (goodIn_of _ (by decide +kernel)) ggX6_order_X5_nextComer
set_option maxRecDepth 20000 in
theorem ggX6_order_X5_cellBit : GoodIn wsX6_order wsX5_cellBit := goodIn_r _ [23, 24, 56, 57, 58, 59, 60] (by decide +kernel) (by decide +kernel)
set_option maxRecDepth 20000 in
theorem gX6_order_X5_cellBit : GoodIn wsX6_order (wsV RX6 99 RX5 yX5_cellBit wsX5_cellBit) := goodIn_app (goodIn_of _ (by decide +kernel)) ggX6_order_X5_cellBit
theorem dX6_order_0 : decode cX6_order 0 = .ok (.iload_n 1, 1) := by decide +kernel
theorem dX6_order_1 : decode cX6_order 1 = .ok (.iconst 0, 1) := by decide +kernel
theorem dX6_order_2 : decode cX6_order 2 = .ok (.bipush 15, 2) := by decide +kernel
theorem dX6_order_4 : decode cX6_order 4 = .ok (.invokestatic 52, 3) := by decide +kernel
theorem dX6_order_7 : decode cX6_order 7 = .ok (.ifCond .ne 10, 3) := by decide +kernel
theorem dX6_order_10 : decode cX6_order 10 = .ok (.aload_n 0, 1) := by decide +kernel
theorem dX6_order_11 : decode cX6_order 11 = .ok (.ldc 56, 2) := by decide +kernel
theorem dX6_order_13 : decode cX6_order 13 = .ok (.invokevirtual 57, 3) := by decide +kernel
theorem dX6_order_16 : decode cX6_order 16 = .ok (.ireturn, 1) := by decide +kernel
theorem dX6_order_17 : decode cX6_order 17 = .ok (.aload_n 0, 1) := by decide +kernel
theorem dX6_order_18 : decode cX6_order 18 = .ok (.getfield 12, 3) := by decide +kernel
theorem dX6_order_21 : decode cX6_order 21 = .ok (.getfield 61, 3) := by decide +kernel
theorem dX6_order_24 : decode cX6_order 24 = .ok (.astore_n 2, 1) := by decide +kernel
theorem dX6_order_25 : decode cX6_order 25 = .ok (.aload_n 2, 1) := by decide +kernel
theorem dX6_order_26 : decode cX6_order 26 = .ok (.invokevirtual 191, 3) := by decide +kernel
theorem dX6_order_29 : decode cX6_order 29 = .ok (.lstore_n 3, 1) := by decide +kernel
theorem dX6_order_30 : decode cX6_order 30 = .ok (.lconst 0, 1) := by decide +kernel
theorem dX6_order_31 : decode cX6_order 31 = .ok (.lstore 5, 2) := by decide +kernel
theorem dX6_order_33 : decode cX6_order 33 = .ok (.iconst (-1), 1) := by decide +kernel
theorem dX6_order_34 : decode cX6_order 34 = .ok (.istore 7, 2) := by decide +kernel
theorem dX6_order_36 : decode cX6_order 36 = .ok (.iconst 0, 1) := by decide +kernel
theorem dX6_order_37 : decode cX6_order 37 = .ok (.istore 8, 2) := by decide +kernel
theorem dX6_order_39 : decode cX6_order 39 = .ok (.iload 8, 2) := by decide +kernel
theorem dX6_order_41 : decode cX6_order 41 = .ok (.bipush 16, 2) := by decide +kernel
theorem dX6_order_43 : decode cX6_order 43 = .ok (.if_icmp .ge 58, 3) := by decide +kernel
theorem dX6_order_46 : decode cX6_order 46 = .ok (.lload 5, 2) := by decide +kernel
theorem dX6_order_48 : decode cX6_order 48 = .ok (.lload_n 3, 1) := by decide +kernel
theorem dX6_order_49 : decode cX6_order 49 = .ok (.lcmp, 1) := by decide +kernel
theorem dX6_order_50 : decode cX6_order 50 = .ok (.ifCond .eq 51, 3) := by decide +kernel
theorem dX6_order_53 : decode cX6_order 53 = .ok (.aload_n 2, 1) := by decide +kernel
theorem dX6_order_54 : decode cX6_order 54 = .ok (.lload 5, 2) := by decide +kernel
theorem dX6_order_56 : decode cX6_order 56 = .ok (.iconst 0, 1) := by decide +kernel
theorem dX6_order_57 : decode cX6_order 57 = .ok (.invokevirtual 194, 3) := by decide +kernel
theorem dX6_order_60 : decode cX6_order 60 = .ok (.istore 9, 2) := by decide +kernel
theorem dX6_order_62 : decode cX6_order 62 = .ok (.iload 9, 2) := by decide +kernel
theorem dX6_order_64 : decode cX6_order 64 = .ok (.ifCond .ge 10, 3) := by decide +kernel
theorem dX6_order_67 : decode cX6_order 67 = .ok (.aload_n 0, 1) := by decide +kernel
theorem dX6_order_68 : decode cX6_order 68 = .ok (.ldc 184, 2) := by decide +kernel
theorem dX6_order_70 : decode cX6_order 70 = .ok (.invokevirtual 57, 3) := by decide +kernel
theorem dX6_order_73 : decode cX6_order 73 = .ok (.ireturn, 1) := by decide +kernel
theorem dX6_order_74 : decode cX6_order 74 = .ok (.iload 8, 2) := by decide +kernel
theorem dX6_order_76 : decode cX6_order 76 = .ok (.iload_n 1, 1) := by decide +kernel
theorem dX6_order_77 : decode cX6_order 77 = .ok (.if_icmp .ne 7, 3) := by decide +kernel
theorem dX6_order_80 : decode cX6_order 80 = .ok (.iload 9, 2) := by decide +kernel
theorem dX6_order_82 : decode cX6_order 82 = .ok (.istore 7, 2) := by decide +kernel
theorem dX6_order_84 : decode cX6_order 84 = .ok (.lload 5, 2) := by decide +kernel
theorem dX6_order_86 : decode cX6_order 86 = .ok (.aload_n 2, 1) := by decide +kernel
theorem dX6_order_87 : decode cX6_order 87 = .ok (.iload 9, 2) := by decide +kernel
theorem dX6_order_89 : decode cX6_order 89 = .ok (.invokevirtual 99, 3) := by decide +kernel
theorem dX6_order_92 : decode cX6_order 92 = .ok (.lor, 1) := by decide +kernel
theorem dX6_order_93 : decode cX6_order 93 = .ok (.lstore 5, 2) := by decide +kernel
theorem dX6_order_95 : decode cX6_order 95 = .ok (.iinc 8 1, 3) := by decide +kernel
theorem dX6_order_98 : decode cX6_order 98 = .ok (.goto (-59), 3) := by decide +kernel
theorem dX6_order_101 : decode cX6_order 101 = .ok (.iload 7, 2) := by decide +kernel
theorem dX6_order_103 : decode cX6_order 103 = .ok (.ifCond .ge 12, 3) := by decide +kernel
theorem dX6_order_106 : decode cX6_order 106 = .ok (.aload_n 0, 1) := by decide +kernel
theorem dX6_order_107 : decode cX6_order 107 = .ok (.ldc 184, 2) := by decide +kernel
theorem dX6_order_109 : decode cX6_order 109 = .ok (.invokevirtual 57, 3) := by decide +kernel
theorem dX6_order_112 : decode cX6_order 112 = .ok (.goto 5, 3) := by decide +kernel
theorem dX6_order_115 : decode cX6_order 115 = .ok (.iload 7, 2) := by decide +kernel
theorem dX6_order_117 : decode cX6_order 117 = .ok (.ireturn, 1) := by decide +kernel
set_option maxRecDepth 20000 in
theorem ggX6_steps_X6_isWithin : GoodIn wsX6_steps wsX6_isWithin := goodIn_r _ [8] (by decide +kernel) (by decide +kernel)
set_option maxRecDepth 20000 in
theorem gX6_steps_X6_isWithin : GoodIn wsX6_steps (va_wsS RX6 52 yX6_isWithin wsX6_isWithin) := goodIn_app (goodIn_of _ (by decide +kernel)) ggX6_steps_X6_isWithin
set_option maxRecDepth 20000 in
theorem ggX6_steps_X6_tell : GoodIn wsX6_steps wsX6_tell := goodIn_r _ [12, 1, 13, 5, 6, 7, 8, 42, 43, 44, 45, 46, 47, 48, 49] (by decide +kernel) (by decide +kernel)
set_option maxRecDepth 20000 in
theorem gX6_steps_X6_tell : GoodIn wsX6_steps (wsV RX6 57 RX6 yX6_tell wsX6_tell) := goodIn_app (goodIn_of _ (by decide +kernel)) ggX6_steps_X6_tell
set_option maxRecDepth 20000 in
theorem ggX6_steps_X5_occupied : GoodIn wsX6_steps wsX5_occupied := goodIn_r _ [18, 19, 20, 21, 22, 17, 23, 24, 59, 60, 61, 62, 63] (by decide +kernel) (by decide +kernel)
set_option maxRecDepth 20000 in
theorem gX6_steps_X5_occupied : GoodIn wsX6_steps (wsV RX6 191 RX5 yX5_occupied wsX5_occupied) := goodIn_app (goodIn_of _ (by decide +kernel)) ggX6_steps_X5_occupied
set_option maxRecDepth 20000 in
theorem ggX6_steps_X5_comers : GoodIn wsX6_steps wsX5_comers := goodIn_r _ [28, 29, 30, 31, 17, 32, 19, 33, 34, 35, 36, 20, 21, 22, 23, 24, 37, 38, 39, 40, 41, 59, 60, 61, 62, 63] (by decide +kernel) (by decide +kernel)
set_option maxRecDepth 20000 in
theorem gX6_steps_X5_comers : GoodIn wsX6_steps (wsV RX6 198 RX5 yX5_comers wsX5_comers) := goodIn_app (goodIn_of _ (by decide +kernel)) ggX6_steps_X5_comers
theorem dX6_steps_0 : decode cX6_steps 0 = .ok (.iload_n 1, 1) := by decide +kernel
theorem dX6_steps_1 : decode cX6_steps 1 = .ok (.iconst 1, 1) := by decide +kernel
theorem dX6_steps_2 : decode cX6_steps 2 = .ok (.bipush 8, 2) := by decide +kernel
theorem dX6_steps_4 : decode cX6_steps 4 = .ok (.invokestatic 52, 3) := by decide +kernel
theorem dX6_steps_7 : decode cX6_steps 7 = .ok (.ifCond .ne 10, 3) := by decide +kernel
theorem dX6_steps_10 : decode cX6_steps 10 = .ok (.aload_n 0, 1) := by decide +kernel
theorem dX6_steps_11 : decode cX6_steps 11 = .ok (.ldc 56, 2) := by decide +kernel
theorem dX6_steps_13 : decode cX6_steps 13 = .ok (.invokevirtual 57, 3) := by decide +kernel
theorem dX6_steps_16 : decode cX6_steps 16 = .ok (.ireturn, 1) := by decide +kernel
theorem dX6_steps_17 : decode cX6_steps 17 = .ok (.aload_n 0, 1) := by decide +kernel
theorem dX6_steps_18 : decode cX6_steps 18 = .ok (.getfield 12, 3) := by decide +kernel
theorem dX6_steps_21 : decode cX6_steps 21 = .ok (.getfield 61, 3) := by decide +kernel
theorem dX6_steps_24 : decode cX6_steps 24 = .ok (.invokevirtual 191, 3) := by decide +kernel
theorem dX6_steps_27 : decode cX6_steps 27 = .ok (.lstore_n 2, 1) := by decide +kernel
theorem dX6_steps_28 : decode cX6_steps 28 = .ok (.lconst 0, 1) := by decide +kernel
theorem dX6_steps_29 : decode cX6_steps 29 = .ok (.lstore 4, 2) := by decide +kernel
theorem dX6_steps_31 : decode cX6_steps 31 = .ok (.iconst 0, 1) := by decide +kernel
theorem dX6_steps_32 : decode cX6_steps 32 = .ok (.istore 6, 2) := by decide +kernel
theorem dX6_steps_34 : decode cX6_steps 34 = .ok (.iload 6, 2) := by decide +kernel
theorem dX6_steps_36 : decode cX6_steps 36 = .ok (.bipush 16, 2) := by decide +kernel
theorem dX6_steps_38 : decode cX6_steps 38 = .ok (.if_icmp .gt 37, 3) := by decide +kernel
theorem dX6_steps_41 : decode cX6_steps 41 = .ok (.lload 4, 2) := by decide +kernel
theorem dX6_steps_43 : decode cX6_steps 43 = .ok (.lload_n 2, 1) := by decide +kernel
theorem dX6_steps_44 : decode cX6_steps 44 = .ok (.lcmp, 1) := by decide +kernel
theorem dX6_steps_45 : decode cX6_steps 45 = .ok (.ifCond .ne 6, 3) := by decide +kernel
theorem dX6_steps_48 : decode cX6_steps 48 = .ok (.iload 6, 2) := by decide +kernel
theorem dX6_steps_50 : decode cX6_steps 50 = .ok (.ireturn, 1) := by decide +kernel
theorem dX6_steps_51 : decode cX6_steps 51 = .ok (.lload 4, 2) := by decide +kernel
theorem dX6_steps_53 : decode cX6_steps 53 = .ok (.aload_n 0, 1) := by decide +kernel
theorem dX6_steps_54 : decode cX6_steps 54 = .ok (.getfield 12, 3) := by decide +kernel
theorem dX6_steps_57 : decode cX6_steps 57 = .ok (.getfield 61, 3) := by decide +kernel
theorem dX6_steps_60 : decode cX6_steps 60 = .ok (.lload 4, 2) := by decide +kernel
theorem dX6_steps_62 : decode cX6_steps 62 = .ok (.iload_n 1, 1) := by decide +kernel
theorem dX6_steps_63 : decode cX6_steps 63 = .ok (.invokevirtual 198, 3) := by decide +kernel
theorem dX6_steps_66 : decode cX6_steps 66 = .ok (.lor, 1) := by decide +kernel
theorem dX6_steps_67 : decode cX6_steps 67 = .ok (.lstore 4, 2) := by decide +kernel
theorem dX6_steps_69 : decode cX6_steps 69 = .ok (.iinc 6 1, 3) := by decide +kernel
theorem dX6_steps_72 : decode cX6_steps 72 = .ok (.goto (-38), 3) := by decide +kernel
theorem dX6_steps_75 : decode cX6_steps 75 = .ok (.aload_n 0, 1) := by decide +kernel
theorem dX6_steps_76 : decode cX6_steps 76 = .ok (.ldc 184, 2) := by decide +kernel
theorem dX6_steps_78 : decode cX6_steps 78 = .ok (.invokevirtual 57, 3) := by decide +kernel
theorem dX6_steps_81 : decode cX6_steps 81 = .ok (.ireturn, 1) := by decide +kernel
set_option maxRecDepth 20000 in
theorem ggX6_shakes_X6_isTune : GoodIn wsX6_shakes wsX6_isTune := goodIn_r _ [7, 8, 9, 6, 10] (by decide +kernel) (by decide +kernel)
set_option maxRecDepth 20000 in
theorem gX6_shakes_X6_isTune : GoodIn wsX6_shakes (va_wsS RX6 202 yX6_isTune wsX6_isTune) := goodIn_app (goodIn_of _ (by decide +kernel)) ggX6_shakes_X6_isTune
set_option maxRecDepth 20000 in
theorem ggX6_shakes_X6_tell : GoodIn wsX6_shakes wsX6_tell := goodIn_r _ [14, 1, 15, 8, 9, 6, 10, 28, 29, 30, 31, 32, 33, 34, 35] (by decide +kernel) (by decide +kernel)
set_option maxRecDepth 20000 in
theorem gX6_shakes_X6_tell : GoodIn wsX6_shakes (wsV RX6 57 RX6 yX6_tell wsX6_tell) := goodIn_app (goodIn_of _ (by decide +kernel)) ggX6_shakes_X6_tell
set_option maxRecDepth 20000 in
theorem ggX6_shakes_X5_shakenSet : GoodIn wsX6_shakes wsX5_shakenSet := goodIn_r _ [20, 21, 22, 23, 24, 25, 19, 26, 27, 45, 46, 47, 48, 49] (by decide +kernel) (by decide +kernel)
set_option maxRecDepth 20000 in
theorem gX6_shakes_X5_shakenSet : GoodIn wsX6_shakes (wsV RX6 205 RX5 yX5_shakenSet wsX5_shakenSet) := goodIn_app (goodIn_of _ (by decide +kernel)) ggX6_shakes_X5_shakenSet
theorem dX6_shakes_0 : decode cX6_shakes 0 = .ok (.iload_n 1, 1) := by decide +kernel
theorem dX6_shakes_1 : decode cX6_shakes 1 = .ok (.invokestatic 202, 3) := by decide +kernel
theorem dX6_shakes_4 : decode cX6_shakes 4 = .ok (.ifCond .ne 10, 3) := by decide +kernel
theorem dX6_shakes_7 : decode cX6_shakes 7 = .ok (.aload_n 0, 1) := by decide +kernel
theorem dX6_shakes_8 : decode cX6_shakes 8 = .ok (.ldc 56, 2) := by decide +kernel
theorem dX6_shakes_10 : decode cX6_shakes 10 = .ok (.invokevirtual 57, 3) := by decide +kernel
theorem dX6_shakes_13 : decode cX6_shakes 13 = .ok (.ireturn, 1) := by decide +kernel
theorem dX6_shakes_14 : decode cX6_shakes 14 = .ok (.aload_n 0, 1) := by decide +kernel
theorem dX6_shakes_15 : decode cX6_shakes 15 = .ok (.getfield 12, 3) := by decide +kernel
theorem dX6_shakes_18 : decode cX6_shakes 18 = .ok (.getfield 61, 3) := by decide +kernel
theorem dX6_shakes_21 : decode cX6_shakes 21 = .ok (.iload_n 1, 1) := by decide +kernel
theorem dX6_shakes_22 : decode cX6_shakes 22 = .ok (.invokevirtual 205, 3) := by decide +kernel
theorem dX6_shakes_25 : decode cX6_shakes 25 = .ok (.ireturn, 1) := by decide +kernel
set_option maxRecDepth 20000 in
theorem ggX6_dance_X6_isTune : GoodIn wsX6_dance wsX6_isTune := goodIn_r _ [6, 7, 8, 5, 9] (by decide +kernel) (by decide +kernel)
set_option maxRecDepth 20000 in
theorem gX6_dance_X6_isTune : GoodIn wsX6_dance (va_wsS RX6 202 yX6_isTune wsX6_isTune) := goodIn_app (goodIn_of _ (by decide +kernel)) ggX6_dance_X6_isTune
set_option maxRecDepth 20000 in
theorem ggX6_dance_X6_tell : GoodIn wsX6_dance wsX6_tell := goodIn_r _ [13, 1, 14, 7, 8, 5, 9, 82, 83, 84, 85, 86, 87, 88, 89] (by decide +kernel) (by decide +kernel)
set_option maxRecDepth 20000 in
theorem gX6_dance_X6_tell : GoodIn wsX6_dance (wsV RX6 57 RX6 yX6_tell wsX6_tell) := goodIn_app (goodIn_of _ (by decide +kernel)) ggX6_dance_X6_tell
set_option maxRecDepth 20000 in
theorem ggX6_dance_X1_danceTo : GoodIn wsX6_dance wsX1_danceTo := goodIn_r _ [19, 20, 21, 22, 23, 24, 25, 26, 27, 28, 29, 30, 31, 32, 33, 34, 35, 36, 37, 38, 18, 39, 40, 41, 42, 43, 44, 45, 46, 5, 47, 7, 8, 9, 48, 49, 50, 51, 52, 53, 54, 55, 56, 57, 58, 59, 60, 61, 62, 63, 64, 65, 66, 67, 68, 69, 70, 71, 72, 73, 74, 75, 76, 77, 78, 79, 80, 81, 90, 91, 92, 93, 94, 95, 96, 97, 98, 99, 100, 101, 102, 103] (by decide +kernel) (by decide +kernel)
set_option maxRecDepth 20000 in
theorem gX6_dance_X1_danceTo : GoodIn wsX6_dance (wsV RX6 208 RX1 yX1_danceTo wsX1_danceTo) := goodIn_app (goodIn_of _ (by decide +kernel)) ggX6_dance_X1_danceTo
theorem dX6_dance_0 : decode cX6_dance 0 = .ok (.iload_n 1, 1) := by decide +kernel
theorem dX6_dance_1 : decode cX6_dance 1 = .ok (.invokestatic 202, 3) := by decide +kernel
theorem dX6_dance_4 : decode cX6_dance 4 = .ok (.ifCond .ne 10, 3) := by decide +kernel
theorem dX6_dance_7 : decode cX6_dance 7 = .ok (.aload_n 0, 1) := by decide +kernel
theorem dX6_dance_8 : decode cX6_dance 8 = .ok (.ldc 56, 2) := by decide +kernel
theorem dX6_dance_10 : decode cX6_dance 10 = .ok (.invokevirtual 57, 3) := by decide +kernel
theorem dX6_dance_13 : decode cX6_dance 13 = .ok (.ireturn, 1) := by decide +kernel
theorem dX6_dance_14 : decode cX6_dance 14 = .ok (.aload_n 0, 1) := by decide +kernel
theorem dX6_dance_15 : decode cX6_dance 15 = .ok (.getfield 12, 3) := by decide +kernel
theorem dX6_dance_18 : decode cX6_dance 18 = .ok (.iload_n 1, 1) := by decide +kernel
theorem dX6_dance_19 : decode cX6_dance 19 = .ok (.invokevirtual 208, 3) := by decide +kernel
theorem dX6_dance_22 : decode cX6_dance 22 = .ok (.ireturn, 1) := by decide +kernel
set_option maxRecDepth 20000 in
theorem ggX6_tune_X6_freshTrial : GoodIn wsX6_tune wsX6_freshTrial := goodIn_r _ [5, 6, 7, 8, 9, 10, 11, 12, 13, 14, 15, 16, 17, 18, 19, 20, 21, 22, 23, 24, 25, 26, 27, 28, 29, 30, 31, 32, 33, 34, 35, 36, 37, 38, 39, 40, 41, 42, 43, 44, 105, 106, 107, 108, 109, 110, 111, 112, 113, 114, 115, 116, 117, 118, 119, 120, 121, 122, 123, 124, 125, 126, 127, 128, 129, 130] (by decide +kernel) (by decide +kernel)
set_option maxRecDepth 20000 in
theorem gX6_tune_X6_freshTrial : GoodIn wsX6_tune (wsV RX6 165 RX6 yX6_freshTrial wsX6_freshTrial) := goodIn_app (goodIn_of _ (by decide +kernel)) ggX6_tune_X6_freshTrial
set_option maxRecDepth 20000 in
theorem ggX6_tune_X1_danceTo : GoodIn wsX6_tune wsX1_danceTo := goodIn_r _ [48, 13, 49, 50, 21, 51, 52, 53, 27, 54, 29, 33, 55, 56, 57, 58, 32, 59, 60, 61, 11, 62, 63, 64, 65, 66, 67, 34, 68, 4, 69, 70, 71, 72, 73, 74, 75, 76, 22, 77, 78, 79, 80, 81, 82, 83, 84, 85, 86, 87, 88, 30, 89, 90, 91, 92, 93, 94, 95, 96, 97, 98, 99, 100, 101, 102, 103, 104, 113, 114, 115, 116, 117, 118, 119, 120, 121, 122, 123, 124, 125, 126] (by decide +kernel) (by decide +kernel)
set_option maxRecDepth 20000 in
theorem gX6_tune_X1_danceTo : GoodIn wsX6_tune (wsV RX6 208 RX1 yX1_danceTo wsX1_danceTo) := goodIn_app (goodIn_of _ (by decide +kernel)) ggX6_tune_X1_danceTo
theorem dX6_tune_0 : decode cX6_tune 0 = .ok (.iconst 2, 1) := by decide +kernel
theorem dX6_tune_1 : decode cX6_tune 1 = .ok (.istore_n 1, 1) := by decide +kernel
theorem dX6_tune_2 : decode cX6_tune 2 = .ok (.bipush 17, 2) := by decide +kernel
theorem dX6_tune_4 : decode cX6_tune 4 = .ok (.istore_n 2, 1) := by decide +kernel
theorem dX6_tune_5 : decode cX6_tune 5 = .ok (.iconst 2, 1) := by decide +kernel
theorem dX6_tune_6 : decode cX6_tune 6 = .ok (.istore_n 3, 1) := by decide +kernel
theorem dX6_tune_7 : decode cX6_tune 7 = .ok (.iload_n 3, 1) := by decide +kernel
theorem dX6_tune_8 : decode cX6_tune 8 = .ok (.bipush 9, 2) := by decide +kernel
theorem dX6_tune_10 : decode cX6_tune 10 = .ok (.if_icmp .gt 30, 3) := by decide +kernel
theorem dX6_tune_13 : decode cX6_tune 13 = .ok (.aload_n 0, 1) := by decide +kernel
theorem dX6_tune_14 : decode cX6_tune 14 = .ok (.invokevirtual 165, 3) := by decide +kernel
theorem dX6_tune_17 : decode cX6_tune 17 = .ok (.iload_n 3, 1) := by decide +kernel
theorem dX6_tune_18 : decode cX6_tune 18 = .ok (.invokevirtual 208, 3) := by decide +kernel
theorem dX6_tune_21 : decode cX6_tune 21 = .ok (.istore 4, 2) := by decide +kernel
theorem dX6_tune_23 : decode cX6_tune 23 = .ok (.iload 4, 2) := by decide +kernel
theorem dX6_tune_25 : decode cX6_tune 25 = .ok (.iload_n 2, 1) := by decide +kernel
theorem dX6_tune_26 : decode cX6_tune 26 = .ok (.if_icmp .ge 8, 3) := by decide +kernel
theorem dX6_tune_29 : decode cX6_tune 29 = .ok (.iload_n 3, 1) := by decide +kernel
theorem dX6_tune_30 : decode cX6_tune 30 = .ok (.istore_n 1, 1) := by decide +kernel
theorem dX6_tune_31 : decode cX6_tune 31 = .ok (.iload 4, 2) := by decide +kernel
theorem dX6_tune_33 : decode cX6_tune 33 = .ok (.istore_n 2, 1) := by decide +kernel
theorem dX6_tune_34 : decode cX6_tune 34 = .ok (.iinc 3 1, 3) := by decide +kernel
theorem dX6_tune_37 : decode cX6_tune 37 = .ok (.goto (-30), 3) := by decide +kernel
theorem dX6_tune_40 : decode cX6_tune 40 = .ok (.iload_n 1, 1) := by decide +kernel
theorem dX6_tune_41 : decode cX6_tune 41 = .ok (.ireturn, 1) := by decide +kernel
set_option maxRecDepth 20000 in
theorem ggX6_wind_X6_isWithin : GoodIn wsX6_wind wsX6_isWithin := goodIn_r _ [8] (by decide +kernel) (by decide +kernel)
set_option maxRecDepth 20000 in
theorem gX6_wind_X6_isWithin : GoodIn wsX6_wind (va_wsS RX6 52 yX6_isWithin wsX6_isWithin) := goodIn_app (goodIn_of _ (by decide +kernel)) ggX6_wind_X6_isWithin
set_option maxRecDepth 20000 in
theorem ggX6_wind_X6_tell : GoodIn wsX6_wind wsX6_tell := goodIn_r _ [12, 1, 13, 5, 6, 7, 8, 36, 37, 38, 39, 40, 41, 42, 43] (by decide +kernel) (by decide +kernel)
set_option maxRecDepth 20000 in
theorem gX6_wind_X6_tell : GoodIn wsX6_wind (wsV RX6 57 RX6 yX6_tell wsX6_tell) := goodIn_app (goodIn_of _ (by decide +kernel)) ggX6_wind_X6_tell
set_option maxRecDepth 20000 in
theorem ggX6_wind_X1_draw : GoodIn wsX6_wind wsX1_draw := goodIn_r _ [18, 19, 20, 44, 45, 46, 47, 48, 49, 50, 51, 52] (by decide +kernel) (by decide +kernel)
set_option maxRecDepth 20000 in
theorem gX6_wind_X1_draw : GoodIn wsX6_wind (wsV RX6 211 RX1 yX1_draw wsX1_draw) := goodIn_app (goodIn_of _ (by decide +kernel)) ggX6_wind_X1_draw
set_option maxRecDepth 20000 in
theorem ggX6_wind_X0_isLit : GoodIn wsX6_wind wsX0_isLit := goodIn_r _ [25, 26, 53, 54, 55, 56] (by decide +kernel) (by decide +kernel)
set_option maxRecDepth 20000 in
theorem gX6_wind_X0_isLit : GoodIn wsX6_wind (wsV RX6 132 RX0 yX0_isLit wsX0_isLit) := goodIn_app (goodIn_of _ (by decide +kernel)) ggX6_wind_X0_isLit
set_option maxRecDepth 20000 in
theorem ggX6_wind_X0_setLit : GoodIn wsX6_wind wsX0_setLit := goodIn_r _ [30, 26, 53, 54, 55, 56] (by decide +kernel) (by decide +kernel)
set_option maxRecDepth 20000 in
theorem gX6_wind_X0_setLit : GoodIn wsX6_wind (wsV RX6 135 RX0 yX0_setLit wsX0_setLit) := goodIn_app (goodIn_of _ (by decide +kernel)) ggX6_wind_X0_setLit
set_option maxRecDepth 20000 in
theorem ggX6_wind_X0_lightOf : GoodIn wsX6_wind wsX0_lightOf := goodIn_r _ [34, 35, 53, 54, 55, 56] (by decide +kernel) (by decide +kernel)
set_option maxRecDepth 20000 in
theorem gX6_wind_X0_lightOf : GoodIn wsX6_wind (wsV RX6 146 RX0 yX0_lightOf wsX0_lightOf) := goodIn_app (goodIn_of _ (by decide +kernel)) ggX6_wind_X0_lightOf
theorem dX6_wind_0 : decode cX6_wind 0 = .ok (.iload_n 1, 1) := by decide +kernel
