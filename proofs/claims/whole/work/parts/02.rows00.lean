theorem dX0_init_0 : decode cX0_init 0 = .ok (.aload_n 0, 1) := by decide +kernel
theorem dX0_init_1 : decode cX0_init 1 = .ok (.invokespecial 3, 3) := by decide +kernel
theorem dX0_init_4 : decode cX0_init 4 = .ok (.aload_n 0, 1) := by decide +kernel
theorem dX0_init_5 : decode cX0_init 5 = .ok (.bipush 6, 2) := by decide +kernel
theorem dX0_init_7 : decode cX0_init 7 = .ok (.newarray .int, 2) := by decide +kernel
theorem dX0_init_9 : decode cX0_init 9 = .ok (.putfield 9, 3) := by decide +kernel
theorem dX0_init_12 : decode cX0_init 12 = .ok (.aload_n 0, 1) := by decide +kernel
theorem dX0_init_13 : decode cX0_init 13 = .ok (.bipush 6, 2) := by decide +kernel
theorem dX0_init_15 : decode cX0_init 15 = .ok (.newarray .int, 2) := by decide +kernel
theorem dX0_init_17 : decode cX0_init 17 = .ok (.putfield 15, 3) := by decide +kernel
theorem dX0_init_20 : decode cX0_init 20 = .ok (.aload_n 0, 1) := by decide +kernel
theorem dX0_init_21 : decode cX0_init 21 = .ok (.bipush (-5), 2) := by decide +kernel
theorem dX0_init_23 : decode cX0_init 23 = .ok (.putfield 18, 3) := by decide +kernel
theorem dX0_init_26 : decode cX0_init 26 = .ok (.return_, 1) := by decide +kernel
theorem dX0_copyFrom_0 : decode cX0_copyFrom 0 = .ok (.aload_n 1, 1) := by decide +kernel
theorem dX0_copyFrom_1 : decode cX0_copyFrom 1 = .ok (.getfield 9, 3) := by decide +kernel
theorem dX0_copyFrom_4 : decode cX0_copyFrom 4 = .ok (.iconst 0, 1) := by decide +kernel
theorem dX0_copyFrom_5 : decode cX0_copyFrom 5 = .ok (.aload_n 0, 1) := by decide +kernel
theorem dX0_copyFrom_6 : decode cX0_copyFrom 6 = .ok (.getfield 9, 3) := by decide +kernel
theorem dX0_copyFrom_9 : decode cX0_copyFrom 9 = .ok (.iconst 0, 1) := by decide +kernel
theorem dX0_copyFrom_10 : decode cX0_copyFrom 10 = .ok (.bipush 6, 2) := by decide +kernel
theorem dX0_copyFrom_12 : decode cX0_copyFrom 12 = .ok (.invokestatic 22, 3) := by decide +kernel
theorem dX0_copyFrom_15 : decode cX0_copyFrom 15 = .ok (.aload_n 1, 1) := by decide +kernel
theorem dX0_copyFrom_16 : decode cX0_copyFrom 16 = .ok (.getfield 15, 3) := by decide +kernel
theorem dX0_copyFrom_19 : decode cX0_copyFrom 19 = .ok (.iconst 0, 1) := by decide +kernel
theorem dX0_copyFrom_20 : decode cX0_copyFrom 20 = .ok (.aload_n 0, 1) := by decide +kernel
theorem dX0_copyFrom_21 : decode cX0_copyFrom 21 = .ok (.getfield 15, 3) := by decide +kernel
theorem dX0_copyFrom_24 : decode cX0_copyFrom 24 = .ok (.iconst 0, 1) := by decide +kernel
theorem dX0_copyFrom_25 : decode cX0_copyFrom 25 = .ok (.bipush 6, 2) := by decide +kernel
theorem dX0_copyFrom_27 : decode cX0_copyFrom 27 = .ok (.invokestatic 22, 3) := by decide +kernel
theorem dX0_copyFrom_30 : decode cX0_copyFrom 30 = .ok (.aload_n 0, 1) := by decide +kernel
theorem dX0_copyFrom_31 : decode cX0_copyFrom 31 = .ok (.aload_n 1, 1) := by decide +kernel
theorem dX0_copyFrom_32 : decode cX0_copyFrom 32 = .ok (.getfield 28, 3) := by decide +kernel
theorem dX0_copyFrom_35 : decode cX0_copyFrom 35 = .ok (.putfield 28, 3) := by decide +kernel
theorem dX0_copyFrom_38 : decode cX0_copyFrom 38 = .ok (.aload_n 0, 1) := by decide +kernel
theorem dX0_copyFrom_39 : decode cX0_copyFrom 39 = .ok (.aload_n 1, 1) := by decide +kernel
theorem dX0_copyFrom_40 : decode cX0_copyFrom 40 = .ok (.getfield 18, 3) := by decide +kernel
theorem dX0_copyFrom_43 : decode cX0_copyFrom 43 = .ok (.putfield 18, 3) := by decide +kernel
theorem dX0_copyFrom_46 : decode cX0_copyFrom 46 = .ok (.return_, 1) := by decide +kernel
theorem dX0_isLit_0 : decode cX0_isLit 0 = .ok (.aload_n 0, 1) := by decide +kernel
theorem dX0_isLit_1 : decode cX0_isLit 1 = .ok (.getfield 28, 3) := by decide +kernel
theorem dX0_isLit_4 : decode cX0_isLit 4 = .ok (.iload_n 1, 1) := by decide +kernel
theorem dX0_isLit_5 : decode cX0_isLit 5 = .ok (.iushr, 1) := by decide +kernel
theorem dX0_isLit_6 : decode cX0_isLit 6 = .ok (.iconst 1, 1) := by decide +kernel
theorem dX0_isLit_7 : decode cX0_isLit 7 = .ok (.iand, 1) := by decide +kernel
theorem dX0_isLit_8 : decode cX0_isLit 8 = .ok (.ifCond .eq 7, 3) := by decide +kernel
theorem dX0_isLit_11 : decode cX0_isLit 11 = .ok (.iconst 1, 1) := by decide +kernel
theorem dX0_isLit_12 : decode cX0_isLit 12 = .ok (.goto 4, 3) := by decide +kernel
theorem dX0_isLit_15 : decode cX0_isLit 15 = .ok (.iconst 0, 1) := by decide +kernel
theorem dX0_isLit_16 : decode cX0_isLit 16 = .ok (.ireturn, 1) := by decide +kernel
theorem dX0_setLit_0 : decode cX0_setLit 0 = .ok (.iconst 1, 1) := by decide +kernel
theorem dX0_setLit_1 : decode cX0_setLit 1 = .ok (.iload_n 1, 1) := by decide +kernel
theorem dX0_setLit_2 : decode cX0_setLit 2 = .ok (.ishl, 1) := by decide +kernel
theorem dX0_setLit_3 : decode cX0_setLit 3 = .ok (.istore_n 3, 1) := by decide +kernel
theorem dX0_setLit_4 : decode cX0_setLit 4 = .ok (.aload_n 0, 1) := by decide +kernel
theorem dX0_setLit_5 : decode cX0_setLit 5 = .ok (.iload_n 2, 1) := by decide +kernel
theorem dX0_setLit_6 : decode cX0_setLit 6 = .ok (.ifCond .eq 12, 3) := by decide +kernel
theorem dX0_setLit_9 : decode cX0_setLit 9 = .ok (.aload_n 0, 1) := by decide +kernel
theorem dX0_setLit_10 : decode cX0_setLit 10 = .ok (.getfield 28, 3) := by decide +kernel
theorem dX0_setLit_13 : decode cX0_setLit 13 = .ok (.iload_n 3, 1) := by decide +kernel
theorem dX0_setLit_14 : decode cX0_setLit 14 = .ok (.ior, 1) := by decide +kernel
theorem dX0_setLit_15 : decode cX0_setLit 15 = .ok (.goto 11, 3) := by decide +kernel
theorem dX0_setLit_18 : decode cX0_setLit 18 = .ok (.aload_n 0, 1) := by decide +kernel
theorem dX0_setLit_19 : decode cX0_setLit 19 = .ok (.getfield 28, 3) := by decide +kernel
theorem dX0_setLit_22 : decode cX0_setLit 22 = .ok (.iload_n 3, 1) := by decide +kernel
theorem dX0_setLit_23 : decode cX0_setLit 23 = .ok (.iconst (-1), 1) := by decide +kernel
theorem dX0_setLit_24 : decode cX0_setLit 24 = .ok (.ixor, 1) := by decide +kernel
theorem dX0_setLit_25 : decode cX0_setLit 25 = .ok (.iand, 1) := by decide +kernel
theorem dX0_setLit_26 : decode cX0_setLit 26 = .ok (.putfield 28, 3) := by decide +kernel
theorem dX0_setLit_29 : decode cX0_setLit 29 = .ok (.return_, 1) := by decide +kernel
theorem dX0_lightOf_0 : decode cX0_lightOf 0 = .ok (.iconst 0, 1) := by decide +kernel
theorem dX0_lightOf_1 : decode cX0_lightOf 1 = .ok (.istore_n 2, 1) := by decide +kernel
theorem dX0_lightOf_2 : decode cX0_lightOf 2 = .ok (.iconst 0, 1) := by decide +kernel
theorem dX0_lightOf_3 : decode cX0_lightOf 3 = .ok (.istore_n 3, 1) := by decide +kernel
theorem dX0_lightOf_4 : decode cX0_lightOf 4 = .ok (.iload_n 3, 1) := by decide +kernel
theorem dX0_lightOf_5 : decode cX0_lightOf 5 = .ok (.bipush 6, 2) := by decide +kernel
theorem dX0_lightOf_7 : decode cX0_lightOf 7 = .ok (.if_icmp .ge 26, 3) := by decide +kernel
theorem dX0_lightOf_10 : decode cX0_lightOf 10 = .ok (.iload_n 1, 1) := by decide +kernel
theorem dX0_lightOf_11 : decode cX0_lightOf 11 = .ok (.iload_n 3, 1) := by decide +kernel
theorem dX0_lightOf_12 : decode cX0_lightOf 12 = .ok (.iushr, 1) := by decide +kernel
theorem dX0_lightOf_13 : decode cX0_lightOf 13 = .ok (.iconst 1, 1) := by decide +kernel
theorem dX0_lightOf_14 : decode cX0_lightOf 14 = .ok (.iand, 1) := by decide +kernel
theorem dX0_lightOf_15 : decode cX0_lightOf 15 = .ok (.ifCond .eq 12, 3) := by decide +kernel
theorem dX0_lightOf_18 : decode cX0_lightOf 18 = .ok (.iload_n 2, 1) := by decide +kernel
theorem dX0_lightOf_19 : decode cX0_lightOf 19 = .ok (.aload_n 0, 1) := by decide +kernel
theorem dX0_lightOf_20 : decode cX0_lightOf 20 = .ok (.getfield 15, 3) := by decide +kernel
theorem dX0_lightOf_23 : decode cX0_lightOf 23 = .ok (.iload_n 3, 1) := by decide +kernel
theorem dX0_lightOf_24 : decode cX0_lightOf 24 = .ok (.iaload, 1) := by decide +kernel
theorem dX0_lightOf_25 : decode cX0_lightOf 25 = .ok (.iadd, 1) := by decide +kernel
theorem dX0_lightOf_26 : decode cX0_lightOf 26 = .ok (.istore_n 2, 1) := by decide +kernel
theorem dX0_lightOf_27 : decode cX0_lightOf 27 = .ok (.iinc 3 1, 3) := by decide +kernel
theorem dX0_lightOf_30 : decode cX0_lightOf 30 = .ok (.goto (-26), 3) := by decide +kernel
theorem dX0_lightOf_33 : decode cX0_lightOf 33 = .ok (.iload_n 2, 1) := by decide +kernel
theorem dX0_lightOf_34 : decode cX0_lightOf 34 = .ok (.ireturn, 1) := by decide +kernel
set_option maxRecDepth 20000 in
theorem ggX0_warmthAt_X0_isLit : GoodIn wsX0_warmthAt wsX0_isLit := goodIn_r _ [8, 9, 17, 18, 19, 20] (by decide +kernel) (by decide +kernel)
set_option maxRecDepth 20000 in
theorem gX0_warmthAt_X0_isLit : GoodIn wsX0_warmthAt (wsV RX0 31 RX0 yX0_isLit wsX0_isLit) := goodIn_app (goodIn_of _ (by decide +kernel)) ggX0_warmthAt_X0_isLit
set_option maxRecDepth 20000 in
theorem ggX0_warmthAt_X0_far : GoodIn wsX0_warmthAt wsX0_far := goodIn_r _ [12, 13, 14, 15, 16] (by decide +kernel) (by decide +kernel)
set_option maxRecDepth 20000 in
theorem gX0_warmthAt_X0_far : GoodIn wsX0_warmthAt (va_wsS RX0 35 yX0_far wsX0_far) := goodIn_app (goodIn_of _ (by decide +kernel)) ggX0_warmthAt_X0_far
theorem dX0_warmthAt_0 : decode cX0_warmthAt 0 = .ok (.aload_n 0, 1) := by decide +kernel
theorem dX0_warmthAt_1 : decode cX0_warmthAt 1 = .ok (.getfield 18, 3) := by decide +kernel
theorem dX0_warmthAt_4 : decode cX0_warmthAt 4 = .ok (.istore_n 2, 1) := by decide +kernel
theorem dX0_warmthAt_5 : decode cX0_warmthAt 5 = .ok (.iconst 0, 1) := by decide +kernel
theorem dX0_warmthAt_6 : decode cX0_warmthAt 6 = .ok (.istore_n 3, 1) := by decide +kernel
theorem dX0_warmthAt_7 : decode cX0_warmthAt 7 = .ok (.iload_n 3, 1) := by decide +kernel
theorem dX0_warmthAt_8 : decode cX0_warmthAt 8 = .ok (.bipush 6, 2) := by decide +kernel
theorem dX0_warmthAt_10 : decode cX0_warmthAt 10 = .ok (.if_icmp .ge 39, 3) := by decide +kernel
theorem dX0_warmthAt_13 : decode cX0_warmthAt 13 = .ok (.aload_n 0, 1) := by decide +kernel
theorem dX0_warmthAt_14 : decode cX0_warmthAt 14 = .ok (.iload_n 3, 1) := by decide +kernel
theorem dX0_warmthAt_15 : decode cX0_warmthAt 15 = .ok (.invokevirtual 31, 3) := by decide +kernel
theorem dX0_warmthAt_18 : decode cX0_warmthAt 18 = .ok (.ifCond .eq 25, 3) := by decide +kernel
theorem dX0_warmthAt_21 : decode cX0_warmthAt 21 = .ok (.iload_n 2, 1) := by decide +kernel
theorem dX0_warmthAt_22 : decode cX0_warmthAt 22 = .ok (.aload_n 0, 1) := by decide +kernel
theorem dX0_warmthAt_23 : decode cX0_warmthAt 23 = .ok (.getfield 15, 3) := by decide +kernel
theorem dX0_warmthAt_26 : decode cX0_warmthAt 26 = .ok (.iload_n 3, 1) := by decide +kernel
theorem dX0_warmthAt_27 : decode cX0_warmthAt 27 = .ok (.iaload, 1) := by decide +kernel
theorem dX0_warmthAt_28 : decode cX0_warmthAt 28 = .ok (.aload_n 0, 1) := by decide +kernel
theorem dX0_warmthAt_29 : decode cX0_warmthAt 29 = .ok (.getfield 9, 3) := by decide +kernel
theorem dX0_warmthAt_32 : decode cX0_warmthAt 32 = .ok (.iload_n 3, 1) := by decide +kernel
theorem dX0_warmthAt_33 : decode cX0_warmthAt 33 = .ok (.iaload, 1) := by decide +kernel
theorem dX0_warmthAt_34 : decode cX0_warmthAt 34 = .ok (.iload_n 1, 1) := by decide +kernel
theorem dX0_warmthAt_35 : decode cX0_warmthAt 35 = .ok (.invokestatic 35, 3) := by decide +kernel
theorem dX0_warmthAt_38 : decode cX0_warmthAt 38 = .ok (.iconst 1, 1) := by decide +kernel
theorem dX0_warmthAt_39 : decode cX0_warmthAt 39 = .ok (.iadd, 1) := by decide +kernel
theorem dX0_warmthAt_40 : decode cX0_warmthAt 40 = .ok (.idiv, 1) := by decide +kernel
theorem dX0_warmthAt_41 : decode cX0_warmthAt 41 = .ok (.iadd, 1) := by decide +kernel
theorem dX0_warmthAt_42 : decode cX0_warmthAt 42 = .ok (.istore_n 2, 1) := by decide +kernel
theorem dX0_warmthAt_43 : decode cX0_warmthAt 43 = .ok (.iinc 3 1, 3) := by decide +kernel
theorem dX0_warmthAt_46 : decode cX0_warmthAt 46 = .ok (.goto (-39), 3) := by decide +kernel
theorem dX0_warmthAt_49 : decode cX0_warmthAt 49 = .ok (.iload_n 2, 1) := by decide +kernel
theorem dX0_warmthAt_50 : decode cX0_warmthAt 50 = .ok (.ireturn, 1) := by decide +kernel
theorem dX0_far_0 : decode cX0_far 0 = .ok (.iload_n 0, 1) := by decide +kernel
theorem dX0_far_1 : decode cX0_far 1 = .ok (.bipush 8, 2) := by decide +kernel
theorem dX0_far_3 : decode cX0_far 3 = .ok (.idiv, 1) := by decide +kernel
theorem dX0_far_4 : decode cX0_far 4 = .ok (.iload_n 1, 1) := by decide +kernel
theorem dX0_far_5 : decode cX0_far 5 = .ok (.bipush 8, 2) := by decide +kernel
theorem dX0_far_7 : decode cX0_far 7 = .ok (.idiv, 1) := by decide +kernel
theorem dX0_far_8 : decode cX0_far 8 = .ok (.isub, 1) := by decide +kernel
theorem dX0_far_9 : decode cX0_far 9 = .ok (.invokestatic 39, 3) := by decide +kernel
theorem dX0_far_12 : decode cX0_far 12 = .ok (.iload_n 0, 1) := by decide +kernel
theorem dX0_far_13 : decode cX0_far 13 = .ok (.bipush 8, 2) := by decide +kernel
theorem dX0_far_15 : decode cX0_far 15 = .ok (.irem, 1) := by decide +kernel
theorem dX0_far_16 : decode cX0_far 16 = .ok (.iload_n 1, 1) := by decide +kernel
theorem dX0_far_17 : decode cX0_far 17 = .ok (.bipush 8, 2) := by decide +kernel
theorem dX0_far_19 : decode cX0_far 19 = .ok (.irem, 1) := by decide +kernel
theorem dX0_far_20 : decode cX0_far 20 = .ok (.isub, 1) := by decide +kernel
theorem dX0_far_21 : decode cX0_far 21 = .ok (.invokestatic 39, 3) := by decide +kernel
theorem dX0_far_24 : decode cX0_far 24 = .ok (.iadd, 1) := by decide +kernel
theorem dX0_far_25 : decode cX0_far 25 = .ok (.ireturn, 1) := by decide +kernel
set_option maxRecDepth 20000 in
theorem ggX1_init_X5_init : GoodIn wsX1_init wsX5_init := goodIn_r _ [19, 20, 2, 3, 12, 21, 22, 23, 24, 25, 26, 27, 28, 36, 37, 38, 39, 40] (by decide +kernel) (by decide +kernel)
set_option maxRecDepth 20000 in
theorem gX1_init_X5_init : GoodIn wsX1_init (wsX5_init) := ggX1_init_X5_init
set_option maxRecDepth 20000 in
theorem ggX1_init_X0_init : GoodIn wsX1_init wsX0_init := goodIn_r _ [30, 31, 2, 3, 12, 32, 33, 34, 50, 51, 52, 53] (by decide +kernel) (by decide +kernel)
set_option maxRecDepth 20000 in
theorem gX1_init_X0_init_n20 : GoodIn wsX1_init (wsX0_init) := ggX1_init_X0_init
set_option maxRecDepth 20000 in
theorem ggX1_init_J7_fill_53178 : GoodIn wsX1_init wsJ7_fill_53178 := goodIn_r _ [28] (by decide +kernel) (by decide +kernel)
set_option maxRecDepth 20000 in
theorem gX1_init_J7_fill_53178 : GoodIn wsX1_init (va_wsS RX1 39 yJ7_fill_53178 wsJ7_fill_53178) := goodIn_app (goodIn_of _ (by decide +kernel)) ggX1_init_J7_fill_53178
theorem dX1_init_0 : decode cX1_init 0 = .ok (.aload_n 0, 1) := by decide +kernel
theorem dX1_init_1 : decode cX1_init 1 = .ok (.invokespecial 3, 3) := by decide +kernel
theorem dX1_init_4 : decode cX1_init 4 = .ok (.aload_n 0, 1) := by decide +kernel
theorem dX1_init_5 : decode cX1_init 5 = .ok (.new 9, 3) := by decide +kernel
theorem dX1_init_8 : decode cX1_init 8 = .ok (.dup, 1) := by decide +kernel
theorem dX1_init_9 : decode cX1_init 9 = .ok (.invokespecial 11, 3) := by decide +kernel
theorem dX1_init_12 : decode cX1_init 12 = .ok (.putfield 12, 3) := by decide +kernel
theorem dX1_init_15 : decode cX1_init 15 = .ok (.aload_n 0, 1) := by decide +kernel
theorem dX1_init_16 : decode cX1_init 16 = .ok (.new 18, 3) := by decide +kernel
theorem dX1_init_19 : decode cX1_init 19 = .ok (.dup, 1) := by decide +kernel
theorem dX1_init_20 : decode cX1_init 20 = .ok (.invokespecial 20, 3) := by decide +kernel
theorem dX1_init_23 : decode cX1_init 23 = .ok (.putfield 21, 3) := by decide +kernel
theorem dX1_init_26 : decode cX1_init 26 = .ok (.aload_n 0, 1) := by decide +kernel
theorem dX1_init_27 : decode cX1_init 27 = .ok (.bipush 10, 2) := by decide +kernel
theorem dX1_init_29 : decode cX1_init 29 = .ok (.newarray .int, 2) := by decide +kernel
theorem dX1_init_31 : decode cX1_init 31 = .ok (.putfield 25, 3) := by decide +kernel
theorem dX1_init_34 : decode cX1_init 34 = .ok (.aload_n 0, 1) := by decide +kernel
theorem dX1_init_35 : decode cX1_init 35 = .ok (.iconst 1, 1) := by decide +kernel
theorem dX1_init_36 : decode cX1_init 36 = .ok (.putfield 29, 3) := by decide +kernel
theorem dX1_init_39 : decode cX1_init 39 = .ok (.aload_n 0, 1) := by decide +kernel
theorem dX1_init_40 : decode cX1_init 40 = .ok (.bipush 16, 2) := by decide +kernel
theorem dX1_init_42 : decode cX1_init 42 = .ok (.newarray .int, 2) := by decide +kernel
theorem dX1_init_44 : decode cX1_init 44 = .ok (.putfield 33, 3) := by decide +kernel
theorem dX1_init_47 : decode cX1_init 47 = .ok (.aload_n 0, 1) := by decide +kernel
theorem dX1_init_48 : decode cX1_init 48 = .ok (.bipush 8, 2) := by decide +kernel
theorem dX1_init_50 : decode cX1_init 50 = .ok (.newarray .int, 2) := by decide +kernel
theorem dX1_init_52 : decode cX1_init 52 = .ok (.putfield 36, 3) := by decide +kernel
theorem dX1_init_55 : decode cX1_init 55 = .ok (.aload_n 0, 1) := by decide +kernel
theorem dX1_init_56 : decode cX1_init 56 = .ok (.getfield 25, 3) := by decide +kernel
theorem dX1_init_59 : decode cX1_init 59 = .ok (.iconst (-1), 1) := by decide +kernel
theorem dX1_init_60 : decode cX1_init 60 = .ok (.invokestatic 39, 3) := by decide +kernel
theorem dX1_init_63 : decode cX1_init 63 = .ok (.return_, 1) := by decide +kernel
set_option maxRecDepth 20000 in
theorem ggX1_copyFrom_X5_copyFrom : GoodIn wsX1_copyFrom wsX5_copyFrom := goodIn_r _ [16, 17, 18, 19, 5, 6, 7, 20, 21, 22, 42, 43, 44, 45, 46] (by decide +kernel) (by decide +kernel)
set_option maxRecDepth 20000 in
theorem gX1_copyFrom_X5_copyFrom : GoodIn wsX1_copyFrom (wsV RX1 45 RX5 yX5_copyFrom wsX5_copyFrom) := goodIn_app (goodIn_of _ (by decide +kernel)) ggX1_copyFrom_X5_copyFrom
set_option maxRecDepth 20000 in
theorem ggX1_copyFrom_X0_copyFrom : GoodIn wsX1_copyFrom wsX0_copyFrom := goodIn_r _ [27, 28, 29, 5, 6, 7, 30, 31, 32, 47, 48, 49, 50] (by decide +kernel) (by decide +kernel)
set_option maxRecDepth 20000 in
theorem gX1_copyFrom_X0_copyFrom : GoodIn wsX1_copyFrom (wsV RX1 49 RX0 yX0_copyFrom wsX0_copyFrom) := goodIn_app (goodIn_of _ (by decide +kernel)) ggX1_copyFrom_X0_copyFrom
theorem dX1_copyFrom_0 : decode cX1_copyFrom 0 = .ok (.aload_n 0, 1) := by decide +kernel
theorem dX1_copyFrom_1 : decode cX1_copyFrom 1 = .ok (.getfield 12, 3) := by decide +kernel
theorem dX1_copyFrom_4 : decode cX1_copyFrom 4 = .ok (.aload_n 1, 1) := by decide +kernel
theorem dX1_copyFrom_5 : decode cX1_copyFrom 5 = .ok (.getfield 12, 3) := by decide +kernel
theorem dX1_copyFrom_8 : decode cX1_copyFrom 8 = .ok (.invokevirtual 45, 3) := by decide +kernel
theorem dX1_copyFrom_11 : decode cX1_copyFrom 11 = .ok (.aload_n 0, 1) := by decide +kernel
theorem dX1_copyFrom_12 : decode cX1_copyFrom 12 = .ok (.getfield 21, 3) := by decide +kernel
theorem dX1_copyFrom_15 : decode cX1_copyFrom 15 = .ok (.aload_n 1, 1) := by decide +kernel
theorem dX1_copyFrom_16 : decode cX1_copyFrom 16 = .ok (.getfield 21, 3) := by decide +kernel
theorem dX1_copyFrom_19 : decode cX1_copyFrom 19 = .ok (.invokevirtual 49, 3) := by decide +kernel
theorem dX1_copyFrom_22 : decode cX1_copyFrom 22 = .ok (.aload_n 1, 1) := by decide +kernel
theorem dX1_copyFrom_23 : decode cX1_copyFrom 23 = .ok (.getfield 25, 3) := by decide +kernel
theorem dX1_copyFrom_26 : decode cX1_copyFrom 26 = .ok (.iconst 0, 1) := by decide +kernel
theorem dX1_copyFrom_27 : decode cX1_copyFrom 27 = .ok (.aload_n 0, 1) := by decide +kernel
theorem dX1_copyFrom_28 : decode cX1_copyFrom 28 = .ok (.getfield 25, 3) := by decide +kernel
theorem dX1_copyFrom_31 : decode cX1_copyFrom 31 = .ok (.iconst 0, 1) := by decide +kernel
theorem dX1_copyFrom_32 : decode cX1_copyFrom 32 = .ok (.bipush 10, 2) := by decide +kernel
theorem dX1_copyFrom_34 : decode cX1_copyFrom 34 = .ok (.invokestatic 52, 3) := by decide +kernel
theorem dX1_copyFrom_37 : decode cX1_copyFrom 37 = .ok (.aload_n 0, 1) := by decide +kernel
theorem dX1_copyFrom_38 : decode cX1_copyFrom 38 = .ok (.aload_n 1, 1) := by decide +kernel
theorem dX1_copyFrom_39 : decode cX1_copyFrom 39 = .ok (.getfield 58, 3) := by decide +kernel
theorem dX1_copyFrom_42 : decode cX1_copyFrom 42 = .ok (.putfield 58, 3) := by decide +kernel
theorem dX1_copyFrom_45 : decode cX1_copyFrom 45 = .ok (.aload_n 0, 1) := by decide +kernel
theorem dX1_copyFrom_46 : decode cX1_copyFrom 46 = .ok (.aload_n 1, 1) := by decide +kernel
theorem dX1_copyFrom_47 : decode cX1_copyFrom 47 = .ok (.getfield 61, 3) := by decide +kernel
theorem dX1_copyFrom_50 : decode cX1_copyFrom 50 = .ok (.putfield 61, 3) := by decide +kernel
theorem dX1_copyFrom_53 : decode cX1_copyFrom 53 = .ok (.aload_n 0, 1) := by decide +kernel
theorem dX1_copyFrom_54 : decode cX1_copyFrom 54 = .ok (.aload_n 1, 1) := by decide +kernel
theorem dX1_copyFrom_55 : decode cX1_copyFrom 55 = .ok (.getfield 64, 3) := by decide +kernel
theorem dX1_copyFrom_58 : decode cX1_copyFrom 58 = .ok (.putfield 64, 3) := by decide +kernel
theorem dX1_copyFrom_61 : decode cX1_copyFrom 61 = .ok (.aload_n 0, 1) := by decide +kernel
theorem dX1_copyFrom_62 : decode cX1_copyFrom 62 = .ok (.aload_n 1, 1) := by decide +kernel
theorem dX1_copyFrom_63 : decode cX1_copyFrom 63 = .ok (.getfield 29, 3) := by decide +kernel
theorem dX1_copyFrom_66 : decode cX1_copyFrom 66 = .ok (.putfield 29, 3) := by decide +kernel
theorem dX1_copyFrom_69 : decode cX1_copyFrom 69 = .ok (.return_, 1) := by decide +kernel
theorem dX1_draw_0 : decode cX1_draw 0 = .ok (.aload_n 0, 1) := by decide +kernel
theorem dX1_draw_1 : decode cX1_draw 1 = .ok (.aload_n 0, 1) := by decide +kernel
theorem dX1_draw_2 : decode cX1_draw 2 = .ok (.getfield 29, 3) := by decide +kernel
theorem dX1_draw_5 : decode cX1_draw 5 = .ok (.ldc 67, 2) := by decide +kernel
theorem dX1_draw_7 : decode cX1_draw 7 = .ok (.imul, 1) := by decide +kernel
theorem dX1_draw_8 : decode cX1_draw 8 = .ok (.sipush 12345, 3) := by decide +kernel
theorem dX1_draw_11 : decode cX1_draw 11 = .ok (.iadd, 1) := by decide +kernel
theorem dX1_draw_12 : decode cX1_draw 12 = .ok (.putfield 29, 3) := by decide +kernel
theorem dX1_draw_15 : decode cX1_draw 15 = .ok (.aload_n 0, 1) := by decide +kernel
theorem dX1_draw_16 : decode cX1_draw 16 = .ok (.getfield 29, 3) := by decide +kernel
theorem dX1_draw_19 : decode cX1_draw 19 = .ok (.bipush 8, 2) := by decide +kernel
theorem dX1_draw_21 : decode cX1_draw 21 = .ok (.iushr, 1) := by decide +kernel
theorem dX1_draw_22 : decode cX1_draw 22 = .ok (.ireturn, 1) := by decide +kernel
set_option maxRecDepth 20000 in
theorem ggX1_passHours_X1_feelWarmth : GoodIn wsX1_passHours wsX1_feelWarmth := goodIn_r _ [5, 6, 7, 8, 9, 10, 11, 12, 13, 14, 15, 16, 17, 18, 19, 20, 21, 22, 23, 24, 25, 26, 27, 28, 29, 30, 31, 32, 33, 34, 35, 36, 118, 119, 120, 121, 122, 123, 124, 125, 126, 127, 128, 129, 130, 131, 132, 133, 134, 135] (by decide +kernel) (by decide +kernel)
set_option maxRecDepth 20000 in
theorem gX1_passHours_X1_feelWarmth : GoodIn wsX1_passHours (wsV RX1 68 RX1 yX1_feelWarmth wsX1_feelWarmth) := goodIn_app (goodIn_of _ (by decide +kernel)) ggX1_passHours_X1_feelWarmth
set_option maxRecDepth 20000 in
theorem ggX1_passHours_X1_passHour : GoodIn wsX1_passHours wsX1_passHour := goodIn_r _ [40, 41, 6, 7, 42, 43, 44, 45, 46, 11, 12, 13, 14, 15, 16, 47, 48, 49, 4, 50, 8, 51, 52, 53, 35, 54, 10, 55, 56, 57, 58, 59, 60, 61, 62, 63, 64, 65, 66, 67, 68, 69, 70, 71, 72, 73, 74, 75, 76, 77, 78, 79, 80, 81, 82, 83, 84, 85, 86, 87, 88, 89, 90, 91, 92, 93, 94, 95, 96, 97, 98, 99, 100, 101, 102, 103, 104, 105, 106, 107, 108, 109, 110, 111, 112, 113, 114, 115, 116, 117, 118, 119, 120, 121, 122, 123, 124, 125, 126, 127, 128, 129, 130, 131] (by decide +kernel) (by decide +kernel)
set_option maxRecDepth 20000 in
theorem gX1_passHours_X1_passHour : GoodIn wsX1_passHours (wsV RX1 71 RX1 yX1_passHour wsX1_passHour) := goodIn_app (goodIn_of _ (by decide +kernel)) ggX1_passHours_X1_passHour
theorem dX1_passHours_0 : decode cX1_passHours 0 = .ok (.aload_n 0, 1) := by decide +kernel
theorem dX1_passHours_1 : decode cX1_passHours 1 = .ok (.invokevirtual 68, 3) := by decide +kernel
theorem dX1_passHours_4 : decode cX1_passHours 4 = .ok (.iconst 0, 1) := by decide +kernel
theorem dX1_passHours_5 : decode cX1_passHours 5 = .ok (.istore_n 2, 1) := by decide +kernel
theorem dX1_passHours_6 : decode cX1_passHours 6 = .ok (.iconst 0, 1) := by decide +kernel
theorem dX1_passHours_7 : decode cX1_passHours 7 = .ok (.istore_n 3, 1) := by decide +kernel
theorem dX1_passHours_8 : decode cX1_passHours 8 = .ok (.iload_n 3, 1) := by decide +kernel
theorem dX1_passHours_9 : decode cX1_passHours 9 = .ok (.iload_n 1, 1) := by decide +kernel
theorem dX1_passHours_10 : decode cX1_passHours 10 = .ok (.if_icmp .ge 16, 3) := by decide +kernel
theorem dX1_passHours_13 : decode cX1_passHours 13 = .ok (.iload_n 2, 1) := by decide +kernel
theorem dX1_passHours_14 : decode cX1_passHours 14 = .ok (.aload_n 0, 1) := by decide +kernel
theorem dX1_passHours_15 : decode cX1_passHours 15 = .ok (.invokevirtual 71, 3) := by decide +kernel
theorem dX1_passHours_18 : decode cX1_passHours 18 = .ok (.iadd, 1) := by decide +kernel
theorem dX1_passHours_19 : decode cX1_passHours 19 = .ok (.istore_n 2, 1) := by decide +kernel
theorem dX1_passHours_20 : decode cX1_passHours 20 = .ok (.iinc 3 1, 3) := by decide +kernel
theorem dX1_passHours_23 : decode cX1_passHours 23 = .ok (.goto (-15), 3) := by decide +kernel
theorem dX1_passHours_26 : decode cX1_passHours 26 = .ok (.iload_n 2, 1) := by decide +kernel
theorem dX1_passHours_27 : decode cX1_passHours 27 = .ok (.ireturn, 1) := by decide +kernel
set_option maxRecDepth 20000 in
theorem ggX1_hoursHeld_X1_feelWarmth : GoodIn wsX1_hoursHeld wsX1_feelWarmth := goodIn_r _ [5, 6, 7, 8, 9, 10, 11, 12, 13, 14, 15, 16, 17, 18, 19, 20, 21, 22, 23, 24, 25, 26, 27, 28, 29, 30, 31, 32, 33, 34, 35, 36, 118, 119, 120, 121, 122, 123, 124, 125, 126, 127, 128, 129, 130, 131, 132, 133, 134, 135] (by decide +kernel) (by decide +kernel)
set_option maxRecDepth 20000 in
theorem gX1_hoursHeld_X1_feelWarmth : GoodIn wsX1_hoursHeld (wsV RX1 68 RX1 yX1_feelWarmth wsX1_feelWarmth) := goodIn_app (goodIn_of _ (by decide +kernel)) ggX1_hoursHeld_X1_feelWarmth
set_option maxRecDepth 20000 in
theorem ggX1_hoursHeld_X1_passHour : GoodIn wsX1_hoursHeld wsX1_passHour := goodIn_r _ [40, 41, 6, 7, 42, 43, 44, 45, 46, 11, 12, 13, 14, 15, 16, 47, 48, 49, 4, 50, 8, 51, 52, 53, 35, 54, 10, 55, 56, 57, 58, 59, 60, 61, 62, 63, 64, 65, 66, 67, 68, 69, 70, 71, 72, 73, 74, 75, 76, 77, 78, 79, 80, 81, 82, 83, 84, 85, 86, 87, 88, 89, 90, 91, 92, 93, 94, 95, 96, 97, 98, 99, 100, 101, 102, 103, 104, 105, 106, 107, 108, 109, 110, 111, 112, 113, 114, 115, 116, 117, 118, 119, 120, 121, 122, 123, 124, 125, 126, 127, 128, 129, 130, 131] (by decide +kernel) (by decide +kernel)
set_option maxRecDepth 20000 in
theorem gX1_hoursHeld_X1_passHour : GoodIn wsX1_hoursHeld (wsV RX1 71 RX1 yX1_passHour wsX1_passHour) := goodIn_app (goodIn_of _ (by decide +kernel)) ggX1_hoursHeld_X1_passHour
theorem dX1_hoursHeld_0 : decode cX1_hoursHeld 0 = .ok (.aload_n 0, 1) := by decide +kernel
theorem dX1_hoursHeld_1 : decode cX1_hoursHeld 1 = .ok (.invokevirtual 68, 3) := by decide +kernel
theorem dX1_hoursHeld_4 : decode cX1_hoursHeld 4 = .ok (.iconst 0, 1) := by decide +kernel
theorem dX1_hoursHeld_5 : decode cX1_hoursHeld 5 = .ok (.istore_n 2, 1) := by decide +kernel
theorem dX1_hoursHeld_6 : decode cX1_hoursHeld 6 = .ok (.iload_n 2, 1) := by decide +kernel
theorem dX1_hoursHeld_7 : decode cX1_hoursHeld 7 = .ok (.iload_n 1, 1) := by decide +kernel
theorem dX1_hoursHeld_8 : decode cX1_hoursHeld 8 = .ok (.if_icmp .ge 18, 3) := by decide +kernel
theorem dX1_hoursHeld_11 : decode cX1_hoursHeld 11 = .ok (.aload_n 0, 1) := by decide +kernel
theorem dX1_hoursHeld_12 : decode cX1_hoursHeld 12 = .ok (.invokevirtual 71, 3) := by decide +kernel
theorem dX1_hoursHeld_15 : decode cX1_hoursHeld 15 = .ok (.ifCond .le 5, 3) := by decide +kernel
theorem dX1_hoursHeld_18 : decode cX1_hoursHeld 18 = .ok (.iload_n 2, 1) := by decide +kernel
theorem dX1_hoursHeld_19 : decode cX1_hoursHeld 19 = .ok (.ireturn, 1) := by decide +kernel
theorem dX1_hoursHeld_20 : decode cX1_hoursHeld 20 = .ok (.iinc 2 1, 3) := by decide +kernel
theorem dX1_hoursHeld_23 : decode cX1_hoursHeld 23 = .ok (.goto (-17), 3) := by decide +kernel
theorem dX1_hoursHeld_26 : decode cX1_hoursHeld 26 = .ok (.iload_n 1, 1) := by decide +kernel
theorem dX1_hoursHeld_27 : decode cX1_hoursHeld 27 = .ok (.ireturn, 1) := by decide +kernel
set_option maxRecDepth 20000 in
theorem ggX1_goneIn_X1_feelWarmth : GoodIn wsX1_goneIn wsX1_feelWarmth := goodIn_r _ [6, 1, 7, 8, 9, 10, 11, 12, 13, 14, 15, 16, 17, 18, 19, 20, 21, 22, 23, 24, 25, 26, 27, 28, 29, 30, 31, 32, 33, 34, 35, 36, 118, 119, 120, 121, 122, 123, 124, 125, 126, 127, 128, 129, 130, 131, 132, 133, 134, 135] (by decide +kernel) (by decide +kernel)
set_option maxRecDepth 20000 in
theorem gX1_goneIn_X1_feelWarmth : GoodIn wsX1_goneIn (wsV RX1 68 RX1 yX1_feelWarmth wsX1_feelWarmth) := goodIn_app (goodIn_of _ (by decide +kernel)) ggX1_goneIn_X1_feelWarmth
set_option maxRecDepth 20000 in
theorem ggX1_goneIn_X1_passHour : GoodIn wsX1_goneIn wsX1_passHour := goodIn_r _ [40, 41, 1, 7, 42, 43, 44, 45, 46, 11, 12, 13, 14, 15, 16, 47, 48, 49, 5, 50, 8, 51, 52, 53, 35, 54, 10, 55, 56, 57, 58, 59, 60, 61, 62, 63, 64, 65, 66, 67, 68, 69, 70, 71, 72, 73, 74, 75, 76, 77, 78, 79, 80, 81, 82, 83, 84, 85, 86, 87, 88, 89, 90, 91, 92, 93, 94, 95, 96, 97, 98, 99, 100, 101, 102, 103, 104, 105, 106, 107, 108, 109, 110, 111, 112, 113, 114, 115, 116, 117, 118, 119, 120, 121, 122, 123, 124, 125, 126, 127, 128, 129, 130, 131] (by decide +kernel) (by decide +kernel)
set_option maxRecDepth 20000 in
theorem gX1_goneIn_X1_passHour : GoodIn wsX1_goneIn (wsV RX1 71 RX1 yX1_passHour wsX1_passHour) := goodIn_app (goodIn_of _ (by decide +kernel)) ggX1_goneIn_X1_passHour
set_option maxRecDepth 20000 in
theorem ggX1_goneIn_X5_isGone : GoodIn wsX1_goneIn wsX5_isGone := goodIn_r _ [15, 16, 127, 128, 129, 130, 131] (by decide +kernel) (by decide +kernel)
set_option maxRecDepth 20000 in
theorem gX1_goneIn_X5_isGone : GoodIn wsX1_goneIn (wsV RX1 75 RX5 yX5_isGone wsX5_isGone) := goodIn_app (goodIn_of _ (by decide +kernel)) ggX1_goneIn_X5_isGone
theorem dX1_goneIn_0 : decode cX1_goneIn 0 = .ok (.aload_n 0, 1) := by decide +kernel
theorem dX1_goneIn_1 : decode cX1_goneIn 1 = .ok (.invokevirtual 68, 3) := by decide +kernel
theorem dX1_goneIn_4 : decode cX1_goneIn 4 = .ok (.iconst 1, 1) := by decide +kernel
theorem dX1_goneIn_5 : decode cX1_goneIn 5 = .ok (.istore_n 3, 1) := by decide +kernel
theorem dX1_goneIn_6 : decode cX1_goneIn 6 = .ok (.iload_n 3, 1) := by decide +kernel
theorem dX1_goneIn_7 : decode cX1_goneIn 7 = .ok (.iload_n 2, 1) := by decide +kernel
theorem dX1_goneIn_8 : decode cX1_goneIn 8 = .ok (.if_icmp .gt 27, 3) := by decide +kernel
theorem dX1_goneIn_11 : decode cX1_goneIn 11 = .ok (.aload_n 0, 1) := by decide +kernel
theorem dX1_goneIn_12 : decode cX1_goneIn 12 = .ok (.invokevirtual 71, 3) := by decide +kernel
theorem dX1_goneIn_15 : decode cX1_goneIn 15 = .ok (.pop, 1) := by decide +kernel
theorem dX1_goneIn_16 : decode cX1_goneIn 16 = .ok (.aload_n 0, 1) := by decide +kernel
theorem dX1_goneIn_17 : decode cX1_goneIn 17 = .ok (.getfield 12, 3) := by decide +kernel
theorem dX1_goneIn_20 : decode cX1_goneIn 20 = .ok (.iload_n 1, 1) := by decide +kernel
theorem dX1_goneIn_21 : decode cX1_goneIn 21 = .ok (.invokevirtual 75, 3) := by decide +kernel
theorem dX1_goneIn_24 : decode cX1_goneIn 24 = .ok (.ifCond .eq 5, 3) := by decide +kernel
theorem dX1_goneIn_27 : decode cX1_goneIn 27 = .ok (.iload_n 3, 1) := by decide +kernel
theorem dX1_goneIn_28 : decode cX1_goneIn 28 = .ok (.ireturn, 1) := by decide +kernel
theorem dX1_goneIn_29 : decode cX1_goneIn 29 = .ok (.iinc 3 1, 3) := by decide +kernel
theorem dX1_goneIn_32 : decode cX1_goneIn 32 = .ok (.goto (-26), 3) := by decide +kernel
theorem dX1_goneIn_35 : decode cX1_goneIn 35 = .ok (.iload_n 2, 1) := by decide +kernel
theorem dX1_goneIn_36 : decode cX1_goneIn 36 = .ok (.iconst 1, 1) := by decide +kernel
theorem dX1_goneIn_37 : decode cX1_goneIn 37 = .ok (.iadd, 1) := by decide +kernel
theorem dX1_goneIn_38 : decode cX1_goneIn 38 = .ok (.ireturn, 1) := by decide +kernel
set_option maxRecDepth 20000 in
theorem ggX1_feelWarmth_X5_isGone : GoodIn wsX1_feelWarmth wsX5_isGone := goodIn_r _ [10, 11, 41, 42, 43, 44, 45] (by decide +kernel) (by decide +kernel)
set_option maxRecDepth 20000 in
theorem gX1_feelWarmth_X5_isGone : GoodIn wsX1_feelWarmth (wsV RX1 75 RX5 yX5_isGone wsX5_isGone) := goodIn_app (goodIn_of _ (by decide +kernel)) ggX1_feelWarmth_X5_isGone
set_option maxRecDepth 20000 in
theorem ggX1_feelWarmth_X0_warmthAt : GoodIn wsX1_feelWarmth wsX0_warmthAt := goodIn_r _ [16, 17, 18, 19, 20, 21, 22, 15, 23, 24, 25, 26, 27, 28, 29, 30, 31, 46, 47, 48, 49] (by decide +kernel) (by decide +kernel)
set_option maxRecDepth 20000 in
theorem gX1_feelWarmth_X0_warmthAt : GoodIn wsX1_feelWarmth (wsV RX1 85 RX0 yX0_warmthAt wsX0_warmthAt) := goodIn_app (goodIn_of _ (by decide +kernel)) ggX1_feelWarmth_X0_warmthAt
theorem dX1_feelWarmth_0 : decode cX1_feelWarmth 0 = .ok (.iconst 0, 1) := by decide +kernel
theorem dX1_feelWarmth_1 : decode cX1_feelWarmth 1 = .ok (.istore_n 1, 1) := by decide +kernel
theorem dX1_feelWarmth_2 : decode cX1_feelWarmth 2 = .ok (.iload_n 1, 1) := by decide +kernel
theorem dX1_feelWarmth_3 : decode cX1_feelWarmth 3 = .ok (.aload_n 0, 1) := by decide +kernel
theorem dX1_feelWarmth_4 : decode cX1_feelWarmth 4 = .ok (.getfield 12, 3) := by decide +kernel
theorem dX1_feelWarmth_7 : decode cX1_feelWarmth 7 = .ok (.getfield 79, 3) := by decide +kernel
theorem dX1_feelWarmth_10 : decode cX1_feelWarmth 10 = .ok (.if_icmp .ge 46, 3) := by decide +kernel
theorem dX1_feelWarmth_13 : decode cX1_feelWarmth 13 = .ok (.aload_n 0, 1) := by decide +kernel
theorem dX1_feelWarmth_14 : decode cX1_feelWarmth 14 = .ok (.getfield 33, 3) := by decide +kernel
theorem dX1_feelWarmth_17 : decode cX1_feelWarmth 17 = .ok (.iload_n 1, 1) := by decide +kernel
theorem dX1_feelWarmth_18 : decode cX1_feelWarmth 18 = .ok (.aload_n 0, 1) := by decide +kernel
theorem dX1_feelWarmth_19 : decode cX1_feelWarmth 19 = .ok (.getfield 12, 3) := by decide +kernel
theorem dX1_feelWarmth_22 : decode cX1_feelWarmth 22 = .ok (.iload_n 1, 1) := by decide +kernel
theorem dX1_feelWarmth_23 : decode cX1_feelWarmth 23 = .ok (.invokevirtual 75, 3) := by decide +kernel
theorem dX1_feelWarmth_26 : decode cX1_feelWarmth 26 = .ok (.ifCond .eq 7, 3) := by decide +kernel
theorem dX1_feelWarmth_29 : decode cX1_feelWarmth 29 = .ok (.iconst 0, 1) := by decide +kernel
theorem dX1_feelWarmth_30 : decode cX1_feelWarmth 30 = .ok (.goto 19, 3) := by decide +kernel
theorem dX1_feelWarmth_33 : decode cX1_feelWarmth 33 = .ok (.aload_n 0, 1) := by decide +kernel
theorem dX1_feelWarmth_34 : decode cX1_feelWarmth 34 = .ok (.getfield 21, 3) := by decide +kernel
theorem dX1_feelWarmth_37 : decode cX1_feelWarmth 37 = .ok (.aload_n 0, 1) := by decide +kernel
theorem dX1_feelWarmth_38 : decode cX1_feelWarmth 38 = .ok (.getfield 12, 3) := by decide +kernel
theorem dX1_feelWarmth_41 : decode cX1_feelWarmth 41 = .ok (.getfield 82, 3) := by decide +kernel
theorem dX1_feelWarmth_44 : decode cX1_feelWarmth 44 = .ok (.iload_n 1, 1) := by decide +kernel
theorem dX1_feelWarmth_45 : decode cX1_feelWarmth 45 = .ok (.iaload, 1) := by decide +kernel
theorem dX1_feelWarmth_46 : decode cX1_feelWarmth 46 = .ok (.invokevirtual 85, 3) := by decide +kernel
theorem dX1_feelWarmth_49 : decode cX1_feelWarmth 49 = .ok (.iastore, 1) := by decide +kernel
theorem dX1_feelWarmth_50 : decode cX1_feelWarmth 50 = .ok (.iinc 1 1, 3) := by decide +kernel
theorem dX1_feelWarmth_53 : decode cX1_feelWarmth 53 = .ok (.goto (-51), 3) := by decide +kernel
theorem dX1_feelWarmth_56 : decode cX1_feelWarmth 56 = .ok (.return_, 1) := by decide +kernel
set_option maxRecDepth 20000 in
theorem ggX1_passHour_J7_fill_53178 : GoodIn wsX1_passHour wsJ7_fill_53178 := goodIn_r _ [8] (by decide +kernel) (by decide +kernel)
set_option maxRecDepth 20000 in
theorem gX1_passHour_J7_fill_53178 : GoodIn wsX1_passHour (va_wsS RX1 39 yJ7_fill_53178 wsJ7_fill_53178) := goodIn_app (goodIn_of _ (by decide +kernel)) ggX1_passHour_J7_fill_53178
set_option maxRecDepth 20000 in
theorem ggX1_passHour_X5_isGone : GoodIn wsX1_passHour wsX5_isGone := goodIn_r _ [13, 14, 99, 100, 101, 102, 103] (by decide +kernel) (by decide +kernel)
set_option maxRecDepth 20000 in
theorem gX1_passHour_X5_isGone : GoodIn wsX1_passHour (wsV RX1 75 RX5 yX5_isGone wsX5_isGone) := goodIn_app (goodIn_of _ (by decide +kernel)) ggX1_passHour_X5_isGone
set_option maxRecDepth 20000 in
theorem ggX1_passHour_X1_meltOrMend : GoodIn wsX1_passHour wsX1_meltOrMend := goodIn_r _ [19, 20, 2, 21, 22, 23, 24, 25, 1, 26, 27, 28, 29, 30, 12, 31, 32, 33, 90, 91, 92, 93, 94, 95, 96, 97, 98, 99, 100, 101, 102, 103] (by decide +kernel) (by decide +kernel)
set_option maxRecDepth 20000 in
theorem gX1_passHour_X1_meltOrMend : GoodIn wsX1_passHour (wsV RX1 89 RX1 yX1_meltOrMend wsX1_meltOrMend) := goodIn_app (goodIn_of _ (by decide +kernel)) ggX1_passHour_X1_meltOrMend
set_option maxRecDepth 20000 in
theorem ggX1_passHour_X1_freezeDrip : GoodIn wsX1_passHour wsX1_freezeDrip := goodIn_r _ [37, 1, 2, 38, 20, 27, 28, 29, 30, 12, 31, 32, 33, 23, 24, 25, 90, 91, 92, 93, 94, 95, 96, 97, 98, 99, 100, 101, 102, 103] (by decide +kernel) (by decide +kernel)
set_option maxRecDepth 20000 in
theorem gX1_passHour_X1_freezeDrip : GoodIn wsX1_passHour (wsV RX1 93 RX1 yX1_freezeDrip wsX1_freezeDrip) := goodIn_app (goodIn_of _ (by decide +kernel)) ggX1_passHour_X1_freezeDrip
set_option maxRecDepth 20000 in
theorem ggX1_passHour_X1_removeMelted : GoodIn wsX1_passHour wsX1_removeMelted := goodIn_r _ [42, 2, 3, 21, 9, 10, 11, 12, 13, 14, 43, 44, 45, 46, 32, 47, 48, 49, 50, 51, 52, 53, 90, 91, 92, 93, 94, 95, 96, 97, 98, 99, 100, 101, 102, 103] (by decide +kernel) (by decide +kernel)
set_option maxRecDepth 20000 in
theorem gX1_passHour_X1_removeMelted : GoodIn wsX1_passHour (wsV RX1 96 RX1 yX1_removeMelted wsX1_removeMelted) := goodIn_app (goodIn_of _ (by decide +kernel)) ggX1_passHour_X1_removeMelted
set_option maxRecDepth 20000 in
theorem ggX1_passHour_X1_collapse : GoodIn wsX1_passHour wsX1_collapse := goodIn_r _ [57, 2, 3, 58, 59, 60, 61, 12, 62, 63, 64, 65, 66, 67, 68, 69, 70, 71, 14, 72, 73, 74, 75, 76, 77, 10, 11, 13, 78, 79, 80, 81, 82, 83, 84, 85, 47, 32, 86, 87, 88, 89, 43, 44, 45, 46, 48, 49, 50, 51, 52, 53, 90, 91, 92, 93, 94, 95, 96, 97, 98, 99, 100, 101, 102, 103] (by decide +kernel) (by decide +kernel)
set_option maxRecDepth 20000 in
theorem gX1_passHour_X1_collapse : GoodIn wsX1_passHour (wsV RX1 99 RX1 yX1_collapse wsX1_collapse) := goodIn_app (goodIn_of _ (by decide +kernel)) ggX1_passHour_X1_collapse
theorem dX1_passHour_0 : decode cX1_passHour 0 = .ok (.aload_n 0, 1) := by decide +kernel
theorem dX1_passHour_1 : decode cX1_passHour 1 = .ok (.getfield 36, 3) := by decide +kernel
theorem dX1_passHour_4 : decode cX1_passHour 4 = .ok (.iconst 0, 1) := by decide +kernel
theorem dX1_passHour_5 : decode cX1_passHour 5 = .ok (.invokestatic 39, 3) := by decide +kernel
theorem dX1_passHour_8 : decode cX1_passHour 8 = .ok (.iconst 0, 1) := by decide +kernel
theorem dX1_passHour_9 : decode cX1_passHour 9 = .ok (.istore_n 1, 1) := by decide +kernel
theorem dX1_passHour_10 : decode cX1_passHour 10 = .ok (.iload_n 1, 1) := by decide +kernel
theorem dX1_passHour_11 : decode cX1_passHour 11 = .ok (.aload_n 0, 1) := by decide +kernel
theorem dX1_passHour_12 : decode cX1_passHour 12 = .ok (.getfield 12, 3) := by decide +kernel
theorem dX1_passHour_15 : decode cX1_passHour 15 = .ok (.getfield 79, 3) := by decide +kernel
theorem dX1_passHour_18 : decode cX1_passHour 18 = .ok (.if_icmp .ge 25, 3) := by decide +kernel
theorem dX1_passHour_21 : decode cX1_passHour 21 = .ok (.aload_n 0, 1) := by decide +kernel
theorem dX1_passHour_22 : decode cX1_passHour 22 = .ok (.getfield 12, 3) := by decide +kernel
theorem dX1_passHour_25 : decode cX1_passHour 25 = .ok (.iload_n 1, 1) := by decide +kernel
theorem dX1_passHour_26 : decode cX1_passHour 26 = .ok (.invokevirtual 75, 3) := by decide +kernel
theorem dX1_passHour_29 : decode cX1_passHour 29 = .ok (.ifCond .ne 8, 3) := by decide +kernel
theorem dX1_passHour_32 : decode cX1_passHour 32 = .ok (.aload_n 0, 1) := by decide +kernel
theorem dX1_passHour_33 : decode cX1_passHour 33 = .ok (.iload_n 1, 1) := by decide +kernel
theorem dX1_passHour_34 : decode cX1_passHour 34 = .ok (.invokevirtual 89, 3) := by decide +kernel
theorem dX1_passHour_37 : decode cX1_passHour 37 = .ok (.iinc 1 1, 3) := by decide +kernel
theorem dX1_passHour_40 : decode cX1_passHour 40 = .ok (.goto (-30), 3) := by decide +kernel
theorem dX1_passHour_43 : decode cX1_passHour 43 = .ok (.iconst 0, 1) := by decide +kernel
theorem dX1_passHour_44 : decode cX1_passHour 44 = .ok (.istore_n 1, 1) := by decide +kernel
theorem dX1_passHour_45 : decode cX1_passHour 45 = .ok (.iload_n 1, 1) := by decide +kernel
theorem dX1_passHour_46 : decode cX1_passHour 46 = .ok (.bipush 8, 2) := by decide +kernel
theorem dX1_passHour_48 : decode cX1_passHour 48 = .ok (.if_icmp .ge 14, 3) := by decide +kernel
theorem dX1_passHour_51 : decode cX1_passHour 51 = .ok (.aload_n 0, 1) := by decide +kernel
theorem dX1_passHour_52 : decode cX1_passHour 52 = .ok (.iload_n 1, 1) := by decide +kernel
theorem dX1_passHour_53 : decode cX1_passHour 53 = .ok (.invokevirtual 93, 3) := by decide +kernel
theorem dX1_passHour_56 : decode cX1_passHour 56 = .ok (.iinc 1 1, 3) := by decide +kernel
theorem dX1_passHour_59 : decode cX1_passHour 59 = .ok (.goto (-14), 3) := by decide +kernel
theorem dX1_passHour_62 : decode cX1_passHour 62 = .ok (.aload_n 0, 1) := by decide +kernel
theorem dX1_passHour_63 : decode cX1_passHour 63 = .ok (.invokevirtual 96, 3) := by decide +kernel
theorem dX1_passHour_66 : decode cX1_passHour 66 = .ok (.aload_n 0, 1) := by decide +kernel
theorem dX1_passHour_67 : decode cX1_passHour 67 = .ok (.invokevirtual 99, 3) := by decide +kernel
theorem dX1_passHour_70 : decode cX1_passHour 70 = .ok (.iadd, 1) := by decide +kernel
theorem dX1_passHour_71 : decode cX1_passHour 71 = .ok (.istore_n 1, 1) := by decide +kernel
theorem dX1_passHour_72 : decode cX1_passHour 72 = .ok (.aload_n 0, 1) := by decide +kernel
theorem dX1_passHour_73 : decode cX1_passHour 73 = .ok (.dup, 1) := by decide +kernel
theorem dX1_passHour_74 : decode cX1_passHour 74 = .ok (.getfield 58, 3) := by decide +kernel
theorem dX1_passHour_77 : decode cX1_passHour 77 = .ok (.iconst 1, 1) := by decide +kernel
theorem dX1_passHour_78 : decode cX1_passHour 78 = .ok (.iadd, 1) := by decide +kernel
theorem dX1_passHour_79 : decode cX1_passHour 79 = .ok (.putfield 58, 3) := by decide +kernel
theorem dX1_passHour_82 : decode cX1_passHour 82 = .ok (.iload_n 1, 1) := by decide +kernel
theorem dX1_passHour_83 : decode cX1_passHour 83 = .ok (.ireturn, 1) := by decide +kernel
set_option maxRecDepth 20000 in
theorem ggX1_meltOrMend_X5_thicken : GoodIn wsX1_meltOrMend wsX5_thicken := goodIn_r _ [15, 16, 17, 5, 6, 7, 27, 28, 29, 30, 31] (by decide +kernel) (by decide +kernel)
set_option maxRecDepth 20000 in
theorem gX1_meltOrMend_X5_thicken : GoodIn wsX1_meltOrMend (wsV RX1 111 RX5 yX5_thicken wsX5_thicken) := goodIn_app (goodIn_of _ (by decide +kernel)) ggX1_meltOrMend_X5_thicken
theorem dX1_meltOrMend_0 : decode cX1_meltOrMend 0 = .ok (.aload_n 0, 1) := by decide +kernel
theorem dX1_meltOrMend_1 : decode cX1_meltOrMend 1 = .ok (.getfield 33, 3) := by decide +kernel
theorem dX1_meltOrMend_4 : decode cX1_meltOrMend 4 = .ok (.iload_n 1, 1) := by decide +kernel
theorem dX1_meltOrMend_5 : decode cX1_meltOrMend 5 = .ok (.iaload, 1) := by decide +kernel
theorem dX1_meltOrMend_6 : decode cX1_meltOrMend 6 = .ok (.istore_n 2, 1) := by decide +kernel
theorem dX1_meltOrMend_7 : decode cX1_meltOrMend 7 = .ok (.iload_n 2, 1) := by decide +kernel
theorem dX1_meltOrMend_8 : decode cX1_meltOrMend 8 = .ok (.ifCond .le 70, 3) := by decide +kernel
theorem dX1_meltOrMend_11 : decode cX1_meltOrMend 11 = .ok (.iload_n 2, 1) := by decide +kernel
theorem dX1_meltOrMend_12 : decode cX1_meltOrMend 12 = .ok (.aload_n 0, 1) := by decide +kernel
theorem dX1_meltOrMend_13 : decode cX1_meltOrMend 13 = .ok (.getfield 12, 3) := by decide +kernel
theorem dX1_meltOrMend_16 : decode cX1_meltOrMend 16 = .ok (.getfield 102, 3) := by decide +kernel
theorem dX1_meltOrMend_19 : decode cX1_meltOrMend 19 = .ok (.iload_n 1, 1) := by decide +kernel
theorem dX1_meltOrMend_20 : decode cX1_meltOrMend 20 = .ok (.iaload, 1) := by decide +kernel
theorem dX1_meltOrMend_21 : decode cX1_meltOrMend 21 = .ok (.invokestatic 105, 3) := by decide +kernel
theorem dX1_meltOrMend_24 : decode cX1_meltOrMend 24 = .ok (.istore_n 3, 1) := by decide +kernel
theorem dX1_meltOrMend_25 : decode cX1_meltOrMend 25 = .ok (.aload_n 0, 1) := by decide +kernel
theorem dX1_meltOrMend_26 : decode cX1_meltOrMend 26 = .ok (.getfield 12, 3) := by decide +kernel
theorem dX1_meltOrMend_29 : decode cX1_meltOrMend 29 = .ok (.getfield 102, 3) := by decide +kernel
theorem dX1_meltOrMend_32 : decode cX1_meltOrMend 32 = .ok (.iload_n 1, 1) := by decide +kernel
theorem dX1_meltOrMend_33 : decode cX1_meltOrMend 33 = .ok (.dup2, 1) := by decide +kernel
theorem dX1_meltOrMend_34 : decode cX1_meltOrMend 34 = .ok (.iaload, 1) := by decide +kernel
theorem dX1_meltOrMend_35 : decode cX1_meltOrMend 35 = .ok (.iload_n 3, 1) := by decide +kernel
theorem dX1_meltOrMend_36 : decode cX1_meltOrMend 36 = .ok (.isub, 1) := by decide +kernel
theorem dX1_meltOrMend_37 : decode cX1_meltOrMend 37 = .ok (.iastore, 1) := by decide +kernel
theorem dX1_meltOrMend_38 : decode cX1_meltOrMend 38 = .ok (.aload_n 0, 1) := by decide +kernel
theorem dX1_meltOrMend_39 : decode cX1_meltOrMend 39 = .ok (.getfield 36, 3) := by decide +kernel
theorem dX1_meltOrMend_42 : decode cX1_meltOrMend 42 = .ok (.aload_n 0, 1) := by decide +kernel
theorem dX1_meltOrMend_43 : decode cX1_meltOrMend 43 = .ok (.getfield 12, 3) := by decide +kernel
theorem dX1_meltOrMend_46 : decode cX1_meltOrMend 46 = .ok (.getfield 82, 3) := by decide +kernel
theorem dX1_meltOrMend_49 : decode cX1_meltOrMend 49 = .ok (.iload_n 1, 1) := by decide +kernel
theorem dX1_meltOrMend_50 : decode cX1_meltOrMend 50 = .ok (.iaload, 1) := by decide +kernel
theorem dX1_meltOrMend_51 : decode cX1_meltOrMend 51 = .ok (.bipush 8, 2) := by decide +kernel
theorem dX1_meltOrMend_53 : decode cX1_meltOrMend 53 = .ok (.irem, 1) := by decide +kernel
theorem dX1_meltOrMend_54 : decode cX1_meltOrMend 54 = .ok (.dup2, 1) := by decide +kernel
theorem dX1_meltOrMend_55 : decode cX1_meltOrMend 55 = .ok (.iaload, 1) := by decide +kernel
theorem dX1_meltOrMend_56 : decode cX1_meltOrMend 56 = .ok (.iload_n 3, 1) := by decide +kernel
theorem dX1_meltOrMend_57 : decode cX1_meltOrMend 57 = .ok (.iconst 2, 1) := by decide +kernel
theorem dX1_meltOrMend_58 : decode cX1_meltOrMend 58 = .ok (.idiv, 1) := by decide +kernel
theorem dX1_meltOrMend_59 : decode cX1_meltOrMend 59 = .ok (.iadd, 1) := by decide +kernel
theorem dX1_meltOrMend_60 : decode cX1_meltOrMend 60 = .ok (.iastore, 1) := by decide +kernel
theorem dX1_meltOrMend_61 : decode cX1_meltOrMend 61 = .ok (.aload_n 0, 1) := by decide +kernel
theorem dX1_meltOrMend_62 : decode cX1_meltOrMend 62 = .ok (.dup, 1) := by decide +kernel
theorem dX1_meltOrMend_63 : decode cX1_meltOrMend 63 = .ok (.getfield 61, 3) := by decide +kernel
theorem dX1_meltOrMend_66 : decode cX1_meltOrMend 66 = .ok (.iload_n 3, 1) := by decide +kernel
theorem dX1_meltOrMend_67 : decode cX1_meltOrMend 67 = .ok (.iload_n 3, 1) := by decide +kernel
theorem dX1_meltOrMend_68 : decode cX1_meltOrMend 68 = .ok (.iconst 2, 1) := by decide +kernel
theorem dX1_meltOrMend_69 : decode cX1_meltOrMend 69 = .ok (.idiv, 1) := by decide +kernel
theorem dX1_meltOrMend_70 : decode cX1_meltOrMend 70 = .ok (.isub, 1) := by decide +kernel
theorem dX1_meltOrMend_71 : decode cX1_meltOrMend 71 = .ok (.iadd, 1) := by decide +kernel
theorem dX1_meltOrMend_72 : decode cX1_meltOrMend 72 = .ok (.putfield 61, 3) := by decide +kernel
theorem dX1_meltOrMend_75 : decode cX1_meltOrMend 75 = .ok (.goto 35, 3) := by decide +kernel
theorem dX1_meltOrMend_78 : decode cX1_meltOrMend 78 = .ok (.iload_n 2, 1) := by decide +kernel
theorem dX1_meltOrMend_79 : decode cX1_meltOrMend 79 = .ok (.ifCond .ge 31, 3) := by decide +kernel
theorem dX1_meltOrMend_82 : decode cX1_meltOrMend 82 = .ok (.aload_n 0, 1) := by decide +kernel
theorem dX1_meltOrMend_83 : decode cX1_meltOrMend 83 = .ok (.dup, 1) := by decide +kernel
theorem dX1_meltOrMend_84 : decode cX1_meltOrMend 84 = .ok (.getfield 61, 3) := by decide +kernel
theorem dX1_meltOrMend_87 : decode cX1_meltOrMend 87 = .ok (.aload_n 0, 1) := by decide +kernel
theorem dX1_meltOrMend_88 : decode cX1_meltOrMend 88 = .ok (.getfield 12, 3) := by decide +kernel
theorem dX1_meltOrMend_91 : decode cX1_meltOrMend 91 = .ok (.iload_n 1, 1) := by decide +kernel
theorem dX1_meltOrMend_92 : decode cX1_meltOrMend 92 = .ok (.iload_n 2, 1) := by decide +kernel
theorem dX1_meltOrMend_93 : decode cX1_meltOrMend 93 = .ok (.ineg, 1) := by decide +kernel
theorem dX1_meltOrMend_94 : decode cX1_meltOrMend 94 = .ok (.iconst 2, 1) := by decide +kernel
theorem dX1_meltOrMend_95 : decode cX1_meltOrMend 95 = .ok (.idiv, 1) := by decide +kernel
theorem dX1_meltOrMend_96 : decode cX1_meltOrMend 96 = .ok (.aload_n 0, 1) := by decide +kernel
theorem dX1_meltOrMend_97 : decode cX1_meltOrMend 97 = .ok (.getfield 61, 3) := by decide +kernel
theorem dX1_meltOrMend_100 : decode cX1_meltOrMend 100 = .ok (.invokestatic 105, 3) := by decide +kernel
theorem dX1_meltOrMend_103 : decode cX1_meltOrMend 103 = .ok (.invokevirtual 111, 3) := by decide +kernel
theorem dX1_meltOrMend_106 : decode cX1_meltOrMend 106 = .ok (.isub, 1) := by decide +kernel
theorem dX1_meltOrMend_107 : decode cX1_meltOrMend 107 = .ok (.putfield 61, 3) := by decide +kernel
theorem dX1_meltOrMend_110 : decode cX1_meltOrMend 110 = .ok (.return_, 1) := by decide +kernel
set_option maxRecDepth 20000 in
theorem ggX1_freezeDrip_X5_thicken : GoodIn wsX1_freezeDrip wsX5_thicken := goodIn_r _ [10, 11, 12, 13, 14, 15, 25, 26, 27, 28, 29] (by decide +kernel) (by decide +kernel)
set_option maxRecDepth 20000 in
theorem gX1_freezeDrip_X5_thicken : GoodIn wsX1_freezeDrip (wsV RX1 111 RX5 yX5_thicken wsX5_thicken) := goodIn_app (goodIn_of _ (by decide +kernel)) ggX1_freezeDrip_X5_thicken
theorem dX1_freezeDrip_0 : decode cX1_freezeDrip 0 = .ok (.aload_n 0, 1) := by decide +kernel
theorem dX1_freezeDrip_1 : decode cX1_freezeDrip 1 = .ok (.getfield 36, 3) := by decide +kernel
theorem dX1_freezeDrip_4 : decode cX1_freezeDrip 4 = .ok (.iload_n 1, 1) := by decide +kernel
theorem dX1_freezeDrip_5 : decode cX1_freezeDrip 5 = .ok (.iaload, 1) := by decide +kernel
theorem dX1_freezeDrip_6 : decode cX1_freezeDrip 6 = .ok (.istore_n 2, 1) := by decide +kernel
theorem dX1_freezeDrip_7 : decode cX1_freezeDrip 7 = .ok (.iload_n 1, 1) := by decide +kernel
theorem dX1_freezeDrip_8 : decode cX1_freezeDrip 8 = .ok (.istore_n 3, 1) := by decide +kernel
theorem dX1_freezeDrip_9 : decode cX1_freezeDrip 9 = .ok (.iload_n 3, 1) := by decide +kernel
theorem dX1_freezeDrip_10 : decode cX1_freezeDrip 10 = .ok (.bipush 48, 2) := by decide +kernel
theorem dX1_freezeDrip_12 : decode cX1_freezeDrip 12 = .ok (.if_icmp .ge 51, 3) := by decide +kernel
theorem dX1_freezeDrip_15 : decode cX1_freezeDrip 15 = .ok (.aload_n 0, 1) := by decide +kernel
theorem dX1_freezeDrip_16 : decode cX1_freezeDrip 16 = .ok (.getfield 12, 3) := by decide +kernel
theorem dX1_freezeDrip_19 : decode cX1_freezeDrip 19 = .ok (.getfield 114, 3) := by decide +kernel
theorem dX1_freezeDrip_22 : decode cX1_freezeDrip 22 = .ok (.iload_n 3, 1) := by decide +kernel
theorem dX1_freezeDrip_23 : decode cX1_freezeDrip 23 = .ok (.iaload, 1) := by decide +kernel
theorem dX1_freezeDrip_24 : decode cX1_freezeDrip 24 = .ok (.istore 4, 2) := by decide +kernel
theorem dX1_freezeDrip_26 : decode cX1_freezeDrip 26 = .ok (.iload 4, 2) := by decide +kernel
theorem dX1_freezeDrip_28 : decode cX1_freezeDrip 28 = .ok (.ifCond .lt 29, 3) := by decide +kernel
theorem dX1_freezeDrip_31 : decode cX1_freezeDrip 31 = .ok (.aload_n 0, 1) := by decide +kernel
theorem dX1_freezeDrip_32 : decode cX1_freezeDrip 32 = .ok (.getfield 33, 3) := by decide +kernel
theorem dX1_freezeDrip_35 : decode cX1_freezeDrip 35 = .ok (.iload 4, 2) := by decide +kernel
theorem dX1_freezeDrip_37 : decode cX1_freezeDrip 37 = .ok (.iaload, 1) := by decide +kernel
theorem dX1_freezeDrip_38 : decode cX1_freezeDrip 38 = .ok (.ifCond .ge 19, 3) := by decide +kernel
theorem dX1_freezeDrip_41 : decode cX1_freezeDrip 41 = .ok (.iload_n 2, 1) := by decide +kernel
theorem dX1_freezeDrip_42 : decode cX1_freezeDrip 42 = .ok (.aload_n 0, 1) := by decide +kernel
theorem dX1_freezeDrip_43 : decode cX1_freezeDrip 43 = .ok (.getfield 12, 3) := by decide +kernel
theorem dX1_freezeDrip_46 : decode cX1_freezeDrip 46 = .ok (.iload 4, 2) := by decide +kernel
theorem dX1_freezeDrip_48 : decode cX1_freezeDrip 48 = .ok (.iload_n 2, 1) := by decide +kernel
theorem dX1_freezeDrip_49 : decode cX1_freezeDrip 49 = .ok (.invokevirtual 111, 3) := by decide +kernel
theorem dX1_freezeDrip_52 : decode cX1_freezeDrip 52 = .ok (.isub, 1) := by decide +kernel
theorem dX1_freezeDrip_53 : decode cX1_freezeDrip 53 = .ok (.istore_n 2, 1) := by decide +kernel
theorem dX1_freezeDrip_54 : decode cX1_freezeDrip 54 = .ok (.goto 9, 3) := by decide +kernel
theorem dX1_freezeDrip_57 : decode cX1_freezeDrip 57 = .ok (.iinc 3 8, 3) := by decide +kernel
theorem dX1_freezeDrip_60 : decode cX1_freezeDrip 60 = .ok (.goto (-51), 3) := by decide +kernel
theorem dX1_freezeDrip_63 : decode cX1_freezeDrip 63 = .ok (.aload_n 0, 1) := by decide +kernel
theorem dX1_freezeDrip_64 : decode cX1_freezeDrip 64 = .ok (.dup, 1) := by decide +kernel
theorem dX1_freezeDrip_65 : decode cX1_freezeDrip 65 = .ok (.getfield 61, 3) := by decide +kernel
theorem dX1_freezeDrip_68 : decode cX1_freezeDrip 68 = .ok (.iload_n 2, 1) := by decide +kernel
theorem dX1_freezeDrip_69 : decode cX1_freezeDrip 69 = .ok (.iadd, 1) := by decide +kernel
theorem dX1_freezeDrip_70 : decode cX1_freezeDrip 70 = .ok (.putfield 61, 3) := by decide +kernel
theorem dX1_freezeDrip_73 : decode cX1_freezeDrip 73 = .ok (.return_, 1) := by decide +kernel
set_option maxRecDepth 20000 in
theorem ggX1_removeMelted_X5_isGone : GoodIn wsX1_removeMelted wsX5_isGone := goodIn_r _ [8, 9, 31, 32, 33, 34, 35] (by decide +kernel) (by decide +kernel)
set_option maxRecDepth 20000 in
theorem gX1_removeMelted_X5_isGone : GoodIn wsX1_removeMelted (wsV RX1 75 RX5 yX5_isGone wsX5_isGone) := goodIn_app (goodIn_of _ (by decide +kernel)) ggX1_removeMelted_X5_isGone
set_option maxRecDepth 20000 in
theorem ggX1_removeMelted_X5_remove : GoodIn wsX1_removeMelted wsX5_remove := goodIn_r _ [13, 14, 9, 15, 16, 17, 18, 19, 20, 21, 31, 32, 33, 34, 35] (by decide +kernel) (by decide +kernel)
set_option maxRecDepth 20000 in
theorem gX1_removeMelted_X5_remove : GoodIn wsX1_removeMelted (wsV RX1 117 RX5 yX5_remove wsX5_remove) := goodIn_app (goodIn_of _ (by decide +kernel)) ggX1_removeMelted_X5_remove
theorem dX1_removeMelted_0 : decode cX1_removeMelted 0 = .ok (.iconst 0, 1) := by decide +kernel
theorem dX1_removeMelted_1 : decode cX1_removeMelted 1 = .ok (.istore_n 1, 1) := by decide +kernel
theorem dX1_removeMelted_2 : decode cX1_removeMelted 2 = .ok (.iconst 0, 1) := by decide +kernel
theorem dX1_removeMelted_3 : decode cX1_removeMelted 3 = .ok (.istore_n 2, 1) := by decide +kernel
theorem dX1_removeMelted_4 : decode cX1_removeMelted 4 = .ok (.iload_n 2, 1) := by decide +kernel
theorem dX1_removeMelted_5 : decode cX1_removeMelted 5 = .ok (.aload_n 0, 1) := by decide +kernel
theorem dX1_removeMelted_6 : decode cX1_removeMelted 6 = .ok (.getfield 12, 3) := by decide +kernel
theorem dX1_removeMelted_9 : decode cX1_removeMelted 9 = .ok (.getfield 79, 3) := by decide +kernel
theorem dX1_removeMelted_12 : decode cX1_removeMelted 12 = .ok (.if_icmp .ge 44, 3) := by decide +kernel
theorem dX1_removeMelted_15 : decode cX1_removeMelted 15 = .ok (.aload_n 0, 1) := by decide +kernel
theorem dX1_removeMelted_16 : decode cX1_removeMelted 16 = .ok (.getfield 12, 3) := by decide +kernel
theorem dX1_removeMelted_19 : decode cX1_removeMelted 19 = .ok (.iload_n 2, 1) := by decide +kernel
theorem dX1_removeMelted_20 : decode cX1_removeMelted 20 = .ok (.invokevirtual 75, 3) := by decide +kernel
theorem dX1_removeMelted_23 : decode cX1_removeMelted 23 = .ok (.ifCond .ne 27, 3) := by decide +kernel
theorem dX1_removeMelted_26 : decode cX1_removeMelted 26 = .ok (.aload_n 0, 1) := by decide +kernel
theorem dX1_removeMelted_27 : decode cX1_removeMelted 27 = .ok (.getfield 12, 3) := by decide +kernel
theorem dX1_removeMelted_30 : decode cX1_removeMelted 30 = .ok (.getfield 102, 3) := by decide +kernel
theorem dX1_removeMelted_33 : decode cX1_removeMelted 33 = .ok (.iload_n 2, 1) := by decide +kernel
theorem dX1_removeMelted_34 : decode cX1_removeMelted 34 = .ok (.iaload, 1) := by decide +kernel
theorem dX1_removeMelted_35 : decode cX1_removeMelted 35 = .ok (.ifCond .gt 15, 3) := by decide +kernel
theorem dX1_removeMelted_38 : decode cX1_removeMelted 38 = .ok (.aload_n 0, 1) := by decide +kernel
theorem dX1_removeMelted_39 : decode cX1_removeMelted 39 = .ok (.getfield 12, 3) := by decide +kernel
theorem dX1_removeMelted_42 : decode cX1_removeMelted 42 = .ok (.iload_n 2, 1) := by decide +kernel
theorem dX1_removeMelted_43 : decode cX1_removeMelted 43 = .ok (.invokevirtual 117, 3) := by decide +kernel
theorem dX1_removeMelted_46 : decode cX1_removeMelted 46 = .ok (.pop, 1) := by decide +kernel
theorem dX1_removeMelted_47 : decode cX1_removeMelted 47 = .ok (.iinc 1 1, 3) := by decide +kernel
theorem dX1_removeMelted_50 : decode cX1_removeMelted 50 = .ok (.iinc 2 1, 3) := by decide +kernel
theorem dX1_removeMelted_53 : decode cX1_removeMelted 53 = .ok (.goto (-49), 3) := by decide +kernel
theorem dX1_removeMelted_56 : decode cX1_removeMelted 56 = .ok (.iload_n 1, 1) := by decide +kernel
theorem dX1_removeMelted_57 : decode cX1_removeMelted 57 = .ok (.ireturn, 1) := by decide +kernel
set_option maxRecDepth 20000 in
theorem ggX1_collapse_X5_looseSet : GoodIn wsX1_collapse wsX5_looseSet := goodIn_r _ [8, 9, 10, 11, 12, 7, 13, 14, 15, 16, 17, 18, 19, 20, 21, 22, 23, 24, 25, 26, 27, 61, 62, 63, 64, 65] (by decide +kernel) (by decide +kernel)
set_option maxRecDepth 20000 in
theorem gX1_collapse_X5_looseSet : GoodIn wsX1_collapse (wsV RX1 120 RX5 yX5_looseSet wsX5_looseSet) := goodIn_app (goodIn_of _ (by decide +kernel)) ggX1_collapse_X5_looseSet
set_option maxRecDepth 20000 in
theorem ggX1_collapse_X5_weakSet : GoodIn wsX1_collapse wsX5_weakSet := goodIn_r _ [31, 9, 32, 33, 34, 7, 35, 18, 36, 37, 24, 25, 26, 27, 38, 39, 40, 41, 19, 61, 62, 63, 64, 65] (by decide +kernel) (by decide +kernel)
set_option maxRecDepth 20000 in
theorem gX1_collapse_X5_weakSet : GoodIn wsX1_collapse (wsV RX1 123 RX5 yX5_weakSet wsX5_weakSet) := goodIn_app (goodIn_of _ (by decide +kernel)) ggX1_collapse_X5_weakSet
set_option maxRecDepth 20000 in
theorem ggX1_collapse_X5_remove : GoodIn wsX1_collapse wsX5_remove := goodIn_r _ [45, 37, 18, 36, 46, 47, 48, 49, 50, 51, 61, 62, 63, 64, 65] (by decide +kernel) (by decide +kernel)
set_option maxRecDepth 20000 in
theorem gX1_collapse_X5_remove : GoodIn wsX1_collapse (wsV RX1 117 RX5 yX5_remove wsX5_remove) := goodIn_app (goodIn_of _ (by decide +kernel)) ggX1_collapse_X5_remove
theorem dX1_collapse_0 : decode cX1_collapse 0 = .ok (.iconst 0, 1) := by decide +kernel
theorem dX1_collapse_1 : decode cX1_collapse 1 = .ok (.istore_n 1, 1) := by decide +kernel
theorem dX1_collapse_2 : decode cX1_collapse 2 = .ok (.iconst 0, 1) := by decide +kernel
theorem dX1_collapse_3 : decode cX1_collapse 3 = .ok (.istore_n 2, 1) := by decide +kernel
theorem dX1_collapse_4 : decode cX1_collapse 4 = .ok (.iload_n 2, 1) := by decide +kernel
theorem dX1_collapse_5 : decode cX1_collapse 5 = .ok (.bipush 16, 2) := by decide +kernel
theorem dX1_collapse_7 : decode cX1_collapse 7 = .ok (.if_icmp .gt 83, 3) := by decide +kernel
theorem dX1_collapse_10 : decode cX1_collapse 10 = .ok (.aload_n 0, 1) := by decide +kernel
theorem dX1_collapse_11 : decode cX1_collapse 11 = .ok (.getfield 12, 3) := by decide +kernel
theorem dX1_collapse_14 : decode cX1_collapse 14 = .ok (.invokevirtual 120, 3) := by decide +kernel
theorem dX1_collapse_17 : decode cX1_collapse 17 = .ok (.aload_n 0, 1) := by decide +kernel
theorem dX1_collapse_18 : decode cX1_collapse 18 = .ok (.getfield 12, 3) := by decide +kernel
theorem dX1_collapse_21 : decode cX1_collapse 21 = .ok (.invokevirtual 123, 3) := by decide +kernel
theorem dX1_collapse_24 : decode cX1_collapse 24 = .ok (.ior, 1) := by decide +kernel
theorem dX1_collapse_25 : decode cX1_collapse 25 = .ok (.istore_n 3, 1) := by decide +kernel
theorem dX1_collapse_26 : decode cX1_collapse 26 = .ok (.iload_n 3, 1) := by decide +kernel
theorem dX1_collapse_27 : decode cX1_collapse 27 = .ok (.ifCond .ne 6, 3) := by decide +kernel
theorem dX1_collapse_30 : decode cX1_collapse 30 = .ok (.goto 60, 3) := by decide +kernel
theorem dX1_collapse_33 : decode cX1_collapse 33 = .ok (.iconst 0, 1) := by decide +kernel
theorem dX1_collapse_34 : decode cX1_collapse 34 = .ok (.istore 4, 2) := by decide +kernel
theorem dX1_collapse_36 : decode cX1_collapse 36 = .ok (.iload 4, 2) := by decide +kernel
theorem dX1_collapse_38 : decode cX1_collapse 38 = .ok (.aload_n 0, 1) := by decide +kernel
theorem dX1_collapse_39 : decode cX1_collapse 39 = .ok (.getfield 12, 3) := by decide +kernel
theorem dX1_collapse_42 : decode cX1_collapse 42 = .ok (.getfield 79, 3) := by decide +kernel
theorem dX1_collapse_45 : decode cX1_collapse 45 = .ok (.if_icmp .ge 39, 3) := by decide +kernel
theorem dX1_collapse_48 : decode cX1_collapse 48 = .ok (.iload_n 3, 1) := by decide +kernel
theorem dX1_collapse_49 : decode cX1_collapse 49 = .ok (.iload 4, 2) := by decide +kernel
theorem dX1_collapse_51 : decode cX1_collapse 51 = .ok (.iushr, 1) := by decide +kernel
theorem dX1_collapse_52 : decode cX1_collapse 52 = .ok (.iconst 1, 1) := by decide +kernel
theorem dX1_collapse_53 : decode cX1_collapse 53 = .ok (.iand, 1) := by decide +kernel
theorem dX1_collapse_54 : decode cX1_collapse 54 = .ok (.ifCond .eq 24, 3) := by decide +kernel
theorem dX1_collapse_57 : decode cX1_collapse 57 = .ok (.aload_n 0, 1) := by decide +kernel
theorem dX1_collapse_58 : decode cX1_collapse 58 = .ok (.dup, 1) := by decide +kernel
theorem dX1_collapse_59 : decode cX1_collapse 59 = .ok (.getfield 64, 3) := by decide +kernel
theorem dX1_collapse_62 : decode cX1_collapse 62 = .ok (.aload_n 0, 1) := by decide +kernel
theorem dX1_collapse_63 : decode cX1_collapse 63 = .ok (.getfield 12, 3) := by decide +kernel
theorem dX1_collapse_66 : decode cX1_collapse 66 = .ok (.iload 4, 2) := by decide +kernel
theorem dX1_collapse_68 : decode cX1_collapse 68 = .ok (.invokevirtual 117, 3) := by decide +kernel
theorem dX1_collapse_71 : decode cX1_collapse 71 = .ok (.iadd, 1) := by decide +kernel
theorem dX1_collapse_72 : decode cX1_collapse 72 = .ok (.putfield 64, 3) := by decide +kernel
theorem dX1_collapse_75 : decode cX1_collapse 75 = .ok (.iinc 1 1, 3) := by decide +kernel
theorem dX1_collapse_78 : decode cX1_collapse 78 = .ok (.iinc 4 1, 3) := by decide +kernel
theorem dX1_collapse_81 : decode cX1_collapse 81 = .ok (.goto (-45), 3) := by decide +kernel
theorem dX1_collapse_84 : decode cX1_collapse 84 = .ok (.iinc 2 1, 3) := by decide +kernel
theorem dX1_collapse_87 : decode cX1_collapse 87 = .ok (.goto (-83), 3) := by decide +kernel
theorem dX1_collapse_90 : decode cX1_collapse 90 = .ok (.iload_n 1, 1) := by decide +kernel
theorem dX1_collapse_91 : decode cX1_collapse 91 = .ok (.ireturn, 1) := by decide +kernel
set_option maxRecDepth 20000 in
theorem ggX1_danceTo_X5_shakenSet : GoodIn wsX1_danceTo wsX5_shakenSet := goodIn_r _ [9, 10, 11, 12, 13, 14, 8, 15, 16, 77, 78, 79, 80, 81] (by decide +kernel) (by decide +kernel)
set_option maxRecDepth 20000 in
theorem gX1_danceTo_X5_shakenSet : GoodIn wsX1_danceTo (wsV RX1 126 RX5 yX5_shakenSet wsX5_shakenSet) := goodIn_app (goodIn_of _ (by decide +kernel)) ggX1_danceTo_X5_shakenSet
set_option maxRecDepth 20000 in
theorem ggX1_danceTo_X1_removeMelted : GoodIn wsX1_danceTo wsX1_removeMelted := goodIn_r _ [21, 1, 2, 3, 22, 13, 14, 8, 15, 16, 23, 24, 25, 26, 11, 27, 28, 29, 30, 31, 32, 33, 68, 69, 70, 71, 72, 73, 74, 75, 76, 77, 78, 79, 80, 81] (by decide +kernel) (by decide +kernel)
set_option maxRecDepth 20000 in
theorem gX1_danceTo_X1_removeMelted : GoodIn wsX1_danceTo (wsV RX1 96 RX1 yX1_removeMelted wsX1_removeMelted) := goodIn_app (goodIn_of _ (by decide +kernel)) ggX1_danceTo_X1_removeMelted
set_option maxRecDepth 20000 in
theorem ggX1_danceTo_X1_collapse : GoodIn wsX1_danceTo wsX1_collapse := goodIn_r _ [37, 1, 2, 38, 39, 40, 41, 8, 42, 10, 43, 44, 45, 46, 47, 48, 49, 50, 16, 51, 52, 53, 54, 55, 12, 13, 14, 15, 56, 57, 58, 59, 60, 61, 62, 63, 27, 11, 64, 65, 66, 67, 23, 24, 25, 26, 28, 29, 30, 31, 32, 33, 68, 69, 70, 71, 72, 73, 74, 75, 76, 77, 78, 79, 80, 81] (by decide +kernel) (by decide +kernel)
set_option maxRecDepth 20000 in
theorem gX1_danceTo_X1_collapse : GoodIn wsX1_danceTo (wsV RX1 99 RX1 yX1_collapse wsX1_collapse) := goodIn_app (goodIn_of _ (by decide +kernel)) ggX1_danceTo_X1_collapse
theorem dX1_danceTo_0 : decode cX1_danceTo 0 = .ok (.aload_n 0, 1) := by decide +kernel
theorem dX1_danceTo_1 : decode cX1_danceTo 1 = .ok (.getfield 12, 3) := by decide +kernel
theorem dX1_danceTo_4 : decode cX1_danceTo 4 = .ok (.iload_n 1, 1) := by decide +kernel
theorem dX1_danceTo_5 : decode cX1_danceTo 5 = .ok (.invokevirtual 126, 3) := by decide +kernel
theorem dX1_danceTo_8 : decode cX1_danceTo 8 = .ok (.istore_n 2, 1) := by decide +kernel
theorem dX1_danceTo_9 : decode cX1_danceTo 9 = .ok (.iconst 0, 1) := by decide +kernel
theorem dX1_danceTo_10 : decode cX1_danceTo 10 = .ok (.istore_n 3, 1) := by decide +kernel
theorem dX1_danceTo_11 : decode cX1_danceTo 11 = .ok (.iload_n 3, 1) := by decide +kernel
theorem dX1_danceTo_12 : decode cX1_danceTo 12 = .ok (.aload_n 0, 1) := by decide +kernel
theorem dX1_danceTo_13 : decode cX1_danceTo 13 = .ok (.getfield 12, 3) := by decide +kernel
theorem dX1_danceTo_16 : decode cX1_danceTo 16 = .ok (.getfield 79, 3) := by decide +kernel
theorem dX1_danceTo_19 : decode cX1_danceTo 19 = .ok (.if_icmp .ge 40, 3) := by decide +kernel
theorem dX1_danceTo_22 : decode cX1_danceTo 22 = .ok (.iload_n 2, 1) := by decide +kernel
theorem dX1_danceTo_23 : decode cX1_danceTo 23 = .ok (.iload_n 3, 1) := by decide +kernel
theorem dX1_danceTo_24 : decode cX1_danceTo 24 = .ok (.iushr, 1) := by decide +kernel
theorem dX1_danceTo_25 : decode cX1_danceTo 25 = .ok (.iconst 1, 1) := by decide +kernel
theorem dX1_danceTo_26 : decode cX1_danceTo 26 = .ok (.iand, 1) := by decide +kernel
theorem dX1_danceTo_27 : decode cX1_danceTo 27 = .ok (.ifCond .eq 26, 3) := by decide +kernel
theorem dX1_danceTo_30 : decode cX1_danceTo 30 = .ok (.aload_n 0, 1) := by decide +kernel
theorem dX1_danceTo_31 : decode cX1_danceTo 31 = .ok (.getfield 12, 3) := by decide +kernel
theorem dX1_danceTo_34 : decode cX1_danceTo 34 = .ok (.getfield 102, 3) := by decide +kernel
theorem dX1_danceTo_37 : decode cX1_danceTo 37 = .ok (.iload_n 3, 1) := by decide +kernel
theorem dX1_danceTo_38 : decode cX1_danceTo 38 = .ok (.dup2, 1) := by decide +kernel
theorem dX1_danceTo_39 : decode cX1_danceTo 39 = .ok (.iaload, 1) := by decide +kernel
theorem dX1_danceTo_40 : decode cX1_danceTo 40 = .ok (.iconst 1, 1) := by decide +kernel
theorem dX1_danceTo_41 : decode cX1_danceTo 41 = .ok (.isub, 1) := by decide +kernel
theorem dX1_danceTo_42 : decode cX1_danceTo 42 = .ok (.iastore, 1) := by decide +kernel
theorem dX1_danceTo_43 : decode cX1_danceTo 43 = .ok (.aload_n 0, 1) := by decide +kernel
theorem dX1_danceTo_44 : decode cX1_danceTo 44 = .ok (.dup, 1) := by decide +kernel
theorem dX1_danceTo_45 : decode cX1_danceTo 45 = .ok (.getfield 61, 3) := by decide +kernel
theorem dX1_danceTo_48 : decode cX1_danceTo 48 = .ok (.iconst 1, 1) := by decide +kernel
theorem dX1_danceTo_49 : decode cX1_danceTo 49 = .ok (.iadd, 1) := by decide +kernel
theorem dX1_danceTo_50 : decode cX1_danceTo 50 = .ok (.putfield 61, 3) := by decide +kernel
theorem dX1_danceTo_53 : decode cX1_danceTo 53 = .ok (.iinc 3 1, 3) := by decide +kernel
theorem dX1_danceTo_56 : decode cX1_danceTo 56 = .ok (.goto (-45), 3) := by decide +kernel
theorem dX1_danceTo_59 : decode cX1_danceTo 59 = .ok (.aload_n 0, 1) := by decide +kernel
theorem dX1_danceTo_60 : decode cX1_danceTo 60 = .ok (.invokevirtual 96, 3) := by decide +kernel
theorem dX1_danceTo_63 : decode cX1_danceTo 63 = .ok (.aload_n 0, 1) := by decide +kernel
theorem dX1_danceTo_64 : decode cX1_danceTo 64 = .ok (.invokevirtual 99, 3) := by decide +kernel
theorem dX1_danceTo_67 : decode cX1_danceTo 67 = .ok (.iadd, 1) := by decide +kernel
theorem dX1_danceTo_68 : decode cX1_danceTo 68 = .ok (.ireturn, 1) := by decide +kernel
theorem dX2_init_0 : decode cX2_init 0 = .ok (.aload_n 0, 1) := by decide +kernel
theorem dX2_init_1 : decode cX2_init 1 = .ok (.invokespecial 3, 3) := by decide +kernel
theorem dX2_init_4 : decode cX2_init 4 = .ok (.aload_n 0, 1) := by decide +kernel
theorem dX2_init_5 : decode cX2_init 5 = .ok (.bipush 40, 2) := by decide +kernel
theorem dX2_init_7 : decode cX2_init 7 = .ok (.newarray .int, 2) := by decide +kernel
theorem dX2_init_9 : decode cX2_init 9 = .ok (.putfield 9, 3) := by decide +kernel
theorem dX2_init_12 : decode cX2_init 12 = .ok (.return_, 1) := by decide +kernel
theorem dX2_isMissing_0 : decode cX2_isMissing 0 = .ok (.aload_n 0, 1) := by decide +kernel
theorem dX2_isMissing_1 : decode cX2_isMissing 1 = .ok (.getfield 15, 3) := by decide +kernel
theorem dX2_isMissing_4 : decode cX2_isMissing 4 = .ok (.ifCond .ne 7, 3) := by decide +kernel
theorem dX2_isMissing_7 : decode cX2_isMissing 7 = .ok (.iconst 1, 1) := by decide +kernel
theorem dX2_isMissing_8 : decode cX2_isMissing 8 = .ok (.goto 4, 3) := by decide +kernel
theorem dX2_isMissing_11 : decode cX2_isMissing 11 = .ok (.iconst 0, 1) := by decide +kernel
theorem dX2_isMissing_12 : decode cX2_isMissing 12 = .ok (.ireturn, 1) := by decide +kernel
set_option maxRecDepth 20000 in
theorem ggX2_lay_J7_fill_53178 : GoodIn wsX2_lay wsJ7_fill_53178 := goodIn_r _ [7] (by decide +kernel) (by decide +kernel)
set_option maxRecDepth 20000 in
theorem gX2_lay_J7_fill_53178 : GoodIn wsX2_lay (va_wsS RX2 22 yJ7_fill_53178 wsJ7_fill_53178) := goodIn_app (goodIn_of _ (by decide +kernel)) ggX2_lay_J7_fill_53178
theorem dX2_lay_0 : decode cX2_lay 0 = .ok (.aload_n 0, 1) := by decide +kernel
theorem dX2_lay_1 : decode cX2_lay 1 = .ok (.iload_n 1, 1) := by decide +kernel
theorem dX2_lay_2 : decode cX2_lay 2 = .ok (.putfield 15, 3) := by decide +kernel
theorem dX2_lay_5 : decode cX2_lay 5 = .ok (.aload_n 0, 1) := by decide +kernel
theorem dX2_lay_6 : decode cX2_lay 6 = .ok (.iload_n 1, 1) := by decide +kernel
theorem dX2_lay_7 : decode cX2_lay 7 = .ok (.ifCond .ne 7, 3) := by decide +kernel
theorem dX2_lay_10 : decode cX2_lay 10 = .ok (.iconst 0, 1) := by decide +kernel
theorem dX2_lay_11 : decode cX2_lay 11 = .ok (.goto 4, 3) := by decide +kernel
theorem dX2_lay_14 : decode cX2_lay 14 = .ok (.iload_n 2, 1) := by decide +kernel
theorem dX2_lay_15 : decode cX2_lay 15 = .ok (.putfield 19, 3) := by decide +kernel
theorem dX2_lay_18 : decode cX2_lay 18 = .ok (.aload_n 0, 1) := by decide +kernel
theorem dX2_lay_19 : decode cX2_lay 19 = .ok (.getfield 9, 3) := by decide +kernel
theorem dX2_lay_22 : decode cX2_lay 22 = .ok (.iconst 0, 1) := by decide +kernel
theorem dX2_lay_23 : decode cX2_lay 23 = .ok (.invokestatic 22, 3) := by decide +kernel
theorem dX2_lay_26 : decode cX2_lay 26 = .ok (.aload_n 0, 1) := by decide +kernel
theorem dX2_lay_27 : decode cX2_lay 27 = .ok (.getfield 19, 3) := by decide +kernel
theorem dX2_lay_30 : decode cX2_lay 30 = .ok (.ireturn, 1) := by decide +kernel
theorem dX2_put_0 : decode cX2_put 0 = .ok (.aload_n 0, 1) := by decide +kernel
theorem dX2_put_1 : decode cX2_put 1 = .ok (.getfield 15, 3) := by decide +kernel
theorem dX2_put_4 : decode cX2_put 4 = .ok (.bipush 8, 2) := by decide +kernel
theorem dX2_put_6 : decode cX2_put 6 = .ok (.if_icmp .ne 14, 3) := by decide +kernel
theorem dX2_put_9 : decode cX2_put 9 = .ok (.aload_n 0, 1) := by decide +kernel
theorem dX2_put_10 : decode cX2_put 10 = .ok (.getfield 9, 3) := by decide +kernel
theorem dX2_put_13 : decode cX2_put 13 = .ok (.iload_n 1, 1) := by decide +kernel
theorem dX2_put_14 : decode cX2_put 14 = .ok (.iload_n 2, 1) := by decide +kernel
theorem dX2_put_15 : decode cX2_put 15 = .ok (.i2b, 1) := by decide +kernel
theorem dX2_put_16 : decode cX2_put 16 = .ok (.iastore, 1) := by decide +kernel
theorem dX2_put_17 : decode cX2_put 17 = .ok (.goto 30, 3) := by decide +kernel
theorem dX2_put_20 : decode cX2_put 20 = .ok (.aload_n 0, 1) := by decide +kernel
theorem dX2_put_21 : decode cX2_put 21 = .ok (.getfield 15, 3) := by decide +kernel
theorem dX2_put_24 : decode cX2_put 24 = .ok (.bipush 16, 2) := by decide +kernel
theorem dX2_put_26 : decode cX2_put 26 = .ok (.if_icmp .ne 14, 3) := by decide +kernel
theorem dX2_put_29 : decode cX2_put 29 = .ok (.aload_n 0, 1) := by decide +kernel
theorem dX2_put_30 : decode cX2_put 30 = .ok (.getfield 9, 3) := by decide +kernel
theorem dX2_put_33 : decode cX2_put 33 = .ok (.iload_n 1, 1) := by decide +kernel
theorem dX2_put_34 : decode cX2_put 34 = .ok (.iload_n 2, 1) := by decide +kernel
theorem dX2_put_35 : decode cX2_put 35 = .ok (.i2s, 1) := by decide +kernel
theorem dX2_put_36 : decode cX2_put 36 = .ok (.iastore, 1) := by decide +kernel
theorem dX2_put_37 : decode cX2_put 37 = .ok (.goto 10, 3) := by decide +kernel
theorem dX2_put_40 : decode cX2_put 40 = .ok (.aload_n 0, 1) := by decide +kernel
theorem dX2_put_41 : decode cX2_put 41 = .ok (.getfield 9, 3) := by decide +kernel
theorem dX2_put_44 : decode cX2_put 44 = .ok (.iload_n 1, 1) := by decide +kernel
theorem dX2_put_45 : decode cX2_put 45 = .ok (.iload_n 2, 1) := by decide +kernel
theorem dX2_put_46 : decode cX2_put 46 = .ok (.iastore, 1) := by decide +kernel
theorem dX2_put_47 : decode cX2_put 47 = .ok (.return_, 1) := by decide +kernel
theorem dX2_hasRange_0 : decode cX2_hasRange 0 = .ok (.iload_n 1, 1) := by decide +kernel
theorem dX2_hasRange_1 : decode cX2_hasRange 1 = .ok (.ifCond .lt 29, 3) := by decide +kernel
theorem dX2_hasRange_4 : decode cX2_hasRange 4 = .ok (.iload_n 2, 1) := by decide +kernel
theorem dX2_hasRange_5 : decode cX2_hasRange 5 = .ok (.ifCond .lt 25, 3) := by decide +kernel
theorem dX2_hasRange_8 : decode cX2_hasRange 8 = .ok (.iload_n 2, 1) := by decide +kernel
theorem dX2_hasRange_9 : decode cX2_hasRange 9 = .ok (.aload_n 0, 1) := by decide +kernel
theorem dX2_hasRange_10 : decode cX2_hasRange 10 = .ok (.getfield 19, 3) := by decide +kernel
theorem dX2_hasRange_13 : decode cX2_hasRange 13 = .ok (.if_icmp .gt 17, 3) := by decide +kernel
theorem dX2_hasRange_16 : decode cX2_hasRange 16 = .ok (.iload_n 1, 1) := by decide +kernel
theorem dX2_hasRange_17 : decode cX2_hasRange 17 = .ok (.aload_n 0, 1) := by decide +kernel
theorem dX2_hasRange_18 : decode cX2_hasRange 18 = .ok (.getfield 19, 3) := by decide +kernel
theorem dX2_hasRange_21 : decode cX2_hasRange 21 = .ok (.iload_n 2, 1) := by decide +kernel
theorem dX2_hasRange_22 : decode cX2_hasRange 22 = .ok (.isub, 1) := by decide +kernel
theorem dX2_hasRange_23 : decode cX2_hasRange 23 = .ok (.if_icmp .gt 7, 3) := by decide +kernel
theorem dX2_hasRange_26 : decode cX2_hasRange 26 = .ok (.iconst 1, 1) := by decide +kernel
theorem dX2_hasRange_27 : decode cX2_hasRange 27 = .ok (.goto 4, 3) := by decide +kernel
theorem dX2_hasRange_30 : decode cX2_hasRange 30 = .ok (.iconst 0, 1) := by decide +kernel
theorem dX2_hasRange_31 : decode cX2_hasRange 31 = .ok (.ireturn, 1) := by decide +kernel
theorem dX3_init_0 : decode cX3_init 0 = .ok (.aload_n 0, 1) := by decide +kernel
theorem dX3_init_1 : decode cX3_init 1 = .ok (.invokespecial 3, 3) := by decide +kernel
theorem dX3_init_4 : decode cX3_init 4 = .ok (.aload_n 0, 1) := by decide +kernel
theorem dX3_init_5 : decode cX3_init 5 = .ok (.bipush 120, 2) := by decide +kernel
theorem dX3_init_7 : decode cX3_init 7 = .ok (.newarray .int, 2) := by decide +kernel
theorem dX3_init_9 : decode cX3_init 9 = .ok (.putfield 9, 3) := by decide +kernel
theorem dX3_init_12 : decode cX3_init 12 = .ok (.return_, 1) := by decide +kernel
theorem dX3_append_0 : decode cX3_append 0 = .ok (.aload_n 0, 1) := by decide +kernel
theorem dX3_append_1 : decode cX3_append 1 = .ok (.getfield 15, 3) := by decide +kernel
theorem dX3_append_4 : decode cX3_append 4 = .ok (.bipush 120, 2) := by decide +kernel
theorem dX3_append_6 : decode cX3_append 6 = .ok (.if_icmp .ge 23, 3) := by decide +kernel
theorem dX3_append_9 : decode cX3_append 9 = .ok (.aload_n 0, 1) := by decide +kernel
theorem dX3_append_10 : decode cX3_append 10 = .ok (.getfield 9, 3) := by decide +kernel
theorem dX3_append_13 : decode cX3_append 13 = .ok (.aload_n 0, 1) := by decide +kernel
theorem dX3_append_14 : decode cX3_append 14 = .ok (.getfield 15, 3) := by decide +kernel
theorem dX3_append_17 : decode cX3_append 17 = .ok (.iload_n 1, 1) := by decide +kernel
theorem dX3_append_18 : decode cX3_append 18 = .ok (.iastore, 1) := by decide +kernel
theorem dX3_append_19 : decode cX3_append 19 = .ok (.aload_n 0, 1) := by decide +kernel
theorem dX3_append_20 : decode cX3_append 20 = .ok (.dup, 1) := by decide +kernel
theorem dX3_append_21 : decode cX3_append 21 = .ok (.getfield 15, 3) := by decide +kernel
theorem dX3_append_24 : decode cX3_append 24 = .ok (.iconst 1, 1) := by decide +kernel
theorem dX3_append_25 : decode cX3_append 25 = .ok (.iadd, 1) := by decide +kernel
theorem dX3_append_26 : decode cX3_append 26 = .ok (.putfield 15, 3) := by decide +kernel
theorem dX3_append_29 : decode cX3_append 29 = .ok (.return_, 1) := by decide +kernel
theorem dX3_byteAt_0 : decode cX3_byteAt 0 = .ok (.iload_n 1, 1) := by decide +kernel
theorem dX3_byteAt_1 : decode cX3_byteAt 1 = .ok (.ifCond .lt 20, 3) := by decide +kernel
theorem dX3_byteAt_4 : decode cX3_byteAt 4 = .ok (.iload_n 1, 1) := by decide +kernel
theorem dX3_byteAt_5 : decode cX3_byteAt 5 = .ok (.aload_n 0, 1) := by decide +kernel
theorem dX3_byteAt_6 : decode cX3_byteAt 6 = .ok (.getfield 15, 3) := by decide +kernel
theorem dX3_byteAt_9 : decode cX3_byteAt 9 = .ok (.if_icmp .ge 12, 3) := by decide +kernel
theorem dX3_byteAt_12 : decode cX3_byteAt 12 = .ok (.aload_n 0, 1) := by decide +kernel
theorem dX3_byteAt_13 : decode cX3_byteAt 13 = .ok (.getfield 9, 3) := by decide +kernel
theorem dX3_byteAt_16 : decode cX3_byteAt 16 = .ok (.iload_n 1, 1) := by decide +kernel
theorem dX3_byteAt_17 : decode cX3_byteAt 17 = .ok (.iaload, 1) := by decide +kernel
theorem dX3_byteAt_18 : decode cX3_byteAt 18 = .ok (.goto 4, 3) := by decide +kernel
theorem dX3_byteAt_21 : decode cX3_byteAt 21 = .ok (.iconst (-1), 1) := by decide +kernel
theorem dX3_byteAt_22 : decode cX3_byteAt 22 = .ok (.ireturn, 1) := by decide +kernel
set_option maxRecDepth 20000 in
theorem ggX4_init_X3_init : GoodIn wsX4_init wsX3_init := goodIn_r _ [9, 10, 2, 3, 11, 12, 13, 14] (by decide +kernel) (by decide +kernel)
set_option maxRecDepth 20000 in
theorem gX4_init_X3_init_n11 : GoodIn wsX4_init (wsX3_init) := ggX4_init_X3_init
theorem dX4_init_0 : decode cX4_init 0 = .ok (.aload_n 0, 1) := by decide +kernel
theorem dX4_init_1 : decode cX4_init 1 = .ok (.invokespecial 3, 3) := by decide +kernel
theorem dX4_init_4 : decode cX4_init 4 = .ok (.aload_n 0, 1) := by decide +kernel
theorem dX4_init_5 : decode cX4_init 5 = .ok (.new 9, 3) := by decide +kernel
theorem dX4_init_8 : decode cX4_init 8 = .ok (.dup, 1) := by decide +kernel
theorem dX4_init_9 : decode cX4_init 9 = .ok (.invokespecial 11, 3) := by decide +kernel
theorem dX4_init_12 : decode cX4_init 12 = .ok (.putfield 12, 3) := by decide +kernel
theorem dX4_init_15 : decode cX4_init 15 = .ok (.return_, 1) := by decide +kernel
set_option maxRecDepth 20000 in
theorem ggX4_readInto_X4_advance : GoodIn wsX4_readInto wsX4_advance := goodIn_r _ [8, 1, 3, 9, 10, 2, 11, 12, 13, 14, 15, 16, 17, 18, 19, 7, 20, 21, 22, 23, 24, 25, 26, 27, 28, 29, 30, 31, 32, 146, 147, 148, 149, 150, 151, 152] (by decide +kernel) (by decide +kernel)
set_option maxRecDepth 20000 in
theorem gX4_readInto_X4_advance : GoodIn wsX4_readInto (wsV RX4 22 RX4 yX4_advance wsX4_advance) := goodIn_app (goodIn_of _ (by decide +kernel)) ggX4_readInto_X4_advance
set_option maxRecDepth 20000 in
theorem ggX4_readInto_X4_readItem : GoodIn wsX4_readInto wsX4_readItem := goodIn_r _ [36, 37, 38, 39, 40, 41, 7, 42, 43, 44, 45, 46, 2, 1, 3, 9, 47, 48, 49, 50, 51, 52, 53, 54, 55, 56, 57, 58, 11, 12, 13, 14, 15, 16, 17, 59, 60, 61, 62, 63, 64, 65, 66, 67, 68, 69, 70, 71, 72, 73, 74, 75, 76, 77, 78, 79, 80, 81, 82, 83, 84, 85, 86, 87, 88, 89, 90, 91, 92, 93, 94, 95, 96, 97, 98, 99, 28, 100, 101, 102, 103, 104, 105, 4, 5, 6, 8, 10, 18, 19, 20, 21, 22, 23, 24, 25, 26, 27, 29, 30, 31, 32, 106, 107, 108, 109, 110, 111, 112, 113, 114, 115, 116, 117, 118, 119, 120, 121, 122, 123, 124, 125, 126, 127, 128, 129, 130, 131, 132, 133, 134, 135, 136, 137, 138, 139, 140, 141, 142, 143, 144, 145, 153, 154, 155, 156, 157, 158, 159, 160, 161, 146, 147, 148, 149, 150, 151, 152, 162, 163, 164, 165, 166, 167, 168, 169, 170] (by decide +kernel) (by decide +kernel)
set_option maxRecDepth 20000 in
theorem gX4_readInto_X4_readItem : GoodIn wsX4_readInto (wsV RX4 25 RX4 yX4_readItem wsX4_readItem) := goodIn_app (goodIn_of _ (by decide +kernel)) ggX4_readInto_X4_readItem
theorem dX4_readInto_0 : decode cX4_readInto 0 = .ok (.aload_n 0, 1) := by decide +kernel
theorem dX4_readInto_1 : decode cX4_readInto 1 = .ok (.iconst 0, 1) := by decide +kernel
theorem dX4_readInto_2 : decode cX4_readInto 2 = .ok (.putfield 18, 3) := by decide +kernel
theorem dX4_readInto_5 : decode cX4_readInto 5 = .ok (.aload_n 0, 1) := by decide +kernel
theorem dX4_readInto_6 : decode cX4_readInto 6 = .ok (.invokevirtual 22, 3) := by decide +kernel
theorem dX4_readInto_9 : decode cX4_readInto 9 = .ok (.iconst 1, 1) := by decide +kernel
theorem dX4_readInto_10 : decode cX4_readInto 10 = .ok (.istore_n 2, 1) := by decide +kernel
theorem dX4_readInto_11 : decode cX4_readInto 11 = .ok (.iload_n 2, 1) := by decide +kernel
theorem dX4_readInto_12 : decode cX4_readInto 12 = .ok (.bipush 120, 2) := by decide +kernel
theorem dX4_readInto_14 : decode cX4_readInto 14 = .ok (.if_icmp .gt 44, 3) := by decide +kernel
theorem dX4_readInto_17 : decode cX4_readInto 17 = .ok (.aload_n 0, 1) := by decide +kernel
theorem dX4_readInto_18 : decode cX4_readInto 18 = .ok (.aload_n 1, 1) := by decide +kernel
theorem dX4_readInto_19 : decode cX4_readInto 19 = .ok (.invokevirtual 25, 3) := by decide +kernel
theorem dX4_readInto_22 : decode cX4_readInto 22 = .ok (.ifCond .ne 6, 3) := by decide +kernel
theorem dX4_readInto_25 : decode cX4_readInto 25 = .ok (.goto 33, 3) := by decide +kernel
theorem dX4_readInto_28 : decode cX4_readInto 28 = .ok (.aload_n 0, 1) := by decide +kernel
theorem dX4_readInto_29 : decode cX4_readInto 29 = .ok (.getfield 29, 3) := by decide +kernel
theorem dX4_readInto_32 : decode cX4_readInto 32 = .ok (.ifCond .ne 5, 3) := by decide +kernel
theorem dX4_readInto_35 : decode cX4_readInto 35 = .ok (.iload_n 2, 1) := by decide +kernel
theorem dX4_readInto_36 : decode cX4_readInto 36 = .ok (.ireturn, 1) := by decide +kernel
theorem dX4_readInto_37 : decode cX4_readInto 37 = .ok (.aload_n 0, 1) := by decide +kernel
theorem dX4_readInto_38 : decode cX4_readInto 38 = .ok (.getfield 29, 3) := by decide +kernel
theorem dX4_readInto_41 : decode cX4_readInto 41 = .ok (.iconst 3, 1) := by decide +kernel
theorem dX4_readInto_42 : decode cX4_readInto 42 = .ok (.if_icmp .eq 6, 3) := by decide +kernel
theorem dX4_readInto_45 : decode cX4_readInto 45 = .ok (.goto 13, 3) := by decide +kernel
theorem dX4_readInto_48 : decode cX4_readInto 48 = .ok (.aload_n 0, 1) := by decide +kernel
theorem dX4_readInto_49 : decode cX4_readInto 49 = .ok (.invokevirtual 22, 3) := by decide +kernel
theorem dX4_readInto_52 : decode cX4_readInto 52 = .ok (.iinc 2 1, 3) := by decide +kernel
theorem dX4_readInto_55 : decode cX4_readInto 55 = .ok (.goto (-44), 3) := by decide +kernel
theorem dX4_readInto_58 : decode cX4_readInto 58 = .ok (.iconst (-1), 1) := by decide +kernel
theorem dX4_readInto_59 : decode cX4_readInto 59 = .ok (.aload_n 0, 1) := by decide +kernel
theorem dX4_readInto_60 : decode cX4_readInto 60 = .ok (.getfield 32, 3) := by decide +kernel
theorem dX4_readInto_63 : decode cX4_readInto 63 = .ok (.isub, 1) := by decide +kernel
theorem dX4_readInto_64 : decode cX4_readInto 64 = .ok (.ireturn, 1) := by decide +kernel
set_option maxRecDepth 20000 in
theorem ggX4_readItem_X4_kindOfWord : GoodIn wsX4_readItem wsX4_kindOfWord := goodIn_r _ [7, 8, 9, 10, 6, 11, 12, 13, 14, 15, 16, 17, 18, 19, 20, 21, 22, 23, 24, 25, 26, 27, 28, 29, 30, 31, 32, 33, 34, 35, 36, 37, 38, 39, 40, 41, 42, 43, 44, 45, 46, 47, 48, 49, 50, 51, 52, 53, 54, 55, 56, 57, 58, 59, 60, 61, 62, 63, 64, 65, 66, 67, 68, 69, 70, 71, 151, 152, 153, 154, 155, 156, 157] (by decide +kernel) (by decide +kernel)
set_option maxRecDepth 20000 in
theorem gX4_readItem_X4_kindOfWord : GoodIn wsX4_readItem (wsV RX4 35 RX4 yX4_kindOfWord wsX4_kindOfWord) := goodIn_app (goodIn_of _ (by decide +kernel)) ggX4_readItem_X4_kindOfWord
set_option maxRecDepth 20000 in
theorem ggX4_readItem_X4_readBlock : GoodIn wsX4_readItem wsX4_readBlock := goodIn_r _ [75, 76, 77, 78, 79, 80, 81, 82, 83, 84, 85, 6, 86, 13, 14, 15, 87, 12, 28, 29, 30, 31, 32, 33, 34, 88, 89, 90, 91, 92, 93, 94, 95, 96, 97, 98, 99, 100, 101, 102, 103, 104, 105, 106, 107, 108, 109, 110, 111, 112, 113, 114, 115, 116, 8, 9, 10, 11, 16, 17, 18, 19, 20, 21, 22, 23, 24, 25, 26, 27, 35, 36, 37, 38, 39, 40, 41, 42, 43, 44, 45, 46, 47, 48, 49, 50, 51, 52, 53, 54, 55, 56, 57, 58, 59, 60, 61, 62, 63, 64, 65, 66, 67, 68, 69, 70, 71, 117, 118, 119, 120, 121, 122, 123, 124, 151, 152, 153, 154, 155, 158, 159, 160, 161, 162, 156, 157] (by decide +kernel) (by decide +kernel)
set_option maxRecDepth 20000 in
theorem gX4_readItem_X4_readBlock : GoodIn wsX4_readItem (wsV RX4 45 RX4 yX4_readBlock wsX4_readBlock) := goodIn_app (goodIn_of _ (by decide +kernel)) ggX4_readItem_X4_readBlock
set_option maxRecDepth 20000 in
theorem ggX4_readItem_X4_isWord : GoodIn wsX4_readItem wsX4_isWord := goodIn_r _ [11, 12, 13, 14, 15, 16, 17, 18, 19, 20, 21, 22, 23, 24, 25, 26, 27, 28, 29, 30, 31, 32, 33, 34, 35, 36, 37, 38, 39, 40, 41, 42, 43, 44, 45, 46, 47, 48, 49, 50, 51, 52, 53, 54, 55, 56, 57, 58, 59, 60, 61, 62, 63, 64, 65, 66, 67, 68, 69, 70, 71, 151, 152, 153, 154, 155, 156, 157] (by decide +kernel) (by decide +kernel)
set_option maxRecDepth 20000 in
theorem gX4_readItem_X4_isWord : GoodIn wsX4_readItem (wsV RX4 51 RX4 yX4_isWord wsX4_isWord) := goodIn_app (goodIn_of _ (by decide +kernel)) ggX4_readItem_X4_isWord
set_option maxRecDepth 20000 in
theorem ggX4_readItem_X4_readCandle : GoodIn wsX4_readItem wsX4_readCandle := goodIn_r _ [128, 76, 129, 130, 83, 84, 85, 6, 86, 13, 14, 15, 87, 12, 28, 29, 30, 31, 32, 33, 34, 88, 89, 90, 91, 92, 93, 94, 95, 96, 97, 98, 99, 100, 101, 102, 103, 104, 105, 106, 107, 108, 8, 9, 10, 11, 16, 17, 18, 19, 20, 21, 22, 23, 24, 25, 26, 27, 35, 36, 37, 38, 39, 40, 41, 42, 43, 44, 45, 46, 47, 48, 49, 50, 51, 52, 53, 54, 55, 56, 57, 58, 59, 60, 61, 62, 63, 64, 65, 66, 67, 68, 69, 70, 71, 131, 132, 133, 134, 135, 136, 151, 152, 153, 154, 155, 163, 164, 165, 166, 156, 157] (by decide +kernel) (by decide +kernel)
set_option maxRecDepth 20000 in
theorem gX4_readItem_X4_readCandle : GoodIn wsX4_readItem (wsV RX4 59 RX4 yX4_readCandle wsX4_readCandle) := goodIn_app (goodIn_of _ (by decide +kernel)) ggX4_readItem_X4_readCandle
set_option maxRecDepth 20000 in
theorem ggX4_readItem_X4_readCold : GoodIn wsX4_readItem wsX4_readCold := goodIn_r _ [140, 12, 76, 141, 83, 84, 85, 6, 86, 13, 14, 15, 87, 28, 29, 30, 31, 32, 33, 34, 88, 89, 90, 91, 92, 93, 94, 95, 96, 97, 98, 99, 100, 101, 102, 103, 104, 105, 106, 107, 108, 151, 152, 153, 154, 155, 163, 164, 165, 166, 156, 157] (by decide +kernel) (by decide +kernel)
set_option maxRecDepth 20000 in
theorem gX4_readItem_X4_readCold : GoodIn wsX4_readItem (wsV RX4 65 RX4 yX4_readCold wsX4_readCold) := goodIn_app (goodIn_of _ (by decide +kernel)) ggX4_readItem_X4_readCold
theorem dX4_readItem_0 : decode cX4_readItem 0 = .ok (.aload_n 0, 1) := by decide +kernel
theorem dX4_readItem_1 : decode cX4_readItem 1 = .ok (.invokevirtual 35, 3) := by decide +kernel
theorem dX4_readItem_4 : decode cX4_readItem 4 = .ok (.istore_n 2, 1) := by decide +kernel
theorem dX4_readItem_5 : decode cX4_readItem 5 = .ok (.iload_n 2, 1) := by decide +kernel
theorem dX4_readItem_6 : decode cX4_readItem 6 = .ok (.ifCond .lt 13, 3) := by decide +kernel
theorem dX4_readItem_9 : decode cX4_readItem 9 = .ok (.aload_n 0, 1) := by decide +kernel
theorem dX4_readItem_10 : decode cX4_readItem 10 = .ok (.aload_n 1, 1) := by decide +kernel
theorem dX4_readItem_11 : decode cX4_readItem 11 = .ok (.getfield 39, 3) := by decide +kernel
theorem dX4_readItem_14 : decode cX4_readItem 14 = .ok (.iload_n 2, 1) := by decide +kernel
theorem dX4_readItem_15 : decode cX4_readItem 15 = .ok (.invokevirtual 45, 3) := by decide +kernel
theorem dX4_readItem_18 : decode cX4_readItem 18 = .ok (.ireturn, 1) := by decide +kernel
theorem dX4_readItem_19 : decode cX4_readItem 19 = .ok (.aload_n 0, 1) := by decide +kernel
theorem dX4_readItem_20 : decode cX4_readItem 20 = .ok (.ldc 49, 2) := by decide +kernel
theorem dX4_readItem_22 : decode cX4_readItem 22 = .ok (.invokevirtual 51, 3) := by decide +kernel
theorem dX4_readItem_25 : decode cX4_readItem 25 = .ok (.ifCond .eq 12, 3) := by decide +kernel
theorem dX4_readItem_28 : decode cX4_readItem 28 = .ok (.aload_n 0, 1) := by decide +kernel
theorem dX4_readItem_29 : decode cX4_readItem 29 = .ok (.aload_n 1, 1) := by decide +kernel
theorem dX4_readItem_30 : decode cX4_readItem 30 = .ok (.getfield 55, 3) := by decide +kernel
theorem dX4_readItem_33 : decode cX4_readItem 33 = .ok (.invokevirtual 59, 3) := by decide +kernel
theorem dX4_readItem_36 : decode cX4_readItem 36 = .ok (.ireturn, 1) := by decide +kernel
theorem dX4_readItem_37 : decode cX4_readItem 37 = .ok (.aload_n 0, 1) := by decide +kernel
theorem dX4_readItem_38 : decode cX4_readItem 38 = .ok (.ldc 63, 2) := by decide +kernel
theorem dX4_readItem_40 : decode cX4_readItem 40 = .ok (.invokevirtual 51, 3) := by decide +kernel
theorem dX4_readItem_43 : decode cX4_readItem 43 = .ok (.ifCond .eq 18, 3) := by decide +kernel
theorem dX4_readItem_46 : decode cX4_readItem 46 = .ok (.aload_n 0, 1) := by decide +kernel
theorem dX4_readItem_47 : decode cX4_readItem 47 = .ok (.aload_n 1, 1) := by decide +kernel
theorem dX4_readItem_48 : decode cX4_readItem 48 = .ok (.getfield 55, 3) := by decide +kernel
theorem dX4_readItem_51 : decode cX4_readItem 51 = .ok (.invokevirtual 65, 3) := by decide +kernel
theorem dX4_readItem_54 : decode cX4_readItem 54 = .ok (.ifCond .eq 7, 3) := by decide +kernel
theorem dX4_readItem_57 : decode cX4_readItem 57 = .ok (.iconst 1, 1) := by decide +kernel
theorem dX4_readItem_58 : decode cX4_readItem 58 = .ok (.goto 4, 3) := by decide +kernel
theorem dX4_readItem_61 : decode cX4_readItem 61 = .ok (.iconst 0, 1) := by decide +kernel
theorem dX4_readItem_62 : decode cX4_readItem 62 = .ok (.ireturn, 1) := by decide +kernel
set_option maxRecDepth 20000 in
theorem ggX4_readBlock_X5_isFull : GoodIn wsX4_readBlock wsX5_isFull := goodIn_r _ [6, 7, 120, 121, 122, 123, 124] (by decide +kernel) (by decide +kernel)
set_option maxRecDepth 20000 in
theorem gX4_readBlock_X5_isFull : GoodIn wsX4_readBlock (wsV RX4 68 RX5 yX5_isFull wsX5_isFull) := goodIn_app (goodIn_of _ (by decide +kernel)) ggX4_readBlock_X5_isFull
set_option maxRecDepth 20000 in
theorem ggX4_readBlock_X4_advance : GoodIn wsX4_readBlock wsX4_advance := goodIn_r _ [12, 13, 14, 15, 16, 17, 18, 19, 20, 21, 22, 23, 24, 25, 26, 11, 27, 28, 29, 30, 31, 32, 33, 34, 1, 35, 36, 37, 38, 115, 116, 117, 118, 119, 125, 126] (by decide +kernel) (by decide +kernel)
set_option maxRecDepth 20000 in
theorem gX4_readBlock_X4_advance : GoodIn wsX4_readBlock (wsV RX4 22 RX4 yX4_advance wsX4_advance) := goodIn_app (goodIn_of _ (by decide +kernel)) ggX4_readBlock_X4_advance
set_option maxRecDepth 20000 in
theorem ggX4_readBlock_X4_isNumber : GoodIn wsX4_readBlock wsX4_isNumber := goodIn_r _ [42, 17, 1, 43, 44, 45, 115, 116, 117, 118, 119] (by decide +kernel) (by decide +kernel)
set_option maxRecDepth 20000 in
theorem gX4_readBlock_X4_isNumber : GoodIn wsX4_readBlock (wsV RX4 74 RX4 yX4_isNumber wsX4_isNumber) := goodIn_app (goodIn_of _ (by decide +kernel)) ggX4_readBlock_X4_isNumber
set_option maxRecDepth 20000 in
theorem ggX4_readBlock_X5_blockAt : GoodIn wsX4_readBlock wsX5_blockAt := goodIn_r _ [49, 50, 51, 44, 52, 53, 43, 45, 120, 121, 122, 123, 124] (by decide +kernel) (by decide +kernel)
set_option maxRecDepth 20000 in
theorem gX4_readBlock_X5_blockAt : GoodIn wsX4_readBlock (wsV RX4 81 RX5 yX5_blockAt wsX5_blockAt) := goodIn_app (goodIn_of _ (by decide +kernel)) ggX4_readBlock_X5_blockAt
set_option maxRecDepth 20000 in
theorem ggX4_readBlock_X4_isWord : GoodIn wsX4_readBlock wsX4_isWord := goodIn_r _ [57, 17, 13, 14, 15, 58, 59, 60, 61, 62, 63, 64, 65, 66, 67, 68, 69, 18, 19, 20, 21, 22, 23, 24, 70, 71, 72, 73, 74, 75, 76, 77, 78, 79, 80, 81, 82, 83, 84, 85, 86, 87, 88, 89, 90, 91, 92, 93, 94, 95, 96, 97, 98, 99, 100, 101, 102, 103, 104, 105, 106, 115, 116, 117, 118, 119, 125, 126] (by decide +kernel) (by decide +kernel)
set_option maxRecDepth 20000 in
theorem gX4_readBlock_X4_isWord : GoodIn wsX4_readBlock (wsV RX4 51 RX4 yX4_isWord wsX4_isWord) := goodIn_app (goodIn_of _ (by decide +kernel)) ggX4_readBlock_X4_isWord
set_option maxRecDepth 20000 in
theorem ggX4_readBlock_X5_build : GoodIn wsX4_readBlock wsX5_build := goodIn_r _ [110, 7, 111, 112, 113, 50, 114, 3, 4, 5, 6, 51, 44, 52, 53, 43, 45, 120, 121, 122, 123, 124] (by decide +kernel) (by decide +kernel)
set_option maxRecDepth 20000 in
theorem gX4_readBlock_X5_build : GoodIn wsX4_readBlock (wsV RX4 87 RX5 yX5_build wsX5_build) := goodIn_app (goodIn_of _ (by decide +kernel)) ggX4_readBlock_X5_build
theorem dX4_readBlock_0 : decode cX4_readBlock 0 = .ok (.aload_n 1, 1) := by decide +kernel
theorem dX4_readBlock_1 : decode cX4_readBlock 1 = .ok (.invokevirtual 68, 3) := by decide +kernel
theorem dX4_readBlock_4 : decode cX4_readBlock 4 = .ok (.ifCond .eq 5, 3) := by decide +kernel
theorem dX4_readBlock_7 : decode cX4_readBlock 7 = .ok (.iconst 0, 1) := by decide +kernel
theorem dX4_readBlock_8 : decode cX4_readBlock 8 = .ok (.ireturn, 1) := by decide +kernel
theorem dX4_readBlock_9 : decode cX4_readBlock 9 = .ok (.aload_n 0, 1) := by decide +kernel
theorem dX4_readBlock_10 : decode cX4_readBlock 10 = .ok (.invokevirtual 22, 3) := by decide +kernel
theorem dX4_readBlock_13 : decode cX4_readBlock 13 = .ok (.aload_n 0, 1) := by decide +kernel
theorem dX4_readBlock_14 : decode cX4_readBlock 14 = .ok (.iconst 0, 1) := by decide +kernel
theorem dX4_readBlock_15 : decode cX4_readBlock 15 = .ok (.bipush 47, 2) := by decide +kernel
theorem dX4_readBlock_17 : decode cX4_readBlock 17 = .ok (.invokevirtual 74, 3) := by decide +kernel
theorem dX4_readBlock_20 : decode cX4_readBlock 20 = .ok (.ifCond .eq 14, 3) := by decide +kernel
theorem dX4_readBlock_23 : decode cX4_readBlock 23 = .ok (.aload_n 1, 1) := by decide +kernel
theorem dX4_readBlock_24 : decode cX4_readBlock 24 = .ok (.aload_n 0, 1) := by decide +kernel
theorem dX4_readBlock_25 : decode cX4_readBlock 25 = .ok (.getfield 78, 3) := by decide +kernel
theorem dX4_readBlock_28 : decode cX4_readBlock 28 = .ok (.invokevirtual 81, 3) := by decide +kernel
theorem dX4_readBlock_31 : decode cX4_readBlock 31 = .ok (.ifCond .lt 5, 3) := by decide +kernel
theorem dX4_readBlock_34 : decode cX4_readBlock 34 = .ok (.iconst 0, 1) := by decide +kernel
theorem dX4_readBlock_35 : decode cX4_readBlock 35 = .ok (.ireturn, 1) := by decide +kernel
theorem dX4_readBlock_36 : decode cX4_readBlock 36 = .ok (.aload_n 0, 1) := by decide +kernel
theorem dX4_readBlock_37 : decode cX4_readBlock 37 = .ok (.getfield 78, 3) := by decide +kernel
theorem dX4_readBlock_40 : decode cX4_readBlock 40 = .ok (.istore_n 3, 1) := by decide +kernel
theorem dX4_readBlock_41 : decode cX4_readBlock 41 = .ok (.bipush 20, 2) := by decide +kernel
theorem dX4_readBlock_43 : decode cX4_readBlock 43 = .ok (.istore 4, 2) := by decide +kernel
theorem dX4_readBlock_45 : decode cX4_readBlock 45 = .ok (.aload_n 0, 1) := by decide +kernel
theorem dX4_readBlock_46 : decode cX4_readBlock 46 = .ok (.invokevirtual 22, 3) := by decide +kernel
theorem dX4_readBlock_49 : decode cX4_readBlock 49 = .ok (.aload_n 0, 1) := by decide +kernel
theorem dX4_readBlock_50 : decode cX4_readBlock 50 = .ok (.ldc 85, 2) := by decide +kernel
theorem dX4_readBlock_52 : decode cX4_readBlock 52 = .ok (.invokevirtual 51, 3) := by decide +kernel
theorem dX4_readBlock_55 : decode cX4_readBlock 55 = .ok (.ifCond .eq 29, 3) := by decide +kernel
theorem dX4_readBlock_58 : decode cX4_readBlock 58 = .ok (.aload_n 0, 1) := by decide +kernel
theorem dX4_readBlock_59 : decode cX4_readBlock 59 = .ok (.invokevirtual 22, 3) := by decide +kernel
theorem dX4_readBlock_62 : decode cX4_readBlock 62 = .ok (.aload_n 0, 1) := by decide +kernel
theorem dX4_readBlock_63 : decode cX4_readBlock 63 = .ok (.iconst 1, 1) := by decide +kernel
theorem dX4_readBlock_64 : decode cX4_readBlock 64 = .ok (.bipush 99, 2) := by decide +kernel
theorem dX4_readBlock_66 : decode cX4_readBlock 66 = .ok (.invokevirtual 74, 3) := by decide +kernel
theorem dX4_readBlock_69 : decode cX4_readBlock 69 = .ok (.ifCond .ne 5, 3) := by decide +kernel
theorem dX4_readBlock_72 : decode cX4_readBlock 72 = .ok (.iconst 0, 1) := by decide +kernel
theorem dX4_readBlock_73 : decode cX4_readBlock 73 = .ok (.ireturn, 1) := by decide +kernel
theorem dX4_readBlock_74 : decode cX4_readBlock 74 = .ok (.aload_n 0, 1) := by decide +kernel
theorem dX4_readBlock_75 : decode cX4_readBlock 75 = .ok (.getfield 78, 3) := by decide +kernel
theorem dX4_readBlock_78 : decode cX4_readBlock 78 = .ok (.istore 4, 2) := by decide +kernel
theorem dX4_readBlock_80 : decode cX4_readBlock 80 = .ok (.aload_n 0, 1) := by decide +kernel
theorem dX4_readBlock_81 : decode cX4_readBlock 81 = .ok (.invokevirtual 22, 3) := by decide +kernel
theorem dX4_readBlock_84 : decode cX4_readBlock 84 = .ok (.aload_n 1, 1) := by decide +kernel
theorem dX4_readBlock_85 : decode cX4_readBlock 85 = .ok (.iload_n 2, 1) := by decide +kernel
theorem dX4_readBlock_86 : decode cX4_readBlock 86 = .ok (.iload_n 3, 1) := by decide +kernel
theorem dX4_readBlock_87 : decode cX4_readBlock 87 = .ok (.iload 4, 2) := by decide +kernel
theorem dX4_readBlock_89 : decode cX4_readBlock 89 = .ok (.invokevirtual 87, 3) := by decide +kernel
theorem dX4_readBlock_92 : decode cX4_readBlock 92 = .ok (.pop, 1) := by decide +kernel
theorem dX4_readBlock_93 : decode cX4_readBlock 93 = .ok (.iconst 1, 1) := by decide +kernel
theorem dX4_readBlock_94 : decode cX4_readBlock 94 = .ok (.ireturn, 1) := by decide +kernel
set_option maxRecDepth 20000 in
theorem ggX4_readCandle_X4_advance : GoodIn wsX4_readCandle wsX4_advance := goodIn_r _ [8, 9, 10, 11, 12, 13, 14, 15, 16, 17, 18, 19, 20, 21, 22, 7, 23, 24, 25, 26, 27, 28, 29, 30, 1, 31, 32, 33, 34, 101, 102, 103, 104, 105, 110, 111] (by decide +kernel) (by decide +kernel)
set_option maxRecDepth 20000 in
theorem gX4_readCandle_X4_advance : GoodIn wsX4_readCandle (wsV RX4 22 RX4 yX4_advance wsX4_advance) := goodIn_app (goodIn_of _ (by decide +kernel)) ggX4_readCandle_X4_advance
set_option maxRecDepth 20000 in
theorem ggX4_readCandle_X4_isNumber : GoodIn wsX4_readCandle wsX4_isNumber := goodIn_r _ [38, 13, 1, 39, 40, 41, 101, 102, 103, 104, 105] (by decide +kernel) (by decide +kernel)
set_option maxRecDepth 20000 in
theorem gX4_readCandle_X4_isNumber : GoodIn wsX4_readCandle (wsV RX4 74 RX4 yX4_isNumber wsX4_isNumber) := goodIn_app (goodIn_of _ (by decide +kernel)) ggX4_readCandle_X4_isNumber
set_option maxRecDepth 20000 in
theorem ggX4_readCandle_X4_isWord : GoodIn wsX4_readCandle wsX4_isWord := goodIn_r _ [45, 13, 9, 10, 11, 46, 47, 48, 49, 50, 51, 52, 53, 54, 55, 56, 57, 14, 15, 16, 17, 18, 19, 20, 58, 59, 60, 61, 62, 63, 64, 65, 66, 67, 68, 69, 70, 71, 72, 73, 74, 75, 76, 77, 78, 79, 80, 81, 82, 83, 84, 85, 86, 87, 88, 89, 90, 91, 92, 93, 94, 101, 102, 103, 104, 105, 110, 111] (by decide +kernel) (by decide +kernel)
set_option maxRecDepth 20000 in
theorem gX4_readCandle_X4_isWord : GoodIn wsX4_readCandle (wsV RX4 51 RX4 yX4_isWord wsX4_isWord) := goodIn_app (goodIn_of _ (by decide +kernel)) ggX4_readCandle_X4_isWord
set_option maxRecDepth 20000 in
theorem ggX4_readCandle_X0_setLit : GoodIn wsX4_readCandle wsX0_setLit := goodIn_r _ [99, 100, 106, 107, 108, 109] (by decide +kernel) (by decide +kernel)
set_option maxRecDepth 20000 in
theorem gX4_readCandle_X0_setLit : GoodIn wsX4_readCandle (wsV RX4 106 RX0 yX0_setLit wsX0_setLit) := goodIn_app (goodIn_of _ (by decide +kernel)) ggX4_readCandle_X0_setLit
theorem dX4_readCandle_0 : decode cX4_readCandle 0 = .ok (.aload_n 0, 1) := by decide +kernel
theorem dX4_readCandle_1 : decode cX4_readCandle 1 = .ok (.invokevirtual 22, 3) := by decide +kernel
theorem dX4_readCandle_4 : decode cX4_readCandle 4 = .ok (.aload_n 0, 1) := by decide +kernel
theorem dX4_readCandle_5 : decode cX4_readCandle 5 = .ok (.iconst 0, 1) := by decide +kernel
theorem dX4_readCandle_6 : decode cX4_readCandle 6 = .ok (.iconst 5, 1) := by decide +kernel
theorem dX4_readCandle_7 : decode cX4_readCandle 7 = .ok (.invokevirtual 74, 3) := by decide +kernel
theorem dX4_readCandle_10 : decode cX4_readCandle 10 = .ok (.ifCond .ne 5, 3) := by decide +kernel
theorem dX4_readCandle_13 : decode cX4_readCandle 13 = .ok (.iconst 0, 1) := by decide +kernel
theorem dX4_readCandle_14 : decode cX4_readCandle 14 = .ok (.ireturn, 1) := by decide +kernel
theorem dX4_readCandle_15 : decode cX4_readCandle 15 = .ok (.aload_n 0, 1) := by decide +kernel
theorem dX4_readCandle_16 : decode cX4_readCandle 16 = .ok (.getfield 78, 3) := by decide +kernel
theorem dX4_readCandle_19 : decode cX4_readCandle 19 = .ok (.istore_n 2, 1) := by decide +kernel
theorem dX4_readCandle_20 : decode cX4_readCandle 20 = .ok (.aload_n 0, 1) := by decide +kernel
theorem dX4_readCandle_21 : decode cX4_readCandle 21 = .ok (.invokevirtual 22, 3) := by decide +kernel
theorem dX4_readCandle_24 : decode cX4_readCandle 24 = .ok (.aload_n 0, 1) := by decide +kernel
theorem dX4_readCandle_25 : decode cX4_readCandle 25 = .ok (.ldc 91, 2) := by decide +kernel
theorem dX4_readCandle_27 : decode cX4_readCandle 27 = .ok (.invokevirtual 51, 3) := by decide +kernel
theorem dX4_readCandle_30 : decode cX4_readCandle 30 = .ok (.ifCond .ne 5, 3) := by decide +kernel
theorem dX4_readCandle_33 : decode cX4_readCandle 33 = .ok (.iconst 0, 1) := by decide +kernel
theorem dX4_readCandle_34 : decode cX4_readCandle 34 = .ok (.ireturn, 1) := by decide +kernel
theorem dX4_readCandle_35 : decode cX4_readCandle 35 = .ok (.aload_n 0, 1) := by decide +kernel
theorem dX4_readCandle_36 : decode cX4_readCandle 36 = .ok (.invokevirtual 22, 3) := by decide +kernel
theorem dX4_readCandle_39 : decode cX4_readCandle 39 = .ok (.aload_n 0, 1) := by decide +kernel
theorem dX4_readCandle_40 : decode cX4_readCandle 40 = .ok (.iconst 0, 1) := by decide +kernel
theorem dX4_readCandle_41 : decode cX4_readCandle 41 = .ok (.bipush 47, 2) := by decide +kernel
theorem dX4_readCandle_43 : decode cX4_readCandle 43 = .ok (.invokevirtual 74, 3) := by decide +kernel
theorem dX4_readCandle_46 : decode cX4_readCandle 46 = .ok (.ifCond .ne 5, 3) := by decide +kernel
theorem dX4_readCandle_49 : decode cX4_readCandle 49 = .ok (.iconst 0, 1) := by decide +kernel
theorem dX4_readCandle_50 : decode cX4_readCandle 50 = .ok (.ireturn, 1) := by decide +kernel
theorem dX4_readCandle_51 : decode cX4_readCandle 51 = .ok (.aload_n 1, 1) := by decide +kernel
theorem dX4_readCandle_52 : decode cX4_readCandle 52 = .ok (.getfield 93, 3) := by decide +kernel
theorem dX4_readCandle_55 : decode cX4_readCandle 55 = .ok (.iload_n 2, 1) := by decide +kernel
theorem dX4_readCandle_56 : decode cX4_readCandle 56 = .ok (.aload_n 0, 1) := by decide +kernel
theorem dX4_readCandle_57 : decode cX4_readCandle 57 = .ok (.getfield 78, 3) := by decide +kernel
theorem dX4_readCandle_60 : decode cX4_readCandle 60 = .ok (.iastore, 1) := by decide +kernel
theorem dX4_readCandle_61 : decode cX4_readCandle 61 = .ok (.aload_n 0, 1) := by decide +kernel
theorem dX4_readCandle_62 : decode cX4_readCandle 62 = .ok (.invokevirtual 22, 3) := by decide +kernel
theorem dX4_readCandle_65 : decode cX4_readCandle 65 = .ok (.aload_n 0, 1) := by decide +kernel
theorem dX4_readCandle_66 : decode cX4_readCandle 66 = .ok (.ldc 99, 2) := by decide +kernel
theorem dX4_readCandle_68 : decode cX4_readCandle 68 = .ok (.invokevirtual 51, 3) := by decide +kernel
theorem dX4_readCandle_71 : decode cX4_readCandle 71 = .ok (.ifCond .eq 33, 3) := by decide +kernel
theorem dX4_readCandle_74 : decode cX4_readCandle 74 = .ok (.aload_n 0, 1) := by decide +kernel
theorem dX4_readCandle_75 : decode cX4_readCandle 75 = .ok (.invokevirtual 22, 3) := by decide +kernel
theorem dX4_readCandle_78 : decode cX4_readCandle 78 = .ok (.aload_n 0, 1) := by decide +kernel
theorem dX4_readCandle_79 : decode cX4_readCandle 79 = .ok (.iconst 0, 1) := by decide +kernel
theorem dX4_readCandle_80 : decode cX4_readCandle 80 = .ok (.bipush 30, 2) := by decide +kernel
theorem dX4_readCandle_82 : decode cX4_readCandle 82 = .ok (.invokevirtual 74, 3) := by decide +kernel
theorem dX4_readCandle_85 : decode cX4_readCandle 85 = .ok (.ifCond .ne 5, 3) := by decide +kernel
theorem dX4_readCandle_88 : decode cX4_readCandle 88 = .ok (.iconst 0, 1) := by decide +kernel
theorem dX4_readCandle_89 : decode cX4_readCandle 89 = .ok (.ireturn, 1) := by decide +kernel
theorem dX4_readCandle_90 : decode cX4_readCandle 90 = .ok (.aload_n 1, 1) := by decide +kernel
theorem dX4_readCandle_91 : decode cX4_readCandle 91 = .ok (.getfield 101, 3) := by decide +kernel
theorem dX4_readCandle_94 : decode cX4_readCandle 94 = .ok (.iload_n 2, 1) := by decide +kernel
theorem dX4_readCandle_95 : decode cX4_readCandle 95 = .ok (.aload_n 0, 1) := by decide +kernel
theorem dX4_readCandle_96 : decode cX4_readCandle 96 = .ok (.getfield 78, 3) := by decide +kernel
theorem dX4_readCandle_99 : decode cX4_readCandle 99 = .ok (.iastore, 1) := by decide +kernel
theorem dX4_readCandle_100 : decode cX4_readCandle 100 = .ok (.aload_n 0, 1) := by decide +kernel
theorem dX4_readCandle_101 : decode cX4_readCandle 101 = .ok (.invokevirtual 22, 3) := by decide +kernel
theorem dX4_readCandle_104 : decode cX4_readCandle 104 = .ok (.aload_n 0, 1) := by decide +kernel
theorem dX4_readCandle_105 : decode cX4_readCandle 105 = .ok (.ldc 104, 2) := by decide +kernel
theorem dX4_readCandle_107 : decode cX4_readCandle 107 = .ok (.invokevirtual 51, 3) := by decide +kernel
theorem dX4_readCandle_110 : decode cX4_readCandle 110 = .ok (.istore_n 3, 1) := by decide +kernel
theorem dX4_readCandle_111 : decode cX4_readCandle 111 = .ok (.aload_n 1, 1) := by decide +kernel
theorem dX4_readCandle_112 : decode cX4_readCandle 112 = .ok (.iload_n 2, 1) := by decide +kernel
theorem dX4_readCandle_113 : decode cX4_readCandle 113 = .ok (.iload_n 3, 1) := by decide +kernel
theorem dX4_readCandle_114 : decode cX4_readCandle 114 = .ok (.invokevirtual 106, 3) := by decide +kernel
theorem dX4_readCandle_117 : decode cX4_readCandle 117 = .ok (.iload_n 3, 1) := by decide +kernel
theorem dX4_readCandle_118 : decode cX4_readCandle 118 = .ok (.ifCond .eq 7, 3) := by decide +kernel
theorem dX4_readCandle_121 : decode cX4_readCandle 121 = .ok (.aload_n 0, 1) := by decide +kernel
theorem dX4_readCandle_122 : decode cX4_readCandle 122 = .ok (.invokevirtual 22, 3) := by decide +kernel
theorem dX4_readCandle_125 : decode cX4_readCandle 125 = .ok (.iconst 1, 1) := by decide +kernel
theorem dX4_readCandle_126 : decode cX4_readCandle 126 = .ok (.ireturn, 1) := by decide +kernel
set_option maxRecDepth 20000 in
theorem ggX4_readCold_X4_advance : GoodIn wsX4_readCold wsX4_advance := goodIn_r _ [8, 9, 10, 11, 12, 1, 13, 14, 15, 16, 17, 18, 19, 20, 21, 7, 22, 23, 24, 25, 26, 27, 28, 29, 2, 30, 31, 32, 33, 41, 42, 43, 44, 45, 50, 51] (by decide +kernel) (by decide +kernel)
set_option maxRecDepth 20000 in
theorem gX4_readCold_X4_advance : GoodIn wsX4_readCold (wsV RX4 22 RX4 yX4_advance wsX4_advance) := goodIn_app (goodIn_of _ (by decide +kernel)) ggX4_readCold_X4_advance
set_option maxRecDepth 20000 in
theorem ggX4_readCold_X4_isNumber : GoodIn wsX4_readCold wsX4_isNumber := goodIn_r _ [37, 1, 2, 38, 39, 40, 41, 42, 43, 44, 45] (by decide +kernel) (by decide +kernel)
set_option maxRecDepth 20000 in
theorem gX4_readCold_X4_isNumber : GoodIn wsX4_readCold (wsV RX4 74 RX4 yX4_isNumber wsX4_isNumber) := goodIn_app (goodIn_of _ (by decide +kernel)) ggX4_readCold_X4_isNumber
theorem dX4_readCold_0 : decode cX4_readCold 0 = .ok (.aload_n 0, 1) := by decide +kernel
theorem dX4_readCold_1 : decode cX4_readCold 1 = .ok (.invokevirtual 22, 3) := by decide +kernel
theorem dX4_readCold_4 : decode cX4_readCold 4 = .ok (.aload_n 0, 1) := by decide +kernel
theorem dX4_readCold_5 : decode cX4_readCold 5 = .ok (.getfield 29, 3) := by decide +kernel
theorem dX4_readCold_8 : decode cX4_readCold 8 = .ok (.iconst 4, 1) := by decide +kernel
theorem dX4_readCold_9 : decode cX4_readCold 9 = .ok (.if_icmp .ne 7, 3) := by decide +kernel
theorem dX4_readCold_12 : decode cX4_readCold 12 = .ok (.iconst 1, 1) := by decide +kernel
theorem dX4_readCold_13 : decode cX4_readCold 13 = .ok (.goto 4, 3) := by decide +kernel
theorem dX4_readCold_16 : decode cX4_readCold 16 = .ok (.iconst 0, 1) := by decide +kernel
theorem dX4_readCold_17 : decode cX4_readCold 17 = .ok (.istore_n 2, 1) := by decide +kernel
theorem dX4_readCold_18 : decode cX4_readCold 18 = .ok (.iload_n 2, 1) := by decide +kernel
theorem dX4_readCold_19 : decode cX4_readCold 19 = .ok (.ifCond .eq 7, 3) := by decide +kernel
theorem dX4_readCold_22 : decode cX4_readCold 22 = .ok (.aload_n 0, 1) := by decide +kernel
theorem dX4_readCold_23 : decode cX4_readCold 23 = .ok (.invokevirtual 22, 3) := by decide +kernel
theorem dX4_readCold_26 : decode cX4_readCold 26 = .ok (.aload_n 0, 1) := by decide +kernel
theorem dX4_readCold_27 : decode cX4_readCold 27 = .ok (.iconst 0, 1) := by decide +kernel
theorem dX4_readCold_28 : decode cX4_readCold 28 = .ok (.bipush 20, 2) := by decide +kernel
theorem dX4_readCold_30 : decode cX4_readCold 30 = .ok (.invokevirtual 74, 3) := by decide +kernel
theorem dX4_readCold_33 : decode cX4_readCold 33 = .ok (.ifCond .ne 5, 3) := by decide +kernel
theorem dX4_readCold_36 : decode cX4_readCold 36 = .ok (.iconst 0, 1) := by decide +kernel
theorem dX4_readCold_37 : decode cX4_readCold 37 = .ok (.ireturn, 1) := by decide +kernel
theorem dX4_readCold_38 : decode cX4_readCold 38 = .ok (.aload_n 1, 1) := by decide +kernel
theorem dX4_readCold_39 : decode cX4_readCold 39 = .ok (.iload_n 2, 1) := by decide +kernel
theorem dX4_readCold_40 : decode cX4_readCold 40 = .ok (.ifCond .eq 11, 3) := by decide +kernel
theorem dX4_readCold_43 : decode cX4_readCold 43 = .ok (.aload_n 0, 1) := by decide +kernel
theorem dX4_readCold_44 : decode cX4_readCold 44 = .ok (.getfield 78, 3) := by decide +kernel
theorem dX4_readCold_47 : decode cX4_readCold 47 = .ok (.ineg, 1) := by decide +kernel
theorem dX4_readCold_48 : decode cX4_readCold 48 = .ok (.goto 7, 3) := by decide +kernel
theorem dX4_readCold_51 : decode cX4_readCold 51 = .ok (.aload_n 0, 1) := by decide +kernel
theorem dX4_readCold_52 : decode cX4_readCold 52 = .ok (.getfield 78, 3) := by decide +kernel
theorem dX4_readCold_55 : decode cX4_readCold 55 = .ok (.putfield 110, 3) := by decide +kernel
theorem dX4_readCold_58 : decode cX4_readCold 58 = .ok (.aload_n 0, 1) := by decide +kernel
theorem dX4_readCold_59 : decode cX4_readCold 59 = .ok (.invokevirtual 22, 3) := by decide +kernel
theorem dX4_readCold_62 : decode cX4_readCold 62 = .ok (.iconst 1, 1) := by decide +kernel
theorem dX4_readCold_63 : decode cX4_readCold 63 = .ok (.ireturn, 1) := by decide +kernel
set_option maxRecDepth 20000 in
theorem ggX4_kindOfWord_X4_isWord : GoodIn wsX4_kindOfWord wsX4_isWord := goodIn_r _ [5, 6, 7, 8, 9, 10, 11, 12, 13, 14, 15, 16, 17, 18, 19, 20, 21, 22, 23, 24, 25, 26, 27, 28, 29, 30, 31, 32, 33, 34, 35, 36, 37, 38, 39, 40, 41, 42, 43, 44, 45, 46, 47, 48, 49, 50, 51, 52, 53, 54, 55, 56, 57, 58, 59, 60, 61, 62, 63, 64, 65, 66, 67, 68, 69, 70, 71, 72] (by decide +kernel) (by decide +kernel)
set_option maxRecDepth 20000 in
theorem gX4_kindOfWord_X4_isWord : GoodIn wsX4_kindOfWord (wsV RX4 51 RX4 yX4_isWord wsX4_isWord) := goodIn_app (goodIn_of _ (by decide +kernel)) ggX4_kindOfWord_X4_isWord
theorem dX4_kindOfWord_0 : decode cX4_kindOfWord 0 = .ok (.aload_n 0, 1) := by decide +kernel
theorem dX4_kindOfWord_1 : decode cX4_kindOfWord 1 = .ok (.ldc 112, 2) := by decide +kernel
theorem dX4_kindOfWord_3 : decode cX4_kindOfWord 3 = .ok (.invokevirtual 51, 3) := by decide +kernel
theorem dX4_kindOfWord_6 : decode cX4_kindOfWord 6 = .ok (.ifCond .eq 5, 3) := by decide +kernel
theorem dX4_kindOfWord_9 : decode cX4_kindOfWord 9 = .ok (.iconst 0, 1) := by decide +kernel
theorem dX4_kindOfWord_10 : decode cX4_kindOfWord 10 = .ok (.ireturn, 1) := by decide +kernel
theorem dX4_kindOfWord_11 : decode cX4_kindOfWord 11 = .ok (.aload_n 0, 1) := by decide +kernel
theorem dX4_kindOfWord_12 : decode cX4_kindOfWord 12 = .ok (.ldc 114, 2) := by decide +kernel
theorem dX4_kindOfWord_14 : decode cX4_kindOfWord 14 = .ok (.invokevirtual 51, 3) := by decide +kernel
theorem dX4_kindOfWord_17 : decode cX4_kindOfWord 17 = .ok (.ifCond .eq 5, 3) := by decide +kernel
theorem dX4_kindOfWord_20 : decode cX4_kindOfWord 20 = .ok (.iconst 1, 1) := by decide +kernel
theorem dX4_kindOfWord_21 : decode cX4_kindOfWord 21 = .ok (.ireturn, 1) := by decide +kernel
theorem dX4_kindOfWord_22 : decode cX4_kindOfWord 22 = .ok (.aload_n 0, 1) := by decide +kernel
theorem dX4_kindOfWord_23 : decode cX4_kindOfWord 23 = .ok (.ldc 116, 2) := by decide +kernel
theorem dX4_kindOfWord_25 : decode cX4_kindOfWord 25 = .ok (.invokevirtual 51, 3) := by decide +kernel
theorem dX4_kindOfWord_28 : decode cX4_kindOfWord 28 = .ok (.ifCond .eq 5, 3) := by decide +kernel
theorem dX4_kindOfWord_31 : decode cX4_kindOfWord 31 = .ok (.iconst 2, 1) := by decide +kernel
theorem dX4_kindOfWord_32 : decode cX4_kindOfWord 32 = .ok (.ireturn, 1) := by decide +kernel
theorem dX4_kindOfWord_33 : decode cX4_kindOfWord 33 = .ok (.aload_n 0, 1) := by decide +kernel
theorem dX4_kindOfWord_34 : decode cX4_kindOfWord 34 = .ok (.ldc 118, 2) := by decide +kernel
theorem dX4_kindOfWord_36 : decode cX4_kindOfWord 36 = .ok (.invokevirtual 51, 3) := by decide +kernel
theorem dX4_kindOfWord_39 : decode cX4_kindOfWord 39 = .ok (.ifCond .eq 5, 3) := by decide +kernel
theorem dX4_kindOfWord_42 : decode cX4_kindOfWord 42 = .ok (.iconst 3, 1) := by decide +kernel
theorem dX4_kindOfWord_43 : decode cX4_kindOfWord 43 = .ok (.ireturn, 1) := by decide +kernel
theorem dX4_kindOfWord_44 : decode cX4_kindOfWord 44 = .ok (.aload_n 0, 1) := by decide +kernel
theorem dX4_kindOfWord_45 : decode cX4_kindOfWord 45 = .ok (.ldc 120, 2) := by decide +kernel
theorem dX4_kindOfWord_47 : decode cX4_kindOfWord 47 = .ok (.invokevirtual 51, 3) := by decide +kernel
theorem dX4_kindOfWord_50 : decode cX4_kindOfWord 50 = .ok (.ifCond .eq 5, 3) := by decide +kernel
theorem dX4_kindOfWord_53 : decode cX4_kindOfWord 53 = .ok (.iconst 4, 1) := by decide +kernel
theorem dX4_kindOfWord_54 : decode cX4_kindOfWord 54 = .ok (.ireturn, 1) := by decide +kernel
theorem dX4_kindOfWord_55 : decode cX4_kindOfWord 55 = .ok (.aload_n 0, 1) := by decide +kernel
theorem dX4_kindOfWord_56 : decode cX4_kindOfWord 56 = .ok (.ldc 122, 2) := by decide +kernel
theorem dX4_kindOfWord_58 : decode cX4_kindOfWord 58 = .ok (.invokevirtual 51, 3) := by decide +kernel
theorem dX4_kindOfWord_61 : decode cX4_kindOfWord 61 = .ok (.ifCond .eq 5, 3) := by decide +kernel
theorem dX4_kindOfWord_64 : decode cX4_kindOfWord 64 = .ok (.iconst 5, 1) := by decide +kernel
theorem dX4_kindOfWord_65 : decode cX4_kindOfWord 65 = .ok (.ireturn, 1) := by decide +kernel
theorem dX4_kindOfWord_66 : decode cX4_kindOfWord 66 = .ok (.aload_n 0, 1) := by decide +kernel
theorem dX4_kindOfWord_67 : decode cX4_kindOfWord 67 = .ok (.ldc 124, 2) := by decide +kernel
theorem dX4_kindOfWord_69 : decode cX4_kindOfWord 69 = .ok (.invokevirtual 51, 3) := by decide +kernel
theorem dX4_kindOfWord_72 : decode cX4_kindOfWord 72 = .ok (.ifCond .eq 8, 3) := by decide +kernel
theorem dX4_kindOfWord_75 : decode cX4_kindOfWord 75 = .ok (.bipush 6, 2) := by decide +kernel
theorem dX4_kindOfWord_77 : decode cX4_kindOfWord 77 = .ok (.goto 4, 3) := by decide +kernel
theorem dX4_kindOfWord_80 : decode cX4_kindOfWord 80 = .ok (.iconst (-1), 1) := by decide +kernel
theorem dX4_kindOfWord_81 : decode cX4_kindOfWord 81 = .ok (.ireturn, 1) := by decide +kernel
set_option maxRecDepth 20000 in
theorem ggX4_isNumber_X6_isWithin : GoodIn wsX4_isNumber wsX6_isWithin := goodIn_r _ [5] (by decide +kernel) (by decide +kernel)
set_option maxRecDepth 20000 in
theorem gX4_isNumber_X6_isWithin_n126 : GoodIn wsX4_isNumber (wsX6_isWithin) := ggX4_isNumber_X6_isWithin
theorem dX4_isNumber_0 : decode cX4_isNumber 0 = .ok (.aload_n 0, 1) := by decide +kernel
theorem dX4_isNumber_1 : decode cX4_isNumber 1 = .ok (.getfield 29, 3) := by decide +kernel
theorem dX4_isNumber_4 : decode cX4_isNumber 4 = .ok (.iconst 2, 1) := by decide +kernel
theorem dX4_isNumber_5 : decode cX4_isNumber 5 = .ok (.if_icmp .ne 19, 3) := by decide +kernel
theorem dX4_isNumber_8 : decode cX4_isNumber 8 = .ok (.aload_n 0, 1) := by decide +kernel
theorem dX4_isNumber_9 : decode cX4_isNumber 9 = .ok (.getfield 78, 3) := by decide +kernel
theorem dX4_isNumber_12 : decode cX4_isNumber 12 = .ok (.iload_n 1, 1) := by decide +kernel
theorem dX4_isNumber_13 : decode cX4_isNumber 13 = .ok (.iload_n 2, 1) := by decide +kernel
theorem dX4_isNumber_14 : decode cX4_isNumber 14 = .ok (.invokestatic 126, 3) := by decide +kernel
theorem dX4_isNumber_17 : decode cX4_isNumber 17 = .ok (.ifCond .eq 7, 3) := by decide +kernel
theorem dX4_isNumber_20 : decode cX4_isNumber 20 = .ok (.iconst 1, 1) := by decide +kernel
theorem dX4_isNumber_21 : decode cX4_isNumber 21 = .ok (.goto 4, 3) := by decide +kernel
theorem dX4_isNumber_24 : decode cX4_isNumber 24 = .ok (.iconst 0, 1) := by decide +kernel
theorem dX4_isNumber_25 : decode cX4_isNumber 25 = .ok (.ireturn, 1) := by decide +kernel
set_option maxRecDepth 20000 in
theorem ggX4_isWord_J0_length_8abf5 : GoodIn wsX4_isWord wsJ0_length_8abf5 := goodIn_r _ [9, 10, 11, 12, 13, 8, 14, 15, 16] (by decide +kernel) (by decide +kernel)
set_option maxRecDepth 20000 in
theorem gX4_isWord_J0_length_8abf5 : GoodIn wsX4_isWord (wsV RX4 130 RJ0 yJ0_length_8abf5 wsJ0_length_8abf5) := goodIn_app (goodIn_of _ (by decide +kernel)) ggX4_isWord_J0_length_8abf5
set_option maxRecDepth 20000 in
theorem ggX4_isWord_X3_byteAt : GoodIn wsX4_isWord wsX3_byteAt := goodIn_r _ [21, 22, 23, 66, 67] (by decide +kernel) (by decide +kernel)
set_option maxRecDepth 20000 in
theorem gX4_isWord_X3_byteAt : GoodIn wsX4_isWord (wsV RX4 135 RX3 yX3_byteAt wsX3_byteAt) := goodIn_app (goodIn_of _ (by decide +kernel)) ggX4_isWord_X3_byteAt
set_option maxRecDepth 20000 in
theorem ggX4_isWord_J0_charAt_5068e : GoodIn wsX4_isWord wsJ0_charAt_5068e := goodIn_r _ [27, 10, 28, 29, 30, 8, 31, 15, 16, 32, 33, 34, 35, 36, 37, 38, 39, 40, 41, 42, 43, 44, 45, 46, 47, 48, 49, 50, 51, 52, 53, 54, 55, 56, 57, 58, 59, 60] (by decide +kernel) (by decide +kernel)
set_option maxRecDepth 20000 in
theorem gX4_isWord_J0_charAt_5068e : GoodIn wsX4_isWord (wsV RX4 138 RJ0 yJ0_charAt_5068e wsJ0_charAt_5068e) := goodIn_app (goodIn_of _ (by decide +kernel)) ggX4_isWord_J0_charAt_5068e
theorem dX4_isWord_0 : decode cX4_isWord 0 = .ok (.aload_n 0, 1) := by decide +kernel
theorem dX4_isWord_1 : decode cX4_isWord 1 = .ok (.getfield 29, 3) := by decide +kernel
theorem dX4_isWord_4 : decode cX4_isWord 4 = .ok (.iconst 1, 1) := by decide +kernel
theorem dX4_isWord_5 : decode cX4_isWord 5 = .ok (.if_icmp .ne 19, 3) := by decide +kernel
theorem dX4_isWord_8 : decode cX4_isWord 8 = .ok (.aload_n 0, 1) := by decide +kernel
theorem dX4_isWord_9 : decode cX4_isWord 9 = .ok (.getfield 18, 3) := by decide +kernel
theorem dX4_isWord_12 : decode cX4_isWord 12 = .ok (.aload_n 0, 1) := by decide +kernel
theorem dX4_isWord_13 : decode cX4_isWord 13 = .ok (.getfield 32, 3) := by decide +kernel
theorem dX4_isWord_16 : decode cX4_isWord 16 = .ok (.isub, 1) := by decide +kernel
theorem dX4_isWord_17 : decode cX4_isWord 17 = .ok (.aload_n 1, 1) := by decide +kernel
theorem dX4_isWord_18 : decode cX4_isWord 18 = .ok (.invokevirtual 130, 3) := by decide +kernel
theorem dX4_isWord_21 : decode cX4_isWord 21 = .ok (.if_icmp .eq 5, 3) := by decide +kernel
theorem dX4_isWord_24 : decode cX4_isWord 24 = .ok (.iconst 0, 1) := by decide +kernel
theorem dX4_isWord_25 : decode cX4_isWord 25 = .ok (.ireturn, 1) := by decide +kernel
theorem dX4_isWord_26 : decode cX4_isWord 26 = .ok (.iconst 0, 1) := by decide +kernel
theorem dX4_isWord_27 : decode cX4_isWord 27 = .ok (.istore_n 2, 1) := by decide +kernel
theorem dX4_isWord_28 : decode cX4_isWord 28 = .ok (.iload_n 2, 1) := by decide +kernel
theorem dX4_isWord_29 : decode cX4_isWord 29 = .ok (.aload_n 1, 1) := by decide +kernel
theorem dX4_isWord_30 : decode cX4_isWord 30 = .ok (.invokevirtual 130, 3) := by decide +kernel
theorem dX4_isWord_33 : decode cX4_isWord 33 = .ok (.if_icmp .ge 32, 3) := by decide +kernel
theorem dX4_isWord_36 : decode cX4_isWord 36 = .ok (.aload_n 0, 1) := by decide +kernel
theorem dX4_isWord_37 : decode cX4_isWord 37 = .ok (.getfield 12, 3) := by decide +kernel
theorem dX4_isWord_40 : decode cX4_isWord 40 = .ok (.aload_n 0, 1) := by decide +kernel
theorem dX4_isWord_41 : decode cX4_isWord 41 = .ok (.getfield 32, 3) := by decide +kernel
theorem dX4_isWord_44 : decode cX4_isWord 44 = .ok (.iload_n 2, 1) := by decide +kernel
theorem dX4_isWord_45 : decode cX4_isWord 45 = .ok (.iadd, 1) := by decide +kernel
theorem dX4_isWord_46 : decode cX4_isWord 46 = .ok (.invokevirtual 135, 3) := by decide +kernel
theorem dX4_isWord_49 : decode cX4_isWord 49 = .ok (.aload_n 1, 1) := by decide +kernel
theorem dX4_isWord_50 : decode cX4_isWord 50 = .ok (.iload_n 2, 1) := by decide +kernel
theorem dX4_isWord_51 : decode cX4_isWord 51 = .ok (.invokevirtual 138, 3) := by decide +kernel
theorem dX4_isWord_54 : decode cX4_isWord 54 = .ok (.if_icmp .eq 5, 3) := by decide +kernel
theorem dX4_isWord_57 : decode cX4_isWord 57 = .ok (.iconst 0, 1) := by decide +kernel
theorem dX4_isWord_58 : decode cX4_isWord 58 = .ok (.ireturn, 1) := by decide +kernel
theorem dX4_isWord_59 : decode cX4_isWord 59 = .ok (.iinc 2 1, 3) := by decide +kernel
theorem dX4_isWord_62 : decode cX4_isWord 62 = .ok (.goto (-34), 3) := by decide +kernel
theorem dX4_isWord_65 : decode cX4_isWord 65 = .ok (.iconst 1, 1) := by decide +kernel
theorem dX4_isWord_66 : decode cX4_isWord 66 = .ok (.ireturn, 1) := by decide +kernel
set_option maxRecDepth 20000 in
theorem ggX4_advance_X3_byteAt : GoodIn wsX4_advance wsX3_byteAt := goodIn_r _ [10, 11, 12, 34, 35] (by decide +kernel) (by decide +kernel)
set_option maxRecDepth 20000 in
theorem gX4_advance_X3_byteAt : GoodIn wsX4_advance (wsV RX4 135 RX3 yX3_byteAt wsX3_byteAt) := goodIn_app (goodIn_of _ (by decide +kernel)) ggX4_advance_X3_byteAt
set_option maxRecDepth 20000 in
theorem ggX4_advance_X4_isLetter : GoodIn wsX4_advance wsX4_isLetter := goodIn_r _ [16] (by decide +kernel) (by decide +kernel)
set_option maxRecDepth 20000 in
theorem gX4_advance_X4_isLetter : GoodIn wsX4_advance (va_wsS RX4 145 yX4_isLetter wsX4_isLetter) := goodIn_app (goodIn_of _ (by decide +kernel)) ggX4_advance_X4_isLetter
set_option maxRecDepth 20000 in
theorem ggX4_advance_X4_isDigit : GoodIn wsX4_advance wsX4_isDigit := goodIn_r _ [19] (by decide +kernel) (by decide +kernel)
set_option maxRecDepth 20000 in
theorem gX4_advance_X4_isDigit : GoodIn wsX4_advance (va_wsS RX4 149 yX4_isDigit wsX4_isDigit) := goodIn_app (goodIn_of _ (by decide +kernel)) ggX4_advance_X4_isDigit
set_option maxRecDepth 20000 in
theorem ggX4_advance_X4_takeNumber : GoodIn wsX4_advance wsX4_takeNumber := goodIn_r _ [23, 2, 1, 24, 3, 4, 25, 26, 27, 28, 6, 7, 8, 9, 10, 11, 12, 17, 18, 15, 19, 29, 30, 31, 32, 33, 34, 35] (by decide +kernel) (by decide +kernel)
set_option maxRecDepth 20000 in
theorem gX4_advance_X4_takeNumber : GoodIn wsX4_advance (wsV RX4 152 RX4 yX4_takeNumber wsX4_takeNumber) := goodIn_app (goodIn_of _ (by decide +kernel)) ggX4_advance_X4_takeNumber
theorem dX4_advance_0 : decode cX4_advance 0 = .ok (.aload_n 0, 1) := by decide +kernel
theorem dX4_advance_1 : decode cX4_advance 1 = .ok (.aload_n 0, 1) := by decide +kernel
theorem dX4_advance_2 : decode cX4_advance 2 = .ok (.getfield 18, 3) := by decide +kernel
theorem dX4_advance_5 : decode cX4_advance 5 = .ok (.putfield 32, 3) := by decide +kernel
theorem dX4_advance_8 : decode cX4_advance 8 = .ok (.aload_n 0, 1) := by decide +kernel
theorem dX4_advance_9 : decode cX4_advance 9 = .ok (.getfield 32, 3) := by decide +kernel
theorem dX4_advance_12 : decode cX4_advance 12 = .ok (.aload_n 0, 1) := by decide +kernel
theorem dX4_advance_13 : decode cX4_advance 13 = .ok (.getfield 12, 3) := by decide +kernel
theorem dX4_advance_16 : decode cX4_advance 16 = .ok (.getfield 142, 3) := by decide +kernel
theorem dX4_advance_19 : decode cX4_advance 19 = .ok (.if_icmp .ge 32, 3) := by decide +kernel
theorem dX4_advance_22 : decode cX4_advance 22 = .ok (.aload_n 0, 1) := by decide +kernel
theorem dX4_advance_23 : decode cX4_advance 23 = .ok (.getfield 12, 3) := by decide +kernel
theorem dX4_advance_26 : decode cX4_advance 26 = .ok (.aload_n 0, 1) := by decide +kernel
theorem dX4_advance_27 : decode cX4_advance 27 = .ok (.getfield 32, 3) := by decide +kernel
theorem dX4_advance_30 : decode cX4_advance 30 = .ok (.invokevirtual 135, 3) := by decide +kernel
theorem dX4_advance_33 : decode cX4_advance 33 = .ok (.bipush 32, 2) := by decide +kernel
theorem dX4_advance_35 : decode cX4_advance 35 = .ok (.if_icmp .ne 16, 3) := by decide +kernel
theorem dX4_advance_38 : decode cX4_advance 38 = .ok (.aload_n 0, 1) := by decide +kernel
theorem dX4_advance_39 : decode cX4_advance 39 = .ok (.dup, 1) := by decide +kernel
theorem dX4_advance_40 : decode cX4_advance 40 = .ok (.getfield 32, 3) := by decide +kernel
theorem dX4_advance_43 : decode cX4_advance 43 = .ok (.iconst 1, 1) := by decide +kernel
theorem dX4_advance_44 : decode cX4_advance 44 = .ok (.iadd, 1) := by decide +kernel
theorem dX4_advance_45 : decode cX4_advance 45 = .ok (.putfield 32, 3) := by decide +kernel
theorem dX4_advance_48 : decode cX4_advance 48 = .ok (.goto (-40), 3) := by decide +kernel
theorem dX4_advance_51 : decode cX4_advance 51 = .ok (.aload_n 0, 1) := by decide +kernel
theorem dX4_advance_52 : decode cX4_advance 52 = .ok (.getfield 12, 3) := by decide +kernel
theorem dX4_advance_55 : decode cX4_advance 55 = .ok (.aload_n 0, 1) := by decide +kernel
theorem dX4_advance_56 : decode cX4_advance 56 = .ok (.getfield 32, 3) := by decide +kernel
theorem dX4_advance_59 : decode cX4_advance 59 = .ok (.invokevirtual 135, 3) := by decide +kernel
theorem dX4_advance_62 : decode cX4_advance 62 = .ok (.istore_n 1, 1) := by decide +kernel
theorem dX4_advance_63 : decode cX4_advance 63 = .ok (.aload_n 0, 1) := by decide +kernel
theorem dX4_advance_64 : decode cX4_advance 64 = .ok (.aload_n 0, 1) := by decide +kernel
theorem dX4_advance_65 : decode cX4_advance 65 = .ok (.getfield 32, 3) := by decide +kernel
theorem dX4_advance_68 : decode cX4_advance 68 = .ok (.iconst 1, 1) := by decide +kernel
theorem dX4_advance_69 : decode cX4_advance 69 = .ok (.iadd, 1) := by decide +kernel
theorem dX4_advance_70 : decode cX4_advance 70 = .ok (.putfield 18, 3) := by decide +kernel
theorem dX4_advance_73 : decode cX4_advance 73 = .ok (.iload_n 1, 1) := by decide +kernel
theorem dX4_advance_74 : decode cX4_advance 74 = .ok (.ifCond .ge 19, 3) := by decide +kernel
theorem dX4_advance_77 : decode cX4_advance 77 = .ok (.aload_n 0, 1) := by decide +kernel
theorem dX4_advance_78 : decode cX4_advance 78 = .ok (.iconst 0, 1) := by decide +kernel
theorem dX4_advance_79 : decode cX4_advance 79 = .ok (.putfield 29, 3) := by decide +kernel
theorem dX4_advance_82 : decode cX4_advance 82 = .ok (.aload_n 0, 1) := by decide +kernel
theorem dX4_advance_83 : decode cX4_advance 83 = .ok (.aload_n 0, 1) := by decide +kernel
theorem dX4_advance_84 : decode cX4_advance 84 = .ok (.getfield 32, 3) := by decide +kernel
theorem dX4_advance_87 : decode cX4_advance 87 = .ok (.putfield 18, 3) := by decide +kernel
theorem dX4_advance_90 : decode cX4_advance 90 = .ok (.goto 107, 3) := by decide +kernel
theorem dX4_advance_93 : decode cX4_advance 93 = .ok (.iload_n 1, 1) := by decide +kernel
theorem dX4_advance_94 : decode cX4_advance 94 = .ok (.invokestatic 145, 3) := by decide +kernel
theorem dX4_advance_97 : decode cX4_advance 97 = .ok (.ifCond .eq 52, 3) := by decide +kernel
theorem dX4_advance_100 : decode cX4_advance 100 = .ok (.aload_n 0, 1) := by decide +kernel
theorem dX4_advance_101 : decode cX4_advance 101 = .ok (.iconst 1, 1) := by decide +kernel
theorem dX4_advance_102 : decode cX4_advance 102 = .ok (.putfield 29, 3) := by decide +kernel
theorem dX4_advance_105 : decode cX4_advance 105 = .ok (.aload_n 0, 1) := by decide +kernel
theorem dX4_advance_106 : decode cX4_advance 106 = .ok (.getfield 18, 3) := by decide +kernel
theorem dX4_advance_109 : decode cX4_advance 109 = .ok (.aload_n 0, 1) := by decide +kernel
theorem dX4_advance_110 : decode cX4_advance 110 = .ok (.getfield 12, 3) := by decide +kernel
theorem dX4_advance_113 : decode cX4_advance 113 = .ok (.getfield 142, 3) := by decide +kernel
theorem dX4_advance_116 : decode cX4_advance 116 = .ok (.if_icmp .ge 81, 3) := by decide +kernel
theorem dX4_advance_119 : decode cX4_advance 119 = .ok (.aload_n 0, 1) := by decide +kernel
theorem dX4_advance_120 : decode cX4_advance 120 = .ok (.getfield 12, 3) := by decide +kernel
theorem dX4_advance_123 : decode cX4_advance 123 = .ok (.aload_n 0, 1) := by decide +kernel
theorem dX4_advance_124 : decode cX4_advance 124 = .ok (.getfield 18, 3) := by decide +kernel
theorem dX4_advance_127 : decode cX4_advance 127 = .ok (.invokevirtual 135, 3) := by decide +kernel
theorem dX4_advance_130 : decode cX4_advance 130 = .ok (.invokestatic 145, 3) := by decide +kernel
theorem dX4_advance_133 : decode cX4_advance 133 = .ok (.ifCond .eq 64, 3) := by decide +kernel
theorem dX4_advance_136 : decode cX4_advance 136 = .ok (.aload_n 0, 1) := by decide +kernel
theorem dX4_advance_137 : decode cX4_advance 137 = .ok (.dup, 1) := by decide +kernel
theorem dX4_advance_138 : decode cX4_advance 138 = .ok (.getfield 18, 3) := by decide +kernel
theorem dX4_advance_141 : decode cX4_advance 141 = .ok (.iconst 1, 1) := by decide +kernel
theorem dX4_advance_142 : decode cX4_advance 142 = .ok (.iadd, 1) := by decide +kernel
theorem dX4_advance_143 : decode cX4_advance 143 = .ok (.putfield 18, 3) := by decide +kernel
theorem dX4_advance_146 : decode cX4_advance 146 = .ok (.goto (-41), 3) := by decide +kernel
theorem dX4_advance_149 : decode cX4_advance 149 = .ok (.iload_n 1, 1) := by decide +kernel
theorem dX4_advance_150 : decode cX4_advance 150 = .ok (.invokestatic 149, 3) := by decide +kernel
theorem dX4_advance_153 : decode cX4_advance 153 = .ok (.ifCond .eq 15, 3) := by decide +kernel
theorem dX4_advance_156 : decode cX4_advance 156 = .ok (.aload_n 0, 1) := by decide +kernel
theorem dX4_advance_157 : decode cX4_advance 157 = .ok (.iconst 2, 1) := by decide +kernel
theorem dX4_advance_158 : decode cX4_advance 158 = .ok (.putfield 29, 3) := by decide +kernel
theorem dX4_advance_161 : decode cX4_advance 161 = .ok (.aload_n 0, 1) := by decide +kernel
theorem dX4_advance_162 : decode cX4_advance 162 = .ok (.invokevirtual 152, 3) := by decide +kernel
theorem dX4_advance_165 : decode cX4_advance 165 = .ok (.goto 32, 3) := by decide +kernel
theorem dX4_advance_168 : decode cX4_advance 168 = .ok (.iload_n 1, 1) := by decide +kernel
theorem dX4_advance_169 : decode cX4_advance 169 = .ok (.bipush 59, 2) := by decide +kernel
theorem dX4_advance_171 : decode cX4_advance 171 = .ok (.if_icmp .ne 11, 3) := by decide +kernel
theorem dX4_advance_174 : decode cX4_advance 174 = .ok (.aload_n 0, 1) := by decide +kernel
theorem dX4_advance_175 : decode cX4_advance 175 = .ok (.iconst 3, 1) := by decide +kernel
theorem dX4_advance_176 : decode cX4_advance 176 = .ok (.putfield 29, 3) := by decide +kernel
theorem dX4_advance_179 : decode cX4_advance 179 = .ok (.goto 18, 3) := by decide +kernel
theorem dX4_advance_182 : decode cX4_advance 182 = .ok (.aload_n 0, 1) := by decide +kernel
theorem dX4_advance_183 : decode cX4_advance 183 = .ok (.iload_n 1, 1) := by decide +kernel
theorem dX4_advance_184 : decode cX4_advance 184 = .ok (.bipush 45, 2) := by decide +kernel
theorem dX4_advance_186 : decode cX4_advance 186 = .ok (.if_icmp .ne 7, 3) := by decide +kernel
theorem dX4_advance_189 : decode cX4_advance 189 = .ok (.iconst 4, 1) := by decide +kernel
theorem dX4_advance_190 : decode cX4_advance 190 = .ok (.goto 4, 3) := by decide +kernel
theorem dX4_advance_193 : decode cX4_advance 193 = .ok (.iconst 5, 1) := by decide +kernel
theorem dX4_advance_194 : decode cX4_advance 194 = .ok (.putfield 29, 3) := by decide +kernel
theorem dX4_advance_197 : decode cX4_advance 197 = .ok (.return_, 1) := by decide +kernel
set_option maxRecDepth 20000 in
theorem ggX4_takeNumber_X3_byteAt : GoodIn wsX4_takeNumber wsX3_byteAt := goodIn_r _ [14, 15, 16, 26, 27] (by decide +kernel) (by decide +kernel)
set_option maxRecDepth 20000 in
theorem gX4_takeNumber_X3_byteAt : GoodIn wsX4_takeNumber (wsV RX4 135 RX3 yX3_byteAt wsX3_byteAt) := goodIn_app (goodIn_of _ (by decide +kernel)) ggX4_takeNumber_X3_byteAt
set_option maxRecDepth 20000 in
theorem ggX4_takeNumber_X4_isDigit : GoodIn wsX4_takeNumber wsX4_isDigit := goodIn_r _ [20] (by decide +kernel) (by decide +kernel)
set_option maxRecDepth 20000 in
theorem gX4_takeNumber_X4_isDigit : GoodIn wsX4_takeNumber (va_wsS RX4 149 yX4_isDigit wsX4_isDigit) := goodIn_app (goodIn_of _ (by decide +kernel)) ggX4_takeNumber_X4_isDigit
theorem dX4_takeNumber_0 : decode cX4_takeNumber 0 = .ok (.aload_n 0, 1) := by decide +kernel
theorem dX4_takeNumber_1 : decode cX4_takeNumber 1 = .ok (.aload_n 0, 1) := by decide +kernel
theorem dX4_takeNumber_2 : decode cX4_takeNumber 2 = .ok (.getfield 32, 3) := by decide +kernel
theorem dX4_takeNumber_5 : decode cX4_takeNumber 5 = .ok (.putfield 18, 3) := by decide +kernel
theorem dX4_takeNumber_8 : decode cX4_takeNumber 8 = .ok (.aload_n 0, 1) := by decide +kernel
theorem dX4_takeNumber_9 : decode cX4_takeNumber 9 = .ok (.iconst 0, 1) := by decide +kernel
theorem dX4_takeNumber_10 : decode cX4_takeNumber 10 = .ok (.putfield 78, 3) := by decide +kernel
theorem dX4_takeNumber_13 : decode cX4_takeNumber 13 = .ok (.aload_n 0, 1) := by decide +kernel
theorem dX4_takeNumber_14 : decode cX4_takeNumber 14 = .ok (.getfield 18, 3) := by decide +kernel
theorem dX4_takeNumber_17 : decode cX4_takeNumber 17 = .ok (.aload_n 0, 1) := by decide +kernel
theorem dX4_takeNumber_18 : decode cX4_takeNumber 18 = .ok (.getfield 12, 3) := by decide +kernel
theorem dX4_takeNumber_21 : decode cX4_takeNumber 21 = .ok (.getfield 142, 3) := by decide +kernel
theorem dX4_takeNumber_24 : decode cX4_takeNumber 24 = .ok (.if_icmp .ge 65, 3) := by decide +kernel
theorem dX4_takeNumber_27 : decode cX4_takeNumber 27 = .ok (.aload_n 0, 1) := by decide +kernel
theorem dX4_takeNumber_28 : decode cX4_takeNumber 28 = .ok (.getfield 12, 3) := by decide +kernel
theorem dX4_takeNumber_31 : decode cX4_takeNumber 31 = .ok (.aload_n 0, 1) := by decide +kernel
theorem dX4_takeNumber_32 : decode cX4_takeNumber 32 = .ok (.getfield 18, 3) := by decide +kernel
theorem dX4_takeNumber_35 : decode cX4_takeNumber 35 = .ok (.invokevirtual 135, 3) := by decide +kernel
theorem dX4_takeNumber_38 : decode cX4_takeNumber 38 = .ok (.invokestatic 149, 3) := by decide +kernel
theorem dX4_takeNumber_41 : decode cX4_takeNumber 41 = .ok (.ifCond .eq 48, 3) := by decide +kernel
theorem dX4_takeNumber_44 : decode cX4_takeNumber 44 = .ok (.aload_n 0, 1) := by decide +kernel
theorem dX4_takeNumber_45 : decode cX4_takeNumber 45 = .ok (.sipush 1000, 3) := by decide +kernel
theorem dX4_takeNumber_48 : decode cX4_takeNumber 48 = .ok (.bipush 10, 2) := by decide +kernel
theorem dX4_takeNumber_50 : decode cX4_takeNumber 50 = .ok (.aload_n 0, 1) := by decide +kernel
theorem dX4_takeNumber_51 : decode cX4_takeNumber 51 = .ok (.getfield 78, 3) := by decide +kernel
theorem dX4_takeNumber_54 : decode cX4_takeNumber 54 = .ok (.imul, 1) := by decide +kernel
theorem dX4_takeNumber_55 : decode cX4_takeNumber 55 = .ok (.aload_n 0, 1) := by decide +kernel
theorem dX4_takeNumber_56 : decode cX4_takeNumber 56 = .ok (.getfield 12, 3) := by decide +kernel
theorem dX4_takeNumber_59 : decode cX4_takeNumber 59 = .ok (.aload_n 0, 1) := by decide +kernel
theorem dX4_takeNumber_60 : decode cX4_takeNumber 60 = .ok (.getfield 18, 3) := by decide +kernel
theorem dX4_takeNumber_63 : decode cX4_takeNumber 63 = .ok (.invokevirtual 135, 3) := by decide +kernel
theorem dX4_takeNumber_66 : decode cX4_takeNumber 66 = .ok (.iadd, 1) := by decide +kernel
theorem dX4_takeNumber_67 : decode cX4_takeNumber 67 = .ok (.bipush 48, 2) := by decide +kernel
theorem dX4_takeNumber_69 : decode cX4_takeNumber 69 = .ok (.isub, 1) := by decide +kernel
theorem dX4_takeNumber_70 : decode cX4_takeNumber 70 = .ok (.invokestatic 155, 3) := by decide +kernel
theorem dX4_takeNumber_73 : decode cX4_takeNumber 73 = .ok (.putfield 78, 3) := by decide +kernel
theorem dX4_takeNumber_76 : decode cX4_takeNumber 76 = .ok (.aload_n 0, 1) := by decide +kernel
theorem dX4_takeNumber_77 : decode cX4_takeNumber 77 = .ok (.dup, 1) := by decide +kernel
theorem dX4_takeNumber_78 : decode cX4_takeNumber 78 = .ok (.getfield 18, 3) := by decide +kernel
theorem dX4_takeNumber_81 : decode cX4_takeNumber 81 = .ok (.iconst 1, 1) := by decide +kernel
theorem dX4_takeNumber_82 : decode cX4_takeNumber 82 = .ok (.iadd, 1) := by decide +kernel
theorem dX4_takeNumber_83 : decode cX4_takeNumber 83 = .ok (.putfield 18, 3) := by decide +kernel
theorem dX4_takeNumber_86 : decode cX4_takeNumber 86 = .ok (.goto (-73), 3) := by decide +kernel
theorem dX4_takeNumber_89 : decode cX4_takeNumber 89 = .ok (.return_, 1) := by decide +kernel
theorem dX4_isLetter_0 : decode cX4_isLetter 0 = .ok (.iload_n 0, 1) := by decide +kernel
theorem dX4_isLetter_1 : decode cX4_isLetter 1 = .ok (.bipush 97, 2) := by decide +kernel
theorem dX4_isLetter_3 : decode cX4_isLetter 3 = .ok (.if_icmp .lt 13, 3) := by decide +kernel
theorem dX4_isLetter_6 : decode cX4_isLetter 6 = .ok (.iload_n 0, 1) := by decide +kernel
theorem dX4_isLetter_7 : decode cX4_isLetter 7 = .ok (.bipush 122, 2) := by decide +kernel
theorem dX4_isLetter_9 : decode cX4_isLetter 9 = .ok (.if_icmp .gt 7, 3) := by decide +kernel
theorem dX4_isLetter_12 : decode cX4_isLetter 12 = .ok (.iconst 1, 1) := by decide +kernel
theorem dX4_isLetter_13 : decode cX4_isLetter 13 = .ok (.goto 4, 3) := by decide +kernel
theorem dX4_isLetter_16 : decode cX4_isLetter 16 = .ok (.iconst 0, 1) := by decide +kernel
theorem dX4_isLetter_17 : decode cX4_isLetter 17 = .ok (.ireturn, 1) := by decide +kernel
theorem dX4_isDigit_0 : decode cX4_isDigit 0 = .ok (.iload_n 0, 1) := by decide +kernel
theorem dX4_isDigit_1 : decode cX4_isDigit 1 = .ok (.bipush 48, 2) := by decide +kernel
theorem dX4_isDigit_3 : decode cX4_isDigit 3 = .ok (.if_icmp .lt 13, 3) := by decide +kernel
theorem dX4_isDigit_6 : decode cX4_isDigit 6 = .ok (.iload_n 0, 1) := by decide +kernel
theorem dX4_isDigit_7 : decode cX4_isDigit 7 = .ok (.bipush 57, 2) := by decide +kernel
theorem dX4_isDigit_9 : decode cX4_isDigit 9 = .ok (.if_icmp .gt 7, 3) := by decide +kernel
theorem dX4_isDigit_12 : decode cX4_isDigit 12 = .ok (.iconst 1, 1) := by decide +kernel
theorem dX4_isDigit_13 : decode cX4_isDigit 13 = .ok (.goto 4, 3) := by decide +kernel
theorem dX4_isDigit_16 : decode cX4_isDigit 16 = .ok (.iconst 0, 1) := by decide +kernel
theorem dX4_isDigit_17 : decode cX4_isDigit 17 = .ok (.ireturn, 1) := by decide +kernel
set_option maxRecDepth 20000 in
theorem ggX5_init_J7_fill_53178 : GoodIn wsX5_init wsJ7_fill_53178 := goodIn_r _ [12] (by decide +kernel) (by decide +kernel)
set_option maxRecDepth 20000 in
theorem gX5_init_J7_fill_53178 : GoodIn wsX5_init (va_wsS RX5 24 yJ7_fill_53178 wsJ7_fill_53178) := goodIn_app (goodIn_of _ (by decide +kernel)) ggX5_init_J7_fill_53178
theorem dX5_init_0 : decode cX5_init 0 = .ok (.aload_n 0, 1) := by decide +kernel
theorem dX5_init_1 : decode cX5_init 1 = .ok (.invokespecial 3, 3) := by decide +kernel
theorem dX5_init_4 : decode cX5_init 4 = .ok (.aload_n 0, 1) := by decide +kernel
theorem dX5_init_5 : decode cX5_init 5 = .ok (.bipush 16, 2) := by decide +kernel
theorem dX5_init_7 : decode cX5_init 7 = .ok (.newarray .int, 2) := by decide +kernel
theorem dX5_init_9 : decode cX5_init 9 = .ok (.putfield 9, 3) := by decide +kernel
theorem dX5_init_12 : decode cX5_init 12 = .ok (.aload_n 0, 1) := by decide +kernel
theorem dX5_init_13 : decode cX5_init 13 = .ok (.bipush 16, 2) := by decide +kernel
theorem dX5_init_15 : decode cX5_init 15 = .ok (.newarray .int, 2) := by decide +kernel
theorem dX5_init_17 : decode cX5_init 17 = .ok (.putfield 15, 3) := by decide +kernel
theorem dX5_init_20 : decode cX5_init 20 = .ok (.aload_n 0, 1) := by decide +kernel
theorem dX5_init_21 : decode cX5_init 21 = .ok (.bipush 16, 2) := by decide +kernel
theorem dX5_init_23 : decode cX5_init 23 = .ok (.newarray .int, 2) := by decide +kernel
theorem dX5_init_25 : decode cX5_init 25 = .ok (.putfield 18, 3) := by decide +kernel
theorem dX5_init_28 : decode cX5_init 28 = .ok (.aload_n 0, 1) := by decide +kernel
theorem dX5_init_29 : decode cX5_init 29 = .ok (.bipush 48, 2) := by decide +kernel
theorem dX5_init_31 : decode cX5_init 31 = .ok (.newarray .int, 2) := by decide +kernel
theorem dX5_init_33 : decode cX5_init 33 = .ok (.putfield 21, 3) := by decide +kernel
theorem dX5_init_36 : decode cX5_init 36 = .ok (.aload_n 0, 1) := by decide +kernel
theorem dX5_init_37 : decode cX5_init 37 = .ok (.getfield 21, 3) := by decide +kernel
theorem dX5_init_40 : decode cX5_init 40 = .ok (.iconst (-1), 1) := by decide +kernel
theorem dX5_init_41 : decode cX5_init 41 = .ok (.invokestatic 24, 3) := by decide +kernel
theorem dX5_init_44 : decode cX5_init 44 = .ok (.return_, 1) := by decide +kernel
theorem dX5_copyFrom_0 : decode cX5_copyFrom 0 = .ok (.aload_n 0, 1) := by decide +kernel
theorem dX5_copyFrom_1 : decode cX5_copyFrom 1 = .ok (.aload_n 1, 1) := by decide +kernel
theorem dX5_copyFrom_2 : decode cX5_copyFrom 2 = .ok (.getfield 30, 3) := by decide +kernel
theorem dX5_copyFrom_5 : decode cX5_copyFrom 5 = .ok (.putfield 30, 3) := by decide +kernel
theorem dX5_copyFrom_8 : decode cX5_copyFrom 8 = .ok (.aload_n 1, 1) := by decide +kernel
theorem dX5_copyFrom_9 : decode cX5_copyFrom 9 = .ok (.getfield 9, 3) := by decide +kernel
theorem dX5_copyFrom_12 : decode cX5_copyFrom 12 = .ok (.iconst 0, 1) := by decide +kernel
theorem dX5_copyFrom_13 : decode cX5_copyFrom 13 = .ok (.aload_n 0, 1) := by decide +kernel
theorem dX5_copyFrom_14 : decode cX5_copyFrom 14 = .ok (.getfield 9, 3) := by decide +kernel
theorem dX5_copyFrom_17 : decode cX5_copyFrom 17 = .ok (.iconst 0, 1) := by decide +kernel
theorem dX5_copyFrom_18 : decode cX5_copyFrom 18 = .ok (.bipush 16, 2) := by decide +kernel
theorem dX5_copyFrom_20 : decode cX5_copyFrom 20 = .ok (.invokestatic 34, 3) := by decide +kernel
theorem dX5_copyFrom_23 : decode cX5_copyFrom 23 = .ok (.aload_n 1, 1) := by decide +kernel
theorem dX5_copyFrom_24 : decode cX5_copyFrom 24 = .ok (.getfield 15, 3) := by decide +kernel
theorem dX5_copyFrom_27 : decode cX5_copyFrom 27 = .ok (.iconst 0, 1) := by decide +kernel
theorem dX5_copyFrom_28 : decode cX5_copyFrom 28 = .ok (.aload_n 0, 1) := by decide +kernel
theorem dX5_copyFrom_29 : decode cX5_copyFrom 29 = .ok (.getfield 15, 3) := by decide +kernel
theorem dX5_copyFrom_32 : decode cX5_copyFrom 32 = .ok (.iconst 0, 1) := by decide +kernel
theorem dX5_copyFrom_33 : decode cX5_copyFrom 33 = .ok (.bipush 16, 2) := by decide +kernel
theorem dX5_copyFrom_35 : decode cX5_copyFrom 35 = .ok (.invokestatic 34, 3) := by decide +kernel
theorem dX5_copyFrom_38 : decode cX5_copyFrom 38 = .ok (.aload_n 1, 1) := by decide +kernel
theorem dX5_copyFrom_39 : decode cX5_copyFrom 39 = .ok (.getfield 18, 3) := by decide +kernel
theorem dX5_copyFrom_42 : decode cX5_copyFrom 42 = .ok (.iconst 0, 1) := by decide +kernel
theorem dX5_copyFrom_43 : decode cX5_copyFrom 43 = .ok (.aload_n 0, 1) := by decide +kernel
theorem dX5_copyFrom_44 : decode cX5_copyFrom 44 = .ok (.getfield 18, 3) := by decide +kernel
theorem dX5_copyFrom_47 : decode cX5_copyFrom 47 = .ok (.iconst 0, 1) := by decide +kernel
theorem dX5_copyFrom_48 : decode cX5_copyFrom 48 = .ok (.bipush 16, 2) := by decide +kernel
theorem dX5_copyFrom_50 : decode cX5_copyFrom 50 = .ok (.invokestatic 34, 3) := by decide +kernel
theorem dX5_copyFrom_53 : decode cX5_copyFrom 53 = .ok (.aload_n 1, 1) := by decide +kernel
theorem dX5_copyFrom_54 : decode cX5_copyFrom 54 = .ok (.getfield 21, 3) := by decide +kernel
theorem dX5_copyFrom_57 : decode cX5_copyFrom 57 = .ok (.iconst 0, 1) := by decide +kernel
theorem dX5_copyFrom_58 : decode cX5_copyFrom 58 = .ok (.aload_n 0, 1) := by decide +kernel
theorem dX5_copyFrom_59 : decode cX5_copyFrom 59 = .ok (.getfield 21, 3) := by decide +kernel
theorem dX5_copyFrom_62 : decode cX5_copyFrom 62 = .ok (.iconst 0, 1) := by decide +kernel
theorem dX5_copyFrom_63 : decode cX5_copyFrom 63 = .ok (.bipush 48, 2) := by decide +kernel
theorem dX5_copyFrom_65 : decode cX5_copyFrom 65 = .ok (.invokestatic 34, 3) := by decide +kernel
theorem dX5_copyFrom_68 : decode cX5_copyFrom 68 = .ok (.return_, 1) := by decide +kernel
theorem dX5_isBlock_0 : decode cX5_isBlock 0 = .ok (.iload_n 1, 1) := by decide +kernel
theorem dX5_isBlock_1 : decode cX5_isBlock 1 = .ok (.ifCond .lt 15, 3) := by decide +kernel
theorem dX5_isBlock_4 : decode cX5_isBlock 4 = .ok (.iload_n 1, 1) := by decide +kernel
theorem dX5_isBlock_5 : decode cX5_isBlock 5 = .ok (.aload_n 0, 1) := by decide +kernel
theorem dX5_isBlock_6 : decode cX5_isBlock 6 = .ok (.getfield 30, 3) := by decide +kernel
theorem dX5_isBlock_9 : decode cX5_isBlock 9 = .ok (.if_icmp .ge 7, 3) := by decide +kernel
theorem dX5_isBlock_12 : decode cX5_isBlock 12 = .ok (.iconst 1, 1) := by decide +kernel
theorem dX5_isBlock_13 : decode cX5_isBlock 13 = .ok (.goto 4, 3) := by decide +kernel
theorem dX5_isBlock_16 : decode cX5_isBlock 16 = .ok (.iconst 0, 1) := by decide +kernel
theorem dX5_isBlock_17 : decode cX5_isBlock 17 = .ok (.ireturn, 1) := by decide +kernel
theorem dX5_isFull_0 : decode cX5_isFull 0 = .ok (.aload_n 0, 1) := by decide +kernel
theorem dX5_isFull_1 : decode cX5_isFull 1 = .ok (.getfield 30, 3) := by decide +kernel
theorem dX5_isFull_4 : decode cX5_isFull 4 = .ok (.bipush 16, 2) := by decide +kernel
theorem dX5_isFull_6 : decode cX5_isFull 6 = .ok (.if_icmp .lt 7, 3) := by decide +kernel
theorem dX5_isFull_9 : decode cX5_isFull 9 = .ok (.iconst 1, 1) := by decide +kernel
theorem dX5_isFull_10 : decode cX5_isFull 10 = .ok (.goto 4, 3) := by decide +kernel
theorem dX5_isFull_13 : decode cX5_isFull 13 = .ok (.iconst 0, 1) := by decide +kernel
theorem dX5_isFull_14 : decode cX5_isFull 14 = .ok (.ireturn, 1) := by decide +kernel
theorem dX5_isGone_0 : decode cX5_isGone 0 = .ok (.aload_n 0, 1) := by decide +kernel
theorem dX5_isGone_1 : decode cX5_isGone 1 = .ok (.getfield 15, 3) := by decide +kernel
theorem dX5_isGone_4 : decode cX5_isGone 4 = .ok (.iload_n 1, 1) := by decide +kernel
theorem dX5_isGone_5 : decode cX5_isGone 5 = .ok (.iaload, 1) := by decide +kernel
theorem dX5_isGone_6 : decode cX5_isGone 6 = .ok (.ifCond .ge 7, 3) := by decide +kernel
theorem dX5_isGone_9 : decode cX5_isGone 9 = .ok (.iconst 1, 1) := by decide +kernel
theorem dX5_isGone_10 : decode cX5_isGone 10 = .ok (.goto 4, 3) := by decide +kernel
theorem dX5_isGone_13 : decode cX5_isGone 13 = .ok (.iconst 0, 1) := by decide +kernel
theorem dX5_isGone_14 : decode cX5_isGone 14 = .ok (.ireturn, 1) := by decide +kernel
set_option maxRecDepth 20000 in
theorem ggX5_blockAt_X6_isCell : GoodIn wsX5_blockAt wsX6_isCell := goodIn_r _ [4, 5, 6, 3, 7] (by decide +kernel) (by decide +kernel)
set_option maxRecDepth 20000 in
theorem gX5_blockAt_X6_isCell_n40 : GoodIn wsX5_blockAt (wsX6_isCell) := ggX5_blockAt_X6_isCell
theorem dX5_blockAt_0 : decode cX5_blockAt 0 = .ok (.iload_n 1, 1) := by decide +kernel
theorem dX5_blockAt_1 : decode cX5_blockAt 1 = .ok (.invokestatic 40, 3) := by decide +kernel
theorem dX5_blockAt_4 : decode cX5_blockAt 4 = .ok (.ifCond .eq 12, 3) := by decide +kernel
theorem dX5_blockAt_7 : decode cX5_blockAt 7 = .ok (.aload_n 0, 1) := by decide +kernel
theorem dX5_blockAt_8 : decode cX5_blockAt 8 = .ok (.getfield 21, 3) := by decide +kernel
theorem dX5_blockAt_11 : decode cX5_blockAt 11 = .ok (.iload_n 1, 1) := by decide +kernel
theorem dX5_blockAt_12 : decode cX5_blockAt 12 = .ok (.iaload, 1) := by decide +kernel
theorem dX5_blockAt_13 : decode cX5_blockAt 13 = .ok (.goto 4, 3) := by decide +kernel
theorem dX5_blockAt_16 : decode cX5_blockAt 16 = .ok (.iconst (-1), 1) := by decide +kernel
theorem dX5_blockAt_17 : decode cX5_blockAt 17 = .ok (.ireturn, 1) := by decide +kernel
theorem dX5_cellBit_0 : decode cX5_cellBit 0 = .ok (.aload_n 0, 1) := by decide +kernel
theorem dX5_cellBit_1 : decode cX5_cellBit 1 = .ok (.getfield 15, 3) := by decide +kernel
theorem dX5_cellBit_4 : decode cX5_cellBit 4 = .ok (.iload_n 1, 1) := by decide +kernel
theorem dX5_cellBit_5 : decode cX5_cellBit 5 = .ok (.iaload, 1) := by decide +kernel
theorem dX5_cellBit_6 : decode cX5_cellBit 6 = .ok (.ifCond .ge 7, 3) := by decide +kernel
theorem dX5_cellBit_9 : decode cX5_cellBit 9 = .ok (.lconst 0, 1) := by decide +kernel
theorem dX5_cellBit_10 : decode cX5_cellBit 10 = .ok (.goto 11, 3) := by decide +kernel
theorem dX5_cellBit_13 : decode cX5_cellBit 13 = .ok (.lconst 1, 1) := by decide +kernel
theorem dX5_cellBit_14 : decode cX5_cellBit 14 = .ok (.aload_n 0, 1) := by decide +kernel
theorem dX5_cellBit_15 : decode cX5_cellBit 15 = .ok (.getfield 15, 3) := by decide +kernel
theorem dX5_cellBit_18 : decode cX5_cellBit 18 = .ok (.iload_n 1, 1) := by decide +kernel
theorem dX5_cellBit_19 : decode cX5_cellBit 19 = .ok (.iaload, 1) := by decide +kernel
theorem dX5_cellBit_20 : decode cX5_cellBit 20 = .ok (.lshl, 1) := by decide +kernel
theorem dX5_cellBit_21 : decode cX5_cellBit 21 = .ok (.lreturn, 1) := by decide +kernel
set_option maxRecDepth 20000 in
theorem ggX5_build_X5_isFull : GoodIn wsX5_build wsX5_isFull := goodIn_r _ [10, 1, 17, 18, 19, 20, 21] (by decide +kernel) (by decide +kernel)
set_option maxRecDepth 20000 in
theorem gX5_build_X5_isFull : GoodIn wsX5_build (wsV RX5 44 RX5 yX5_isFull wsX5_isFull) := goodIn_app (goodIn_of _ (by decide +kernel)) ggX5_build_X5_isFull
set_option maxRecDepth 20000 in
theorem ggX5_build_X6_isCell : GoodIn wsX5_build wsX6_isCell := goodIn_r _ [13, 14, 15, 12, 16] (by decide +kernel) (by decide +kernel)
set_option maxRecDepth 20000 in
theorem gX5_build_X6_isCell_n40 : GoodIn wsX5_build (wsX6_isCell) := ggX5_build_X6_isCell
theorem dX5_build_0 : decode cX5_build 0 = .ok (.aload_n 0, 1) := by decide +kernel
theorem dX5_build_1 : decode cX5_build 1 = .ok (.getfield 30, 3) := by decide +kernel
theorem dX5_build_4 : decode cX5_build 4 = .ok (.istore 4, 2) := by decide +kernel
theorem dX5_build_6 : decode cX5_build 6 = .ok (.aload_n 0, 1) := by decide +kernel
theorem dX5_build_7 : decode cX5_build 7 = .ok (.invokevirtual 44, 3) := by decide +kernel
theorem dX5_build_10 : decode cX5_build 10 = .ok (.ifCond .ne 10, 3) := by decide +kernel
theorem dX5_build_13 : decode cX5_build 13 = .ok (.iload_n 2, 1) := by decide +kernel
theorem dX5_build_14 : decode cX5_build 14 = .ok (.invokestatic 40, 3) := by decide +kernel
theorem dX5_build_17 : decode cX5_build 17 = .ok (.ifCond .ne 5, 3) := by decide +kernel
theorem dX5_build_20 : decode cX5_build 20 = .ok (.iconst (-1), 1) := by decide +kernel
theorem dX5_build_21 : decode cX5_build 21 = .ok (.ireturn, 1) := by decide +kernel
theorem dX5_build_22 : decode cX5_build 22 = .ok (.aload_n 0, 1) := by decide +kernel
theorem dX5_build_23 : decode cX5_build 23 = .ok (.dup, 1) := by decide +kernel
theorem dX5_build_24 : decode cX5_build 24 = .ok (.getfield 30, 3) := by decide +kernel
theorem dX5_build_27 : decode cX5_build 27 = .ok (.iconst 1, 1) := by decide +kernel
theorem dX5_build_28 : decode cX5_build 28 = .ok (.iadd, 1) := by decide +kernel
theorem dX5_build_29 : decode cX5_build 29 = .ok (.putfield 30, 3) := by decide +kernel
theorem dX5_build_32 : decode cX5_build 32 = .ok (.aload_n 0, 1) := by decide +kernel
theorem dX5_build_33 : decode cX5_build 33 = .ok (.getfield 9, 3) := by decide +kernel
theorem dX5_build_36 : decode cX5_build 36 = .ok (.iload 4, 2) := by decide +kernel
theorem dX5_build_38 : decode cX5_build 38 = .ok (.iload_n 1, 1) := by decide +kernel
theorem dX5_build_39 : decode cX5_build 39 = .ok (.iastore, 1) := by decide +kernel
theorem dX5_build_40 : decode cX5_build 40 = .ok (.aload_n 0, 1) := by decide +kernel
theorem dX5_build_41 : decode cX5_build 41 = .ok (.getfield 15, 3) := by decide +kernel
theorem dX5_build_44 : decode cX5_build 44 = .ok (.iload 4, 2) := by decide +kernel
theorem dX5_build_46 : decode cX5_build 46 = .ok (.iload_n 2, 1) := by decide +kernel
theorem dX5_build_47 : decode cX5_build 47 = .ok (.iastore, 1) := by decide +kernel
theorem dX5_build_48 : decode cX5_build 48 = .ok (.aload_n 0, 1) := by decide +kernel
theorem dX5_build_49 : decode cX5_build 49 = .ok (.getfield 18, 3) := by decide +kernel
theorem dX5_build_52 : decode cX5_build 52 = .ok (.iload 4, 2) := by decide +kernel
theorem dX5_build_54 : decode cX5_build 54 = .ok (.iload_n 3, 1) := by decide +kernel
theorem dX5_build_55 : decode cX5_build 55 = .ok (.iastore, 1) := by decide +kernel
theorem dX5_build_56 : decode cX5_build 56 = .ok (.aload_n 0, 1) := by decide +kernel
theorem dX5_build_57 : decode cX5_build 57 = .ok (.getfield 21, 3) := by decide +kernel
theorem dX5_build_60 : decode cX5_build 60 = .ok (.iload_n 2, 1) := by decide +kernel
theorem dX5_build_61 : decode cX5_build 61 = .ok (.iload 4, 2) := by decide +kernel
theorem dX5_build_63 : decode cX5_build 63 = .ok (.iastore, 1) := by decide +kernel
theorem dX5_build_64 : decode cX5_build 64 = .ok (.iload 4, 2) := by decide +kernel
theorem dX5_build_66 : decode cX5_build 66 = .ok (.ireturn, 1) := by decide +kernel
set_option maxRecDepth 20000 in
theorem ggX5_move_X6_isCell : GoodIn wsX5_move wsX6_isCell := goodIn_r _ [5, 6, 7, 4, 8] (by decide +kernel) (by decide +kernel)
set_option maxRecDepth 20000 in
theorem gX5_move_X6_isCell_n40 : GoodIn wsX5_move (wsX6_isCell) := ggX5_move_X6_isCell
theorem dX5_move_0 : decode cX5_move 0 = .ok (.aload_n 0, 1) := by decide +kernel
theorem dX5_move_1 : decode cX5_move 1 = .ok (.getfield 15, 3) := by decide +kernel
theorem dX5_move_4 : decode cX5_move 4 = .ok (.iload_n 1, 1) := by decide +kernel
theorem dX5_move_5 : decode cX5_move 5 = .ok (.iaload, 1) := by decide +kernel
theorem dX5_move_6 : decode cX5_move 6 = .ok (.istore_n 3, 1) := by decide +kernel
theorem dX5_move_7 : decode cX5_move 7 = .ok (.iload_n 3, 1) := by decide +kernel
theorem dX5_move_8 : decode cX5_move 8 = .ok (.invokestatic 40, 3) := by decide +kernel
theorem dX5_move_11 : decode cX5_move 11 = .ok (.ifCond .eq 31, 3) := by decide +kernel
theorem dX5_move_14 : decode cX5_move 14 = .ok (.iload_n 2, 1) := by decide +kernel
theorem dX5_move_15 : decode cX5_move 15 = .ok (.invokestatic 40, 3) := by decide +kernel
theorem dX5_move_18 : decode cX5_move 18 = .ok (.ifCond .eq 24, 3) := by decide +kernel
theorem dX5_move_21 : decode cX5_move 21 = .ok (.aload_n 0, 1) := by decide +kernel
theorem dX5_move_22 : decode cX5_move 22 = .ok (.getfield 21, 3) := by decide +kernel
theorem dX5_move_25 : decode cX5_move 25 = .ok (.iload_n 3, 1) := by decide +kernel
theorem dX5_move_26 : decode cX5_move 26 = .ok (.iconst (-1), 1) := by decide +kernel
theorem dX5_move_27 : decode cX5_move 27 = .ok (.iastore, 1) := by decide +kernel
theorem dX5_move_28 : decode cX5_move 28 = .ok (.aload_n 0, 1) := by decide +kernel
theorem dX5_move_29 : decode cX5_move 29 = .ok (.getfield 21, 3) := by decide +kernel
theorem dX5_move_32 : decode cX5_move 32 = .ok (.iload_n 2, 1) := by decide +kernel
theorem dX5_move_33 : decode cX5_move 33 = .ok (.iload_n 1, 1) := by decide +kernel
theorem dX5_move_34 : decode cX5_move 34 = .ok (.iastore, 1) := by decide +kernel
theorem dX5_move_35 : decode cX5_move 35 = .ok (.aload_n 0, 1) := by decide +kernel
theorem dX5_move_36 : decode cX5_move 36 = .ok (.getfield 15, 3) := by decide +kernel
theorem dX5_move_39 : decode cX5_move 39 = .ok (.iload_n 1, 1) := by decide +kernel
theorem dX5_move_40 : decode cX5_move 40 = .ok (.iload_n 2, 1) := by decide +kernel
theorem dX5_move_41 : decode cX5_move 41 = .ok (.iastore, 1) := by decide +kernel
theorem dX5_move_42 : decode cX5_move 42 = .ok (.iload_n 3, 1) := by decide +kernel
theorem dX5_move_43 : decode cX5_move 43 = .ok (.ireturn, 1) := by decide +kernel
theorem dX5_thicken_0 : decode cX5_thicken 0 = .ok (.iload_n 2, 1) := by decide +kernel
theorem dX5_thicken_1 : decode cX5_thicken 1 = .ok (.bipush 99, 2) := by decide +kernel
theorem dX5_thicken_3 : decode cX5_thicken 3 = .ok (.aload_n 0, 1) := by decide +kernel
theorem dX5_thicken_4 : decode cX5_thicken 4 = .ok (.getfield 18, 3) := by decide +kernel
theorem dX5_thicken_7 : decode cX5_thicken 7 = .ok (.iload_n 1, 1) := by decide +kernel
theorem dX5_thicken_8 : decode cX5_thicken 8 = .ok (.iaload, 1) := by decide +kernel
theorem dX5_thicken_9 : decode cX5_thicken 9 = .ok (.isub, 1) := by decide +kernel
theorem dX5_thicken_10 : decode cX5_thicken 10 = .ok (.invokestatic 48, 3) := by decide +kernel
theorem dX5_thicken_13 : decode cX5_thicken 13 = .ok (.istore_n 3, 1) := by decide +kernel
theorem dX5_thicken_14 : decode cX5_thicken 14 = .ok (.aload_n 0, 1) := by decide +kernel
theorem dX5_thicken_15 : decode cX5_thicken 15 = .ok (.getfield 18, 3) := by decide +kernel
theorem dX5_thicken_18 : decode cX5_thicken 18 = .ok (.iload_n 1, 1) := by decide +kernel
theorem dX5_thicken_19 : decode cX5_thicken 19 = .ok (.dup2, 1) := by decide +kernel
theorem dX5_thicken_20 : decode cX5_thicken 20 = .ok (.iaload, 1) := by decide +kernel
theorem dX5_thicken_21 : decode cX5_thicken 21 = .ok (.iload_n 3, 1) := by decide +kernel
theorem dX5_thicken_22 : decode cX5_thicken 22 = .ok (.iadd, 1) := by decide +kernel
theorem dX5_thicken_23 : decode cX5_thicken 23 = .ok (.iastore, 1) := by decide +kernel
theorem dX5_thicken_24 : decode cX5_thicken 24 = .ok (.iload_n 3, 1) := by decide +kernel
theorem dX5_thicken_25 : decode cX5_thicken 25 = .ok (.ireturn, 1) := by decide +kernel
set_option maxRecDepth 20000 in
theorem ggX5_remove_X6_isCell : GoodIn wsX5_remove wsX6_isCell := goodIn_r _ [6, 7, 8, 5, 9] (by decide +kernel) (by decide +kernel)
set_option maxRecDepth 20000 in
theorem gX5_remove_X6_isCell_n40 : GoodIn wsX5_remove (wsX6_isCell) := ggX5_remove_X6_isCell
theorem dX5_remove_0 : decode cX5_remove 0 = .ok (.aload_n 0, 1) := by decide +kernel
theorem dX5_remove_1 : decode cX5_remove 1 = .ok (.getfield 18, 3) := by decide +kernel
theorem dX5_remove_4 : decode cX5_remove 4 = .ok (.iload_n 1, 1) := by decide +kernel
theorem dX5_remove_5 : decode cX5_remove 5 = .ok (.iaload, 1) := by decide +kernel
theorem dX5_remove_6 : decode cX5_remove 6 = .ok (.istore_n 2, 1) := by decide +kernel
theorem dX5_remove_7 : decode cX5_remove 7 = .ok (.aload_n 0, 1) := by decide +kernel
theorem dX5_remove_8 : decode cX5_remove 8 = .ok (.getfield 15, 3) := by decide +kernel
theorem dX5_remove_11 : decode cX5_remove 11 = .ok (.iload_n 1, 1) := by decide +kernel
theorem dX5_remove_12 : decode cX5_remove 12 = .ok (.iaload, 1) := by decide +kernel
theorem dX5_remove_13 : decode cX5_remove 13 = .ok (.istore_n 3, 1) := by decide +kernel
theorem dX5_remove_14 : decode cX5_remove 14 = .ok (.iload_n 3, 1) := by decide +kernel
theorem dX5_remove_15 : decode cX5_remove 15 = .ok (.invokestatic 40, 3) := by decide +kernel
theorem dX5_remove_18 : decode cX5_remove 18 = .ok (.ifCond .eq 10, 3) := by decide +kernel
theorem dX5_remove_21 : decode cX5_remove 21 = .ok (.aload_n 0, 1) := by decide +kernel
theorem dX5_remove_22 : decode cX5_remove 22 = .ok (.getfield 21, 3) := by decide +kernel
theorem dX5_remove_25 : decode cX5_remove 25 = .ok (.iload_n 3, 1) := by decide +kernel
theorem dX5_remove_26 : decode cX5_remove 26 = .ok (.iconst (-1), 1) := by decide +kernel
theorem dX5_remove_27 : decode cX5_remove 27 = .ok (.iastore, 1) := by decide +kernel
theorem dX5_remove_28 : decode cX5_remove 28 = .ok (.aload_n 0, 1) := by decide +kernel
theorem dX5_remove_29 : decode cX5_remove 29 = .ok (.getfield 15, 3) := by decide +kernel
theorem dX5_remove_32 : decode cX5_remove 32 = .ok (.iload_n 1, 1) := by decide +kernel
theorem dX5_remove_33 : decode cX5_remove 33 = .ok (.iconst (-1), 1) := by decide +kernel
theorem dX5_remove_34 : decode cX5_remove 34 = .ok (.iastore, 1) := by decide +kernel
theorem dX5_remove_35 : decode cX5_remove 35 = .ok (.aload_n 0, 1) := by decide +kernel
theorem dX5_remove_36 : decode cX5_remove 36 = .ok (.getfield 18, 3) := by decide +kernel
theorem dX5_remove_39 : decode cX5_remove 39 = .ok (.iload_n 1, 1) := by decide +kernel
theorem dX5_remove_40 : decode cX5_remove 40 = .ok (.iconst 0, 1) := by decide +kernel
theorem dX5_remove_41 : decode cX5_remove 41 = .ok (.iastore, 1) := by decide +kernel
theorem dX5_remove_42 : decode cX5_remove 42 = .ok (.iload_n 2, 1) := by decide +kernel
theorem dX5_remove_43 : decode cX5_remove 43 = .ok (.ireturn, 1) := by decide +kernel
theorem dX5_allGrains_0 : decode cX5_allGrains 0 = .ok (.iconst 0, 1) := by decide +kernel
theorem dX5_allGrains_1 : decode cX5_allGrains 1 = .ok (.istore_n 1, 1) := by decide +kernel
theorem dX5_allGrains_2 : decode cX5_allGrains 2 = .ok (.iconst 0, 1) := by decide +kernel
theorem dX5_allGrains_3 : decode cX5_allGrains 3 = .ok (.istore_n 2, 1) := by decide +kernel
theorem dX5_allGrains_4 : decode cX5_allGrains 4 = .ok (.iload_n 2, 1) := by decide +kernel
theorem dX5_allGrains_5 : decode cX5_allGrains 5 = .ok (.aload_n 0, 1) := by decide +kernel
theorem dX5_allGrains_6 : decode cX5_allGrains 6 = .ok (.getfield 30, 3) := by decide +kernel
theorem dX5_allGrains_9 : decode cX5_allGrains 9 = .ok (.if_icmp .ge 18, 3) := by decide +kernel
theorem dX5_allGrains_12 : decode cX5_allGrains 12 = .ok (.iload_n 1, 1) := by decide +kernel
theorem dX5_allGrains_13 : decode cX5_allGrains 13 = .ok (.aload_n 0, 1) := by decide +kernel
theorem dX5_allGrains_14 : decode cX5_allGrains 14 = .ok (.getfield 18, 3) := by decide +kernel
theorem dX5_allGrains_17 : decode cX5_allGrains 17 = .ok (.iload_n 2, 1) := by decide +kernel
theorem dX5_allGrains_18 : decode cX5_allGrains 18 = .ok (.iaload, 1) := by decide +kernel
theorem dX5_allGrains_19 : decode cX5_allGrains 19 = .ok (.iadd, 1) := by decide +kernel
theorem dX5_allGrains_20 : decode cX5_allGrains 20 = .ok (.istore_n 1, 1) := by decide +kernel
theorem dX5_allGrains_21 : decode cX5_allGrains 21 = .ok (.iinc 2 1, 3) := by decide +kernel
theorem dX5_allGrains_24 : decode cX5_allGrains 24 = .ok (.goto (-20), 3) := by decide +kernel
theorem dX5_allGrains_27 : decode cX5_allGrains 27 = .ok (.iload_n 1, 1) := by decide +kernel
theorem dX5_allGrains_28 : decode cX5_allGrains 28 = .ok (.ireturn, 1) := by decide +kernel
set_option maxRecDepth 20000 in
theorem ggX5_goneSet_X5_isGone : GoodIn wsX5_goneSet wsX5_isGone := goodIn_r _ [6, 7, 8, 9, 10, 11, 12] (by decide +kernel) (by decide +kernel)
set_option maxRecDepth 20000 in
theorem gX5_goneSet_X5_isGone : GoodIn wsX5_goneSet (wsV RX5 54 RX5 yX5_isGone wsX5_isGone) := goodIn_app (goodIn_of _ (by decide +kernel)) ggX5_goneSet_X5_isGone
theorem dX5_goneSet_0 : decode cX5_goneSet 0 = .ok (.iconst 0, 1) := by decide +kernel
theorem dX5_goneSet_1 : decode cX5_goneSet 1 = .ok (.istore_n 1, 1) := by decide +kernel
theorem dX5_goneSet_2 : decode cX5_goneSet 2 = .ok (.iconst 0, 1) := by decide +kernel
theorem dX5_goneSet_3 : decode cX5_goneSet 3 = .ok (.istore_n 2, 1) := by decide +kernel
theorem dX5_goneSet_4 : decode cX5_goneSet 4 = .ok (.iload_n 2, 1) := by decide +kernel
theorem dX5_goneSet_5 : decode cX5_goneSet 5 = .ok (.aload_n 0, 1) := by decide +kernel
theorem dX5_goneSet_6 : decode cX5_goneSet 6 = .ok (.getfield 30, 3) := by decide +kernel
theorem dX5_goneSet_9 : decode cX5_goneSet 9 = .ok (.if_icmp .ge 23, 3) := by decide +kernel
theorem dX5_goneSet_12 : decode cX5_goneSet 12 = .ok (.aload_n 0, 1) := by decide +kernel
theorem dX5_goneSet_13 : decode cX5_goneSet 13 = .ok (.iload_n 2, 1) := by decide +kernel
theorem dX5_goneSet_14 : decode cX5_goneSet 14 = .ok (.invokevirtual 54, 3) := by decide +kernel
theorem dX5_goneSet_17 : decode cX5_goneSet 17 = .ok (.ifCond .eq 9, 3) := by decide +kernel
theorem dX5_goneSet_20 : decode cX5_goneSet 20 = .ok (.iload_n 1, 1) := by decide +kernel
theorem dX5_goneSet_21 : decode cX5_goneSet 21 = .ok (.iconst 1, 1) := by decide +kernel
theorem dX5_goneSet_22 : decode cX5_goneSet 22 = .ok (.iload_n 2, 1) := by decide +kernel
theorem dX5_goneSet_23 : decode cX5_goneSet 23 = .ok (.ishl, 1) := by decide +kernel
theorem dX5_goneSet_24 : decode cX5_goneSet 24 = .ok (.ior, 1) := by decide +kernel
theorem dX5_goneSet_25 : decode cX5_goneSet 25 = .ok (.istore_n 1, 1) := by decide +kernel
theorem dX5_goneSet_26 : decode cX5_goneSet 26 = .ok (.iinc 2 1, 3) := by decide +kernel
theorem dX5_goneSet_29 : decode cX5_goneSet 29 = .ok (.goto (-25), 3) := by decide +kernel
theorem dX5_goneSet_32 : decode cX5_goneSet 32 = .ok (.iload_n 1, 1) := by decide +kernel
theorem dX5_goneSet_33 : decode cX5_goneSet 33 = .ok (.ireturn, 1) := by decide +kernel
set_option maxRecDepth 20000 in
theorem ggX5_occupied_X5_cellBit : GoodIn wsX5_occupied wsX5_cellBit := goodIn_r _ [6, 7, 8, 9, 10, 11, 12] (by decide +kernel) (by decide +kernel)
set_option maxRecDepth 20000 in
theorem gX5_occupied_X5_cellBit : GoodIn wsX5_occupied (wsV RX5 57 RX5 yX5_cellBit wsX5_cellBit) := goodIn_app (goodIn_of _ (by decide +kernel)) ggX5_occupied_X5_cellBit
theorem dX5_occupied_0 : decode cX5_occupied 0 = .ok (.lconst 0, 1) := by decide +kernel
theorem dX5_occupied_1 : decode cX5_occupied 1 = .ok (.lstore_n 1, 1) := by decide +kernel
theorem dX5_occupied_2 : decode cX5_occupied 2 = .ok (.iconst 0, 1) := by decide +kernel
theorem dX5_occupied_3 : decode cX5_occupied 3 = .ok (.istore_n 3, 1) := by decide +kernel
theorem dX5_occupied_4 : decode cX5_occupied 4 = .ok (.iload_n 3, 1) := by decide +kernel
theorem dX5_occupied_5 : decode cX5_occupied 5 = .ok (.aload_n 0, 1) := by decide +kernel
theorem dX5_occupied_6 : decode cX5_occupied 6 = .ok (.getfield 30, 3) := by decide +kernel
theorem dX5_occupied_9 : decode cX5_occupied 9 = .ok (.if_icmp .ge 17, 3) := by decide +kernel
theorem dX5_occupied_12 : decode cX5_occupied 12 = .ok (.lload_n 1, 1) := by decide +kernel
theorem dX5_occupied_13 : decode cX5_occupied 13 = .ok (.aload_n 0, 1) := by decide +kernel
theorem dX5_occupied_14 : decode cX5_occupied 14 = .ok (.iload_n 3, 1) := by decide +kernel
theorem dX5_occupied_15 : decode cX5_occupied 15 = .ok (.invokevirtual 57, 3) := by decide +kernel
theorem dX5_occupied_18 : decode cX5_occupied 18 = .ok (.lor, 1) := by decide +kernel
theorem dX5_occupied_19 : decode cX5_occupied 19 = .ok (.lstore_n 1, 1) := by decide +kernel
theorem dX5_occupied_20 : decode cX5_occupied 20 = .ok (.iinc 3 1, 3) := by decide +kernel
theorem dX5_occupied_23 : decode cX5_occupied 23 = .ok (.goto (-19), 3) := by decide +kernel
theorem dX5_occupied_26 : decode cX5_occupied 26 = .ok (.lload_n 1, 1) := by decide +kernel
theorem dX5_occupied_27 : decode cX5_occupied 27 = .ok (.lreturn, 1) := by decide +kernel
theorem dX5_standsBy_0 : decode cX5_standsBy 0 = .ok (.aload_n 0, 1) := by decide +kernel
theorem dX5_standsBy_1 : decode cX5_standsBy 1 = .ok (.getfield 15, 3) := by decide +kernel
theorem dX5_standsBy_4 : decode cX5_standsBy 4 = .ok (.iload_n 1, 1) := by decide +kernel
theorem dX5_standsBy_5 : decode cX5_standsBy 5 = .ok (.iaload, 1) := by decide +kernel
theorem dX5_standsBy_6 : decode cX5_standsBy 6 = .ok (.istore 4, 2) := by decide +kernel
theorem dX5_standsBy_8 : decode cX5_standsBy 8 = .ok (.iload 4, 2) := by decide +kernel
theorem dX5_standsBy_10 : decode cX5_standsBy 10 = .ok (.bipush 8, 2) := by decide +kernel
theorem dX5_standsBy_12 : decode cX5_standsBy 12 = .ok (.if_icmp .ge 14, 3) := by decide +kernel
theorem dX5_standsBy_15 : decode cX5_standsBy 15 = .ok (.iload 4, 2) := by decide +kernel
theorem dX5_standsBy_17 : decode cX5_standsBy 17 = .ok (.ifCond .lt 7, 3) := by decide +kernel
theorem dX5_standsBy_20 : decode cX5_standsBy 20 = .ok (.iconst 1, 1) := by decide +kernel
theorem dX5_standsBy_21 : decode cX5_standsBy 21 = .ok (.goto 4, 3) := by decide +kernel
theorem dX5_standsBy_24 : decode cX5_standsBy 24 = .ok (.iconst 0, 1) := by decide +kernel
theorem dX5_standsBy_25 : decode cX5_standsBy 25 = .ok (.ireturn, 1) := by decide +kernel
theorem dX5_standsBy_26 : decode cX5_standsBy 26 = .ok (.lload_n 2, 1) := by decide +kernel
theorem dX5_standsBy_27 : decode cX5_standsBy 27 = .ok (.iload 4, 2) := by decide +kernel
theorem dX5_standsBy_29 : decode cX5_standsBy 29 = .ok (.bipush 8, 2) := by decide +kernel
theorem dX5_standsBy_31 : decode cX5_standsBy 31 = .ok (.isub, 1) := by decide +kernel
theorem dX5_standsBy_32 : decode cX5_standsBy 32 = .ok (.lushr, 1) := by decide +kernel
theorem dX5_standsBy_33 : decode cX5_standsBy 33 = .ok (.lconst 1, 1) := by decide +kernel
theorem dX5_standsBy_34 : decode cX5_standsBy 34 = .ok (.land, 1) := by decide +kernel
theorem dX5_standsBy_35 : decode cX5_standsBy 35 = .ok (.lconst 0, 1) := by decide +kernel
theorem dX5_standsBy_36 : decode cX5_standsBy 36 = .ok (.lcmp, 1) := by decide +kernel
theorem dX5_standsBy_37 : decode cX5_standsBy 37 = .ok (.ifCond .eq 7, 3) := by decide +kernel
theorem dX5_standsBy_40 : decode cX5_standsBy 40 = .ok (.iconst 1, 1) := by decide +kernel
theorem dX5_standsBy_41 : decode cX5_standsBy 41 = .ok (.goto 4, 3) := by decide +kernel
theorem dX5_standsBy_44 : decode cX5_standsBy 44 = .ok (.iconst 0, 1) := by decide +kernel
theorem dX5_standsBy_45 : decode cX5_standsBy 45 = .ok (.istore 5, 2) := by decide +kernel
theorem dX5_standsBy_47 : decode cX5_standsBy 47 = .ok (.iload 4, 2) := by decide +kernel
theorem dX5_standsBy_49 : decode cX5_standsBy 49 = .ok (.bipush 8, 2) := by decide +kernel
theorem dX5_standsBy_51 : decode cX5_standsBy 51 = .ok (.irem, 1) := by decide +kernel
theorem dX5_standsBy_52 : decode cX5_standsBy 52 = .ok (.ifCond .le 20, 3) := by decide +kernel
theorem dX5_standsBy_55 : decode cX5_standsBy 55 = .ok (.lload_n 2, 1) := by decide +kernel
theorem dX5_standsBy_56 : decode cX5_standsBy 56 = .ok (.iload 4, 2) := by decide +kernel
theorem dX5_standsBy_58 : decode cX5_standsBy 58 = .ok (.iconst 1, 1) := by decide +kernel
theorem dX5_standsBy_59 : decode cX5_standsBy 59 = .ok (.isub, 1) := by decide +kernel
theorem dX5_standsBy_60 : decode cX5_standsBy 60 = .ok (.lushr, 1) := by decide +kernel
theorem dX5_standsBy_61 : decode cX5_standsBy 61 = .ok (.lconst 1, 1) := by decide +kernel
theorem dX5_standsBy_62 : decode cX5_standsBy 62 = .ok (.land, 1) := by decide +kernel
theorem dX5_standsBy_63 : decode cX5_standsBy 63 = .ok (.lconst 0, 1) := by decide +kernel
theorem dX5_standsBy_64 : decode cX5_standsBy 64 = .ok (.lcmp, 1) := by decide +kernel
theorem dX5_standsBy_65 : decode cX5_standsBy 65 = .ok (.ifCond .eq 7, 3) := by decide +kernel
theorem dX5_standsBy_68 : decode cX5_standsBy 68 = .ok (.iconst 1, 1) := by decide +kernel
theorem dX5_standsBy_69 : decode cX5_standsBy 69 = .ok (.goto 4, 3) := by decide +kernel
theorem dX5_standsBy_72 : decode cX5_standsBy 72 = .ok (.iconst 0, 1) := by decide +kernel
theorem dX5_standsBy_73 : decode cX5_standsBy 73 = .ok (.istore 6, 2) := by decide +kernel
theorem dX5_standsBy_75 : decode cX5_standsBy 75 = .ok (.iload 4, 2) := by decide +kernel
theorem dX5_standsBy_77 : decode cX5_standsBy 77 = .ok (.bipush 8, 2) := by decide +kernel
theorem dX5_standsBy_79 : decode cX5_standsBy 79 = .ok (.irem, 1) := by decide +kernel
theorem dX5_standsBy_80 : decode cX5_standsBy 80 = .ok (.bipush 7, 2) := by decide +kernel
theorem dX5_standsBy_82 : decode cX5_standsBy 82 = .ok (.if_icmp .ge 20, 3) := by decide +kernel
theorem dX5_standsBy_85 : decode cX5_standsBy 85 = .ok (.lload_n 2, 1) := by decide +kernel
theorem dX5_standsBy_86 : decode cX5_standsBy 86 = .ok (.iload 4, 2) := by decide +kernel
theorem dX5_standsBy_88 : decode cX5_standsBy 88 = .ok (.iconst 1, 1) := by decide +kernel
theorem dX5_standsBy_89 : decode cX5_standsBy 89 = .ok (.iadd, 1) := by decide +kernel
theorem dX5_standsBy_90 : decode cX5_standsBy 90 = .ok (.lushr, 1) := by decide +kernel
theorem dX5_standsBy_91 : decode cX5_standsBy 91 = .ok (.lconst 1, 1) := by decide +kernel
theorem dX5_standsBy_92 : decode cX5_standsBy 92 = .ok (.land, 1) := by decide +kernel
theorem dX5_standsBy_93 : decode cX5_standsBy 93 = .ok (.lconst 0, 1) := by decide +kernel
theorem dX5_standsBy_94 : decode cX5_standsBy 94 = .ok (.lcmp, 1) := by decide +kernel
theorem dX5_standsBy_95 : decode cX5_standsBy 95 = .ok (.ifCond .eq 7, 3) := by decide +kernel
theorem dX5_standsBy_98 : decode cX5_standsBy 98 = .ok (.iconst 1, 1) := by decide +kernel
theorem dX5_standsBy_99 : decode cX5_standsBy 99 = .ok (.goto 4, 3) := by decide +kernel
theorem dX5_standsBy_102 : decode cX5_standsBy 102 = .ok (.iconst 0, 1) := by decide +kernel
theorem dX5_standsBy_103 : decode cX5_standsBy 103 = .ok (.istore 7, 2) := by decide +kernel
theorem dX5_standsBy_105 : decode cX5_standsBy 105 = .ok (.aload_n 0, 1) := by decide +kernel
theorem dX5_standsBy_106 : decode cX5_standsBy 106 = .ok (.getfield 9, 3) := by decide +kernel
theorem dX5_standsBy_109 : decode cX5_standsBy 109 = .ok (.iload_n 1, 1) := by decide +kernel
theorem dX5_standsBy_110 : decode cX5_standsBy 110 = .ok (.iaload, 1) := by decide +kernel
theorem dX5_standsBy_111 : decode cX5_standsBy 111 = .ok (.tableswitch 99 1 6 #[37, 58, 37, 99, 58, 79], 37) := by decide +kernel
theorem dX5_standsBy_148 : decode cX5_standsBy 148 = .ok (.iload 5, 2) := by decide +kernel
theorem dX5_standsBy_150 : decode cX5_standsBy 150 = .ok (.ifCond .ne 13, 3) := by decide +kernel
theorem dX5_standsBy_153 : decode cX5_standsBy 153 = .ok (.iload 6, 2) := by decide +kernel
theorem dX5_standsBy_155 : decode cX5_standsBy 155 = .ok (.ifCond .eq 12, 3) := by decide +kernel
theorem dX5_standsBy_158 : decode cX5_standsBy 158 = .ok (.iload 7, 2) := by decide +kernel
theorem dX5_standsBy_160 : decode cX5_standsBy 160 = .ok (.ifCond .eq 7, 3) := by decide +kernel
theorem dX5_standsBy_163 : decode cX5_standsBy 163 = .ok (.iconst 1, 1) := by decide +kernel
theorem dX5_standsBy_164 : decode cX5_standsBy 164 = .ok (.goto 4, 3) := by decide +kernel
theorem dX5_standsBy_167 : decode cX5_standsBy 167 = .ok (.iconst 0, 1) := by decide +kernel
theorem dX5_standsBy_168 : decode cX5_standsBy 168 = .ok (.ireturn, 1) := by decide +kernel
theorem dX5_standsBy_169 : decode cX5_standsBy 169 = .ok (.iload 5, 2) := by decide +kernel
theorem dX5_standsBy_171 : decode cX5_standsBy 171 = .ok (.ifCond .ne 13, 3) := by decide +kernel
theorem dX5_standsBy_174 : decode cX5_standsBy 174 = .ok (.iload 6, 2) := by decide +kernel
theorem dX5_standsBy_176 : decode cX5_standsBy 176 = .ok (.ifCond .ne 8, 3) := by decide +kernel
theorem dX5_standsBy_179 : decode cX5_standsBy 179 = .ok (.iload 7, 2) := by decide +kernel
theorem dX5_standsBy_181 : decode cX5_standsBy 181 = .ok (.ifCond .eq 7, 3) := by decide +kernel
theorem dX5_standsBy_184 : decode cX5_standsBy 184 = .ok (.iconst 1, 1) := by decide +kernel
theorem dX5_standsBy_185 : decode cX5_standsBy 185 = .ok (.goto 4, 3) := by decide +kernel
theorem dX5_standsBy_188 : decode cX5_standsBy 188 = .ok (.iconst 0, 1) := by decide +kernel
theorem dX5_standsBy_189 : decode cX5_standsBy 189 = .ok (.ireturn, 1) := by decide +kernel
theorem dX5_standsBy_190 : decode cX5_standsBy 190 = .ok (.lload_n 2, 1) := by decide +kernel
theorem dX5_standsBy_191 : decode cX5_standsBy 191 = .ok (.iload 4, 2) := by decide +kernel
theorem dX5_standsBy_193 : decode cX5_standsBy 193 = .ok (.bipush 8, 2) := by decide +kernel
theorem dX5_standsBy_195 : decode cX5_standsBy 195 = .ok (.iadd, 1) := by decide +kernel
theorem dX5_standsBy_196 : decode cX5_standsBy 196 = .ok (.lushr, 1) := by decide +kernel
theorem dX5_standsBy_197 : decode cX5_standsBy 197 = .ok (.lconst 1, 1) := by decide +kernel
theorem dX5_standsBy_198 : decode cX5_standsBy 198 = .ok (.land, 1) := by decide +kernel
theorem dX5_standsBy_199 : decode cX5_standsBy 199 = .ok (.lconst 0, 1) := by decide +kernel
theorem dX5_standsBy_200 : decode cX5_standsBy 200 = .ok (.lcmp, 1) := by decide +kernel
theorem dX5_standsBy_201 : decode cX5_standsBy 201 = .ok (.ifCond .eq 7, 3) := by decide +kernel
theorem dX5_standsBy_204 : decode cX5_standsBy 204 = .ok (.iconst 1, 1) := by decide +kernel
theorem dX5_standsBy_205 : decode cX5_standsBy 205 = .ok (.goto 4, 3) := by decide +kernel
theorem dX5_standsBy_208 : decode cX5_standsBy 208 = .ok (.iconst 0, 1) := by decide +kernel
theorem dX5_standsBy_209 : decode cX5_standsBy 209 = .ok (.ireturn, 1) := by decide +kernel
theorem dX5_standsBy_210 : decode cX5_standsBy 210 = .ok (.iload 5, 2) := by decide +kernel
theorem dX5_standsBy_212 : decode cX5_standsBy 212 = .ok (.ireturn, 1) := by decide +kernel
set_option maxRecDepth 20000 in
theorem ggX5_standing_X5_standsBy : GoodIn wsX5_standing wsX5_standsBy := goodIn_r _ [6, 7, 8, 13, 14, 15, 16, 17] (by decide +kernel) (by decide +kernel)
set_option maxRecDepth 20000 in
theorem gX5_standing_X5_standsBy : GoodIn wsX5_standing (wsV RX5 61 RX5 yX5_standsBy wsX5_standsBy) := goodIn_app (goodIn_of _ (by decide +kernel)) ggX5_standing_X5_standsBy
set_option maxRecDepth 20000 in
theorem ggX5_standing_X5_cellBit : GoodIn wsX5_standing wsX5_cellBit := goodIn_r _ [12, 7, 13, 14, 15, 16, 17] (by decide +kernel) (by decide +kernel)
set_option maxRecDepth 20000 in
theorem gX5_standing_X5_cellBit : GoodIn wsX5_standing (wsV RX5 57 RX5 yX5_cellBit wsX5_cellBit) := goodIn_app (goodIn_of _ (by decide +kernel)) ggX5_standing_X5_cellBit
theorem dX5_standing_0 : decode cX5_standing 0 = .ok (.lconst 0, 1) := by decide +kernel
theorem dX5_standing_1 : decode cX5_standing 1 = .ok (.lstore_n 1, 1) := by decide +kernel
theorem dX5_standing_2 : decode cX5_standing 2 = .ok (.iconst 0, 1) := by decide +kernel
theorem dX5_standing_3 : decode cX5_standing 3 = .ok (.istore_n 3, 1) := by decide +kernel
theorem dX5_standing_4 : decode cX5_standing 4 = .ok (.iload_n 3, 1) := by decide +kernel
theorem dX5_standing_5 : decode cX5_standing 5 = .ok (.bipush 16, 2) := by decide +kernel
theorem dX5_standing_7 : decode cX5_standing 7 = .ok (.if_icmp .gt 59, 3) := by decide +kernel
theorem dX5_standing_10 : decode cX5_standing 10 = .ok (.lload_n 1, 1) := by decide +kernel
theorem dX5_standing_11 : decode cX5_standing 11 = .ok (.lstore 4, 2) := by decide +kernel
theorem dX5_standing_13 : decode cX5_standing 13 = .ok (.iconst 0, 1) := by decide +kernel
theorem dX5_standing_14 : decode cX5_standing 14 = .ok (.istore 6, 2) := by decide +kernel
theorem dX5_standing_16 : decode cX5_standing 16 = .ok (.iload 6, 2) := by decide +kernel
theorem dX5_standing_18 : decode cX5_standing 18 = .ok (.aload_n 0, 1) := by decide +kernel
theorem dX5_standing_19 : decode cX5_standing 19 = .ok (.getfield 30, 3) := by decide +kernel
theorem dX5_standing_22 : decode cX5_standing 22 = .ok (.if_icmp .ge 28, 3) := by decide +kernel
theorem dX5_standing_25 : decode cX5_standing 25 = .ok (.aload_n 0, 1) := by decide +kernel
theorem dX5_standing_26 : decode cX5_standing 26 = .ok (.iload 6, 2) := by decide +kernel
theorem dX5_standing_28 : decode cX5_standing 28 = .ok (.lload_n 1, 1) := by decide +kernel
theorem dX5_standing_29 : decode cX5_standing 29 = .ok (.invokevirtual 61, 3) := by decide +kernel
theorem dX5_standing_32 : decode cX5_standing 32 = .ok (.ifCond .eq 12, 3) := by decide +kernel
theorem dX5_standing_35 : decode cX5_standing 35 = .ok (.lload_n 1, 1) := by decide +kernel
theorem dX5_standing_36 : decode cX5_standing 36 = .ok (.aload_n 0, 1) := by decide +kernel
theorem dX5_standing_37 : decode cX5_standing 37 = .ok (.iload 6, 2) := by decide +kernel
theorem dX5_standing_39 : decode cX5_standing 39 = .ok (.invokevirtual 57, 3) := by decide +kernel
