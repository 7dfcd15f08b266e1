theorem dX0_init_0 : decode cX0_init 0 = .ok (.aload_n 0, 1) := by decide +kernel
theorem dX0_init_1 : decode cX0_init 1 = .ok (.invokespecial 3, 3) := by decide +kernel
theorem dX0_init_4 : decode cX0_init 4 = .ok (.aload_n 0, 1) := by decide +kernel
theorem dX0_init_5 : decode cX0_init 5 = .ok (.bipush 6, 2) := by decide +kernel
theorem dX0_init_7 : decode cX0_init 7 = .ok (.newarray .int, 2) := by decide +kernel
theorem dX0_init_9 : decode cX0_init 9 = .ok (.putfield 9, 3) := by decide +kernel
theorem dX0_init_12 : decode cX0_init 12 = .ok (.aload_n 0, 1) := by decide +kernel
theorem dX0_init_13 : decode cX0_init 13 = .ok (.bipush 6, 2) := by decide +kernel
theorem dX0_init_15 : decode cX0_init 15 = .ok (.newarray .int, 2) := by decide +kernel
theorem dX0_init_17 : decode cX0_init 17 = .ok (.putfield 15, 3) := by decide +kernel
theorem dX0_init_20 : decode cX0_init 20 = .ok (.aload_n 0, 1) := by decide +kernel
theorem dX0_init_21 : decode cX0_init 21 = .ok (.bipush (-5), 2) := by decide +kernel
theorem dX0_init_23 : decode cX0_init 23 = .ok (.putfield 18, 3) := by decide +kernel
theorem dX0_init_26 : decode cX0_init 26 = .ok (.return_, 1) := by decide +kernel
theorem dX0_copyFrom_0 : decode cX0_copyFrom 0 = .ok (.aload_n 1, 1) := by decide +kernel
theorem dX0_copyFrom_1 : decode cX0_copyFrom 1 = .ok (.getfield 9, 3) := by decide +kernel
theorem dX0_copyFrom_4 : decode cX0_copyFrom 4 = .ok (.iconst 0, 1) := by decide +kernel
theorem dX0_copyFrom_5 : decode cX0_copyFrom 5 = .ok (.aload_n 0, 1) := by decide +kernel
theorem dX0_copyFrom_6 : decode cX0_copyFrom 6 = .ok (.getfield 9, 3) := by decide +kernel
theorem dX0_copyFrom_9 : decode cX0_copyFrom 9 = .ok (.iconst 0, 1) := by decide +kernel
theorem dX0_copyFrom_10 : decode cX0_copyFrom 10 = .ok (.bipush 6, 2) := by decide +kernel
theorem dX0_copyFrom_12 : decode cX0_copyFrom 12 = .ok (.invokestatic 22, 3) := by decide +kernel
theorem dX0_copyFrom_15 : decode cX0_copyFrom 15 = .ok (.aload_n 1, 1) := by decide +kernel
theorem dX0_copyFrom_16 : decode cX0_copyFrom 16 = .ok (.getfield 15, 3) := by decide +kernel
theorem dX0_copyFrom_19 : decode cX0_copyFrom 19 = .ok (.iconst 0, 1) := by decide +kernel
theorem dX0_copyFrom_20 : decode cX0_copyFrom 20 = .ok (.aload_n 0, 1) := by decide +kernel
theorem dX0_copyFrom_21 : decode cX0_copyFrom 21 = .ok (.getfield 15, 3) := by decide +kernel
theorem dX0_copyFrom_24 : decode cX0_copyFrom 24 = .ok (.iconst 0, 1) := by decide +kernel
theorem dX0_copyFrom_25 : decode cX0_copyFrom 25 = .ok (.bipush 6, 2) := by decide +kernel
theorem dX0_copyFrom_27 : decode cX0_copyFrom 27 = .ok (.invokestatic 22, 3) := by decide +kernel
theorem dX0_copyFrom_30 : decode cX0_copyFrom 30 = .ok (.aload_n 0, 1) := by decide +kernel
theorem dX0_copyFrom_31 : decode cX0_copyFrom 31 = .ok (.aload_n 1, 1) := by decide +kernel
theorem dX0_copyFrom_32 : decode cX0_copyFrom 32 = .ok (.getfield 28, 3) := by decide +kernel
theorem dX0_copyFrom_35 : decode cX0_copyFrom 35 = .ok (.putfield 28, 3) := by decide +kernel
theorem dX0_copyFrom_38 : decode cX0_copyFrom 38 = .ok (.aload_n 0, 1) := by decide +kernel
theorem dX0_copyFrom_39 : decode cX0_copyFrom 39 = .ok (.aload_n 1, 1) := by decide +kernel
theorem dX0_copyFrom_40 : decode cX0_copyFrom 40 = .ok (.getfield 18, 3) := by decide +kernel
theorem dX0_copyFrom_43 : decode cX0_copyFrom 43 = .ok (.putfield 18, 3) := by decide +kernel
theorem dX0_copyFrom_46 : decode cX0_copyFrom 46 = .ok (.return_, 1) := by decide +kernel
theorem dX0_isLit_0 : decode cX0_isLit 0 = .ok (.aload_n 0, 1) := by decide +kernel
theorem dX0_isLit_1 : decode cX0_isLit 1 = .ok (.getfield 28, 3) := by decide +kernel
theorem dX0_isLit_4 : decode cX0_isLit 4 = .ok (.iload_n 1, 1) := by decide +kernel
theorem dX0_isLit_5 : decode cX0_isLit 5 = .ok (.iushr, 1) := by decide +kernel
theorem dX0_isLit_6 : decode cX0_isLit 6 = .ok (.iconst 1, 1) := by decide +kernel
theorem dX0_isLit_7 : decode cX0_isLit 7 = .ok (.iand, 1) := by decide +kernel
theorem dX0_isLit_8 : decode cX0_isLit 8 = .ok (.ifCond .eq 7, 3) := by decide +kernel
theorem dX0_isLit_11 : decode cX0_isLit 11 = .ok (.iconst 1, 1) := by decide +kernel
theorem dX0_isLit_12 : decode cX0_isLit 12 = .ok (.goto 4, 3) := by decide +kernel
theorem dX0_isLit_15 : decode cX0_isLit 15 = .ok (.iconst 0, 1) := by decide +kernel
theorem dX0_isLit_16 : decode cX0_isLit 16 = .ok (.ireturn, 1) := by decide +kernel
theorem dX0_setLit_0 : decode cX0_setLit 0 = .ok (.iconst 1, 1) := by decide +kernel
theorem dX0_setLit_1 : decode cX0_setLit 1 = .ok (.iload_n 1, 1) := by decide +kernel
theorem dX0_setLit_2 : decode cX0_setLit 2 = .ok (.ishl, 1) := by decide +kernel
theorem dX0_setLit_3 : decode cX0_setLit 3 = .ok (.istore_n 3, 1) := by decide +kernel
theorem dX0_setLit_4 : decode cX0_setLit 4 = .ok (.aload_n 0, 1) := by decide +kernel
theorem dX0_setLit_5 : decode cX0_setLit 5 = .ok (.iload_n 2, 1) := by decide +kernel
theorem dX0_setLit_6 : decode cX0_setLit 6 = .ok (.ifCond .eq 12, 3) := by decide +kernel
theorem dX0_setLit_9 : decode cX0_setLit 9 = .ok (.aload_n 0, 1) := by decide +kernel
theorem dX0_setLit_10 : decode cX0_setLit 10 = .ok (.getfield 28, 3) := by decide +kernel
theorem dX0_setLit_13 : decode cX0_setLit 13 = .ok (.iload_n 3, 1) := by decide +kernel
theorem dX0_setLit_14 : decode cX0_setLit 14 = .ok (.ior, 1) := by decide +kernel
theorem dX0_setLit_15 : decode cX0_setLit 15 = .ok (.goto 11, 3) := by decide +kernel
theorem dX0_setLit_18 : decode cX0_setLit 18 = .ok (.aload_n 0, 1) := by decide +kernel
theorem dX0_setLit_19 : decode cX0_setLit 19 = .ok (.getfield 28, 3) := by decide +kernel
theorem dX0_setLit_22 : decode cX0_setLit 22 = .ok (.iload_n 3, 1) := by decide +kernel
theorem dX0_setLit_23 : decode cX0_setLit 23 = .ok (.iconst (-1), 1) := by decide +kernel
theorem dX0_setLit_24 : decode cX0_setLit 24 = .ok (.ixor, 1) := by decide +kernel
theorem dX0_setLit_25 : decode cX0_setLit 25 = .ok (.iand, 1) := by decide +kernel
theorem dX0_setLit_26 : decode cX0_setLit 26 = .ok (.putfield 28, 3) := by decide +kernel
theorem dX0_setLit_29 : decode cX0_setLit 29 = .ok (.return_, 1) := by decide +kernel
theorem dX0_lightOf_0 : decode cX0_lightOf 0 = .ok (.iconst 0, 1) := by decide +kernel
theorem dX0_lightOf_1 : decode cX0_lightOf 1 = .ok (.istore_n 2, 1) := by decide +kernel
theorem dX0_lightOf_2 : decode cX0_lightOf 2 = .ok (.iconst 0, 1) := by decide +kernel
theorem dX0_lightOf_3 : decode cX0_lightOf 3 = .ok (.istore_n 3, 1) := by decide +kernel
theorem dX0_lightOf_4 : decode cX0_lightOf 4 = .ok (.iload_n 3, 1) := by decide +kernel
theorem dX0_lightOf_5 : decode cX0_lightOf 5 = .ok (.bipush 6, 2) := by decide +kernel
theorem dX0_lightOf_7 : decode cX0_lightOf 7 = .ok (.if_icmp .ge 26, 3) := by decide +kernel
theorem dX0_lightOf_10 : decode cX0_lightOf 10 = .ok (.iload_n 1, 1) := by decide +kernel
theorem dX0_lightOf_11 : decode cX0_lightOf 11 = .ok (.iload_n 3, 1) := by decide +kernel
theorem dX0_lightOf_12 : decode cX0_lightOf 12 = .ok (.iushr, 1) := by decide +kernel
theorem dX0_lightOf_13 : decode cX0_lightOf 13 = .ok (.iconst 1, 1) := by decide +kernel
theorem dX0_lightOf_14 : decode cX0_lightOf 14 = .ok (.iand, 1) := by decide +kernel
theorem dX0_lightOf_15 : decode cX0_lightOf 15 = .ok (.ifCond .eq 12, 3) := by decide +kernel
theorem dX0_lightOf_18 : decode cX0_lightOf 18 = .ok (.iload_n 2, 1) := by decide +kernel
theorem dX0_lightOf_19 : decode cX0_lightOf 19 = .ok (.aload_n 0, 1) := by decide +kernel
theorem dX0_lightOf_20 : decode cX0_lightOf 20 = .ok (.getfield 15, 3) := by decide +kernel
theorem dX0_lightOf_23 : decode cX0_lightOf 23 = .ok (.iload_n 3, 1) := by decide +kernel
theorem dX0_lightOf_24 : decode cX0_lightOf 24 = .ok (.iaload, 1) := by decide +kernel
theorem dX0_lightOf_25 : decode cX0_lightOf 25 = .ok (.iadd, 1) := by decide +kernel
theorem dX0_lightOf_26 : decode cX0_lightOf 26 = .ok (.istore_n 2, 1) := by decide +kernel
theorem dX0_lightOf_27 : decode cX0_lightOf 27 = .ok (.iinc 3 1, 3) := by decide +kernel
theorem dX0_lightOf_30 : decode cX0_lightOf 30 = .ok (.goto (-26), 3) := by decide +kernel
theorem dX0_lightOf_33 : decode cX0_lightOf 33 = .ok (.iload_n 2, 1) := by decide +kernel
theorem dX0_lightOf_34 : decode cX0_lightOf 34 = .ok (.ireturn, 1) := by decide +kernel
theorem dX0_warmthAt_0 : decode cX0_warmthAt 0 = .ok (.aload_n 0, 1) := by decide +kernel
theorem dX0_warmthAt_1 : decode cX0_warmthAt 1 = .ok (.getfield 18, 3) := by decide +kernel
theorem dX0_warmthAt_4 : decode cX0_warmthAt 4 = .ok (.istore_n 2, 1) := by decide +kernel
theorem dX0_warmthAt_5 : decode cX0_warmthAt 5 = .ok (.iconst 0, 1) := by decide +kernel
theorem dX0_warmthAt_6 : decode cX0_warmthAt 6 = .ok (.istore_n 3, 1) := by decide +kernel
theorem dX0_warmthAt_7 : decode cX0_warmthAt 7 = .ok (.iload_n 3, 1) := by decide +kernel
theorem dX0_warmthAt_8 : decode cX0_warmthAt 8 = .ok (.bipush 6, 2) := by decide +kernel
theorem dX0_warmthAt_10 : decode cX0_warmthAt 10 = .ok (.if_icmp .ge 39, 3) := by decide +kernel
theorem dX0_warmthAt_13 : decode cX0_warmthAt 13 = .ok (.aload_n 0, 1) := by decide +kernel
theorem dX0_warmthAt_14 : decode cX0_warmthAt 14 = .ok (.iload_n 3, 1) := by decide +kernel
theorem dX0_warmthAt_15 : decode cX0_warmthAt 15 = .ok (.invokevirtual 31, 3) := by decide +kernel
theorem dX0_warmthAt_18 : decode cX0_warmthAt 18 = .ok (.ifCond .eq 25, 3) := by decide +kernel
theorem dX0_warmthAt_21 : decode cX0_warmthAt 21 = .ok (.iload_n 2, 1) := by decide +kernel
theorem dX0_warmthAt_22 : decode cX0_warmthAt 22 = .ok (.aload_n 0, 1) := by decide +kernel
theorem dX0_warmthAt_23 : decode cX0_warmthAt 23 = .ok (.getfield 15, 3) := by decide +kernel
theorem dX0_warmthAt_26 : decode cX0_warmthAt 26 = .ok (.iload_n 3, 1) := by decide +kernel
theorem dX0_warmthAt_27 : decode cX0_warmthAt 27 = .ok (.iaload, 1) := by decide +kernel
theorem dX0_warmthAt_28 : decode cX0_warmthAt 28 = .ok (.aload_n 0, 1) := by decide +kernel
theorem dX0_warmthAt_29 : decode cX0_warmthAt 29 = .ok (.getfield 9, 3) := by decide +kernel
theorem dX0_warmthAt_32 : decode cX0_warmthAt 32 = .ok (.iload_n 3, 1) := by decide +kernel
theorem dX0_warmthAt_33 : decode cX0_warmthAt 33 = .ok (.iaload, 1) := by decide +kernel
theorem dX0_warmthAt_34 : decode cX0_warmthAt 34 = .ok (.iload_n 1, 1) := by decide +kernel
theorem dX0_warmthAt_35 : decode cX0_warmthAt 35 = .ok (.invokestatic 35, 3) := by decide +kernel
theorem dX0_warmthAt_38 : decode cX0_warmthAt 38 = .ok (.iconst 1, 1) := by decide +kernel
theorem dX0_warmthAt_39 : decode cX0_warmthAt 39 = .ok (.iadd, 1) := by decide +kernel
theorem dX0_warmthAt_40 : decode cX0_warmthAt 40 = .ok (.idiv, 1) := by decide +kernel
theorem dX0_warmthAt_41 : decode cX0_warmthAt 41 = .ok (.iadd, 1) := by decide +kernel
theorem dX0_warmthAt_42 : decode cX0_warmthAt 42 = .ok (.istore_n 2, 1) := by decide +kernel
theorem dX0_warmthAt_43 : decode cX0_warmthAt 43 = .ok (.iinc 3 1, 3) := by decide +kernel
theorem dX0_warmthAt_46 : decode cX0_warmthAt 46 = .ok (.goto (-39), 3) := by decide +kernel
theorem dX0_warmthAt_49 : decode cX0_warmthAt 49 = .ok (.iload_n 2, 1) := by decide +kernel
theorem dX0_warmthAt_50 : decode cX0_warmthAt 50 = .ok (.ireturn, 1) := by decide +kernel
theorem dX0_far_0 : decode cX0_far 0 = .ok (.iload_n 0, 1) := by decide +kernel
theorem dX0_far_1 : decode cX0_far 1 = .ok (.bipush 8, 2) := by decide +kernel
theorem dX0_far_3 : decode cX0_far 3 = .ok (.idiv, 1) := by decide +kernel
theorem dX0_far_4 : decode cX0_far 4 = .ok (.iload_n 1, 1) := by decide +kernel
theorem dX0_far_5 : decode cX0_far 5 = .ok (.bipush 8, 2) := by decide +kernel
theorem dX0_far_7 : decode cX0_far 7 = .ok (.idiv, 1) := by decide +kernel
theorem dX0_far_8 : decode cX0_far 8 = .ok (.isub, 1) := by decide +kernel
theorem dX0_far_9 : decode cX0_far 9 = .ok (.invokestatic 39, 3) := by decide +kernel
theorem dX0_far_12 : decode cX0_far 12 = .ok (.iload_n 0, 1) := by decide +kernel
theorem dX0_far_13 : decode cX0_far 13 = .ok (.bipush 8, 2) := by decide +kernel
theorem dX0_far_15 : decode cX0_far 15 = .ok (.irem, 1) := by decide +kernel
theorem dX0_far_16 : decode cX0_far 16 = .ok (.iload_n 1, 1) := by decide +kernel
theorem dX0_far_17 : decode cX0_far 17 = .ok (.bipush 8, 2) := by decide +kernel
theorem dX0_far_19 : decode cX0_far 19 = .ok (.irem, 1) := by decide +kernel
theorem dX0_far_20 : decode cX0_far 20 = .ok (.isub, 1) := by decide +kernel
theorem dX0_far_21 : decode cX0_far 21 = .ok (.invokestatic 39, 3) := by decide +kernel
theorem dX0_far_24 : decode cX0_far 24 = .ok (.iadd, 1) := by decide +kernel
theorem dX0_far_25 : decode cX0_far 25 = .ok (.ireturn, 1) := by decide +kernel
theorem dX1_init_0 : decode cX1_init 0 = .ok (.aload_n 0, 1) := by decide +kernel
theorem dX1_init_1 : decode cX1_init 1 = .ok (.invokespecial 3, 3) := by decide +kernel
theorem dX1_init_4 : decode cX1_init 4 = .ok (.aload_n 0, 1) := by decide +kernel
theorem dX1_init_5 : decode cX1_init 5 = .ok (.new 9, 3) := by decide +kernel
theorem dX1_init_8 : decode cX1_init 8 = .ok (.dup, 1) := by decide +kernel
theorem dX1_init_9 : decode cX1_init 9 = .ok (.invokespecial 11, 3) := by decide +kernel
theorem dX1_init_12 : decode cX1_init 12 = .ok (.putfield 12, 3) := by decide +kernel
theorem dX1_init_15 : decode cX1_init 15 = .ok (.aload_n 0, 1) := by decide +kernel
theorem dX1_init_16 : decode cX1_init 16 = .ok (.new 18, 3) := by decide +kernel
theorem dX1_init_19 : decode cX1_init 19 = .ok (.dup, 1) := by decide +kernel
theorem dX1_init_20 : decode cX1_init 20 = .ok (.invokespecial 20, 3) := by decide +kernel
theorem dX1_init_23 : decode cX1_init 23 = .ok (.putfield 21, 3) := by decide +kernel
theorem dX1_init_26 : decode cX1_init 26 = .ok (.aload_n 0, 1) := by decide +kernel
theorem dX1_init_27 : decode cX1_init 27 = .ok (.bipush 10, 2) := by decide +kernel
theorem dX1_init_29 : decode cX1_init 29 = .ok (.newarray .int, 2) := by decide +kernel
theorem dX1_init_31 : decode cX1_init 31 = .ok (.putfield 25, 3) := by decide +kernel
theorem dX1_init_34 : decode cX1_init 34 = .ok (.aload_n 0, 1) := by decide +kernel
theorem dX1_init_35 : decode cX1_init 35 = .ok (.iconst 1, 1) := by decide +kernel
theorem dX1_init_36 : decode cX1_init 36 = .ok (.putfield 29, 3) := by decide +kernel
theorem dX1_init_39 : decode cX1_init 39 = .ok (.aload_n 0, 1) := by decide +kernel
theorem dX1_init_40 : decode cX1_init 40 = .ok (.bipush 16, 2) := by decide +kernel
theorem dX1_init_42 : decode cX1_init 42 = .ok (.newarray .int, 2) := by decide +kernel
theorem dX1_init_44 : decode cX1_init 44 = .ok (.putfield 33, 3) := by decide +kernel
theorem dX1_init_47 : decode cX1_init 47 = .ok (.aload_n 0, 1) := by decide +kernel
theorem dX1_init_48 : decode cX1_init 48 = .ok (.bipush 8, 2) := by decide +kernel
theorem dX1_init_50 : decode cX1_init 50 = .ok (.newarray .int, 2) := by decide +kernel
theorem dX1_init_52 : decode cX1_init 52 = .ok (.putfield 36, 3) := by decide +kernel
theorem dX1_init_55 : decode cX1_init 55 = .ok (.aload_n 0, 1) := by decide +kernel
theorem dX1_init_56 : decode cX1_init 56 = .ok (.getfield 25, 3) := by decide +kernel
theorem dX1_init_59 : decode cX1_init 59 = .ok (.iconst (-1), 1) := by decide +kernel
theorem dX1_init_60 : decode cX1_init 60 = .ok (.invokestatic 39, 3) := by decide +kernel
theorem dX1_init_63 : decode cX1_init 63 = .ok (.return_, 1) := by decide +kernel
theorem dX1_copyFrom_0 : decode cX1_copyFrom 0 = .ok (.aload_n 0, 1) := by decide +kernel
theorem dX1_copyFrom_1 : decode cX1_copyFrom 1 = .ok (.getfield 12, 3) := by decide +kernel
theorem dX1_copyFrom_4 : decode cX1_copyFrom 4 = .ok (.aload_n 1, 1) := by decide +kernel
theorem dX1_copyFrom_5 : decode cX1_copyFrom 5 = .ok (.getfield 12, 3) := by decide +kernel
theorem dX1_copyFrom_8 : decode cX1_copyFrom 8 = .ok (.invokevirtual 45, 3) := by decide +kernel
theorem dX1_copyFrom_11 : decode cX1_copyFrom 11 = .ok (.aload_n 0, 1) := by decide +kernel
theorem dX1_copyFrom_12 : decode cX1_copyFrom 12 = .ok (.getfield 21, 3) := by decide +kernel
theorem dX1_copyFrom_15 : decode cX1_copyFrom 15 = .ok (.aload_n 1, 1) := by decide +kernel
theorem dX1_copyFrom_16 : decode cX1_copyFrom 16 = .ok (.getfield 21, 3) := by decide +kernel
theorem dX1_copyFrom_19 : decode cX1_copyFrom 19 = .ok (.invokevirtual 49, 3) := by decide +kernel
theorem dX1_copyFrom_22 : decode cX1_copyFrom 22 = .ok (.aload_n 1, 1) := by decide +kernel
theorem dX1_copyFrom_23 : decode cX1_copyFrom 23 = .ok (.getfield 25, 3) := by decide +kernel
theorem dX1_copyFrom_26 : decode cX1_copyFrom 26 = .ok (.iconst 0, 1) := by decide +kernel
theorem dX1_copyFrom_27 : decode cX1_copyFrom 27 = .ok (.aload_n 0, 1) := by decide +kernel
theorem dX1_copyFrom_28 : decode cX1_copyFrom 28 = .ok (.getfield 25, 3) := by decide +kernel
theorem dX1_copyFrom_31 : decode cX1_copyFrom 31 = .ok (.iconst 0, 1) := by decide +kernel
theorem dX1_copyFrom_32 : decode cX1_copyFrom 32 = .ok (.bipush 10, 2) := by decide +kernel
theorem dX1_copyFrom_34 : decode cX1_copyFrom 34 = .ok (.invokestatic 52, 3) := by decide +kernel
theorem dX1_copyFrom_37 : decode cX1_copyFrom 37 = .ok (.aload_n 0, 1) := by decide +kernel
theorem dX1_copyFrom_38 : decode cX1_copyFrom 38 = .ok (.aload_n 1, 1) := by decide +kernel
theorem dX1_copyFrom_39 : decode cX1_copyFrom 39 = .ok (.getfield 58, 3) := by decide +kernel
theorem dX1_copyFrom_42 : decode cX1_copyFrom 42 = .ok (.putfield 58, 3) := by decide +kernel
theorem dX1_copyFrom_45 : decode cX1_copyFrom 45 = .ok (.aload_n 0, 1) := by decide +kernel
theorem dX1_copyFrom_46 : decode cX1_copyFrom 46 = .ok (.aload_n 1, 1) := by decide +kernel
theorem dX1_copyFrom_47 : decode cX1_copyFrom 47 = .ok (.getfield 61, 3) := by decide +kernel
theorem dX1_copyFrom_50 : decode cX1_copyFrom 50 = .ok (.putfield 61, 3) := by decide +kernel
theorem dX1_copyFrom_53 : decode cX1_copyFrom 53 = .ok (.aload_n 0, 1) := by decide +kernel
theorem dX1_copyFrom_54 : decode cX1_copyFrom 54 = .ok (.aload_n 1, 1) := by decide +kernel
theorem dX1_copyFrom_55 : decode cX1_copyFrom 55 = .ok (.getfield 64, 3) := by decide +kernel
theorem dX1_copyFrom_58 : decode cX1_copyFrom 58 = .ok (.putfield 64, 3) := by decide +kernel
theorem dX1_copyFrom_61 : decode cX1_copyFrom 61 = .ok (.aload_n 0, 1) := by decide +kernel
theorem dX1_copyFrom_62 : decode cX1_copyFrom 62 = .ok (.aload_n 1, 1) := by decide +kernel
theorem dX1_copyFrom_63 : decode cX1_copyFrom 63 = .ok (.getfield 29, 3) := by decide +kernel
theorem dX1_copyFrom_66 : decode cX1_copyFrom 66 = .ok (.putfield 29, 3) := by decide +kernel
theorem dX1_copyFrom_69 : decode cX1_copyFrom 69 = .ok (.return_, 1) := by decide +kernel
theorem dX1_draw_0 : decode cX1_draw 0 = .ok (.aload_n 0, 1) := by decide +kernel
theorem dX1_draw_1 : decode cX1_draw 1 = .ok (.aload_n 0, 1) := by decide +kernel
theorem dX1_draw_2 : decode cX1_draw 2 = .ok (.getfield 29, 3) := by decide +kernel
theorem dX1_draw_5 : decode cX1_draw 5 = .ok (.ldc 67, 2) := by decide +kernel
theorem dX1_draw_7 : decode cX1_draw 7 = .ok (.imul, 1) := by decide +kernel
theorem dX1_draw_8 : decode cX1_draw 8 = .ok (.sipush 12345, 3) := by decide +kernel
theorem dX1_draw_11 : decode cX1_draw 11 = .ok (.iadd, 1) := by decide +kernel
theorem dX1_draw_12 : decode cX1_draw 12 = .ok (.putfield 29, 3) := by decide +kernel
theorem dX1_draw_15 : decode cX1_draw 15 = .ok (.aload_n 0, 1) := by decide +kernel
theorem dX1_draw_16 : decode cX1_draw 16 = .ok (.getfield 29, 3) := by decide +kernel
theorem dX1_draw_19 : decode cX1_draw 19 = .ok (.bipush 8, 2) := by decide +kernel
theorem dX1_draw_21 : decode cX1_draw 21 = .ok (.iushr, 1) := by decide +kernel
theorem dX1_draw_22 : decode cX1_draw 22 = .ok (.ireturn, 1) := by decide +kernel
theorem dX1_passHours_0 : decode cX1_passHours 0 = .ok (.aload_n 0, 1) := by decide +kernel
theorem dX1_passHours_1 : decode cX1_passHours 1 = .ok (.invokevirtual 68, 3) := by decide +kernel
theorem dX1_passHours_4 : decode cX1_passHours 4 = .ok (.iconst 0, 1) := by decide +kernel
theorem dX1_passHours_5 : decode cX1_passHours 5 = .ok (.istore_n 2, 1) := by decide +kernel
theorem dX1_passHours_6 : decode cX1_passHours 6 = .ok (.iconst 0, 1) := by decide +kernel
theorem dX1_passHours_7 : decode cX1_passHours 7 = .ok (.istore_n 3, 1) := by decide +kernel
theorem dX1_passHours_8 : decode cX1_passHours 8 = .ok (.iload_n 3, 1) := by decide +kernel
theorem dX1_passHours_9 : decode cX1_passHours 9 = .ok (.iload_n 1, 1) := by decide +kernel
theorem dX1_passHours_10 : decode cX1_passHours 10 = .ok (.if_icmp .ge 16, 3) := by decide +kernel
theorem dX1_passHours_13 : decode cX1_passHours 13 = .ok (.iload_n 2, 1) := by decide +kernel
theorem dX1_passHours_14 : decode cX1_passHours 14 = .ok (.aload_n 0, 1) := by decide +kernel
theorem dX1_passHours_15 : decode cX1_passHours 15 = .ok (.invokevirtual 71, 3) := by decide +kernel
theorem dX1_passHours_18 : decode cX1_passHours 18 = .ok (.iadd, 1) := by decide +kernel
theorem dX1_passHours_19 : decode cX1_passHours 19 = .ok (.istore_n 2, 1) := by decide +kernel
theorem dX1_passHours_20 : decode cX1_passHours 20 = .ok (.iinc 3 1, 3) := by decide +kernel
theorem dX1_passHours_23 : decode cX1_passHours 23 = .ok (.goto (-15), 3) := by decide +kernel
theorem dX1_passHours_26 : decode cX1_passHours 26 = .ok (.iload_n 2, 1) := by decide +kernel
theorem dX1_passHours_27 : decode cX1_passHours 27 = .ok (.ireturn, 1) := by decide +kernel
theorem dX1_hoursHeld_0 : decode cX1_hoursHeld 0 = .ok (.aload_n 0, 1) := by decide +kernel
theorem dX1_hoursHeld_1 : decode cX1_hoursHeld 1 = .ok (.invokevirtual 68, 3) := by decide +kernel
theorem dX1_hoursHeld_4 : decode cX1_hoursHeld 4 = .ok (.iconst 0, 1) := by decide +kernel
theorem dX1_hoursHeld_5 : decode cX1_hoursHeld 5 = .ok (.istore_n 2, 1) := by decide +kernel
theorem dX1_hoursHeld_6 : decode cX1_hoursHeld 6 = .ok (.iload_n 2, 1) := by decide +kernel
theorem dX1_hoursHeld_7 : decode cX1_hoursHeld 7 = .ok (.iload_n 1, 1) := by decide +kernel
theorem dX1_hoursHeld_8 : decode cX1_hoursHeld 8 = .ok (.if_icmp .ge 18, 3) := by decide +kernel
theorem dX1_hoursHeld_11 : decode cX1_hoursHeld 11 = .ok (.aload_n 0, 1) := by decide +kernel
theorem dX1_hoursHeld_12 : decode cX1_hoursHeld 12 = .ok (.invokevirtual 71, 3) := by decide +kernel
theorem dX1_hoursHeld_15 : decode cX1_hoursHeld 15 = .ok (.ifCond .le 5, 3) := by decide +kernel
theorem dX1_hoursHeld_18 : decode cX1_hoursHeld 18 = .ok (.iload_n 2, 1) := by decide +kernel
theorem dX1_hoursHeld_19 : decode cX1_hoursHeld 19 = .ok (.ireturn, 1) := by decide +kernel
theorem dX1_hoursHeld_20 : decode cX1_hoursHeld 20 = .ok (.iinc 2 1, 3) := by decide +kernel
theorem dX1_hoursHeld_23 : decode cX1_hoursHeld 23 = .ok (.goto (-17), 3) := by decide +kernel
theorem dX1_hoursHeld_26 : decode cX1_hoursHeld 26 = .ok (.iload_n 1, 1) := by decide +kernel
theorem dX1_hoursHeld_27 : decode cX1_hoursHeld 27 = .ok (.ireturn, 1) := by decide +kernel
theorem dX1_goneIn_0 : decode cX1_goneIn 0 = .ok (.aload_n 0, 1) := by decide +kernel
theorem dX1_goneIn_1 : decode cX1_goneIn 1 = .ok (.invokevirtual 68, 3) := by decide +kernel
theorem dX1_goneIn_4 : decode cX1_goneIn 4 = .ok (.iconst 1, 1) := by decide +kernel
theorem dX1_goneIn_5 : decode cX1_goneIn 5 = .ok (.istore_n 3, 1) := by decide +kernel
theorem dX1_goneIn_6 : decode cX1_goneIn 6 = .ok (.iload_n 3, 1) := by decide +kernel
theorem dX1_goneIn_7 : decode cX1_goneIn 7 = .ok (.iload_n 2, 1) := by decide +kernel
theorem dX1_goneIn_8 : decode cX1_goneIn 8 = .ok (.if_icmp .gt 27, 3) := by decide +kernel
theorem dX1_goneIn_11 : decode cX1_goneIn 11 = .ok (.aload_n 0, 1) := by decide +kernel
theorem dX1_goneIn_12 : decode cX1_goneIn 12 = .ok (.invokevirtual 71, 3) := by decide +kernel
theorem dX1_goneIn_15 : decode cX1_goneIn 15 = .ok (.pop, 1) := by decide +kernel
theorem dX1_goneIn_16 : decode cX1_goneIn 16 = .ok (.aload_n 0, 1) := by decide +kernel
theorem dX1_goneIn_17 : decode cX1_goneIn 17 = .ok (.getfield 12, 3) := by decide +kernel
theorem dX1_goneIn_20 : decode cX1_goneIn 20 = .ok (.iload_n 1, 1) := by decide +kernel
theorem dX1_goneIn_21 : decode cX1_goneIn 21 = .ok (.invokevirtual 75, 3) := by decide +kernel
theorem dX1_goneIn_24 : decode cX1_goneIn 24 = .ok (.ifCond .eq 5, 3) := by decide +kernel
theorem dX1_goneIn_27 : decode cX1_goneIn 27 = .ok (.iload_n 3, 1) := by decide +kernel
theorem dX1_goneIn_28 : decode cX1_goneIn 28 = .ok (.ireturn, 1) := by decide +kernel
theorem dX1_goneIn_29 : decode cX1_goneIn 29 = .ok (.iinc 3 1, 3) := by decide +kernel
theorem dX1_goneIn_32 : decode cX1_goneIn 32 = .ok (.goto (-26), 3) := by decide +kernel
theorem dX1_goneIn_35 : decode cX1_goneIn 35 = .ok (.iload_n 2, 1) := by decide +kernel
theorem dX1_goneIn_36 : decode cX1_goneIn 36 = .ok (.iconst 1, 1) := by decide +kernel
theorem dX1_goneIn_37 : decode cX1_goneIn 37 = .ok (.iadd, 1) := by decide +kernel
theorem dX1_goneIn_38 : decode cX1_goneIn 38 = .ok (.ireturn, 1) := by decide +kernel
theorem dX1_feelWarmth_0 : decode cX1_feelWarmth 0 = .ok (.iconst 0, 1) := by decide +kernel
theorem dX1_feelWarmth_1 : decode cX1_feelWarmth 1 = .ok (.istore_n 1, 1) := by decide +kernel
theorem dX1_feelWarmth_2 : decode cX1_feelWarmth 2 = .ok (.iload_n 1, 1) := by decide +kernel
theorem dX1_feelWarmth_3 : decode cX1_feelWarmth 3 = .ok (.aload_n 0, 1) := by decide +kernel
theorem dX1_feelWarmth_4 : decode cX1_feelWarmth 4 = .ok (.getfield 12, 3) := by decide +kernel
theorem dX1_feelWarmth_7 : decode cX1_feelWarmth 7 = .ok (.getfield 79, 3) := by decide +kernel
theorem dX1_feelWarmth_10 : decode cX1_feelWarmth 10 = .ok (.if_icmp .ge 46, 3) := by decide +kernel
theorem dX1_feelWarmth_13 : decode cX1_feelWarmth 13 = .ok (.aload_n 0, 1) := by decide +kernel
theorem dX1_feelWarmth_14 : decode cX1_feelWarmth 14 = .ok (.getfield 33, 3) := by decide +kernel
theorem dX1_feelWarmth_17 : decode cX1_feelWarmth 17 = .ok (.iload_n 1, 1) := by decide +kernel
theorem dX1_feelWarmth_18 : decode cX1_feelWarmth 18 = .ok (.aload_n 0, 1) := by decide +kernel
theorem dX1_feelWarmth_19 : decode cX1_feelWarmth 19 = .ok (.getfield 12, 3) := by decide +kernel
theorem dX1_feelWarmth_22 : decode cX1_feelWarmth 22 = .ok (.iload_n 1, 1) := by decide +kernel
theorem dX1_feelWarmth_23 : decode cX1_feelWarmth 23 = .ok (.invokevirtual 75, 3) := by decide +kernel
theorem dX1_feelWarmth_26 : decode cX1_feelWarmth 26 = .ok (.ifCond .eq 7, 3) := by decide +kernel
theorem dX1_feelWarmth_29 : decode cX1_feelWarmth 29 = .ok (.iconst 0, 1) := by decide +kernel
theorem dX1_feelWarmth_30 : decode cX1_feelWarmth 30 = .ok (.goto 19, 3) := by decide +kernel
theorem dX1_feelWarmth_33 : decode cX1_feelWarmth 33 = .ok (.aload_n 0, 1) := by decide +kernel
theorem dX1_feelWarmth_34 : decode cX1_feelWarmth 34 = .ok (.getfield 21, 3) := by decide +kernel
theorem dX1_feelWarmth_37 : decode cX1_feelWarmth 37 = .ok (.aload_n 0, 1) := by decide +kernel
theorem dX1_feelWarmth_38 : decode cX1_feelWarmth 38 = .ok (.getfield 12, 3) := by decide +kernel
theorem dX1_feelWarmth_41 : decode cX1_feelWarmth 41 = .ok (.getfield 82, 3) := by decide +kernel
theorem dX1_feelWarmth_44 : decode cX1_feelWarmth 44 = .ok (.iload_n 1, 1) := by decide +kernel
theorem dX1_feelWarmth_45 : decode cX1_feelWarmth 45 = .ok (.iaload, 1) := by decide +kernel
theorem dX1_feelWarmth_46 : decode cX1_feelWarmth 46 = .ok (.invokevirtual 85, 3) := by decide +kernel
theorem dX1_feelWarmth_49 : decode cX1_feelWarmth 49 = .ok (.iastore, 1) := by decide +kernel
theorem dX1_feelWarmth_50 : decode cX1_feelWarmth 50 = .ok (.iinc 1 1, 3) := by decide +kernel
theorem dX1_feelWarmth_53 : decode cX1_feelWarmth 53 = .ok (.goto (-51), 3) := by decide +kernel
theorem dX1_feelWarmth_56 : decode cX1_feelWarmth 56 = .ok (.return_, 1) := by decide +kernel
theorem dX1_passHour_0 : decode cX1_passHour 0 = .ok (.aload_n 0, 1) := by decide +kernel
theorem dX1_passHour_1 : decode cX1_passHour 1 = .ok (.getfield 36, 3) := by decide +kernel
theorem dX1_passHour_4 : decode cX1_passHour 4 = .ok (.iconst 0, 1) := by decide +kernel
theorem dX1_passHour_5 : decode cX1_passHour 5 = .ok (.invokestatic 39, 3) := by decide +kernel
theorem dX1_passHour_8 : decode cX1_passHour 8 = .ok (.iconst 0, 1) := by decide +kernel
theorem dX1_passHour_9 : decode cX1_passHour 9 = .ok (.istore_n 1, 1) := by decide +kernel
theorem dX1_passHour_10 : decode cX1_passHour 10 = .ok (.iload_n 1, 1) := by decide +kernel
theorem dX1_passHour_11 : decode cX1_passHour 11 = .ok (.aload_n 0, 1) := by decide +kernel
theorem dX1_passHour_12 : decode cX1_passHour 12 = .ok (.getfield 12, 3) := by decide +kernel
theorem dX1_passHour_15 : decode cX1_passHour 15 = .ok (.getfield 79, 3) := by decide +kernel
theorem dX1_passHour_18 : decode cX1_passHour 18 = .ok (.if_icmp .ge 25, 3) := by decide +kernel
theorem dX1_passHour_21 : decode cX1_passHour 21 = .ok (.aload_n 0, 1) := by decide +kernel
theorem dX1_passHour_22 : decode cX1_passHour 22 = .ok (.getfield 12, 3) := by decide +kernel
theorem dX1_passHour_25 : decode cX1_passHour 25 = .ok (.iload_n 1, 1) := by decide +kernel
theorem dX1_passHour_26 : decode cX1_passHour 26 = .ok (.invokevirtual 75, 3) := by decide +kernel
theorem dX1_passHour_29 : decode cX1_passHour 29 = .ok (.ifCond .ne 8, 3) := by decide +kernel
theorem dX1_passHour_32 : decode cX1_passHour 32 = .ok (.aload_n 0, 1) := by decide +kernel
theorem dX1_passHour_33 : decode cX1_passHour 33 = .ok (.iload_n 1, 1) := by decide +kernel
theorem dX1_passHour_34 : decode cX1_passHour 34 = .ok (.invokevirtual 89, 3) := by decide +kernel
theorem dX1_passHour_37 : decode cX1_passHour 37 = .ok (.iinc 1 1, 3) := by decide +kernel
theorem dX1_passHour_40 : decode cX1_passHour 40 = .ok (.goto (-30), 3) := by decide +kernel
theorem dX1_passHour_43 : decode cX1_passHour 43 = .ok (.iconst 0, 1) := by decide +kernel
theorem dX1_passHour_44 : decode cX1_passHour 44 = .ok (.istore_n 1, 1) := by decide +kernel
theorem dX1_passHour_45 : decode cX1_passHour 45 = .ok (.iload_n 1, 1) := by decide +kernel
theorem dX1_passHour_46 : decode cX1_passHour 46 = .ok (.bipush 8, 2) := by decide +kernel
theorem dX1_passHour_48 : decode cX1_passHour 48 = .ok (.if_icmp .ge 14, 3) := by decide +kernel
theorem dX1_passHour_51 : decode cX1_passHour 51 = .ok (.aload_n 0, 1) := by decide +kernel
theorem dX1_passHour_52 : decode cX1_passHour 52 = .ok (.iload_n 1, 1) := by decide +kernel
theorem dX1_passHour_53 : decode cX1_passHour 53 = .ok (.invokevirtual 93, 3) := by decide +kernel
theorem dX1_passHour_56 : decode cX1_passHour 56 = .ok (.iinc 1 1, 3) := by decide +kernel
theorem dX1_passHour_59 : decode cX1_passHour 59 = .ok (.goto (-14), 3) := by decide +kernel
theorem dX1_passHour_62 : decode cX1_passHour 62 = .ok (.aload_n 0, 1) := by decide +kernel
theorem dX1_passHour_63 : decode cX1_passHour 63 = .ok (.invokevirtual 96, 3) := by decide +kernel
theorem dX1_passHour_66 : decode cX1_passHour 66 = .ok (.aload_n 0, 1) := by decide +kernel
theorem dX1_passHour_67 : decode cX1_passHour 67 = .ok (.invokevirtual 99, 3) := by decide +kernel
theorem dX1_passHour_70 : decode cX1_passHour 70 = .ok (.iadd, 1) := by decide +kernel
theorem dX1_passHour_71 : decode cX1_passHour 71 = .ok (.istore_n 1, 1) := by decide +kernel
theorem dX1_passHour_72 : decode cX1_passHour 72 = .ok (.aload_n 0, 1) := by decide +kernel
theorem dX1_passHour_73 : decode cX1_passHour 73 = .ok (.dup, 1) := by decide +kernel
theorem dX1_passHour_74 : decode cX1_passHour 74 = .ok (.getfield 58, 3) := by decide +kernel
theorem dX1_passHour_77 : decode cX1_passHour 77 = .ok (.iconst 1, 1) := by decide +kernel
theorem dX1_passHour_78 : decode cX1_passHour 78 = .ok (.iadd, 1) := by decide +kernel
theorem dX1_passHour_79 : decode cX1_passHour 79 = .ok (.putfield 58, 3) := by decide +kernel
theorem dX1_passHour_82 : decode cX1_passHour 82 = .ok (.iload_n 1, 1) := by decide +kernel
theorem dX1_passHour_83 : decode cX1_passHour 83 = .ok (.ireturn, 1) := by decide +kernel
theorem dX1_meltOrMend_0 : decode cX1_meltOrMend 0 = .ok (.aload_n 0, 1) := by decide +kernel
theorem dX1_meltOrMend_1 : decode cX1_meltOrMend 1 = .ok (.getfield 33, 3) := by decide +kernel
theorem dX1_meltOrMend_4 : decode cX1_meltOrMend 4 = .ok (.iload_n 1, 1) := by decide +kernel
theorem dX1_meltOrMend_5 : decode cX1_meltOrMend 5 = .ok (.iaload, 1) := by decide +kernel
theorem dX1_meltOrMend_6 : decode cX1_meltOrMend 6 = .ok (.istore_n 2, 1) := by decide +kernel
theorem dX1_meltOrMend_7 : decode cX1_meltOrMend 7 = .ok (.iload_n 2, 1) := by decide +kernel
theorem dX1_meltOrMend_8 : decode cX1_meltOrMend 8 = .ok (.ifCond .le 70, 3) := by decide +kernel
theorem dX1_meltOrMend_11 : decode cX1_meltOrMend 11 = .ok (.iload_n 2, 1) := by decide +kernel
theorem dX1_meltOrMend_12 : decode cX1_meltOrMend 12 = .ok (.aload_n 0, 1) := by decide +kernel
theorem dX1_meltOrMend_13 : decode cX1_meltOrMend 13 = .ok (.getfield 12, 3) := by decide +kernel
theorem dX1_meltOrMend_16 : decode cX1_meltOrMend 16 = .ok (.getfield 102, 3) := by decide +kernel
theorem dX1_meltOrMend_19 : decode cX1_meltOrMend 19 = .ok (.iload_n 1, 1) := by decide +kernel
theorem dX1_meltOrMend_20 : decode cX1_meltOrMend 20 = .ok (.iaload, 1) := by decide +kernel
theorem dX1_meltOrMend_21 : decode cX1_meltOrMend 21 = .ok (.invokestatic 105, 3) := by decide +kernel
theorem dX1_meltOrMend_24 : decode cX1_meltOrMend 24 = .ok (.istore_n 3, 1) := by decide +kernel
theorem dX1_meltOrMend_25 : decode cX1_meltOrMend 25 = .ok (.aload_n 0, 1) := by decide +kernel
theorem dX1_meltOrMend_26 : decode cX1_meltOrMend 26 = .ok (.getfield 12, 3) := by decide +kernel
theorem dX1_meltOrMend_29 : decode cX1_meltOrMend 29 = .ok (.getfield 102, 3) := by decide +kernel
theorem dX1_meltOrMend_32 : decode cX1_meltOrMend 32 = .ok (.iload_n 1, 1) := by decide +kernel
theorem dX1_meltOrMend_33 : decode cX1_meltOrMend 33 = .ok (.dup2, 1) := by decide +kernel
theorem dX1_meltOrMend_34 : decode cX1_meltOrMend 34 = .ok (.iaload, 1) := by decide +kernel
theorem dX1_meltOrMend_35 : decode cX1_meltOrMend 35 = .ok (.iload_n 3, 1) := by decide +kernel
theorem dX1_meltOrMend_36 : decode cX1_meltOrMend 36 = .ok (.isub, 1) := by decide +kernel
theorem dX1_meltOrMend_37 : decode cX1_meltOrMend 37 = .ok (.iastore, 1) := by decide +kernel
theorem dX1_meltOrMend_38 : decode cX1_meltOrMend 38 = .ok (.aload_n 0, 1) := by decide +kernel
theorem dX1_meltOrMend_39 : decode cX1_meltOrMend 39 = .ok (.getfield 36, 3) := by decide +kernel
theorem dX1_meltOrMend_42 : decode cX1_meltOrMend 42 = .ok (.aload_n 0, 1) := by decide +kernel
theorem dX1_meltOrMend_43 : decode cX1_meltOrMend 43 = .ok (.getfield 12, 3) := by decide +kernel
theorem dX1_meltOrMend_46 : decode cX1_meltOrMend 46 = .ok (.getfield 82, 3) := by decide +kernel
theorem dX1_meltOrMend_49 : decode cX1_meltOrMend 49 = .ok (.iload_n 1, 1) := by decide +kernel
theorem dX1_meltOrMend_50 : decode cX1_meltOrMend 50 = .ok (.iaload, 1) := by decide +kernel
theorem dX1_meltOrMend_51 : decode cX1_meltOrMend 51 = .ok (.bipush 8, 2) := by decide +kernel
theorem dX1_meltOrMend_53 : decode cX1_meltOrMend 53 = .ok (.irem, 1) := by decide +kernel
theorem dX1_meltOrMend_54 : decode cX1_meltOrMend 54 = .ok (.dup2, 1) := by decide +kernel
theorem dX1_meltOrMend_55 : decode cX1_meltOrMend 55 = .ok (.iaload, 1) := by decide +kernel
theorem dX1_meltOrMend_56 : decode cX1_meltOrMend 56 = .ok (.iload_n 3, 1) := by decide +kernel
theorem dX1_meltOrMend_57 : decode cX1_meltOrMend 57 = .ok (.iconst 2, 1) := by decide +kernel
theorem dX1_meltOrMend_58 : decode cX1_meltOrMend 58 = .ok (.idiv, 1) := by decide +kernel
theorem dX1_meltOrMend_59 : decode cX1_meltOrMend 59 = .ok (.iadd, 1) := by decide +kernel
theorem dX1_meltOrMend_60 : decode cX1_meltOrMend 60 = .ok (.iastore, 1) := by decide +kernel
theorem dX1_meltOrMend_61 : decode cX1_meltOrMend 61 = .ok (.aload_n 0, 1) := by decide +kernel
theorem dX1_meltOrMend_62 : decode cX1_meltOrMend 62 = .ok (.dup, 1) := by decide +kernel
theorem dX1_meltOrMend_63 : decode cX1_meltOrMend 63 = .ok (.getfield 61, 3) := by decide +kernel
theorem dX1_meltOrMend_66 : decode cX1_meltOrMend 66 = .ok (.iload_n 3, 1) := by decide +kernel
theorem dX1_meltOrMend_67 : decode cX1_meltOrMend 67 = .ok (.iload_n 3, 1) := by decide +kernel
theorem dX1_meltOrMend_68 : decode cX1_meltOrMend 68 = .ok (.iconst 2, 1) := by decide +kernel
theorem dX1_meltOrMend_69 : decode cX1_meltOrMend 69 = .ok (.idiv, 1) := by decide +kernel
theorem dX1_meltOrMend_70 : decode cX1_meltOrMend 70 = .ok (.isub, 1) := by decide +kernel
theorem dX1_meltOrMend_71 : decode cX1_meltOrMend 71 = .ok (.iadd, 1) := by decide +kernel
theorem dX1_meltOrMend_72 : decode cX1_meltOrMend 72 = .ok (.putfield 61, 3) := by decide +kernel
theorem dX1_meltOrMend_75 : decode cX1_meltOrMend 75 = .ok (.goto 35, 3) := by decide +kernel
theorem dX1_meltOrMend_78 : decode cX1_meltOrMend 78 = .ok (.iload_n 2, 1) := by decide +kernel
theorem dX1_meltOrMend_79 : decode cX1_meltOrMend 79 = .ok (.ifCond .ge 31, 3) := by decide +kernel
theorem dX1_meltOrMend_82 : decode cX1_meltOrMend 82 = .ok (.aload_n 0, 1) := by decide +kernel
theorem dX1_meltOrMend_83 : decode cX1_meltOrMend 83 = .ok (.dup, 1) := by decide +kernel
theorem dX1_meltOrMend_84 : decode cX1_meltOrMend 84 = .ok (.getfield 61, 3) := by decide +kernel
theorem dX1_meltOrMend_87 : decode cX1_meltOrMend 87 = .ok (.aload_n 0, 1) := by decide +kernel
theorem dX1_meltOrMend_88 : decode cX1_meltOrMend 88 = .ok (.getfield 12, 3) := by decide +kernel
theorem dX1_meltOrMend_91 : decode cX1_meltOrMend 91 = .ok (.iload_n 1, 1) := by decide +kernel
theorem dX1_meltOrMend_92 : decode cX1_meltOrMend 92 = .ok (.iload_n 2, 1) := by decide +kernel
theorem dX1_meltOrMend_93 : decode cX1_meltOrMend 93 = .ok (.ineg, 1) := by decide +kernel
theorem dX1_meltOrMend_94 : decode cX1_meltOrMend 94 = .ok (.iconst 2, 1) := by decide +kernel
theorem dX1_meltOrMend_95 : decode cX1_meltOrMend 95 = .ok (.idiv, 1) := by decide +kernel
theorem dX1_meltOrMend_96 : decode cX1_meltOrMend 96 = .ok (.aload_n 0, 1) := by decide +kernel
theorem dX1_meltOrMend_97 : decode cX1_meltOrMend 97 = .ok (.getfield 61, 3) := by decide +kernel
theorem dX1_meltOrMend_100 : decode cX1_meltOrMend 100 = .ok (.invokestatic 105, 3) := by decide +kernel
theorem dX1_meltOrMend_103 : decode cX1_meltOrMend 103 = .ok (.invokevirtual 111, 3) := by decide +kernel
theorem dX1_meltOrMend_106 : decode cX1_meltOrMend 106 = .ok (.isub, 1) := by decide +kernel
theorem dX1_meltOrMend_107 : decode cX1_meltOrMend 107 = .ok (.putfield 61, 3) := by decide +kernel
theorem dX1_meltOrMend_110 : decode cX1_meltOrMend 110 = .ok (.return_, 1) := by decide +kernel
theorem dX1_freezeDrip_0 : decode cX1_freezeDrip 0 = .ok (.aload_n 0, 1) := by decide +kernel
theorem dX1_freezeDrip_1 : decode cX1_freezeDrip 1 = .ok (.getfield 36, 3) := by decide +kernel
theorem dX1_freezeDrip_4 : decode cX1_freezeDrip 4 = .ok (.iload_n 1, 1) := by decide +kernel
theorem dX1_freezeDrip_5 : decode cX1_freezeDrip 5 = .ok (.iaload, 1) := by decide +kernel
theorem dX1_freezeDrip_6 : decode cX1_freezeDrip 6 = .ok (.istore_n 2, 1) := by decide +kernel
theorem dX1_freezeDrip_7 : decode cX1_freezeDrip 7 = .ok (.iload_n 1, 1) := by decide +kernel
theorem dX1_freezeDrip_8 : decode cX1_freezeDrip 8 = .ok (.istore_n 3, 1) := by decide +kernel
theorem dX1_freezeDrip_9 : decode cX1_freezeDrip 9 = .ok (.iload_n 3, 1) := by decide +kernel
theorem dX1_freezeDrip_10 : decode cX1_freezeDrip 10 = .ok (.bipush 48, 2) := by decide +kernel
theorem dX1_freezeDrip_12 : decode cX1_freezeDrip 12 = .ok (.if_icmp .ge 51, 3) := by decide +kernel
theorem dX1_freezeDrip_15 : decode cX1_freezeDrip 15 = .ok (.aload_n 0, 1) := by decide +kernel
theorem dX1_freezeDrip_16 : decode cX1_freezeDrip 16 = .ok (.getfield 12, 3) := by decide +kernel
theorem dX1_freezeDrip_19 : decode cX1_freezeDrip 19 = .ok (.getfield 114, 3) := by decide +kernel
theorem dX1_freezeDrip_22 : decode cX1_freezeDrip 22 = .ok (.iload_n 3, 1) := by decide +kernel
theorem dX1_freezeDrip_23 : decode cX1_freezeDrip 23 = .ok (.iaload, 1) := by decide +kernel
theorem dX1_freezeDrip_24 : decode cX1_freezeDrip 24 = .ok (.istore 4, 2) := by decide +kernel
theorem dX1_freezeDrip_26 : decode cX1_freezeDrip 26 = .ok (.iload 4, 2) := by decide +kernel
theorem dX1_freezeDrip_28 : decode cX1_freezeDrip 28 = .ok (.ifCond .lt 29, 3) := by decide +kernel
theorem dX1_freezeDrip_31 : decode cX1_freezeDrip 31 = .ok (.aload_n 0, 1) := by decide +kernel
theorem dX1_freezeDrip_32 : decode cX1_freezeDrip 32 = .ok (.getfield 33, 3) := by decide +kernel
theorem dX1_freezeDrip_35 : decode cX1_freezeDrip 35 = .ok (.iload 4, 2) := by decide +kernel
theorem dX1_freezeDrip_37 : decode cX1_freezeDrip 37 = .ok (.iaload, 1) := by decide +kernel
theorem dX1_freezeDrip_38 : decode cX1_freezeDrip 38 = .ok (.ifCond .ge 19, 3) := by decide +kernel
theorem dX1_freezeDrip_41 : decode cX1_freezeDrip 41 = .ok (.iload_n 2, 1) := by decide +kernel
theorem dX1_freezeDrip_42 : decode cX1_freezeDrip 42 = .ok (.aload_n 0, 1) := by decide +kernel
theorem dX1_freezeDrip_43 : decode cX1_freezeDrip 43 = .ok (.getfield 12, 3) := by decide +kernel
theorem dX1_freezeDrip_46 : decode cX1_freezeDrip 46 = .ok (.iload 4, 2) := by decide +kernel
theorem dX1_freezeDrip_48 : decode cX1_freezeDrip 48 = .ok (.iload_n 2, 1) := by decide +kernel
theorem dX1_freezeDrip_49 : decode cX1_freezeDrip 49 = .ok (.invokevirtual 111, 3) := by decide +kernel
theorem dX1_freezeDrip_52 : decode cX1_freezeDrip 52 = .ok (.isub, 1) := by decide +kernel
theorem dX1_freezeDrip_53 : decode cX1_freezeDrip 53 = .ok (.istore_n 2, 1) := by decide +kernel
theorem dX1_freezeDrip_54 : decode cX1_freezeDrip 54 = .ok (.goto 9, 3) := by decide +kernel
theorem dX1_freezeDrip_57 : decode cX1_freezeDrip 57 = .ok (.iinc 3 8, 3) := by decide +kernel
theorem dX1_freezeDrip_60 : decode cX1_freezeDrip 60 = .ok (.goto (-51), 3) := by decide +kernel
theorem dX1_freezeDrip_63 : decode cX1_freezeDrip 63 = .ok (.aload_n 0, 1) := by decide +kernel
theorem dX1_freezeDrip_64 : decode cX1_freezeDrip 64 = .ok (.dup, 1) := by decide +kernel
theorem dX1_freezeDrip_65 : decode cX1_freezeDrip 65 = .ok (.getfield 61, 3) := by decide +kernel
theorem dX1_freezeDrip_68 : decode cX1_freezeDrip 68 = .ok (.iload_n 2, 1) := by decide +kernel
theorem dX1_freezeDrip_69 : decode cX1_freezeDrip 69 = .ok (.iadd, 1) := by decide +kernel
theorem dX1_freezeDrip_70 : decode cX1_freezeDrip 70 = .ok (.putfield 61, 3) := by decide +kernel
theorem dX1_freezeDrip_73 : decode cX1_freezeDrip 73 = .ok (.return_, 1) := by decide +kernel
theorem dX1_removeMelted_0 : decode cX1_removeMelted 0 = .ok (.iconst 0, 1) := by decide +kernel
theorem dX1_removeMelted_1 : decode cX1_removeMelted 1 = .ok (.istore_n 1, 1) := by decide +kernel
theorem dX1_removeMelted_2 : decode cX1_removeMelted 2 = .ok (.iconst 0, 1) := by decide +kernel
theorem dX1_removeMelted_3 : decode cX1_removeMelted 3 = .ok (.istore_n 2, 1) := by decide +kernel
theorem dX1_removeMelted_4 : decode cX1_removeMelted 4 = .ok (.iload_n 2, 1) := by decide +kernel
theorem dX1_removeMelted_5 : decode cX1_removeMelted 5 = .ok (.aload_n 0, 1) := by decide +kernel
theorem dX1_removeMelted_6 : decode cX1_removeMelted 6 = .ok (.getfield 12, 3) := by decide +kernel
theorem dX1_removeMelted_9 : decode cX1_removeMelted 9 = .ok (.getfield 79, 3) := by decide +kernel
theorem dX1_removeMelted_12 : decode cX1_removeMelted 12 = .ok (.if_icmp .ge 44, 3) := by decide +kernel
theorem dX1_removeMelted_15 : decode cX1_removeMelted 15 = .ok (.aload_n 0, 1) := by decide +kernel
theorem dX1_removeMelted_16 : decode cX1_removeMelted 16 = .ok (.getfield 12, 3) := by decide +kernel
theorem dX1_removeMelted_19 : decode cX1_removeMelted 19 = .ok (.iload_n 2, 1) := by decide +kernel
theorem dX1_removeMelted_20 : decode cX1_removeMelted 20 = .ok (.invokevirtual 75, 3) := by decide +kernel
theorem dX1_removeMelted_23 : decode cX1_removeMelted 23 = .ok (.ifCond .ne 27, 3) := by decide +kernel
theorem dX1_removeMelted_26 : decode cX1_removeMelted 26 = .ok (.aload_n 0, 1) := by decide +kernel
theorem dX1_removeMelted_27 : decode cX1_removeMelted 27 = .ok (.getfield 12, 3) := by decide +kernel
theorem dX1_removeMelted_30 : decode cX1_removeMelted 30 = .ok (.getfield 102, 3) := by decide +kernel
theorem dX1_removeMelted_33 : decode cX1_removeMelted 33 = .ok (.iload_n 2, 1) := by decide +kernel
theorem dX1_removeMelted_34 : decode cX1_removeMelted 34 = .ok (.iaload, 1) := by decide +kernel
theorem dX1_removeMelted_35 : decode cX1_removeMelted 35 = .ok (.ifCond .gt 15, 3) := by decide +kernel
theorem dX1_removeMelted_38 : decode cX1_removeMelted 38 = .ok (.aload_n 0, 1) := by decide +kernel
theorem dX1_removeMelted_39 : decode cX1_removeMelted 39 = .ok (.getfield 12, 3) := by decide +kernel
theorem dX1_removeMelted_42 : decode cX1_removeMelted 42 = .ok (.iload_n 2, 1) := by decide +kernel
theorem dX1_removeMelted_43 : decode cX1_removeMelted 43 = .ok (.invokevirtual 117, 3) := by decide +kernel
theorem dX1_removeMelted_46 : decode cX1_removeMelted 46 = .ok (.pop, 1) := by decide +kernel
theorem dX1_removeMelted_47 : decode cX1_removeMelted 47 = .ok (.iinc 1 1, 3) := by decide +kernel
theorem dX1_removeMelted_50 : decode cX1_removeMelted 50 = .ok (.iinc 2 1, 3) := by decide +kernel
theorem dX1_removeMelted_53 : decode cX1_removeMelted 53 = .ok (.goto (-49), 3) := by decide +kernel
theorem dX1_removeMelted_56 : decode cX1_removeMelted 56 = .ok (.iload_n 1, 1) := by decide +kernel
theorem dX1_removeMelted_57 : decode cX1_removeMelted 57 = .ok (.ireturn, 1) := by decide +kernel
theorem dX1_collapse_0 : decode cX1_collapse 0 = .ok (.iconst 0, 1) := by decide +kernel
theorem dX1_collapse_1 : decode cX1_collapse 1 = .ok (.istore_n 1, 1) := by decide +kernel
theorem dX1_collapse_2 : decode cX1_collapse 2 = .ok (.iconst 0, 1) := by decide +kernel
theorem dX1_collapse_3 : decode cX1_collapse 3 = .ok (.istore_n 2, 1) := by decide +kernel
theorem dX1_collapse_4 : decode cX1_collapse 4 = .ok (.iload_n 2, 1) := by decide +kernel
theorem dX1_collapse_5 : decode cX1_collapse 5 = .ok (.bipush 16, 2) := by decide +kernel
theorem dX1_collapse_7 : decode cX1_collapse 7 = .ok (.if_icmp .gt 83, 3) := by decide +kernel
theorem dX1_collapse_10 : decode cX1_collapse 10 = .ok (.aload_n 0, 1) := by decide +kernel
theorem dX1_collapse_11 : decode cX1_collapse 11 = .ok (.getfield 12, 3) := by decide +kernel
theorem dX1_collapse_14 : decode cX1_collapse 14 = .ok (.invokevirtual 120, 3) := by decide +kernel
theorem dX1_collapse_17 : decode cX1_collapse 17 = .ok (.aload_n 0, 1) := by decide +kernel
theorem dX1_collapse_18 : decode cX1_collapse 18 = .ok (.getfield 12, 3) := by decide +kernel
theorem dX1_collapse_21 : decode cX1_collapse 21 = .ok (.invokevirtual 123, 3) := by decide +kernel
theorem dX1_collapse_24 : decode cX1_collapse 24 = .ok (.ior, 1) := by decide +kernel
theorem dX1_collapse_25 : decode cX1_collapse 25 = .ok (.istore_n 3, 1) := by decide +kernel
theorem dX1_collapse_26 : decode cX1_collapse 26 = .ok (.iload_n 3, 1) := by decide +kernel
theorem dX1_collapse_27 : decode cX1_collapse 27 = .ok (.ifCond .ne 6, 3) := by decide +kernel
theorem dX1_collapse_30 : decode cX1_collapse 30 = .ok (.goto 60, 3) := by decide +kernel
theorem dX1_collapse_33 : decode cX1_collapse 33 = .ok (.iconst 0, 1) := by decide +kernel
theorem dX1_collapse_34 : decode cX1_collapse 34 = .ok (.istore 4, 2) := by decide +kernel
theorem dX1_collapse_36 : decode cX1_collapse 36 = .ok (.iload 4, 2) := by decide +kernel
theorem dX1_collapse_38 : decode cX1_collapse 38 = .ok (.aload_n 0, 1) := by decide +kernel
theorem dX1_collapse_39 : decode cX1_collapse 39 = .ok (.getfield 12, 3) := by decide +kernel
theorem dX1_collapse_42 : decode cX1_collapse 42 = .ok (.getfield 79, 3) := by decide +kernel
theorem dX1_collapse_45 : decode cX1_collapse 45 = .ok (.if_icmp .ge 39, 3) := by decide +kernel
theorem dX1_collapse_48 : decode cX1_collapse 48 = .ok (.iload_n 3, 1) := by decide +kernel
theorem dX1_collapse_49 : decode cX1_collapse 49 = .ok (.iload 4, 2) := by decide +kernel
theorem dX1_collapse_51 : decode cX1_collapse 51 = .ok (.iushr, 1) := by decide +kernel
theorem dX1_collapse_52 : decode cX1_collapse 52 = .ok (.iconst 1, 1) := by decide +kernel
theorem dX1_collapse_53 : decode cX1_collapse 53 = .ok (.iand, 1) := by decide +kernel
theorem dX1_collapse_54 : decode cX1_collapse 54 = .ok (.ifCond .eq 24, 3) := by decide +kernel
theorem dX1_collapse_57 : decode cX1_collapse 57 = .ok (.aload_n 0, 1) := by decide +kernel
theorem dX1_collapse_58 : decode cX1_collapse 58 = .ok (.dup, 1) := by decide +kernel
theorem dX1_collapse_59 : decode cX1_collapse 59 = .ok (.getfield 64, 3) := by decide +kernel
theorem dX1_collapse_62 : decode cX1_collapse 62 = .ok (.aload_n 0, 1) := by decide +kernel
theorem dX1_collapse_63 : decode cX1_collapse 63 = .ok (.getfield 12, 3) := by decide +kernel
theorem dX1_collapse_66 : decode cX1_collapse 66 = .ok (.iload 4, 2) := by decide +kernel
theorem dX1_collapse_68 : decode cX1_collapse 68 = .ok (.invokevirtual 117, 3) := by decide +kernel
theorem dX1_collapse_71 : decode cX1_collapse 71 = .ok (.iadd, 1) := by decide +kernel
theorem dX1_collapse_72 : decode cX1_collapse 72 = .ok (.putfield 64, 3) := by decide +kernel
theorem dX1_collapse_75 : decode cX1_collapse 75 = .ok (.iinc 1 1, 3) := by decide +kernel
theorem dX1_collapse_78 : decode cX1_collapse 78 = .ok (.iinc 4 1, 3) := by decide +kernel
theorem dX1_collapse_81 : decode cX1_collapse 81 = .ok (.goto (-45), 3) := by decide +kernel
theorem dX1_collapse_84 : decode cX1_collapse 84 = .ok (.iinc 2 1, 3) := by decide +kernel
theorem dX1_collapse_87 : decode cX1_collapse 87 = .ok (.goto (-83), 3) := by decide +kernel
theorem dX1_collapse_90 : decode cX1_collapse 90 = .ok (.iload_n 1, 1) := by decide +kernel
theorem dX1_collapse_91 : decode cX1_collapse 91 = .ok (.ireturn, 1) := by decide +kernel
theorem dX1_danceTo_0 : decode cX1_danceTo 0 = .ok (.aload_n 0, 1) := by decide +kernel
theorem dX1_danceTo_1 : decode cX1_danceTo 1 = .ok (.getfield 12, 3) := by decide +kernel
theorem dX1_danceTo_4 : decode cX1_danceTo 4 = .ok (.iload_n 1, 1) := by decide +kernel
theorem dX1_danceTo_5 : decode cX1_danceTo 5 = .ok (.invokevirtual 126, 3) := by decide +kernel
theorem dX1_danceTo_8 : decode cX1_danceTo 8 = .ok (.istore_n 2, 1) := by decide +kernel
theorem dX1_danceTo_9 : decode cX1_danceTo 9 = .ok (.iconst 0, 1) := by decide +kernel
theorem dX1_danceTo_10 : decode cX1_danceTo 10 = .ok (.istore_n 3, 1) := by decide +kernel
theorem dX1_danceTo_11 : decode cX1_danceTo 11 = .ok (.iload_n 3, 1) := by decide +kernel
theorem dX1_danceTo_12 : decode cX1_danceTo 12 = .ok (.aload_n 0, 1) := by decide +kernel
theorem dX1_danceTo_13 : decode cX1_danceTo 13 = .ok (.getfield 12, 3) := by decide +kernel
theorem dX1_danceTo_16 : decode cX1_danceTo 16 = .ok (.getfield 79, 3) := by decide +kernel
theorem dX1_danceTo_19 : decode cX1_danceTo 19 = .ok (.if_icmp .ge 40, 3) := by decide +kernel
theorem dX1_danceTo_22 : decode cX1_danceTo 22 = .ok (.iload_n 2, 1) := by decide +kernel
theorem dX1_danceTo_23 : decode cX1_danceTo 23 = .ok (.iload_n 3, 1) := by decide +kernel
theorem dX1_danceTo_24 : decode cX1_danceTo 24 = .ok (.iushr, 1) := by decide +kernel
theorem dX1_danceTo_25 : decode cX1_danceTo 25 = .ok (.iconst 1, 1) := by decide +kernel
theorem dX1_danceTo_26 : decode cX1_danceTo 26 = .ok (.iand, 1) := by decide +kernel
theorem dX1_danceTo_27 : decode cX1_danceTo 27 = .ok (.ifCond .eq 26, 3) := by decide +kernel
theorem dX1_danceTo_30 : decode cX1_danceTo 30 = .ok (.aload_n 0, 1) := by decide +kernel
theorem dX1_danceTo_31 : decode cX1_danceTo 31 = .ok (.getfield 12, 3) := by decide +kernel
theorem dX1_danceTo_34 : decode cX1_danceTo 34 = .ok (.getfield 102, 3) := by decide +kernel
theorem dX1_danceTo_37 : decode cX1_danceTo 37 = .ok (.iload_n 3, 1) := by decide +kernel
theorem dX1_danceTo_38 : decode cX1_danceTo 38 = .ok (.dup2, 1) := by decide +kernel
theorem dX1_danceTo_39 : decode cX1_danceTo 39 = .ok (.iaload, 1) := by decide +kernel
theorem dX1_danceTo_40 : decode cX1_danceTo 40 = .ok (.iconst 1, 1) := by decide +kernel
theorem dX1_danceTo_41 : decode cX1_danceTo 41 = .ok (.isub, 1) := by decide +kernel
theorem dX1_danceTo_42 : decode cX1_danceTo 42 = .ok (.iastore, 1) := by decide +kernel
theorem dX1_danceTo_43 : decode cX1_danceTo 43 = .ok (.aload_n 0, 1) := by decide +kernel
theorem dX1_danceTo_44 : decode cX1_danceTo 44 = .ok (.dup, 1) := by decide +kernel
theorem dX1_danceTo_45 : decode cX1_danceTo 45 = .ok (.getfield 61, 3) := by decide +kernel
theorem dX1_danceTo_48 : decode cX1_danceTo 48 = .ok (.iconst 1, 1) := by decide +kernel
theorem dX1_danceTo_49 : decode cX1_danceTo 49 = .ok (.iadd, 1) := by decide +kernel
theorem dX1_danceTo_50 : decode cX1_danceTo 50 = .ok (.putfield 61, 3) := by decide +kernel
theorem dX1_danceTo_53 : decode cX1_danceTo 53 = .ok (.iinc 3 1, 3) := by decide +kernel
theorem dX1_danceTo_56 : decode cX1_danceTo 56 = .ok (.goto (-45), 3) := by decide +kernel
theorem dX1_danceTo_59 : decode cX1_danceTo 59 = .ok (.aload_n 0, 1) := by decide +kernel
theorem dX1_danceTo_60 : decode cX1_danceTo 60 = .ok (.invokevirtual 96, 3) := by decide +kernel
theorem dX1_danceTo_63 : decode cX1_danceTo 63 = .ok (.aload_n 0, 1) := by decide +kernel
theorem dX1_danceTo_64 : decode cX1_danceTo 64 = .ok (.invokevirtual 99, 3) := by decide +kernel
theorem dX1_danceTo_67 : decode cX1_danceTo 67 = .ok (.iadd, 1) := by decide +kernel
theorem dX1_danceTo_68 : decode cX1_danceTo 68 = .ok (.ireturn, 1) := by decide +kernel
theorem dX2_init_0 : decode cX2_init 0 = .ok (.aload_n 0, 1) := by decide +kernel
theorem dX2_init_1 : decode cX2_init 1 = .ok (.invokespecial 3, 3) := by decide +kernel
theorem dX2_init_4 : decode cX2_init 4 = .ok (.aload_n 0, 1) := by decide +kernel
theorem dX2_init_5 : decode cX2_init 5 = .ok (.bipush 40, 2) := by decide +kernel
theorem dX2_init_7 : decode cX2_init 7 = .ok (.newarray .int, 2) := by decide +kernel
theorem dX2_init_9 : decode cX2_init 9 = .ok (.putfield 9, 3) := by decide +kernel
theorem dX2_init_12 : decode cX2_init 12 = .ok (.return_, 1) := by decide +kernel
theorem dX2_isMissing_0 : decode cX2_isMissing 0 = .ok (.aload_n 0, 1) := by decide +kernel
theorem dX2_isMissing_1 : decode cX2_isMissing 1 = .ok (.getfield 15, 3) := by decide +kernel
theorem dX2_isMissing_4 : decode cX2_isMissing 4 = .ok (.ifCond .ne 7, 3) := by decide +kernel
theorem dX2_isMissing_7 : decode cX2_isMissing 7 = .ok (.iconst 1, 1) := by decide +kernel
theorem dX2_isMissing_8 : decode cX2_isMissing 8 = .ok (.goto 4, 3) := by decide +kernel
theorem dX2_isMissing_11 : decode cX2_isMissing 11 = .ok (.iconst 0, 1) := by decide +kernel
theorem dX2_isMissing_12 : decode cX2_isMissing 12 = .ok (.ireturn, 1) := by decide +kernel
theorem dX2_lay_0 : decode cX2_lay 0 = .ok (.aload_n 0, 1) := by decide +kernel
theorem dX2_lay_1 : decode cX2_lay 1 = .ok (.iload_n 1, 1) := by decide +kernel
theorem dX2_lay_2 : decode cX2_lay 2 = .ok (.putfield 15, 3) := by decide +kernel
theorem dX2_lay_5 : decode cX2_lay 5 = .ok (.aload_n 0, 1) := by decide +kernel
theorem dX2_lay_6 : decode cX2_lay 6 = .ok (.iload_n 1, 1) := by decide +kernel
theorem dX2_lay_7 : decode cX2_lay 7 = .ok (.ifCond .ne 7, 3) := by decide +kernel
theorem dX2_lay_10 : decode cX2_lay 10 = .ok (.iconst 0, 1) := by decide +kernel
theorem dX2_lay_11 : decode cX2_lay 11 = .ok (.goto 4, 3) := by decide +kernel
theorem dX2_lay_14 : decode cX2_lay 14 = .ok (.iload_n 2, 1) := by decide +kernel
theorem dX2_lay_15 : decode cX2_lay 15 = .ok (.putfield 19, 3) := by decide +kernel
theorem dX2_lay_18 : decode cX2_lay 18 = .ok (.aload_n 0, 1) := by decide +kernel
theorem dX2_lay_19 : decode cX2_lay 19 = .ok (.getfield 9, 3) := by decide +kernel
theorem dX2_lay_22 : decode cX2_lay 22 = .ok (.iconst 0, 1) := by decide +kernel
theorem dX2_lay_23 : decode cX2_lay 23 = .ok (.invokestatic 22, 3) := by decide +kernel
theorem dX2_lay_26 : decode cX2_lay 26 = .ok (.aload_n 0, 1) := by decide +kernel
theorem dX2_lay_27 : decode cX2_lay 27 = .ok (.getfield 19, 3) := by decide +kernel
theorem dX2_lay_30 : decode cX2_lay 30 = .ok (.ireturn, 1) := by decide +kernel
theorem dX2_put_0 : decode cX2_put 0 = .ok (.aload_n 0, 1) := by decide +kernel
theorem dX2_put_1 : decode cX2_put 1 = .ok (.getfield 15, 3) := by decide +kernel
theorem dX2_put_4 : decode cX2_put 4 = .ok (.bipush 8, 2) := by decide +kernel
theorem dX2_put_6 : decode cX2_put 6 = .ok (.if_icmp .ne 14, 3) := by decide +kernel
theorem dX2_put_9 : decode cX2_put 9 = .ok (.aload_n 0, 1) := by decide +kernel
theorem dX2_put_10 : decode cX2_put 10 = .ok (.getfield 9, 3) := by decide +kernel
theorem dX2_put_13 : decode cX2_put 13 = .ok (.iload_n 1, 1) := by decide +kernel
theorem dX2_put_14 : decode cX2_put 14 = .ok (.iload_n 2, 1) := by decide +kernel
theorem dX2_put_15 : decode cX2_put 15 = .ok (.i2b, 1) := by decide +kernel
theorem dX2_put_16 : decode cX2_put 16 = .ok (.iastore, 1) := by decide +kernel
theorem dX2_put_17 : decode cX2_put 17 = .ok (.goto 30, 3) := by decide +kernel
theorem dX2_put_20 : decode cX2_put 20 = .ok (.aload_n 0, 1) := by decide +kernel
theorem dX2_put_21 : decode cX2_put 21 = .ok (.getfield 15, 3) := by decide +kernel
theorem dX2_put_24 : decode cX2_put 24 = .ok (.bipush 16, 2) := by decide +kernel
theorem dX2_put_26 : decode cX2_put 26 = .ok (.if_icmp .ne 14, 3) := by decide +kernel
theorem dX2_put_29 : decode cX2_put 29 = .ok (.aload_n 0, 1) := by decide +kernel
theorem dX2_put_30 : decode cX2_put 30 = .ok (.getfield 9, 3) := by decide +kernel
theorem dX2_put_33 : decode cX2_put 33 = .ok (.iload_n 1, 1) := by decide +kernel
theorem dX2_put_34 : decode cX2_put 34 = .ok (.iload_n 2, 1) := by decide +kernel
theorem dX2_put_35 : decode cX2_put 35 = .ok (.i2s, 1) := by decide +kernel
theorem dX2_put_36 : decode cX2_put 36 = .ok (.iastore, 1) := by decide +kernel
theorem dX2_put_37 : decode cX2_put 37 = .ok (.goto 10, 3) := by decide +kernel
theorem dX2_put_40 : decode cX2_put 40 = .ok (.aload_n 0, 1) := by decide +kernel
theorem dX2_put_41 : decode cX2_put 41 = .ok (.getfield 9, 3) := by decide +kernel
theorem dX2_put_44 : decode cX2_put 44 = .ok (.iload_n 1, 1) := by decide +kernel
theorem dX2_put_45 : decode cX2_put 45 = .ok (.iload_n 2, 1) := by decide +kernel
theorem dX2_put_46 : decode cX2_put 46 = .ok (.iastore, 1) := by decide +kernel
theorem dX2_put_47 : decode cX2_put 47 = .ok (.return_, 1) := by decide +kernel
theorem dX2_hasRange_0 : decode cX2_hasRange 0 = .ok (.iload_n 1, 1) := by decide +kernel
theorem dX2_hasRange_1 : decode cX2_hasRange 1 = .ok (.ifCond .lt 29, 3) := by decide +kernel
theorem dX2_hasRange_4 : decode cX2_hasRange 4 = .ok (.iload_n 2, 1) := by decide +kernel
theorem dX2_hasRange_5 : decode cX2_hasRange 5 = .ok (.ifCond .lt 25, 3) := by decide +kernel
theorem dX2_hasRange_8 : decode cX2_hasRange 8 = .ok (.iload_n 2, 1) := by decide +kernel
theorem dX2_hasRange_9 : decode cX2_hasRange 9 = .ok (.aload_n 0, 1) := by decide +kernel
theorem dX2_hasRange_10 : decode cX2_hasRange 10 = .ok (.getfield 19, 3) := by decide +kernel
theorem dX2_hasRange_13 : decode cX2_hasRange 13 = .ok (.if_icmp .gt 17, 3) := by decide +kernel
theorem dX2_hasRange_16 : decode cX2_hasRange 16 = .ok (.iload_n 1, 1) := by decide +kernel
theorem dX2_hasRange_17 : decode cX2_hasRange 17 = .ok (.aload_n 0, 1) := by decide +kernel
theorem dX2_hasRange_18 : decode cX2_hasRange 18 = .ok (.getfield 19, 3) := by decide +kernel
theorem dX2_hasRange_21 : decode cX2_hasRange 21 = .ok (.iload_n 2, 1) := by decide +kernel
theorem dX2_hasRange_22 : decode cX2_hasRange 22 = .ok (.isub, 1) := by decide +kernel
theorem dX2_hasRange_23 : decode cX2_hasRange 23 = .ok (.if_icmp .gt 7, 3) := by decide +kernel
theorem dX2_hasRange_26 : decode cX2_hasRange 26 = .ok (.iconst 1, 1) := by decide +kernel
theorem dX2_hasRange_27 : decode cX2_hasRange 27 = .ok (.goto 4, 3) := by decide +kernel
theorem dX2_hasRange_30 : decode cX2_hasRange 30 = .ok (.iconst 0, 1) := by decide +kernel
theorem dX2_hasRange_31 : decode cX2_hasRange 31 = .ok (.ireturn, 1) := by decide +kernel
theorem dX3_init_0 : decode cX3_init 0 = .ok (.aload_n 0, 1) := by decide +kernel
theorem dX3_init_1 : decode cX3_init 1 = .ok (.invokespecial 3, 3) := by decide +kernel
theorem dX3_init_4 : decode cX3_init 4 = .ok (.aload_n 0, 1) := by decide +kernel
theorem dX3_init_5 : decode cX3_init 5 = .ok (.bipush 120, 2) := by decide +kernel
theorem dX3_init_7 : decode cX3_init 7 = .ok (.newarray .int, 2) := by decide +kernel
theorem dX3_init_9 : decode cX3_init 9 = .ok (.putfield 9, 3) := by decide +kernel
theorem dX3_init_12 : decode cX3_init 12 = .ok (.return_, 1) := by decide +kernel
theorem dX3_append_0 : decode cX3_append 0 = .ok (.aload_n 0, 1) := by decide +kernel
theorem dX3_append_1 : decode cX3_append 1 = .ok (.getfield 15, 3) := by decide +kernel
theorem dX3_append_4 : decode cX3_append 4 = .ok (.bipush 120, 2) := by decide +kernel
theorem dX3_append_6 : decode cX3_append 6 = .ok (.if_icmp .ge 23, 3) := by decide +kernel
theorem dX3_append_9 : decode cX3_append 9 = .ok (.aload_n 0, 1) := by decide +kernel
theorem dX3_append_10 : decode cX3_append 10 = .ok (.getfield 9, 3) := by decide +kernel
theorem dX3_append_13 : decode cX3_append 13 = .ok (.aload_n 0, 1) := by decide +kernel
theorem dX3_append_14 : decode cX3_append 14 = .ok (.getfield 15, 3) := by decide +kernel
theorem dX3_append_17 : decode cX3_append 17 = .ok (.iload_n 1, 1) := by decide +kernel
theorem dX3_append_18 : decode cX3_append 18 = .ok (.iastore, 1) := by decide +kernel
theorem dX3_append_19 : decode cX3_append 19 = .ok (.aload_n 0, 1) := by decide +kernel
theorem dX3_append_20 : decode cX3_append 20 = .ok (.dup, 1) := by decide +kernel
theorem dX3_append_21 : decode cX3_append 21 = .ok (.getfield 15, 3) := by decide +kernel
theorem dX3_append_24 : decode cX3_append 24 = .ok (.iconst 1, 1) := by decide +kernel
theorem dX3_append_25 : decode cX3_append 25 = .ok (.iadd, 1) := by decide +kernel
theorem dX3_append_26 : decode cX3_append 26 = .ok (.putfield 15, 3) := by decide +kernel
theorem dX3_append_29 : decode cX3_append 29 = .ok (.return_, 1) := by decide +kernel
theorem dX3_byteAt_0 : decode cX3_byteAt 0 = .ok (.iload_n 1, 1) := by decide +kernel
theorem dX3_byteAt_1 : decode cX3_byteAt 1 = .ok (.ifCond .lt 20, 3) := by decide +kernel
theorem dX3_byteAt_4 : decode cX3_byteAt 4 = .ok (.iload_n 1, 1) := by decide +kernel
theorem dX3_byteAt_5 : decode cX3_byteAt 5 = .ok (.aload_n 0, 1) := by decide +kernel
theorem dX3_byteAt_6 : decode cX3_byteAt 6 = .ok (.getfield 15, 3) := by decide +kernel
theorem dX3_byteAt_9 : decode cX3_byteAt 9 = .ok (.if_icmp .ge 12, 3) := by decide +kernel
theorem dX3_byteAt_12 : decode cX3_byteAt 12 = .ok (.aload_n 0, 1) := by decide +kernel
theorem dX3_byteAt_13 : decode cX3_byteAt 13 = .ok (.getfield 9, 3) := by decide +kernel
theorem dX3_byteAt_16 : decode cX3_byteAt 16 = .ok (.iload_n 1, 1) := by decide +kernel
theorem dX3_byteAt_17 : decode cX3_byteAt 17 = .ok (.iaload, 1) := by decide +kernel
theorem dX3_byteAt_18 : decode cX3_byteAt 18 = .ok (.goto 4, 3) := by decide +kernel
theorem dX3_byteAt_21 : decode cX3_byteAt 21 = .ok (.iconst (-1), 1) := by decide +kernel
theorem dX3_byteAt_22 : decode cX3_byteAt 22 = .ok (.ireturn, 1) := by decide +kernel
theorem dX4_init_0 : decode cX4_init 0 = .ok (.aload_n 0, 1) := by decide +kernel
theorem dX4_init_1 : decode cX4_init 1 = .ok (.invokespecial 3, 3) := by decide +kernel
theorem dX4_init_4 : decode cX4_init 4 = .ok (.aload_n 0, 1) := by decide +kernel
theorem dX4_init_5 : decode cX4_init 5 = .ok (.new 9, 3) := by decide +kernel
theorem dX4_init_8 : decode cX4_init 8 = .ok (.dup, 1) := by decide +kernel
theorem dX4_init_9 : decode cX4_init 9 = .ok (.invokespecial 11, 3) := by decide +kernel
theorem dX4_init_12 : decode cX4_init 12 = .ok (.putfield 12, 3) := by decide +kernel
theorem dX4_init_15 : decode cX4_init 15 = .ok (.return_, 1) := by decide +kernel
theorem dX4_readInto_0 : decode cX4_readInto 0 = .ok (.aload_n 0, 1) := by decide +kernel
theorem dX4_readInto_1 : decode cX4_readInto 1 = .ok (.iconst 0, 1) := by decide +kernel
theorem dX4_readInto_2 : decode cX4_readInto 2 = .ok (.putfield 18, 3) := by decide +kernel
theorem dX4_readInto_5 : decode cX4_readInto 5 = .ok (.aload_n 0, 1) := by decide +kernel
theorem dX4_readInto_6 : decode cX4_readInto 6 = .ok (.invokevirtual 22, 3) := by decide +kernel
theorem dX4_readInto_9 : decode cX4_readInto 9 = .ok (.iconst 1, 1) := by decide +kernel
theorem dX4_readInto_10 : decode cX4_readInto 10 = .ok (.istore_n 2, 1) := by decide +kernel
theorem dX4_readInto_11 : decode cX4_readInto 11 = .ok (.iload_n 2, 1) := by decide +kernel
theorem dX4_readInto_12 : decode cX4_readInto 12 = .ok (.bipush 120, 2) := by decide +kernel
theorem dX4_readInto_14 : decode cX4_readInto 14 = .ok (.if_icmp .gt 44, 3) := by decide +kernel
theorem dX4_readInto_17 : decode cX4_readInto 17 = .ok (.aload_n 0, 1) := by decide +kernel
theorem dX4_readInto_18 : decode cX4_readInto 18 = .ok (.aload_n 1, 1) := by decide +kernel
theorem dX4_readInto_19 : decode cX4_readInto 19 = .ok (.invokevirtual 25, 3) := by decide +kernel
theorem dX4_readInto_22 : decode cX4_readInto 22 = .ok (.ifCond .ne 6, 3) := by decide +kernel
theorem dX4_readInto_25 : decode cX4_readInto 25 = .ok (.goto 33, 3) := by decide +kernel
theorem dX4_readInto_28 : decode cX4_readInto 28 = .ok (.aload_n 0, 1) := by decide +kernel
theorem dX4_readInto_29 : decode cX4_readInto 29 = .ok (.getfield 29, 3) := by decide +kernel
theorem dX4_readInto_32 : decode cX4_readInto 32 = .ok (.ifCond .ne 5, 3) := by decide +kernel
theorem dX4_readInto_35 : decode cX4_readInto 35 = .ok (.iload_n 2, 1) := by decide +kernel
theorem dX4_readInto_36 : decode cX4_readInto 36 = .ok (.ireturn, 1) := by decide +kernel
theorem dX4_readInto_37 : decode cX4_readInto 37 = .ok (.aload_n 0, 1) := by decide +kernel
theorem dX4_readInto_38 : decode cX4_readInto 38 = .ok (.getfield 29, 3) := by decide +kernel
theorem dX4_readInto_41 : decode cX4_readInto 41 = .ok (.iconst 3, 1) := by decide +kernel
theorem dX4_readInto_42 : decode cX4_readInto 42 = .ok (.if_icmp .eq 6, 3) := by decide +kernel
theorem dX4_readInto_45 : decode cX4_readInto 45 = .ok (.goto 13, 3) := by decide +kernel
theorem dX4_readInto_48 : decode cX4_readInto 48 = .ok (.aload_n 0, 1) := by decide +kernel
theorem dX4_readInto_49 : decode cX4_readInto 49 = .ok (.invokevirtual 22, 3) := by decide +kernel
theorem dX4_readInto_52 : decode cX4_readInto 52 = .ok (.iinc 2 1, 3) := by decide +kernel
theorem dX4_readInto_55 : decode cX4_readInto 55 = .ok (.goto (-44), 3) := by decide +kernel
theorem dX4_readInto_58 : decode cX4_readInto 58 = .ok (.iconst (-1), 1) := by decide +kernel
theorem dX4_readInto_59 : decode cX4_readInto 59 = .ok (.aload_n 0, 1) := by decide +kernel
theorem dX4_readInto_60 : decode cX4_readInto 60 = .ok (.getfield 32, 3) := by decide +kernel
theorem dX4_readInto_63 : decode cX4_readInto 63 = .ok (.isub, 1) := by decide +kernel
theorem dX4_readInto_64 : decode cX4_readInto 64 = .ok (.ireturn, 1) := by decide +kernel
theorem dX4_readItem_0 : decode cX4_readItem 0 = .ok (.aload_n 0, 1) := by decide +kernel
theorem dX4_readItem_1 : decode cX4_readItem 1 = .ok (.invokevirtual 35, 3) := by decide +kernel
theorem dX4_readItem_4 : decode cX4_readItem 4 = .ok (.istore_n 2, 1) := by decide +kernel
theorem dX4_readItem_5 : decode cX4_readItem 5 = .ok (.iload_n 2, 1) := by decide +kernel
theorem dX4_readItem_6 : decode cX4_readItem 6 = .ok (.ifCond .lt 13, 3) := by decide +kernel
theorem dX4_readItem_9 : decode cX4_readItem 9 = .ok (.aload_n 0, 1) := by decide +kernel
theorem dX4_readItem_10 : decode cX4_readItem 10 = .ok (.aload_n 1, 1) := by decide +kernel
theorem dX4_readItem_11 : decode cX4_readItem 11 = .ok (.getfield 39, 3) := by decide +kernel
theorem dX4_readItem_14 : decode cX4_readItem 14 = .ok (.iload_n 2, 1) := by decide +kernel
theorem dX4_readItem_15 : decode cX4_readItem 15 = .ok (.invokevirtual 45, 3) := by decide +kernel
theorem dX4_readItem_18 : decode cX4_readItem 18 = .ok (.ireturn, 1) := by decide +kernel
theorem dX4_readItem_19 : decode cX4_readItem 19 = .ok (.aload_n 0, 1) := by decide +kernel
theorem dX4_readItem_20 : decode cX4_readItem 20 = .ok (.ldc 49, 2) := by decide +kernel
theorem dX4_readItem_22 : decode cX4_readItem 22 = .ok (.invokevirtual 51, 3) := by decide +kernel
theorem dX4_readItem_25 : decode cX4_readItem 25 = .ok (.ifCond .eq 12, 3) := by decide +kernel
theorem dX4_readItem_28 : decode cX4_readItem 28 = .ok (.aload_n 0, 1) := by decide +kernel
theorem dX4_readItem_29 : decode cX4_readItem 29 = .ok (.aload_n 1, 1) := by decide +kernel
theorem dX4_readItem_30 : decode cX4_readItem 30 = .ok (.getfield 55, 3) := by decide +kernel
theorem dX4_readItem_33 : decode cX4_readItem 33 = .ok (.invokevirtual 59, 3) := by decide +kernel
theorem dX4_readItem_36 : decode cX4_readItem 36 = .ok (.ireturn, 1) := by decide +kernel
theorem dX4_readItem_37 : decode cX4_readItem 37 = .ok (.aload_n 0, 1) := by decide +kernel
theorem dX4_readItem_38 : decode cX4_readItem 38 = .ok (.ldc 63, 2) := by decide +kernel
theorem dX4_readItem_40 : decode cX4_readItem 40 = .ok (.invokevirtual 51, 3) := by decide +kernel
theorem dX4_readItem_43 : decode cX4_readItem 43 = .ok (.ifCond .eq 18, 3) := by decide +kernel
theorem dX4_readItem_46 : decode cX4_readItem 46 = .ok (.aload_n 0, 1) := by decide +kernel
theorem dX4_readItem_47 : decode cX4_readItem 47 = .ok (.aload_n 1, 1) := by decide +kernel
theorem dX4_readItem_48 : decode cX4_readItem 48 = .ok (.getfield 55, 3) := by decide +kernel
theorem dX4_readItem_51 : decode cX4_readItem 51 = .ok (.invokevirtual 65, 3) := by decide +kernel
theorem dX4_readItem_54 : decode cX4_readItem 54 = .ok (.ifCond .eq 7, 3) := by decide +kernel
theorem dX4_readItem_57 : decode cX4_readItem 57 = .ok (.iconst 1, 1) := by decide +kernel
theorem dX4_readItem_58 : decode cX4_readItem 58 = .ok (.goto 4, 3) := by decide +kernel
theorem dX4_readItem_61 : decode cX4_readItem 61 = .ok (.iconst 0, 1) := by decide +kernel
theorem dX4_readItem_62 : decode cX4_readItem 62 = .ok (.ireturn, 1) := by decide +kernel
theorem dX4_readBlock_0 : decode cX4_readBlock 0 = .ok (.aload_n 1, 1) := by decide +kernel
theorem dX4_readBlock_1 : decode cX4_readBlock 1 = .ok (.invokevirtual 68, 3) := by decide +kernel
theorem dX4_readBlock_4 : decode cX4_readBlock 4 = .ok (.ifCond .eq 5, 3) := by decide +kernel
theorem dX4_readBlock_7 : decode cX4_readBlock 7 = .ok (.iconst 0, 1) := by decide +kernel
theorem dX4_readBlock_8 : decode cX4_readBlock 8 = .ok (.ireturn, 1) := by decide +kernel
theorem dX4_readBlock_9 : decode cX4_readBlock 9 = .ok (.aload_n 0, 1) := by decide +kernel
theorem dX4_readBlock_10 : decode cX4_readBlock 10 = .ok (.invokevirtual 22, 3) := by decide +kernel
theorem dX4_readBlock_13 : decode cX4_readBlock 13 = .ok (.aload_n 0, 1) := by decide +kernel
theorem dX4_readBlock_14 : decode cX4_readBlock 14 = .ok (.iconst 0, 1) := by decide +kernel
theorem dX4_readBlock_15 : decode cX4_readBlock 15 = .ok (.bipush 47, 2) := by decide +kernel
theorem dX4_readBlock_17 : decode cX4_readBlock 17 = .ok (.invokevirtual 74, 3) := by decide +kernel
theorem dX4_readBlock_20 : decode cX4_readBlock 20 = .ok (.ifCond .eq 14, 3) := by decide +kernel
theorem dX4_readBlock_23 : decode cX4_readBlock 23 = .ok (.aload_n 1, 1) := by decide +kernel
theorem dX4_readBlock_24 : decode cX4_readBlock 24 = .ok (.aload_n 0, 1) := by decide +kernel
theorem dX4_readBlock_25 : decode cX4_readBlock 25 = .ok (.getfield 78, 3) := by decide +kernel
theorem dX4_readBlock_28 : decode cX4_readBlock 28 = .ok (.invokevirtual 81, 3) := by decide +kernel
theorem dX4_readBlock_31 : decode cX4_readBlock 31 = .ok (.ifCond .lt 5, 3) := by decide +kernel
theorem dX4_readBlock_34 : decode cX4_readBlock 34 = .ok (.iconst 0, 1) := by decide +kernel
theorem dX4_readBlock_35 : decode cX4_readBlock 35 = .ok (.ireturn, 1) := by decide +kernel
theorem dX4_readBlock_36 : decode cX4_readBlock 36 = .ok (.aload_n 0, 1) := by decide +kernel
theorem dX4_readBlock_37 : decode cX4_readBlock 37 = .ok (.getfield 78, 3) := by decide +kernel
theorem dX4_readBlock_40 : decode cX4_readBlock 40 = .ok (.istore_n 3, 1) := by decide +kernel
theorem dX4_readBlock_41 : decode cX4_readBlock 41 = .ok (.bipush 20, 2) := by decide +kernel
theorem dX4_readBlock_43 : decode cX4_readBlock 43 = .ok (.istore 4, 2) := by decide +kernel
theorem dX4_readBlock_45 : decode cX4_readBlock 45 = .ok (.aload_n 0, 1) := by decide +kernel
theorem dX4_readBlock_46 : decode cX4_readBlock 46 = .ok (.invokevirtual 22, 3) := by decide +kernel
theorem dX4_readBlock_49 : decode cX4_readBlock 49 = .ok (.aload_n 0, 1) := by decide +kernel
theorem dX4_readBlock_50 : decode cX4_readBlock 50 = .ok (.ldc 85, 2) := by decide +kernel
theorem dX4_readBlock_52 : decode cX4_readBlock 52 = .ok (.invokevirtual 51, 3) := by decide +kernel
theorem dX4_readBlock_55 : decode cX4_readBlock 55 = .ok (.ifCond .eq 29, 3) := by decide +kernel
theorem dX4_readBlock_58 : decode cX4_readBlock 58 = .ok (.aload_n 0, 1) := by decide +kernel
theorem dX4_readBlock_59 : decode cX4_readBlock 59 = .ok (.invokevirtual 22, 3) := by decide +kernel
theorem dX4_readBlock_62 : decode cX4_readBlock 62 = .ok (.aload_n 0, 1) := by decide +kernel
theorem dX4_readBlock_63 : decode cX4_readBlock 63 = .ok (.iconst 1, 1) := by decide +kernel
theorem dX4_readBlock_64 : decode cX4_readBlock 64 = .ok (.bipush 99, 2) := by decide +kernel
theorem dX4_readBlock_66 : decode cX4_readBlock 66 = .ok (.invokevirtual 74, 3) := by decide +kernel
theorem dX4_readBlock_69 : decode cX4_readBlock 69 = .ok (.ifCond .ne 5, 3) := by decide +kernel
theorem dX4_readBlock_72 : decode cX4_readBlock 72 = .ok (.iconst 0, 1) := by decide +kernel
theorem dX4_readBlock_73 : decode cX4_readBlock 73 = .ok (.ireturn, 1) := by decide +kernel
theorem dX4_readBlock_74 : decode cX4_readBlock 74 = .ok (.aload_n 0, 1) := by decide +kernel
theorem dX4_readBlock_75 : decode cX4_readBlock 75 = .ok (.getfield 78, 3) := by decide +kernel
theorem dX4_readBlock_78 : decode cX4_readBlock 78 = .ok (.istore 4, 2) := by decide +kernel
theorem dX4_readBlock_80 : decode cX4_readBlock 80 = .ok (.aload_n 0, 1) := by decide +kernel
theorem dX4_readBlock_81 : decode cX4_readBlock 81 = .ok (.invokevirtual 22, 3) := by decide +kernel
theorem dX4_readBlock_84 : decode cX4_readBlock 84 = .ok (.aload_n 1, 1) := by decide +kernel
theorem dX4_readBlock_85 : decode cX4_readBlock 85 = .ok (.iload_n 2, 1) := by decide +kernel
theorem dX4_readBlock_86 : decode cX4_readBlock 86 = .ok (.iload_n 3, 1) := by decide +kernel
theorem dX4_readBlock_87 : decode cX4_readBlock 87 = .ok (.iload 4, 2) := by decide +kernel
theorem dX4_readBlock_89 : decode cX4_readBlock 89 = .ok (.invokevirtual 87, 3) := by decide +kernel
theorem dX4_readBlock_92 : decode cX4_readBlock 92 = .ok (.pop, 1) := by decide +kernel
theorem dX4_readBlock_93 : decode cX4_readBlock 93 = .ok (.iconst 1, 1) := by decide +kernel
theorem dX4_readBlock_94 : decode cX4_readBlock 94 = .ok (.ireturn, 1) := by decide +kernel
theorem dX4_readCandle_0 : decode cX4_readCandle 0 = .ok (.aload_n 0, 1) := by decide +kernel
theorem dX4_readCandle_1 : decode cX4_readCandle 1 = .ok (.invokevirtual 22, 3) := by decide +kernel
theorem dX4_readCandle_4 : decode cX4_readCandle 4 = .ok (.aload_n 0, 1) := by decide +kernel
theorem dX4_readCandle_5 : decode cX4_readCandle 5 = .ok (.iconst 0, 1) := by decide +kernel
theorem dX4_readCandle_6 : decode cX4_readCandle 6 = .ok (.iconst 5, 1) := by decide +kernel
theorem dX4_readCandle_7 : decode cX4_readCandle 7 = .ok (.invokevirtual 74, 3) := by decide +kernel
theorem dX4_readCandle_10 : decode cX4_readCandle 10 = .ok (.ifCond .ne 5, 3) := by decide +kernel
theorem dX4_readCandle_13 : decode cX4_readCandle 13 = .ok (.iconst 0, 1) := by decide +kernel
theorem dX4_readCandle_14 : decode cX4_readCandle 14 = .ok (.ireturn, 1) := by decide +kernel
theorem dX4_readCandle_15 : decode cX4_readCandle 15 = .ok (.aload_n 0, 1) := by decide +kernel
theorem dX4_readCandle_16 : decode cX4_readCandle 16 = .ok (.getfield 78, 3) := by decide +kernel
theorem dX4_readCandle_19 : decode cX4_readCandle 19 = .ok (.istore_n 2, 1) := by decide +kernel
theorem dX4_readCandle_20 : decode cX4_readCandle 20 = .ok (.aload_n 0, 1) := by decide +kernel
theorem dX4_readCandle_21 : decode cX4_readCandle 21 = .ok (.invokevirtual 22, 3) := by decide +kernel
theorem dX4_readCandle_24 : decode cX4_readCandle 24 = .ok (.aload_n 0, 1) := by decide +kernel
theorem dX4_readCandle_25 : decode cX4_readCandle 25 = .ok (.ldc 91, 2) := by decide +kernel
theorem dX4_readCandle_27 : decode cX4_readCandle 27 = .ok (.invokevirtual 51, 3) := by decide +kernel
theorem dX4_readCandle_30 : decode cX4_readCandle 30 = .ok (.ifCond .ne 5, 3) := by decide +kernel
theorem dX4_readCandle_33 : decode cX4_readCandle 33 = .ok (.iconst 0, 1) := by decide +kernel
theorem dX4_readCandle_34 : decode cX4_readCandle 34 = .ok (.ireturn, 1) := by decide +kernel
theorem dX4_readCandle_35 : decode cX4_readCandle 35 = .ok (.aload_n 0, 1) := by decide +kernel
theorem dX4_readCandle_36 : decode cX4_readCandle 36 = .ok (.invokevirtual 22, 3) := by decide +kernel
theorem dX4_readCandle_39 : decode cX4_readCandle 39 = .ok (.aload_n 0, 1) := by decide +kernel
theorem dX4_readCandle_40 : decode cX4_readCandle 40 = .ok (.iconst 0, 1) := by decide +kernel
theorem dX4_readCandle_41 : decode cX4_readCandle 41 = .ok (.bipush 47, 2) := by decide +kernel
theorem dX4_readCandle_43 : decode cX4_readCandle 43 = .ok (.invokevirtual 74, 3) := by decide +kernel
theorem dX4_readCandle_46 : decode cX4_readCandle 46 = .ok (.ifCond .ne 5, 3) := by decide +kernel
theorem dX4_readCandle_49 : decode cX4_readCandle 49 = .ok (.iconst 0, 1) := by decide +kernel
theorem dX4_readCandle_50 : decode cX4_readCandle 50 = .ok (.ireturn, 1) := by decide +kernel
theorem dX4_readCandle_51 : decode cX4_readCandle 51 = .ok (.aload_n 1, 1) := by decide +kernel
theorem dX4_readCandle_52 : decode cX4_readCandle 52 = .ok (.getfield 93, 3) := by decide +kernel
theorem dX4_readCandle_55 : decode cX4_readCandle 55 = .ok (.iload_n 2, 1) := by decide +kernel
theorem dX4_readCandle_56 : decode cX4_readCandle 56 = .ok (.aload_n 0, 1) := by decide +kernel
theorem dX4_readCandle_57 : decode cX4_readCandle 57 = .ok (.getfield 78, 3) := by decide +kernel
theorem dX4_readCandle_60 : decode cX4_readCandle 60 = .ok (.iastore, 1) := by decide +kernel
theorem dX4_readCandle_61 : decode cX4_readCandle 61 = .ok (.aload_n 0, 1) := by decide +kernel
theorem dX4_readCandle_62 : decode cX4_readCandle 62 = .ok (.invokevirtual 22, 3) := by decide +kernel
theorem dX4_readCandle_65 : decode cX4_readCandle 65 = .ok (.aload_n 0, 1) := by decide +kernel
theorem dX4_readCandle_66 : decode cX4_readCandle 66 = .ok (.ldc 99, 2) := by decide +kernel
theorem dX4_readCandle_68 : decode cX4_readCandle 68 = .ok (.invokevirtual 51, 3) := by decide +kernel
theorem dX4_readCandle_71 : decode cX4_readCandle 71 = .ok (.ifCond .eq 33, 3) := by decide +kernel
theorem dX4_readCandle_74 : decode cX4_readCandle 74 = .ok (.aload_n 0, 1) := by decide +kernel
theorem dX4_readCandle_75 : decode cX4_readCandle 75 = .ok (.invokevirtual 22, 3) := by decide +kernel
theorem dX4_readCandle_78 : decode cX4_readCandle 78 = .ok (.aload_n 0, 1) := by decide +kernel
theorem dX4_readCandle_79 : decode cX4_readCandle 79 = .ok (.iconst 0, 1) := by decide +kernel
theorem dX4_readCandle_80 : decode cX4_readCandle 80 = .ok (.bipush 30, 2) := by decide +kernel
theorem dX4_readCandle_82 : decode cX4_readCandle 82 = .ok (.invokevirtual 74, 3) := by decide +kernel
theorem dX4_readCandle_85 : decode cX4_readCandle 85 = .ok (.ifCond .ne 5, 3) := by decide +kernel
theorem dX4_readCandle_88 : decode cX4_readCandle 88 = .ok (.iconst 0, 1) := by decide +kernel
theorem dX4_readCandle_89 : decode cX4_readCandle 89 = .ok (.ireturn, 1) := by decide +kernel
theorem dX4_readCandle_90 : decode cX4_readCandle 90 = .ok (.aload_n 1, 1) := by decide +kernel
theorem dX4_readCandle_91 : decode cX4_readCandle 91 = .ok (.getfield 101, 3) := by decide +kernel
theorem dX4_readCandle_94 : decode cX4_readCandle 94 = .ok (.iload_n 2, 1) := by decide +kernel
theorem dX4_readCandle_95 : decode cX4_readCandle 95 = .ok (.aload_n 0, 1) := by decide +kernel
theorem dX4_readCandle_96 : decode cX4_readCandle 96 = .ok (.getfield 78, 3) := by decide +kernel
theorem dX4_readCandle_99 : decode cX4_readCandle 99 = .ok (.iastore, 1) := by decide +kernel
theorem dX4_readCandle_100 : decode cX4_readCandle 100 = .ok (.aload_n 0, 1) := by decide +kernel
theorem dX4_readCandle_101 : decode cX4_readCandle 101 = .ok (.invokevirtual 22, 3) := by decide +kernel
theorem dX4_readCandle_104 : decode cX4_readCandle 104 = .ok (.aload_n 0, 1) := by decide +kernel
theorem dX4_readCandle_105 : decode cX4_readCandle 105 = .ok (.ldc 104, 2) := by decide +kernel
theorem dX4_readCandle_107 : decode cX4_readCandle 107 = .ok (.invokevirtual 51, 3) := by decide +kernel
theorem dX4_readCandle_110 : decode cX4_readCandle 110 = .ok (.istore_n 3, 1) := by decide +kernel
theorem dX4_readCandle_111 : decode cX4_readCandle 111 = .ok (.aload_n 1, 1) := by decide +kernel
theorem dX4_readCandle_112 : decode cX4_readCandle 112 = .ok (.iload_n 2, 1) := by decide +kernel
theorem dX4_readCandle_113 : decode cX4_readCandle 113 = .ok (.iload_n 3, 1) := by decide +kernel
theorem dX4_readCandle_114 : decode cX4_readCandle 114 = .ok (.invokevirtual 106, 3) := by decide +kernel
theorem dX4_readCandle_117 : decode cX4_readCandle 117 = .ok (.iload_n 3, 1) := by decide +kernel
theorem dX4_readCandle_118 : decode cX4_readCandle 118 = .ok (.ifCond .eq 7, 3) := by decide +kernel
theorem dX4_readCandle_121 : decode cX4_readCandle 121 = .ok (.aload_n 0, 1) := by decide +kernel
theorem dX4_readCandle_122 : decode cX4_readCandle 122 = .ok (.invokevirtual 22, 3) := by decide +kernel
theorem dX4_readCandle_125 : decode cX4_readCandle 125 = .ok (.iconst 1, 1) := by decide +kernel
theorem dX4_readCandle_126 : decode cX4_readCandle 126 = .ok (.ireturn, 1) := by decide +kernel
theorem dX4_readCold_0 : decode cX4_readCold 0 = .ok (.aload_n 0, 1) := by decide +kernel
theorem dX4_readCold_1 : decode cX4_readCold 1 = .ok (.invokevirtual 22, 3) := by decide +kernel
theorem dX4_readCold_4 : decode cX4_readCold 4 = .ok (.aload_n 0, 1) := by decide +kernel
theorem dX4_readCold_5 : decode cX4_readCold 5 = .ok (.getfield 29, 3) := by decide +kernel
theorem dX4_readCold_8 : decode cX4_readCold 8 = .ok (.iconst 4, 1) := by decide +kernel
theorem dX4_readCold_9 : decode cX4_readCold 9 = .ok (.if_icmp .ne 7, 3) := by decide +kernel
theorem dX4_readCold_12 : decode cX4_readCold 12 = .ok (.iconst 1, 1) := by decide +kernel
theorem dX4_readCold_13 : decode cX4_readCold 13 = .ok (.goto 4, 3) := by decide +kernel
theorem dX4_readCold_16 : decode cX4_readCold 16 = .ok (.iconst 0, 1) := by decide +kernel
theorem dX4_readCold_17 : decode cX4_readCold 17 = .ok (.istore_n 2, 1) := by decide +kernel
theorem dX4_readCold_18 : decode cX4_readCold 18 = .ok (.iload_n 2, 1) := by decide +kernel
theorem dX4_readCold_19 : decode cX4_readCold 19 = .ok (.ifCond .eq 7, 3) := by decide +kernel
theorem dX4_readCold_22 : decode cX4_readCold 22 = .ok (.aload_n 0, 1) := by decide +kernel
theorem dX4_readCold_23 : decode cX4_readCold 23 = .ok (.invokevirtual 22, 3) := by decide +kernel
theorem dX4_readCold_26 : decode cX4_readCold 26 = .ok (.aload_n 0, 1) := by decide +kernel
theorem dX4_readCold_27 : decode cX4_readCold 27 = .ok (.iconst 0, 1) := by decide +kernel
theorem dX4_readCold_28 : decode cX4_readCold 28 = .ok (.bipush 20, 2) := by decide +kernel
theorem dX4_readCold_30 : decode cX4_readCold 30 = .ok (.invokevirtual 74, 3) := by decide +kernel
theorem dX4_readCold_33 : decode cX4_readCold 33 = .ok (.ifCond .ne 5, 3) := by decide +kernel
theorem dX4_readCold_36 : decode cX4_readCold 36 = .ok (.iconst 0, 1) := by decide +kernel
theorem dX4_readCold_37 : decode cX4_readCold 37 = .ok (.ireturn, 1) := by decide +kernel
theorem dX4_readCold_38 : decode cX4_readCold 38 = .ok (.aload_n 1, 1) := by decide +kernel
theorem dX4_readCold_39 : decode cX4_readCold 39 = .ok (.iload_n 2, 1) := by decide +kernel
theorem dX4_readCold_40 : decode cX4_readCold 40 = .ok (.ifCond .eq 11, 3) := by decide +kernel
theorem dX4_readCold_43 : decode cX4_readCold 43 = .ok (.aload_n 0, 1) := by decide +kernel
theorem dX4_readCold_44 : decode cX4_readCold 44 = .ok (.getfield 78, 3) := by decide +kernel
theorem dX4_readCold_47 : decode cX4_readCold 47 = .ok (.ineg, 1) := by decide +kernel
theorem dX4_readCold_48 : decode cX4_readCold 48 = .ok (.goto 7, 3) := by decide +kernel
theorem dX4_readCold_51 : decode cX4_readCold 51 = .ok (.aload_n 0, 1) := by decide +kernel
theorem dX4_readCold_52 : decode cX4_readCold 52 = .ok (.getfield 78, 3) := by decide +kernel
theorem dX4_readCold_55 : decode cX4_readCold 55 = .ok (.putfield 110, 3) := by decide +kernel
theorem dX4_readCold_58 : decode cX4_readCold 58 = .ok (.aload_n 0, 1) := by decide +kernel
theorem dX4_readCold_59 : decode cX4_readCold 59 = .ok (.invokevirtual 22, 3) := by decide +kernel
theorem dX4_readCold_62 : decode cX4_readCold 62 = .ok (.iconst 1, 1) := by decide +kernel
theorem dX4_readCold_63 : decode cX4_readCold 63 = .ok (.ireturn, 1) := by decide +kernel
theorem dX4_kindOfWord_0 : decode cX4_kindOfWord 0 = .ok (.aload_n 0, 1) := by decide +kernel
theorem dX4_kindOfWord_1 : decode cX4_kindOfWord 1 = .ok (.ldc 112, 2) := by decide +kernel
theorem dX4_kindOfWord_3 : decode cX4_kindOfWord 3 = .ok (.invokevirtual 51, 3) := by decide +kernel
theorem dX4_kindOfWord_6 : decode cX4_kindOfWord 6 = .ok (.ifCond .eq 5, 3) := by decide +kernel
theorem dX4_kindOfWord_9 : decode cX4_kindOfWord 9 = .ok (.iconst 0, 1) := by decide +kernel
theorem dX4_kindOfWord_10 : decode cX4_kindOfWord 10 = .ok (.ireturn, 1) := by decide +kernel
theorem dX4_kindOfWord_11 : decode cX4_kindOfWord 11 = .ok (.aload_n 0, 1) := by decide +kernel
theorem dX4_kindOfWord_12 : decode cX4_kindOfWord 12 = .ok (.ldc 114, 2) := by decide +kernel
theorem dX4_kindOfWord_14 : decode cX4_kindOfWord 14 = .ok (.invokevirtual 51, 3) := by decide +kernel
theorem dX4_kindOfWord_17 : decode cX4_kindOfWord 17 = .ok (.ifCond .eq 5, 3) := by decide +kernel
theorem dX4_kindOfWord_20 : decode cX4_kindOfWord 20 = .ok (.iconst 1, 1) := by decide +kernel
theorem dX4_kindOfWord_21 : decode cX4_kindOfWord 21 = .ok (.ireturn, 1) := by decide +kernel
theorem dX4_kindOfWord_22 : decode cX4_kindOfWord 22 = .ok (.aload_n 0, 1) := by decide +kernel
theorem dX4_kindOfWord_23 : decode cX4_kindOfWord 23 = .ok (.ldc 116, 2) := by decide +kernel
theorem dX4_kindOfWord_25 : decode cX4_kindOfWord 25 = .ok (.invokevirtual 51, 3) := by decide +kernel
theorem dX4_kindOfWord_28 : decode cX4_kindOfWord 28 = .ok (.ifCond .eq 5, 3) := by decide +kernel
theorem dX4_kindOfWord_31 : decode cX4_kindOfWord 31 = .ok (.iconst 2, 1) := by decide +kernel
theorem dX4_kindOfWord_32 : decode cX4_kindOfWord 32 = .ok (.ireturn, 1) := by decide +kernel
theorem dX4_kindOfWord_33 : decode cX4_kindOfWord 33 = .ok (.aload_n 0, 1) := by decide +kernel
theorem dX4_kindOfWord_34 : decode cX4_kindOfWord 34 = .ok (.ldc 118, 2) := by decide +kernel
theorem dX4_kindOfWord_36 : decode cX4_kindOfWord 36 = .ok (.invokevirtual 51, 3) := by decide +kernel
theorem dX4_kindOfWord_39 : decode cX4_kindOfWord 39 = .ok (.ifCond .eq 5, 3) := by decide +kernel
theorem dX4_kindOfWord_42 : decode cX4_kindOfWord 42 = .ok (.iconst 3, 1) := by decide +kernel
theorem dX4_kindOfWord_43 : decode cX4_kindOfWord 43 = .ok (.ireturn, 1) := by decide +kernel
theorem dX4_kindOfWord_44 : decode cX4_kindOfWord 44 = .ok (.aload_n 0, 1) := by decide +kernel
theorem dX4_kindOfWord_45 : decode cX4_kindOfWord 45 = .ok (.ldc 120, 2) := by decide +kernel
theorem dX4_kindOfWord_47 : decode cX4_kindOfWord 47 = .ok (.invokevirtual 51, 3) := by decide +kernel
theorem dX4_kindOfWord_50 : decode cX4_kindOfWord 50 = .ok (.ifCond .eq 5, 3) := by decide +kernel
theorem dX4_kindOfWord_53 : decode cX4_kindOfWord 53 = .ok (.iconst 4, 1) := by decide +kernel
theorem dX4_kindOfWord_54 : decode cX4_kindOfWord 54 = .ok (.ireturn, 1) := by decide +kernel
theorem dX4_kindOfWord_55 : decode cX4_kindOfWord 55 = .ok (.aload_n 0, 1) := by decide +kernel
theorem dX4_kindOfWord_56 : decode cX4_kindOfWord 56 = .ok (.ldc 122, 2) := by decide +kernel
theorem dX4_kindOfWord_58 : decode cX4_kindOfWord 58 = .ok (.invokevirtual 51, 3) := by decide +kernel
theorem dX4_kindOfWord_61 : decode cX4_kindOfWord 61 = .ok (.ifCond .eq 5, 3) := by decide +kernel
theorem dX4_kindOfWord_64 : decode cX4_kindOfWord 64 = .ok (.iconst 5, 1) := by decide +kernel
theorem dX4_kindOfWord_65 : decode cX4_kindOfWord 65 = .ok (.ireturn, 1) := by decide +kernel
theorem dX4_kindOfWord_66 : decode cX4_kindOfWord 66 = .ok (.aload_n 0, 1) := by decide +kernel
theorem dX4_kindOfWord_67 : decode cX4_kindOfWord 67 = .ok (.ldc 124, 2) := by decide +kernel
theorem dX4_kindOfWord_69 : decode cX4_kindOfWord 69 = .ok (.invokevirtual 51, 3) := by decide +kernel
theorem dX4_kindOfWord_72 : decode cX4_kindOfWord 72 = .ok (.ifCond .eq 8, 3) := by decide +kernel
theorem dX4_kindOfWord_75 : decode cX4_kindOfWord 75 = .ok (.bipush 6, 2) := by decide +kernel
theorem dX4_kindOfWord_77 : decode cX4_kindOfWord 77 = .ok (.goto 4, 3) := by decide +kernel
theorem dX4_kindOfWord_80 : decode cX4_kindOfWord 80 = .ok (.iconst (-1), 1) := by decide +kernel
theorem dX4_kindOfWord_81 : decode cX4_kindOfWord 81 = .ok (.ireturn, 1) := by decide +kernel
theorem dX4_isNumber_0 : decode cX4_isNumber 0 = .ok (.aload_n 0, 1) := by decide +kernel
theorem dX4_isNumber_1 : decode cX4_isNumber 1 = .ok (.getfield 29, 3) := by decide +kernel
theorem dX4_isNumber_4 : decode cX4_isNumber 4 = .ok (.iconst 2, 1) := by decide +kernel
theorem dX4_isNumber_5 : decode cX4_isNumber 5 = .ok (.if_icmp .ne 19, 3) := by decide +kernel
theorem dX4_isNumber_8 : decode cX4_isNumber 8 = .ok (.aload_n 0, 1) := by decide +kernel
theorem dX4_isNumber_9 : decode cX4_isNumber 9 = .ok (.getfield 78, 3) := by decide +kernel
theorem dX4_isNumber_12 : decode cX4_isNumber 12 = .ok (.iload_n 1, 1) := by decide +kernel
theorem dX4_isNumber_13 : decode cX4_isNumber 13 = .ok (.iload_n 2, 1) := by decide +kernel
theorem dX4_isNumber_14 : decode cX4_isNumber 14 = .ok (.invokestatic 126, 3) := by decide +kernel
theorem dX4_isNumber_17 : decode cX4_isNumber 17 = .ok (.ifCond .eq 7, 3) := by decide +kernel
theorem dX4_isNumber_20 : decode cX4_isNumber 20 = .ok (.iconst 1, 1) := by decide +kernel
theorem dX4_isNumber_21 : decode cX4_isNumber 21 = .ok (.goto 4, 3) := by decide +kernel
theorem dX4_isNumber_24 : decode cX4_isNumber 24 = .ok (.iconst 0, 1) := by decide +kernel
theorem dX4_isNumber_25 : decode cX4_isNumber 25 = .ok (.ireturn, 1) := by decide +kernel
theorem dX4_isWord_0 : decode cX4_isWord 0 = .ok (.aload_n 0, 1) := by decide +kernel
theorem dX4_isWord_1 : decode cX4_isWord 1 = .ok (.getfield 29, 3) := by decide +kernel
theorem dX4_isWord_4 : decode cX4_isWord 4 = .ok (.iconst 1, 1) := by decide +kernel
theorem dX4_isWord_5 : decode cX4_isWord 5 = .ok (.if_icmp .ne 19, 3) := by decide +kernel
theorem dX4_isWord_8 : decode cX4_isWord 8 = .ok (.aload_n 0, 1) := by decide +kernel
theorem dX4_isWord_9 : decode cX4_isWord 9 = .ok (.getfield 18, 3) := by decide +kernel
theorem dX4_isWord_12 : decode cX4_isWord 12 = .ok (.aload_n 0, 1) := by decide +kernel
theorem dX4_isWord_13 : decode cX4_isWord 13 = .ok (.getfield 32, 3) := by decide +kernel
theorem dX4_isWord_16 : decode cX4_isWord 16 = .ok (.isub, 1) := by decide +kernel
theorem dX4_isWord_17 : decode cX4_isWord 17 = .ok (.aload_n 1, 1) := by decide +kernel
theorem dX4_isWord_18 : decode cX4_isWord 18 = .ok (.invokevirtual 130, 3) := by decide +kernel
theorem dX4_isWord_21 : decode cX4_isWord 21 = .ok (.if_icmp .eq 5, 3) := by decide +kernel
theorem dX4_isWord_24 : decode cX4_isWord 24 = .ok (.iconst 0, 1) := by decide +kernel
theorem dX4_isWord_25 : decode cX4_isWord 25 = .ok (.ireturn, 1) := by decide +kernel
theorem dX4_isWord_26 : decode cX4_isWord 26 = .ok (.iconst 0, 1) := by decide +kernel
theorem dX4_isWord_27 : decode cX4_isWord 27 = .ok (.istore_n 2, 1) := by decide +kernel
theorem dX4_isWord_28 : decode cX4_isWord 28 = .ok (.iload_n 2, 1) := by decide +kernel
theorem dX4_isWord_29 : decode cX4_isWord 29 = .ok (.aload_n 1, 1) := by decide +kernel
theorem dX4_isWord_30 : decode cX4_isWord 30 = .ok (.invokevirtual 130, 3) := by decide +kernel
theorem dX4_isWord_33 : decode cX4_isWord 33 = .ok (.if_icmp .ge 32, 3) := by decide +kernel
theorem dX4_isWord_36 : decode cX4_isWord 36 = .ok (.aload_n 0, 1) := by decide +kernel
theorem dX4_isWord_37 : decode cX4_isWord 37 = .ok (.getfield 12, 3) := by decide +kernel
theorem dX4_isWord_40 : decode cX4_isWord 40 = .ok (.aload_n 0, 1) := by decide +kernel
theorem dX4_isWord_41 : decode cX4_isWord 41 = .ok (.getfield 32, 3) := by decide +kernel
theorem dX4_isWord_44 : decode cX4_isWord 44 = .ok (.iload_n 2, 1) := by decide +kernel
theorem dX4_isWord_45 : decode cX4_isWord 45 = .ok (.iadd, 1) := by decide +kernel
theorem dX4_isWord_46 : decode cX4_isWord 46 = .ok (.invokevirtual 135, 3) := by decide +kernel
theorem dX4_isWord_49 : decode cX4_isWord 49 = .ok (.aload_n 1, 1) := by decide +kernel
theorem dX4_isWord_50 : decode cX4_isWord 50 = .ok (.iload_n 2, 1) := by decide +kernel
theorem dX4_isWord_51 : decode cX4_isWord 51 = .ok (.invokevirtual 138, 3) := by decide +kernel
theorem dX4_isWord_54 : decode cX4_isWord 54 = .ok (.if_icmp .eq 5, 3) := by decide +kernel
theorem dX4_isWord_57 : decode cX4_isWord 57 = .ok (.iconst 0, 1) := by decide +kernel
theorem dX4_isWord_58 : decode cX4_isWord 58 = .ok (.ireturn, 1) := by decide +kernel
theorem dX4_isWord_59 : decode cX4_isWord 59 = .ok (.iinc 2 1, 3) := by decide +kernel
theorem dX4_isWord_62 : decode cX4_isWord 62 = .ok (.goto (-34), 3) := by decide +kernel
theorem dX4_isWord_65 : decode cX4_isWord 65 = .ok (.iconst 1, 1) := by decide +kernel
theorem dX4_isWord_66 : decode cX4_isWord 66 = .ok (.ireturn, 1) := by decide +kernel
theorem dX4_advance_0 : decode cX4_advance 0 = .ok (.aload_n 0, 1) := by decide +kernel
theorem dX4_advance_1 : decode cX4_advance 1 = .ok (.aload_n 0, 1) := by decide +kernel
theorem dX4_advance_2 : decode cX4_advance 2 = .ok (.getfield 18, 3) := by decide +kernel
theorem dX4_advance_5 : decode cX4_advance 5 = .ok (.putfield 32, 3) := by decide +kernel
theorem dX4_advance_8 : decode cX4_advance 8 = .ok (.aload_n 0, 1) := by decide +kernel
theorem dX4_advance_9 : decode cX4_advance 9 = .ok (.getfield 32, 3) := by decide +kernel
theorem dX4_advance_12 : decode cX4_advance 12 = .ok (.aload_n 0, 1) := by decide +kernel
theorem dX4_advance_13 : decode cX4_advance 13 = .ok (.getfield 12, 3) := by decide +kernel
theorem dX4_advance_16 : decode cX4_advance 16 = .ok (.getfield 142, 3) := by decide +kernel
theorem dX4_advance_19 : decode cX4_advance 19 = .ok (.if_icmp .ge 32, 3) := by decide +kernel
theorem dX4_advance_22 : decode cX4_advance 22 = .ok (.aload_n 0, 1) := by decide +kernel
theorem dX4_advance_23 : decode cX4_advance 23 = .ok (.getfield 12, 3) := by decide +kernel
theorem dX4_advance_26 : decode cX4_advance 26 = .ok (.aload_n 0, 1) := by decide +kernel
theorem dX4_advance_27 : decode cX4_advance 27 = .ok (.getfield 32, 3) := by decide +kernel
theorem dX4_advance_30 : decode cX4_advance 30 = .ok (.invokevirtual 135, 3) := by decide +kernel
theorem dX4_advance_33 : decode cX4_advance 33 = .ok (.bipush 32, 2) := by decide +kernel
theorem dX4_advance_35 : decode cX4_advance 35 = .ok (.if_icmp .ne 16, 3) := by decide +kernel
theorem dX4_advance_38 : decode cX4_advance 38 = .ok (.aload_n 0, 1) := by decide +kernel
theorem dX4_advance_39 : decode cX4_advance 39 = .ok (.dup, 1) := by decide +kernel
theorem dX4_advance_40 : decode cX4_advance 40 = .ok (.getfield 32, 3) := by decide +kernel
theorem dX4_advance_43 : decode cX4_advance 43 = .ok (.iconst 1, 1) := by decide +kernel
theorem dX4_advance_44 : decode cX4_advance 44 = .ok (.iadd, 1) := by decide +kernel
theorem dX4_advance_45 : decode cX4_advance 45 = .ok (.putfield 32, 3) := by decide +kernel
theorem dX4_advance_48 : decode cX4_advance 48 = .ok (.goto (-40), 3) := by decide +kernel
theorem dX4_advance_51 : decode cX4_advance 51 = .ok (.aload_n 0, 1) := by decide +kernel
theorem dX4_advance_52 : decode cX4_advance 52 = .ok (.getfield 12, 3) := by decide +kernel
theorem dX4_advance_55 : decode cX4_advance 55 = .ok (.aload_n 0, 1) := by decide +kernel
theorem dX4_advance_56 : decode cX4_advance 56 = .ok (.getfield 32, 3) := by decide +kernel
theorem dX4_advance_59 : decode cX4_advance 59 = .ok (.invokevirtual 135, 3) := by decide +kernel
theorem dX4_advance_62 : decode cX4_advance 62 = .ok (.istore_n 1, 1) := by decide +kernel
theorem dX4_advance_63 : decode cX4_advance 63 = .ok (.aload_n 0, 1) := by decide +kernel
theorem dX4_advance_64 : decode cX4_advance 64 = .ok (.aload_n 0, 1) := by decide +kernel
theorem dX4_advance_65 : decode cX4_advance 65 = .ok (.getfield 32, 3) := by decide +kernel
theorem dX4_advance_68 : decode cX4_advance 68 = .ok (.iconst 1, 1) := by decide +kernel
theorem dX4_advance_69 : decode cX4_advance 69 = .ok (.iadd, 1) := by decide +kernel
theorem dX4_advance_70 : decode cX4_advance 70 = .ok (.putfield 18, 3) := by decide +kernel
theorem dX4_advance_73 : decode cX4_advance 73 = .ok (.iload_n 1, 1) := by decide +kernel
theorem dX4_advance_74 : decode cX4_advance 74 = .ok (.ifCond .ge 19, 3) := by decide +kernel
theorem dX4_advance_77 : decode cX4_advance 77 = .ok (.aload_n 0, 1) := by decide +kernel
theorem dX4_advance_78 : decode cX4_advance 78 = .ok (.iconst 0, 1) := by decide +kernel
theorem dX4_advance_79 : decode cX4_advance 79 = .ok (.putfield 29, 3) := by decide +kernel
theorem dX4_advance_82 : decode cX4_advance 82 = .ok (.aload_n 0, 1) := by decide +kernel
theorem dX4_advance_83 : decode cX4_advance 83 = .ok (.aload_n 0, 1) := by decide +kernel
theorem dX4_advance_84 : decode cX4_advance 84 = .ok (.getfield 32, 3) := by decide +kernel
theorem dX4_advance_87 : decode cX4_advance 87 = .ok (.putfield 18, 3) := by decide +kernel
theorem dX4_advance_90 : decode cX4_advance 90 = .ok (.goto 107, 3) := by decide +kernel
theorem dX4_advance_93 : decode cX4_advance 93 = .ok (.iload_n 1, 1) := by decide +kernel
theorem dX4_advance_94 : decode cX4_advance 94 = .ok (.invokestatic 145, 3) := by decide +kernel
theorem dX4_advance_97 : decode cX4_advance 97 = .ok (.ifCond .eq 52, 3) := by decide +kernel
theorem dX4_advance_100 : decode cX4_advance 100 = .ok (.aload_n 0, 1) := by decide +kernel
theorem dX4_advance_101 : decode cX4_advance 101 = .ok (.iconst 1, 1) := by decide +kernel
theorem dX4_advance_102 : decode cX4_advance 102 = .ok (.putfield 29, 3) := by decide +kernel
theorem dX4_advance_105 : decode cX4_advance 105 = .ok (.aload_n 0, 1) := by decide +kernel
theorem dX4_advance_106 : decode cX4_advance 106 = .ok (.getfield 18, 3) := by decide +kernel
theorem dX4_advance_109 : decode cX4_advance 109 = .ok (.aload_n 0, 1) := by decide +kernel
theorem dX4_advance_110 : decode cX4_advance 110 = .ok (.getfield 12, 3) := by decide +kernel
theorem dX4_advance_113 : decode cX4_advance 113 = .ok (.getfield 142, 3) := by decide +kernel
theorem dX4_advance_116 : decode cX4_advance 116 = .ok (.if_icmp .ge 81, 3) := by decide +kernel
theorem dX4_advance_119 : decode cX4_advance 119 = .ok (.aload_n 0, 1) := by decide +kernel
theorem dX4_advance_120 : decode cX4_advance 120 = .ok (.getfield 12, 3) := by decide +kernel
theorem dX4_advance_123 : decode cX4_advance 123 = .ok (.aload_n 0, 1) := by decide +kernel
theorem dX4_advance_124 : decode cX4_advance 124 = .ok (.getfield 18, 3) := by decide +kernel
theorem dX4_advance_127 : decode cX4_advance 127 = .ok (.invokevirtual 135, 3) := by decide +kernel
theorem dX4_advance_130 : decode cX4_advance 130 = .ok (.invokestatic 145, 3) := by decide +kernel
theorem dX4_advance_133 : decode cX4_advance 133 = .ok (.ifCond .eq 64, 3) := by decide +kernel
theorem dX4_advance_136 : decode cX4_advance 136 = .ok (.aload_n 0, 1) := by decide +kernel
theorem dX4_advance_137 : decode cX4_advance 137 = .ok (.dup, 1) := by decide +kernel
theorem dX4_advance_138 : decode cX4_advance 138 = .ok (.getfield 18, 3) := by decide +kernel
theorem dX4_advance_141 : decode cX4_advance 141 = .ok (.iconst 1, 1) := by decide +kernel
theorem dX4_advance_142 : decode cX4_advance 142 = .ok (.iadd, 1) := by decide +kernel
theorem dX4_advance_143 : decode cX4_advance 143 = .ok (.putfield 18, 3) := by decide +kernel
theorem dX4_advance_146 : decode cX4_advance 146 = .ok (.goto (-41), 3) := by decide +kernel
theorem dX4_advance_149 : decode cX4_advance 149 = .ok (.iload_n 1, 1) := by decide +kernel
theorem dX4_advance_150 : decode cX4_advance 150 = .ok (.invokestatic 149, 3) := by decide +kernel
theorem dX4_advance_153 : decode cX4_advance 153 = .ok (.ifCond .eq 15, 3) := by decide +kernel
theorem dX4_advance_156 : decode cX4_advance 156 = .ok (.aload_n 0, 1) := by decide +kernel
theorem dX4_advance_157 : decode cX4_advance 157 = .ok (.iconst 2, 1) := by decide +kernel
theorem dX4_advance_158 : decode cX4_advance 158 = .ok (.putfield 29, 3) := by decide +kernel
theorem dX4_advance_161 : decode cX4_advance 161 = .ok (.aload_n 0, 1) := by decide +kernel
theorem dX4_advance_162 : decode cX4_advance 162 = .ok (.invokevirtual 152, 3) := by decide +kernel
theorem dX4_advance_165 : decode cX4_advance 165 = .ok (.goto 32, 3) := by decide +kernel
theorem dX4_advance_168 : decode cX4_advance 168 = .ok (.iload_n 1, 1) := by decide +kernel
theorem dX4_advance_169 : decode cX4_advance 169 = .ok (.bipush 59, 2) := by decide +kernel
theorem dX4_advance_171 : decode cX4_advance 171 = .ok (.if_icmp .ne 11, 3) := by decide +kernel
theorem dX4_advance_174 : decode cX4_advance 174 = .ok (.aload_n 0, 1) := by decide +kernel
theorem dX4_advance_175 : decode cX4_advance 175 = .ok (.iconst 3, 1) := by decide +kernel
theorem dX4_advance_176 : decode cX4_advance 176 = .ok (.putfield 29, 3) := by decide +kernel
theorem dX4_advance_179 : decode cX4_advance 179 = .ok (.goto 18, 3) := by decide +kernel
theorem dX4_advance_182 : decode cX4_advance 182 = .ok (.aload_n 0, 1) := by decide +kernel
theorem dX4_advance_183 : decode cX4_advance 183 = .ok (.iload_n 1, 1) := by decide +kernel
theorem dX4_advance_184 : decode cX4_advance 184 = .ok (.bipush 45, 2) := by decide +kernel
theorem dX4_advance_186 : decode cX4_advance 186 = .ok (.if_icmp .ne 7, 3) := by decide +kernel
theorem dX4_advance_189 : decode cX4_advance 189 = .ok (.iconst 4, 1) := by decide +kernel
theorem dX4_advance_190 : decode cX4_advance 190 = .ok (.goto 4, 3) := by decide +kernel
theorem dX4_advance_193 : decode cX4_advance 193 = .ok (.iconst 5, 1) := by decide +kernel
theorem dX4_advance_194 : decode cX4_advance 194 = .ok (.putfield 29, 3) := by decide +kernel
theorem dX4_advance_197 : decode cX4_advance 197 = .ok (.return_, 1) := by decide +kernel
theorem dX4_takeNumber_0 : decode cX4_takeNumber 0 = .ok (.aload_n 0, 1) := by decide +kernel
theorem dX4_takeNumber_1 : decode cX4_takeNumber 1 = .ok (.aload_n 0, 1) := by decide +kernel
theorem dX4_takeNumber_2 : decode cX4_takeNumber 2 = .ok (.getfield 32, 3) := by decide +kernel
theorem dX4_takeNumber_5 : decode cX4_takeNumber 5 = .ok (.putfield 18, 3) := by decide +kernel
theorem dX4_takeNumber_8 : decode cX4_takeNumber 8 = .ok (.aload_n 0, 1) := by decide +kernel
theorem dX4_takeNumber_9 : decode cX4_takeNumber 9 = .ok (.iconst 0, 1) := by decide +kernel
theorem dX4_takeNumber_10 : decode cX4_takeNumber 10 = .ok (.putfield 78, 3) := by decide +kernel
theorem dX4_takeNumber_13 : decode cX4_takeNumber 13 = .ok (.aload_n 0, 1) := by decide +kernel
theorem dX4_takeNumber_14 : decode cX4_takeNumber 14 = .ok (.getfield 18, 3) := by decide +kernel
theorem dX4_takeNumber_17 : decode cX4_takeNumber 17 = .ok (.aload_n 0, 1) := by decide +kernel
theorem dX4_takeNumber_18 : decode cX4_takeNumber 18 = .ok (.getfield 12, 3) := by decide +kernel
theorem dX4_takeNumber_21 : decode cX4_takeNumber 21 = .ok (.getfield 142, 3) := by decide +kernel
theorem dX4_takeNumber_24 : decode cX4_takeNumber 24 = .ok (.if_icmp .ge 65, 3) := by decide +kernel
theorem dX4_takeNumber_27 : decode cX4_takeNumber 27 = .ok (.aload_n 0, 1) := by decide +kernel
theorem dX4_takeNumber_28 : decode cX4_takeNumber 28 = .ok (.getfield 12, 3) := by decide +kernel
theorem dX4_takeNumber_31 : decode cX4_takeNumber 31 = .ok (.aload_n 0, 1) := by decide +kernel
theorem dX4_takeNumber_32 : decode cX4_takeNumber 32 = .ok (.getfield 18, 3) := by decide +kernel
theorem dX4_takeNumber_35 : decode cX4_takeNumber 35 = .ok (.invokevirtual 135, 3) := by decide +kernel
theorem dX4_takeNumber_38 : decode cX4_takeNumber 38 = .ok (.invokestatic 149, 3) := by decide +kernel
theorem dX4_takeNumber_41 : decode cX4_takeNumber 41 = .ok (.ifCond .eq 48, 3) := by decide +kernel
theorem dX4_takeNumber_44 : decode cX4_takeNumber 44 = .ok (.aload_n 0, 1) := by decide +kernel
theorem dX4_takeNumber_45 : decode cX4_takeNumber 45 = .ok (.sipush 1000, 3) := by decide +kernel
theorem dX4_takeNumber_48 : decode cX4_takeNumber 48 = .ok (.bipush 10, 2) := by decide +kernel
theorem dX4_takeNumber_50 : decode cX4_takeNumber 50 = .ok (.aload_n 0, 1) := by decide +kernel
theorem dX4_takeNumber_51 : decode cX4_takeNumber 51 = .ok (.getfield 78, 3) := by decide +kernel
theorem dX4_takeNumber_54 : decode cX4_takeNumber 54 = .ok (.imul, 1) := by decide +kernel
theorem dX4_takeNumber_55 : decode cX4_takeNumber 55 = .ok (.aload_n 0, 1) := by decide +kernel
theorem dX4_takeNumber_56 : decode cX4_takeNumber 56 = .ok (.getfield 12, 3) := by decide +kernel
theorem dX4_takeNumber_59 : decode cX4_takeNumber 59 = .ok (.aload_n 0, 1) := by decide +kernel
theorem dX4_takeNumber_60 : decode cX4_takeNumber 60 = .ok (.getfield 18, 3) := by decide +kernel
theorem dX4_takeNumber_63 : decode cX4_takeNumber 63 = .ok (.invokevirtual 135, 3) := by decide +kernel
theorem dX4_takeNumber_66 : decode cX4_takeNumber 66 = .ok (.iadd, 1) := by decide +kernel
theorem dX4_takeNumber_67 : decode cX4_takeNumber 67 = .ok (.bipush 48, 2) := by decide +kernel
theorem dX4_takeNumber_69 : decode cX4_takeNumber 69 = .ok (.isub, 1) := by decide +kernel
theorem dX4_takeNumber_70 : decode cX4_takeNumber 70 = .ok (.invokestatic 155, 3) := by decide +kernel
theorem dX4_takeNumber_73 : decode cX4_takeNumber 73 = .ok (.putfield 78, 3) := by decide +kernel
theorem dX4_takeNumber_76 : decode cX4_takeNumber 76 = .ok (.aload_n 0, 1) := by decide +kernel
theorem dX4_takeNumber_77 : decode cX4_takeNumber 77 = .ok (.dup, 1) := by decide +kernel
theorem dX4_takeNumber_78 : decode cX4_takeNumber 78 = .ok (.getfield 18, 3) := by decide +kernel
theorem dX4_takeNumber_81 : decode cX4_takeNumber 81 = .ok (.iconst 1, 1) := by decide +kernel
theorem dX4_takeNumber_82 : decode cX4_takeNumber 82 = .ok (.iadd, 1) := by decide +kernel
theorem dX4_takeNumber_83 : decode cX4_takeNumber 83 = .ok (.putfield 18, 3) := by decide +kernel
theorem dX4_takeNumber_86 : decode cX4_takeNumber 86 = .ok (.goto (-73), 3) := by decide +kernel
theorem dX4_takeNumber_89 : decode cX4_takeNumber 89 = .ok (.return_, 1) := by decide +kernel
theorem dX4_isLetter_0 : decode cX4_isLetter 0 = .ok (.iload_n 0, 1) := by decide +kernel
theorem dX4_isLetter_1 : decode cX4_isLetter 1 = .ok (.bipush 97, 2) := by decide +kernel
theorem dX4_isLetter_3 : decode cX4_isLetter 3 = .ok (.if_icmp .lt 13, 3) := by decide +kernel
theorem dX4_isLetter_6 : decode cX4_isLetter 6 = .ok (.iload_n 0, 1) := by decide +kernel
theorem dX4_isLetter_7 : decode cX4_isLetter 7 = .ok (.bipush 122, 2) := by decide +kernel
theorem dX4_isLetter_9 : decode cX4_isLetter 9 = .ok (.if_icmp .gt 7, 3) := by decide +kernel
theorem dX4_isLetter_12 : decode cX4_isLetter 12 = .ok (.iconst 1, 1) := by decide +kernel
theorem dX4_isLetter_13 : decode cX4_isLetter 13 = .ok (.goto 4, 3) := by decide +kernel
theorem dX4_isLetter_16 : decode cX4_isLetter 16 = .ok (.iconst 0, 1) := by decide +kernel
theorem dX4_isLetter_17 : decode cX4_isLetter 17 = .ok (.ireturn, 1) := by decide +kernel
theorem dX4_isDigit_0 : decode cX4_isDigit 0 = .ok (.iload_n 0, 1) := by decide +kernel
theorem dX4_isDigit_1 : decode cX4_isDigit 1 = .ok (.bipush 48, 2) := by decide +kernel
theorem dX4_isDigit_3 : decode cX4_isDigit 3 = .ok (.if_icmp .lt 13, 3) := by decide +kernel
theorem dX4_isDigit_6 : decode cX4_isDigit 6 = .ok (.iload_n 0, 1) := by decide +kernel
theorem dX4_isDigit_7 : decode cX4_isDigit 7 = .ok (.bipush 57, 2) := by decide +kernel
theorem dX4_isDigit_9 : decode cX4_isDigit 9 = .ok (.if_icmp .gt 7, 3) := by decide +kernel
theorem dX4_isDigit_12 : decode cX4_isDigit 12 = .ok (.iconst 1, 1) := by decide +kernel
theorem dX4_isDigit_13 : decode cX4_isDigit 13 = .ok (.goto 4, 3) := by decide +kernel
theorem dX4_isDigit_16 : decode cX4_isDigit 16 = .ok (.iconst 0, 1) := by decide +kernel
theorem dX4_isDigit_17 : decode cX4_isDigit 17 = .ok (.ireturn, 1) := by decide +kernel
theorem dX5_init_0 : decode cX5_init 0 = .ok (.aload_n 0, 1) := by decide +kernel
theorem dX5_init_1 : decode cX5_init 1 = .ok (.invokespecial 3, 3) := by decide +kernel
theorem dX5_init_4 : decode cX5_init 4 = .ok (.aload_n 0, 1) := by decide +kernel
theorem dX5_init_5 : decode cX5_init 5 = .ok (.bipush 16, 2) := by decide +kernel
theorem dX5_init_7 : decode cX5_init 7 = .ok (.newarray .int, 2) := by decide +kernel
theorem dX5_init_9 : decode cX5_init 9 = .ok (.putfield 9, 3) := by decide +kernel
theorem dX5_init_12 : decode cX5_init 12 = .ok (.aload_n 0, 1) := by decide +kernel
theorem dX5_init_13 : decode cX5_init 13 = .ok (.bipush 16, 2) := by decide +kernel
theorem dX5_init_15 : decode cX5_init 15 = .ok (.newarray .int, 2) := by decide +kernel
theorem dX5_init_17 : decode cX5_init 17 = .ok (.putfield 15, 3) := by decide +kernel
theorem dX5_init_20 : decode cX5_init 20 = .ok (.aload_n 0, 1) := by decide +kernel
theorem dX5_init_21 : decode cX5_init 21 = .ok (.bipush 16, 2) := by decide +kernel
theorem dX5_init_23 : decode cX5_init 23 = .ok (.newarray .int, 2) := by decide +kernel
theorem dX5_init_25 : decode cX5_init 25 = .ok (.putfield 18, 3) := by decide +kernel
theorem dX5_init_28 : decode cX5_init 28 = .ok (.aload_n 0, 1) := by decide +kernel
theorem dX5_init_29 : decode cX5_init 29 = .ok (.bipush 48, 2) := by decide +kernel
theorem dX5_init_31 : decode cX5_init 31 = .ok (.newarray .int, 2) := by decide +kernel
theorem dX5_init_33 : decode cX5_init 33 = .ok (.putfield 21, 3) := by decide +kernel
theorem dX5_init_36 : decode cX5_init 36 = .ok (.aload_n 0, 1) := by decide +kernel
theorem dX5_init_37 : decode cX5_init 37 = .ok (.getfield 21, 3) := by decide +kernel
theorem dX5_init_40 : decode cX5_init 40 = .ok (.iconst (-1), 1) := by decide +kernel
theorem dX5_init_41 : decode cX5_init 41 = .ok (.invokestatic 24, 3) := by decide +kernel
theorem dX5_init_44 : decode cX5_init 44 = .ok (.return_, 1) := by decide +kernel
theorem dX5_copyFrom_0 : decode cX5_copyFrom 0 = .ok (.aload_n 0, 1) := by decide +kernel
theorem dX5_copyFrom_1 : decode cX5_copyFrom 1 = .ok (.aload_n 1, 1) := by decide +kernel
theorem dX5_copyFrom_2 : decode cX5_copyFrom 2 = .ok (.getfield 30, 3) := by decide +kernel
theorem dX5_copyFrom_5 : decode cX5_copyFrom 5 = .ok (.putfield 30, 3) := by decide +kernel
theorem dX5_copyFrom_8 : decode cX5_copyFrom 8 = .ok (.aload_n 1, 1) := by decide +kernel
theorem dX5_copyFrom_9 : decode cX5_copyFrom 9 = .ok (.getfield 9, 3) := by decide +kernel
theorem dX5_copyFrom_12 : decode cX5_copyFrom 12 = .ok (.iconst 0, 1) := by decide +kernel
theorem dX5_copyFrom_13 : decode cX5_copyFrom 13 = .ok (.aload_n 0, 1) := by decide +kernel
theorem dX5_copyFrom_14 : decode cX5_copyFrom 14 = .ok (.getfield 9, 3) := by decide +kernel
theorem dX5_copyFrom_17 : decode cX5_copyFrom 17 = .ok (.iconst 0, 1) := by decide +kernel
theorem dX5_copyFrom_18 : decode cX5_copyFrom 18 = .ok (.bipush 16, 2) := by decide +kernel
theorem dX5_copyFrom_20 : decode cX5_copyFrom 20 = .ok (.invokestatic 34, 3) := by decide +kernel
theorem dX5_copyFrom_23 : decode cX5_copyFrom 23 = .ok (.aload_n 1, 1) := by decide +kernel
theorem dX5_copyFrom_24 : decode cX5_copyFrom 24 = .ok (.getfield 15, 3) := by decide +kernel
theorem dX5_copyFrom_27 : decode cX5_copyFrom 27 = .ok (.iconst 0, 1) := by decide +kernel
theorem dX5_copyFrom_28 : decode cX5_copyFrom 28 = .ok (.aload_n 0, 1) := by decide +kernel
theorem dX5_copyFrom_29 : decode cX5_copyFrom 29 = .ok (.getfield 15, 3) := by decide +kernel
theorem dX5_copyFrom_32 : decode cX5_copyFrom 32 = .ok (.iconst 0, 1) := by decide +kernel
theorem dX5_copyFrom_33 : decode cX5_copyFrom 33 = .ok (.bipush 16, 2) := by decide +kernel
theorem dX5_copyFrom_35 : decode cX5_copyFrom 35 = .ok (.invokestatic 34, 3) := by decide +kernel
theorem dX5_copyFrom_38 : decode cX5_copyFrom 38 = .ok (.aload_n 1, 1) := by decide +kernel
theorem dX5_copyFrom_39 : decode cX5_copyFrom 39 = .ok (.getfield 18, 3) := by decide +kernel
theorem dX5_copyFrom_42 : decode cX5_copyFrom 42 = .ok (.iconst 0, 1) := by decide +kernel
theorem dX5_copyFrom_43 : decode cX5_copyFrom 43 = .ok (.aload_n 0, 1) := by decide +kernel
theorem dX5_copyFrom_44 : decode cX5_copyFrom 44 = .ok (.getfield 18, 3) := by decide +kernel
theorem dX5_copyFrom_47 : decode cX5_copyFrom 47 = .ok (.iconst 0, 1) := by decide +kernel
theorem dX5_copyFrom_48 : decode cX5_copyFrom 48 = .ok (.bipush 16, 2) := by decide +kernel
theorem dX5_copyFrom_50 : decode cX5_copyFrom 50 = .ok (.invokestatic 34, 3) := by decide +kernel
theorem dX5_copyFrom_53 : decode cX5_copyFrom 53 = .ok (.aload_n 1, 1) := by decide +kernel
theorem dX5_copyFrom_54 : decode cX5_copyFrom 54 = .ok (.getfield 21, 3) := by decide +kernel
theorem dX5_copyFrom_57 : decode cX5_copyFrom 57 = .ok (.iconst 0, 1) := by decide +kernel
theorem dX5_copyFrom_58 : decode cX5_copyFrom 58 = .ok (.aload_n 0, 1) := by decide +kernel
theorem dX5_copyFrom_59 : decode cX5_copyFrom 59 = .ok (.getfield 21, 3) := by decide +kernel
theorem dX5_copyFrom_62 : decode cX5_copyFrom 62 = .ok (.iconst 0, 1) := by decide +kernel
theorem dX5_copyFrom_63 : decode cX5_copyFrom 63 = .ok (.bipush 48, 2) := by decide +kernel
theorem dX5_copyFrom_65 : decode cX5_copyFrom 65 = .ok (.invokestatic 34, 3) := by decide +kernel
theorem dX5_copyFrom_68 : decode cX5_copyFrom 68 = .ok (.return_, 1) := by decide +kernel
theorem dX5_isBlock_0 : decode cX5_isBlock 0 = .ok (.iload_n 1, 1) := by decide +kernel
theorem dX5_isBlock_1 : decode cX5_isBlock 1 = .ok (.ifCond .lt 15, 3) := by decide +kernel
theorem dX5_isBlock_4 : decode cX5_isBlock 4 = .ok (.iload_n 1, 1) := by decide +kernel
theorem dX5_isBlock_5 : decode cX5_isBlock 5 = .ok (.aload_n 0, 1) := by decide +kernel
theorem dX5_isBlock_6 : decode cX5_isBlock 6 = .ok (.getfield 30, 3) := by decide +kernel
theorem dX5_isBlock_9 : decode cX5_isBlock 9 = .ok (.if_icmp .ge 7, 3) := by decide +kernel
theorem dX5_isBlock_12 : decode cX5_isBlock 12 = .ok (.iconst 1, 1) := by decide +kernel
theorem dX5_isBlock_13 : decode cX5_isBlock 13 = .ok (.goto 4, 3) := by decide +kernel
theorem dX5_isBlock_16 : decode cX5_isBlock 16 = .ok (.iconst 0, 1) := by decide +kernel
theorem dX5_isBlock_17 : decode cX5_isBlock 17 = .ok (.ireturn, 1) := by decide +kernel
theorem dX5_isFull_0 : decode cX5_isFull 0 = .ok (.aload_n 0, 1) := by decide +kernel
theorem dX5_isFull_1 : decode cX5_isFull 1 = .ok (.getfield 30, 3) := by decide +kernel
theorem dX5_isFull_4 : decode cX5_isFull 4 = .ok (.bipush 16, 2) := by decide +kernel
theorem dX5_isFull_6 : decode cX5_isFull 6 = .ok (.if_icmp .lt 7, 3) := by decide +kernel
theorem dX5_isFull_9 : decode cX5_isFull 9 = .ok (.iconst 1, 1) := by decide +kernel
theorem dX5_isFull_10 : decode cX5_isFull 10 = .ok (.goto 4, 3) := by decide +kernel
theorem dX5_isFull_13 : decode cX5_isFull 13 = .ok (.iconst 0, 1) := by decide +kernel
theorem dX5_isFull_14 : decode cX5_isFull 14 = .ok (.ireturn, 1) := by decide +kernel
theorem dX5_isGone_0 : decode cX5_isGone 0 = .ok (.aload_n 0, 1) := by decide +kernel
theorem dX5_isGone_1 : decode cX5_isGone 1 = .ok (.getfield 15, 3) := by decide +kernel
theorem dX5_isGone_4 : decode cX5_isGone 4 = .ok (.iload_n 1, 1) := by decide +kernel
theorem dX5_isGone_5 : decode cX5_isGone 5 = .ok (.iaload, 1) := by decide +kernel
theorem dX5_isGone_6 : decode cX5_isGone 6 = .ok (.ifCond .ge 7, 3) := by decide +kernel
theorem dX5_isGone_9 : decode cX5_isGone 9 = .ok (.iconst 1, 1) := by decide +kernel
theorem dX5_isGone_10 : decode cX5_isGone 10 = .ok (.goto 4, 3) := by decide +kernel
theorem dX5_isGone_13 : decode cX5_isGone 13 = .ok (.iconst 0, 1) := by decide +kernel
theorem dX5_isGone_14 : decode cX5_isGone 14 = .ok (.ireturn, 1) := by decide +kernel
theorem dX5_blockAt_0 : decode cX5_blockAt 0 = .ok (.iload_n 1, 1) := by decide +kernel
theorem dX5_blockAt_1 : decode cX5_blockAt 1 = .ok (.invokestatic 40, 3) := by decide +kernel
theorem dX5_blockAt_4 : decode cX5_blockAt 4 = .ok (.ifCond .eq 12, 3) := by decide +kernel
theorem dX5_blockAt_7 : decode cX5_blockAt 7 = .ok (.aload_n 0, 1) := by decide +kernel
theorem dX5_blockAt_8 : decode cX5_blockAt 8 = .ok (.getfield 21, 3) := by decide +kernel
theorem dX5_blockAt_11 : decode cX5_blockAt 11 = .ok (.iload_n 1, 1) := by decide +kernel
theorem dX5_blockAt_12 : decode cX5_blockAt 12 = .ok (.iaload, 1) := by decide +kernel
theorem dX5_blockAt_13 : decode cX5_blockAt 13 = .ok (.goto 4, 3) := by decide +kernel
theorem dX5_blockAt_16 : decode cX5_blockAt 16 = .ok (.iconst (-1), 1) := by decide +kernel
theorem dX5_blockAt_17 : decode cX5_blockAt 17 = .ok (.ireturn, 1) := by decide +kernel
theorem dX5_cellBit_0 : decode cX5_cellBit 0 = .ok (.aload_n 0, 1) := by decide +kernel
theorem dX5_cellBit_1 : decode cX5_cellBit 1 = .ok (.getfield 15, 3) := by decide +kernel
theorem dX5_cellBit_4 : decode cX5_cellBit 4 = .ok (.iload_n 1, 1) := by decide +kernel
theorem dX5_cellBit_5 : decode cX5_cellBit 5 = .ok (.iaload, 1) := by decide +kernel
theorem dX5_cellBit_6 : decode cX5_cellBit 6 = .ok (.ifCond .ge 7, 3) := by decide +kernel
theorem dX5_cellBit_9 : decode cX5_cellBit 9 = .ok (.lconst 0, 1) := by decide +kernel
theorem dX5_cellBit_10 : decode cX5_cellBit 10 = .ok (.goto 11, 3) := by decide +kernel
theorem dX5_cellBit_13 : decode cX5_cellBit 13 = .ok (.lconst 1, 1) := by decide +kernel
theorem dX5_cellBit_14 : decode cX5_cellBit 14 = .ok (.aload_n 0, 1) := by decide +kernel
theorem dX5_cellBit_15 : decode cX5_cellBit 15 = .ok (.getfield 15, 3) := by decide +kernel
theorem dX5_cellBit_18 : decode cX5_cellBit 18 = .ok (.iload_n 1, 1) := by decide +kernel
theorem dX5_cellBit_19 : decode cX5_cellBit 19 = .ok (.iaload, 1) := by decide +kernel
theorem dX5_cellBit_20 : decode cX5_cellBit 20 = .ok (.lshl, 1) := by decide +kernel
theorem dX5_cellBit_21 : decode cX5_cellBit 21 = .ok (.lreturn, 1) := by decide +kernel
theorem dX5_build_0 : decode cX5_build 0 = .ok (.aload_n 0, 1) := by decide +kernel
theorem dX5_build_1 : decode cX5_build 1 = .ok (.getfield 30, 3) := by decide +kernel
theorem dX5_build_4 : decode cX5_build 4 = .ok (.istore 4, 2) := by decide +kernel
theorem dX5_build_6 : decode cX5_build 6 = .ok (.aload_n 0, 1) := by decide +kernel
theorem dX5_build_7 : decode cX5_build 7 = .ok (.invokevirtual 44, 3) := by decide +kernel
theorem dX5_build_10 : decode cX5_build 10 = .ok (.ifCond .ne 10, 3) := by decide +kernel
theorem dX5_build_13 : decode cX5_build 13 = .ok (.iload_n 2, 1) := by decide +kernel
theorem dX5_build_14 : decode cX5_build 14 = .ok (.invokestatic 40, 3) := by decide +kernel
theorem dX5_build_17 : decode cX5_build 17 = .ok (.ifCond .ne 5, 3) := by decide +kernel
theorem dX5_build_20 : decode cX5_build 20 = .ok (.iconst (-1), 1) := by decide +kernel
theorem dX5_build_21 : decode cX5_build 21 = .ok (.ireturn, 1) := by decide +kernel
theorem dX5_build_22 : decode cX5_build 22 = .ok (.aload_n 0, 1) := by decide +kernel
theorem dX5_build_23 : decode cX5_build 23 = .ok (.dup, 1) := by decide +kernel
theorem dX5_build_24 : decode cX5_build 24 = .ok (.getfield 30, 3) := by decide +kernel
theorem dX5_build_27 : decode cX5_build 27 = .ok (.iconst 1, 1) := by decide +kernel
theorem dX5_build_28 : decode cX5_build 28 = .ok (.iadd, 1) := by decide +kernel
theorem dX5_build_29 : decode cX5_build 29 = .ok (.putfield 30, 3) := by decide +kernel
theorem dX5_build_32 : decode cX5_build 32 = .ok (.aload_n 0, 1) := by decide +kernel
theorem dX5_build_33 : decode cX5_build 33 = .ok (.getfield 9, 3) := by decide +kernel
theorem dX5_build_36 : decode cX5_build 36 = .ok (.iload 4, 2) := by decide +kernel
theorem dX5_build_38 : decode cX5_build 38 = .ok (.iload_n 1, 1) := by decide +kernel
theorem dX5_build_39 : decode cX5_build 39 = .ok (.iastore, 1) := by decide +kernel
theorem dX5_build_40 : decode cX5_build 40 = .ok (.aload_n 0, 1) := by decide +kernel
theorem dX5_build_41 : decode cX5_build 41 = .ok (.getfield 15, 3) := by decide +kernel
theorem dX5_build_44 : decode cX5_build 44 = .ok (.iload 4, 2) := by decide +kernel
theorem dX5_build_46 : decode cX5_build 46 = .ok (.iload_n 2, 1) := by decide +kernel
theorem dX5_build_47 : decode cX5_build 47 = .ok (.iastore, 1) := by decide +kernel
theorem dX5_build_48 : decode cX5_build 48 = .ok (.aload_n 0, 1) := by decide +kernel
theorem dX5_build_49 : decode cX5_build 49 = .ok (.getfield 18, 3) := by decide +kernel
theorem dX5_build_52 : decode cX5_build 52 = .ok (.iload 4, 2) := by decide +kernel
theorem dX5_build_54 : decode cX5_build 54 = .ok (.iload_n 3, 1) := by decide +kernel
theorem dX5_build_55 : decode cX5_build 55 = .ok (.iastore, 1) := by decide +kernel
theorem dX5_build_56 : decode cX5_build 56 = .ok (.aload_n 0, 1) := by decide +kernel
theorem dX5_build_57 : decode cX5_build 57 = .ok (.getfield 21, 3) := by decide +kernel
theorem dX5_build_60 : decode cX5_build 60 = .ok (.iload_n 2, 1) := by decide +kernel
theorem dX5_build_61 : decode cX5_build 61 = .ok (.iload 4, 2) := by decide +kernel
theorem dX5_build_63 : decode cX5_build 63 = .ok (.iastore, 1) := by decide +kernel
theorem dX5_build_64 : decode cX5_build 64 = .ok (.iload 4, 2) := by decide +kernel
theorem dX5_build_66 : decode cX5_build 66 = .ok (.ireturn, 1) := by decide +kernel
theorem dX5_move_0 : decode cX5_move 0 = .ok (.aload_n 0, 1) := by decide +kernel
theorem dX5_move_1 : decode cX5_move 1 = .ok (.getfield 15, 3) := by decide +kernel
theorem dX5_move_4 : decode cX5_move 4 = .ok (.iload_n 1, 1) := by decide +kernel
theorem dX5_move_5 : decode cX5_move 5 = .ok (.iaload, 1) := by decide +kernel
theorem dX5_move_6 : decode cX5_move 6 = .ok (.istore_n 3, 1) := by decide +kernel
theorem dX5_move_7 : decode cX5_move 7 = .ok (.iload_n 3, 1) := by decide +kernel
theorem dX5_move_8 : decode cX5_move 8 = .ok (.invokestatic 40, 3) := by decide +kernel
theorem dX5_move_11 : decode cX5_move 11 = .ok (.ifCond .eq 31, 3) := by decide +kernel
theorem dX5_move_14 : decode cX5_move 14 = .ok (.iload_n 2, 1) := by decide +kernel
theorem dX5_move_15 : decode cX5_move 15 = .ok (.invokestatic 40, 3) := by decide +kernel
theorem dX5_move_18 : decode cX5_move 18 = .ok (.ifCond .eq 24, 3) := by decide +kernel
theorem dX5_move_21 : decode cX5_move 21 = .ok (.aload_n 0, 1) := by decide +kernel
theorem dX5_move_22 : decode cX5_move 22 = .ok (.getfield 21, 3) := by decide +kernel
theorem dX5_move_25 : decode cX5_move 25 = .ok (.iload_n 3, 1) := by decide +kernel
theorem dX5_move_26 : decode cX5_move 26 = .ok (.iconst (-1), 1) := by decide +kernel
theorem dX5_move_27 : decode cX5_move 27 = .ok (.iastore, 1) := by decide +kernel
theorem dX5_move_28 : decode cX5_move 28 = .ok (.aload_n 0, 1) := by decide +kernel
theorem dX5_move_29 : decode cX5_move 29 = .ok (.getfield 21, 3) := by decide +kernel
theorem dX5_move_32 : decode cX5_move 32 = .ok (.iload_n 2, 1) := by decide +kernel
theorem dX5_move_33 : decode cX5_move 33 = .ok (.iload_n 1, 1) := by decide +kernel
theorem dX5_move_34 : decode cX5_move 34 = .ok (.iastore, 1) := by decide +kernel
theorem dX5_move_35 : decode cX5_move 35 = .ok (.aload_n 0, 1) := by decide +kernel
theorem dX5_move_36 : decode cX5_move 36 = .ok (.getfield 15, 3) := by decide +kernel
theorem dX5_move_39 : decode cX5_move 39 = .ok (.iload_n 1, 1) := by decide +kernel
theorem dX5_move_40 : decode cX5_move 40 = .ok (.iload_n 2, 1) := by decide +kernel
theorem dX5_move_41 : decode cX5_move 41 = .ok (.iastore, 1) := by decide +kernel
theorem dX5_move_42 : decode cX5_move 42 = .ok (.iload_n 3, 1) := by decide +kernel
theorem dX5_move_43 : decode cX5_move 43 = .ok (.ireturn, 1) := by decide +kernel
theorem dX5_thicken_0 : decode cX5_thicken 0 = .ok (.iload_n 2, 1) := by decide +kernel
theorem dX5_thicken_1 : decode cX5_thicken 1 = .ok (.bipush 99, 2) := by decide +kernel
theorem dX5_thicken_3 : decode cX5_thicken 3 = .ok (.aload_n 0, 1) := by decide +kernel
theorem dX5_thicken_4 : decode cX5_thicken 4 = .ok (.getfield 18, 3) := by decide +kernel
theorem dX5_thicken_7 : decode cX5_thicken 7 = .ok (.iload_n 1, 1) := by decide +kernel
theorem dX5_thicken_8 : decode cX5_thicken 8 = .ok (.iaload, 1) := by decide +kernel
theorem dX5_thicken_9 : decode cX5_thicken 9 = .ok (.isub, 1) := by decide +kernel
theorem dX5_thicken_10 : decode cX5_thicken 10 = .ok (.invokestatic 48, 3) := by decide +kernel
theorem dX5_thicken_13 : decode cX5_thicken 13 = .ok (.istore_n 3, 1) := by decide +kernel
theorem dX5_thicken_14 : decode cX5_thicken 14 = .ok (.aload_n 0, 1) := by decide +kernel
theorem dX5_thicken_15 : decode cX5_thicken 15 = .ok (.getfield 18, 3) := by decide +kernel
theorem dX5_thicken_18 : decode cX5_thicken 18 = .ok (.iload_n 1, 1) := by decide +kernel
theorem dX5_thicken_19 : decode cX5_thicken 19 = .ok (.dup2, 1) := by decide +kernel
theorem dX5_thicken_20 : decode cX5_thicken 20 = .ok (.iaload, 1) := by decide +kernel
theorem dX5_thicken_21 : decode cX5_thicken 21 = .ok (.iload_n 3, 1) := by decide +kernel
theorem dX5_thicken_22 : decode cX5_thicken 22 = .ok (.iadd, 1) := by decide +kernel
theorem dX5_thicken_23 : decode cX5_thicken 23 = .ok (.iastore, 1) := by decide +kernel
theorem dX5_thicken_24 : decode cX5_thicken 24 = .ok (.iload_n 3, 1) := by decide +kernel
theorem dX5_thicken_25 : decode cX5_thicken 25 = .ok (.ireturn, 1) := by decide +kernel
theorem dX5_remove_0 : decode cX5_remove 0 = .ok (.aload_n 0, 1) := by decide +kernel
theorem dX5_remove_1 : decode cX5_remove 1 = .ok (.getfield 18, 3) := by decide +kernel
theorem dX5_remove_4 : decode cX5_remove 4 = .ok (.iload_n 1, 1) := by decide +kernel
theorem dX5_remove_5 : decode cX5_remove 5 = .ok (.iaload, 1) := by decide +kernel
theorem dX5_remove_6 : decode cX5_remove 6 = .ok (.istore_n 2, 1) := by decide +kernel
theorem dX5_remove_7 : decode cX5_remove 7 = .ok (.aload_n 0, 1) := by decide +kernel
theorem dX5_remove_8 : decode cX5_remove 8 = .ok (.getfield 15, 3) := by decide +kernel
theorem dX5_remove_11 : decode cX5_remove 11 = .ok (.iload_n 1, 1) := by decide +kernel
theorem dX5_remove_12 : decode cX5_remove 12 = .ok (.iaload, 1) := by decide +kernel
theorem dX5_remove_13 : decode cX5_remove 13 = .ok (.istore_n 3, 1) := by decide +kernel
theorem dX5_remove_14 : decode cX5_remove 14 = .ok (.iload_n 3, 1) := by decide +kernel
theorem dX5_remove_15 : decode cX5_remove 15 = .ok (.invokestatic 40, 3) := by decide +kernel
theorem dX5_remove_18 : decode cX5_remove 18 = .ok (.ifCond .eq 10, 3) := by decide +kernel
theorem dX5_remove_21 : decode cX5_remove 21 = .ok (.aload_n 0, 1) := by decide +kernel
theorem dX5_remove_22 : decode cX5_remove 22 = .ok (.getfield 21, 3) := by decide +kernel
theorem dX5_remove_25 : decode cX5_remove 25 = .ok (.iload_n 3, 1) := by decide +kernel
theorem dX5_remove_26 : decode cX5_remove 26 = .ok (.iconst (-1), 1) := by decide +kernel
theorem dX5_remove_27 : decode cX5_remove 27 = .ok (.iastore, 1) := by decide +kernel
theorem dX5_remove_28 : decode cX5_remove 28 = .ok (.aload_n 0, 1) := by decide +kernel
theorem dX5_remove_29 : decode cX5_remove 29 = .ok (.getfield 15, 3) := by decide +kernel
theorem dX5_remove_32 : decode cX5_remove 32 = .ok (.iload_n 1, 1) := by decide +kernel
theorem dX5_remove_33 : decode cX5_remove 33 = .ok (.iconst (-1), 1) := by decide +kernel
theorem dX5_remove_34 : decode cX5_remove 34 = .ok (.iastore, 1) := by decide +kernel
theorem dX5_remove_35 : decode cX5_remove 35 = .ok (.aload_n 0, 1) := by decide +kernel
theorem dX5_remove_36 : decode cX5_remove 36 = .ok (.getfield 18, 3) := by decide +kernel
theorem dX5_remove_39 : decode cX5_remove 39 = .ok (.iload_n 1, 1) := by decide +kernel
theorem dX5_remove_40 : decode cX5_remove 40 = .ok (.iconst 0, 1) := by decide +kernel
theorem dX5_remove_41 : decode cX5_remove 41 = .ok (.iastore, 1) := by decide +kernel
theorem dX5_remove_42 : decode cX5_remove 42 = .ok (.iload_n 2, 1) := by decide +kernel
theorem dX5_remove_43 : decode cX5_remove 43 = .ok (.ireturn, 1) := by decide +kernel
theorem dX5_allGrains_0 : decode cX5_allGrains 0 = .ok (.iconst 0, 1) := by decide +kernel
theorem dX5_allGrains_1 : decode cX5_allGrains 1 = .ok (.istore_n 1, 1) := by decide +kernel
theorem dX5_allGrains_2 : decode cX5_allGrains 2 = .ok (.iconst 0, 1) := by decide +kernel
theorem dX5_allGrains_3 : decode cX5_allGrains 3 = .ok (.istore_n 2, 1) := by decide +kernel
theorem dX5_allGrains_4 : decode cX5_allGrains 4 = .ok (.iload_n 2, 1) := by decide +kernel
theorem dX5_allGrains_5 : decode cX5_allGrains 5 = .ok (.aload_n 0, 1) := by decide +kernel
theorem dX5_allGrains_6 : decode cX5_allGrains 6 = .ok (.getfield 30, 3) := by decide +kernel
theorem dX5_allGrains_9 : decode cX5_allGrains 9 = .ok (.if_icmp .ge 18, 3) := by decide +kernel
theorem dX5_allGrains_12 : decode cX5_allGrains 12 = .ok (.iload_n 1, 1) := by decide +kernel
theorem dX5_allGrains_13 : decode cX5_allGrains 13 = .ok (.aload_n 0, 1) := by decide +kernel
theorem dX5_allGrains_14 : decode cX5_allGrains 14 = .ok (.getfield 18, 3) := by decide +kernel
theorem dX5_allGrains_17 : decode cX5_allGrains 17 = .ok (.iload_n 2, 1) := by decide +kernel
theorem dX5_allGrains_18 : decode cX5_allGrains 18 = .ok (.iaload, 1) := by decide +kernel
theorem dX5_allGrains_19 : decode cX5_allGrains 19 = .ok (.iadd, 1) := by decide +kernel
theorem dX5_allGrains_20 : decode cX5_allGrains 20 = .ok (.istore_n 1, 1) := by decide +kernel
theorem dX5_allGrains_21 : decode cX5_allGrains 21 = .ok (.iinc 2 1, 3) := by decide +kernel
theorem dX5_allGrains_24 : decode cX5_allGrains 24 = .ok (.goto (-20), 3) := by decide +kernel
theorem dX5_allGrains_27 : decode cX5_allGrains 27 = .ok (.iload_n 1, 1) := by decide +kernel
theorem dX5_allGrains_28 : decode cX5_allGrains 28 = .ok (.ireturn, 1) := by decide +kernel
theorem dX5_goneSet_0 : decode cX5_goneSet 0 = .ok (.iconst 0, 1) := by decide +kernel
theorem dX5_goneSet_1 : decode cX5_goneSet 1 = .ok (.istore_n 1, 1) := by decide +kernel
theorem dX5_goneSet_2 : decode cX5_goneSet 2 = .ok (.iconst 0, 1) := by decide +kernel
theorem dX5_goneSet_3 : decode cX5_goneSet 3 = .ok (.istore_n 2, 1) := by decide +kernel
theorem dX5_goneSet_4 : decode cX5_goneSet 4 = .ok (.iload_n 2, 1) := by decide +kernel
theorem dX5_goneSet_5 : decode cX5_goneSet 5 = .ok (.aload_n 0, 1) := by decide +kernel
theorem dX5_goneSet_6 : decode cX5_goneSet 6 = .ok (.getfield 30, 3) := by decide +kernel
theorem dX5_goneSet_9 : decode cX5_goneSet 9 = .ok (.if_icmp .ge 23, 3) := by decide +kernel
theorem dX5_goneSet_12 : decode cX5_goneSet 12 = .ok (.aload_n 0, 1) := by decide +kernel
theorem dX5_goneSet_13 : decode cX5_goneSet 13 = .ok (.iload_n 2, 1) := by decide +kernel
theorem dX5_goneSet_14 : decode cX5_goneSet 14 = .ok (.invokevirtual 54, 3) := by decide +kernel
theorem dX5_goneSet_17 : decode cX5_goneSet 17 = .ok (.ifCond .eq 9, 3) := by decide +kernel
theorem dX5_goneSet_20 : decode cX5_goneSet 20 = .ok (.iload_n 1, 1) := by decide +kernel
theorem dX5_goneSet_21 : decode cX5_goneSet 21 = .ok (.iconst 1, 1) := by decide +kernel
theorem dX5_goneSet_22 : decode cX5_goneSet 22 = .ok (.iload_n 2, 1) := by decide +kernel
theorem dX5_goneSet_23 : decode cX5_goneSet 23 = .ok (.ishl, 1) := by decide +kernel
theorem dX5_goneSet_24 : decode cX5_goneSet 24 = .ok (.ior, 1) := by decide +kernel
theorem dX5_goneSet_25 : decode cX5_goneSet 25 = .ok (.istore_n 1, 1) := by decide +kernel
theorem dX5_goneSet_26 : decode cX5_goneSet 26 = .ok (.iinc 2 1, 3) := by decide +kernel
theorem dX5_goneSet_29 : decode cX5_goneSet 29 = .ok (.goto (-25), 3) := by decide +kernel
theorem dX5_goneSet_32 : decode cX5_goneSet 32 = .ok (.iload_n 1, 1) := by decide +kernel
theorem dX5_goneSet_33 : decode cX5_goneSet 33 = .ok (.ireturn, 1) := by decide +kernel
theorem dX5_occupied_0 : decode cX5_occupied 0 = .ok (.lconst 0, 1) := by decide +kernel
theorem dX5_occupied_1 : decode cX5_occupied 1 = .ok (.lstore_n 1, 1) := by decide +kernel
theorem dX5_occupied_2 : decode cX5_occupied 2 = .ok (.iconst 0, 1) := by decide +kernel
theorem dX5_occupied_3 : decode cX5_occupied 3 = .ok (.istore_n 3, 1) := by decide +kernel
theorem dX5_occupied_4 : decode cX5_occupied 4 = .ok (.iload_n 3, 1) := by decide +kernel
theorem dX5_occupied_5 : decode cX5_occupied 5 = .ok (.aload_n 0, 1) := by decide +kernel
theorem dX5_occupied_6 : decode cX5_occupied 6 = .ok (.getfield 30, 3) := by decide +kernel
theorem dX5_occupied_9 : decode cX5_occupied 9 = .ok (.if_icmp .ge 17, 3) := by decide +kernel
theorem dX5_occupied_12 : decode cX5_occupied 12 = .ok (.lload_n 1, 1) := by decide +kernel
theorem dX5_occupied_13 : decode cX5_occupied 13 = .ok (.aload_n 0, 1) := by decide +kernel
theorem dX5_occupied_14 : decode cX5_occupied 14 = .ok (.iload_n 3, 1) := by decide +kernel
theorem dX5_occupied_15 : decode cX5_occupied 15 = .ok (.invokevirtual 57, 3) := by decide +kernel
theorem dX5_occupied_18 : decode cX5_occupied 18 = .ok (.lor, 1) := by decide +kernel
theorem dX5_occupied_19 : decode cX5_occupied 19 = .ok (.lstore_n 1, 1) := by decide +kernel
theorem dX5_occupied_20 : decode cX5_occupied 20 = .ok (.iinc 3 1, 3) := by decide +kernel
theorem dX5_occupied_23 : decode cX5_occupied 23 = .ok (.goto (-19), 3) := by decide +kernel
theorem dX5_occupied_26 : decode cX5_occupied 26 = .ok (.lload_n 1, 1) := by decide +kernel
theorem dX5_occupied_27 : decode cX5_occupied 27 = .ok (.lreturn, 1) := by decide +kernel
theorem dX5_standsBy_0 : decode cX5_standsBy 0 = .ok (.aload_n 0, 1) := by decide +kernel
theorem dX5_standsBy_1 : decode cX5_standsBy 1 = .ok (.getfield 15, 3) := by decide +kernel
theorem dX5_standsBy_4 : decode cX5_standsBy 4 = .ok (.iload_n 1, 1) := by decide +kernel
theorem dX5_standsBy_5 : decode cX5_standsBy 5 = .ok (.iaload, 1) := by decide +kernel
theorem dX5_standsBy_6 : decode cX5_standsBy 6 = .ok (.istore 4, 2) := by decide +kernel
theorem dX5_standsBy_8 : decode cX5_standsBy 8 = .ok (.iload 4, 2) := by decide +kernel
theorem dX5_standsBy_10 : decode cX5_standsBy 10 = .ok (.bipush 8, 2) := by decide +kernel
theorem dX5_standsBy_12 : decode cX5_standsBy 12 = .ok (.if_icmp .ge 14, 3) := by decide +kernel
theorem dX5_standsBy_15 : decode cX5_standsBy 15 = .ok (.iload 4, 2) := by decide +kernel
theorem dX5_standsBy_17 : decode cX5_standsBy 17 = .ok (.ifCond .lt 7, 3) := by decide +kernel
theorem dX5_standsBy_20 : decode cX5_standsBy 20 = .ok (.iconst 1, 1) := by decide +kernel
theorem dX5_standsBy_21 : decode cX5_standsBy 21 = .ok (.goto 4, 3) := by decide +kernel
theorem dX5_standsBy_24 : decode cX5_standsBy 24 = .ok (.iconst 0, 1) := by decide +kernel
theorem dX5_standsBy_25 : decode cX5_standsBy 25 = .ok (.ireturn, 1) := by decide +kernel
theorem dX5_standsBy_26 : decode cX5_standsBy 26 = .ok (.lload_n 2, 1) := by decide +kernel
theorem dX5_standsBy_27 : decode cX5_standsBy 27 = .ok (.iload 4, 2) := by decide +kernel
theorem dX5_standsBy_29 : decode cX5_standsBy 29 = .ok (.bipush 8, 2) := by decide +kernel
theorem dX5_standsBy_31 : decode cX5_standsBy 31 = .ok (.isub, 1) := by decide +kernel
theorem dX5_standsBy_32 : decode cX5_standsBy 32 = .ok (.lushr, 1) := by decide +kernel
theorem dX5_standsBy_33 : decode cX5_standsBy 33 = .ok (.lconst 1, 1) := by decide +kernel
theorem dX5_standsBy_34 : decode cX5_standsBy 34 = .ok (.land, 1) := by decide +kernel
theorem dX5_standsBy_35 : decode cX5_standsBy 35 = .ok (.lconst 0, 1) := by decide +kernel
theorem dX5_standsBy_36 : decode cX5_standsBy 36 = .ok (.lcmp, 1) := by decide +kernel
theorem dX5_standsBy_37 : decode cX5_standsBy 37 = .ok (.ifCond .eq 7, 3) := by decide +kernel
theorem dX5_standsBy_40 : decode cX5_standsBy 40 = .ok (.iconst 1, 1) := by decide +kernel
theorem dX5_standsBy_41 : decode cX5_standsBy 41 = .ok (.goto 4, 3) := by decide +kernel
theorem dX5_standsBy_44 : decode cX5_standsBy 44 = .ok (.iconst 0, 1) := by decide +kernel
theorem dX5_standsBy_45 : decode cX5_standsBy 45 = .ok (.istore 5, 2) := by decide +kernel
theorem dX5_standsBy_47 : decode cX5_standsBy 47 = .ok (.iload 4, 2) := by decide +kernel
theorem dX5_standsBy_49 : decode cX5_standsBy 49 = .ok (.bipush 8, 2) := by decide +kernel
theorem dX5_standsBy_51 : decode cX5_standsBy 51 = .ok (.irem, 1) := by decide +kernel
theorem dX5_standsBy_52 : decode cX5_standsBy 52 = .ok (.ifCond .le 20, 3) := by decide +kernel
theorem dX5_standsBy_55 : decode cX5_standsBy 55 = .ok (.lload_n 2, 1) := by decide +kernel
theorem dX5_standsBy_56 : decode cX5_standsBy 56 = .ok (.iload 4, 2) := by decide +kernel
theorem dX5_standsBy_58 : decode cX5_standsBy 58 = .ok (.iconst 1, 1) := by decide +kernel
theorem dX5_standsBy_59 : decode cX5_standsBy 59 = .ok (.isub, 1) := by decide +kernel
theorem dX5_standsBy_60 : decode cX5_standsBy 60 = .ok (.lushr, 1) := by decide +kernel
theorem dX5_standsBy_61 : decode cX5_standsBy 61 = .ok (.lconst 1, 1) := by decide +kernel
theorem dX5_standsBy_62 : decode cX5_standsBy 62 = .ok (.land, 1) := by decide +kernel
theorem dX5_standsBy_63 : decode cX5_standsBy 63 = .ok (.lconst 0, 1) := by decide +kernel
theorem dX5_standsBy_64 : decode cX5_standsBy 64 = .ok (.lcmp, 1) := by decide +kernel
theorem dX5_standsBy_65 : decode cX5_standsBy 65 = .ok (.ifCond .eq 7, 3) := by decide +kernel
theorem dX5_standsBy_68 : decode cX5_standsBy 68 = .ok (.iconst 1, 1) := by decide +kernel
theorem dX5_standsBy_69 : decode cX5_standsBy 69 = .ok (.goto 4, 3) := by decide +kernel
theorem dX5_standsBy_72 : decode cX5_standsBy 72 = .ok (.iconst 0, 1) := by decide +kernel
theorem dX5_standsBy_73 : decode cX5_standsBy 73 = .ok (.istore 6, 2) := by decide +kernel
theorem dX5_standsBy_75 : decode cX5_standsBy 75 = .ok (.iload 4, 2) := by decide +kernel
theorem dX5_standsBy_77 : decode cX5_standsBy 77 = .ok (.bipush 8, 2) := by decide +kernel
theorem dX5_standsBy_79 : decode cX5_standsBy 79 = .ok (.irem, 1) := by decide +kernel
theorem dX5_standsBy_80 : decode cX5_standsBy 80 = .ok (.bipush 7, 2) := by decide +kernel
theorem dX5_standsBy_82 : decode cX5_standsBy 82 = .ok (.if_icmp .ge 20, 3) := by decide +kernel
theorem dX5_standsBy_85 : decode cX5_standsBy 85 = .ok (.lload_n 2, 1) := by decide +kernel
theorem dX5_standsBy_86 : decode cX5_standsBy 86 = .ok (.iload 4, 2) := by decide +kernel
theorem dX5_standsBy_88 : decode cX5_standsBy 88 = .ok (.iconst 1, 1) := by decide +kernel
theorem dX5_standsBy_89 : decode cX5_standsBy 89 = .ok (.iadd, 1) := by decide +kernel
theorem dX5_standsBy_90 : decode cX5_standsBy 90 = .ok (.lushr, 1) := by decide +kernel
theorem dX5_standsBy_91 : decode cX5_standsBy 91 = .ok (.lconst 1, 1) := by decide +kernel
theorem dX5_standsBy_92 : decode cX5_standsBy 92 = .ok (.land, 1) := by decide +kernel
theorem dX5_standsBy_93 : decode cX5_standsBy 93 = .ok (.lconst 0, 1) := by decide +kernel
theorem dX5_standsBy_94 : decode cX5_standsBy 94 = .ok (.lcmp, 1) := by decide +kernel
theorem dX5_standsBy_95 : decode cX5_standsBy 95 = .ok (.ifCond .eq 7, 3) := by decide +kernel
theorem dX5_standsBy_98 : decode cX5_standsBy 98 = .ok (.iconst 1, 1) := by decide +kernel
theorem dX5_standsBy_99 : decode cX5_standsBy 99 = .ok (.goto 4, 3) := by decide +kernel
theorem dX5_standsBy_102 : decode cX5_standsBy 102 = .ok (.iconst 0, 1) := by decide +kernel
theorem dX5_standsBy_103 : decode cX5_standsBy 103 = .ok (.istore 7, 2) := by decide +kernel
theorem dX5_standsBy_105 : decode cX5_standsBy 105 = .ok (.aload_n 0, 1) := by decide +kernel
theorem dX5_standsBy_106 : decode cX5_standsBy 106 = .ok (.getfield 9, 3) := by decide +kernel
theorem dX5_standsBy_109 : decode cX5_standsBy 109 = .ok (.iload_n 1, 1) := by decide +kernel
theorem dX5_standsBy_110 : decode cX5_standsBy 110 = .ok (.iaload, 1) := by decide +kernel
theorem dX5_standsBy_111 : decode cX5_standsBy 111 = .ok (.tableswitch 99 1 6 #[37, 58, 37, 99, 58, 79], 37) := by decide +kernel
theorem dX5_standsBy_148 : decode cX5_standsBy 148 = .ok (.iload 5, 2) := by decide +kernel
theorem dX5_standsBy_150 : decode cX5_standsBy 150 = .ok (.ifCond .ne 13, 3) := by decide +kernel
theorem dX5_standsBy_153 : decode cX5_standsBy 153 = .ok (.iload 6, 2) := by decide +kernel
theorem dX5_standsBy_155 : decode cX5_standsBy 155 = .ok (.ifCond .eq 12, 3) := by decide +kernel
theorem dX5_standsBy_158 : decode cX5_standsBy 158 = .ok (.iload 7, 2) := by decide +kernel
theorem dX5_standsBy_160 : decode cX5_standsBy 160 = .ok (.ifCond .eq 7, 3) := by decide +kernel
theorem dX5_standsBy_163 : decode cX5_standsBy 163 = .ok (.iconst 1, 1) := by decide +kernel
theorem dX5_standsBy_164 : decode cX5_standsBy 164 = .ok (.goto 4, 3) := by decide +kernel
theorem dX5_standsBy_167 : decode cX5_standsBy 167 = .ok (.iconst 0, 1) := by decide +kernel
theorem dX5_standsBy_168 : decode cX5_standsBy 168 = .ok (.ireturn, 1) := by decide +kernel
theorem dX5_standsBy_169 : decode cX5_standsBy 169 = .ok (.iload 5, 2) := by decide +kernel
theorem dX5_standsBy_171 : decode cX5_standsBy 171 = .ok (.ifCond .ne 13, 3) := by decide +kernel
theorem dX5_standsBy_174 : decode cX5_standsBy 174 = .ok (.iload 6, 2) := by decide +kernel
theorem dX5_standsBy_176 : decode cX5_standsBy 176 = .ok (.ifCond .ne 8, 3) := by decide +kernel
theorem dX5_standsBy_179 : decode cX5_standsBy 179 = .ok (.iload 7, 2) := by decide +kernel
theorem dX5_standsBy_181 : decode cX5_standsBy 181 = .ok (.ifCond .eq 7, 3) := by decide +kernel
theorem dX5_standsBy_184 : decode cX5_standsBy 184 = .ok (.iconst 1, 1) := by decide +kernel
theorem dX5_standsBy_185 : decode cX5_standsBy 185 = .ok (.goto 4, 3) := by decide +kernel
theorem dX5_standsBy_188 : decode cX5_standsBy 188 = .ok (.iconst 0, 1) := by decide +kernel
theorem dX5_standsBy_189 : decode cX5_standsBy 189 = .ok (.ireturn, 1) := by decide +kernel
theorem dX5_standsBy_190 : decode cX5_standsBy 190 = .ok (.lload_n 2, 1) := by decide +kernel
theorem dX5_standsBy_191 : decode cX5_standsBy 191 = .ok (.iload 4, 2) := by decide +kernel
theorem dX5_standsBy_193 : decode cX5_standsBy 193 = .ok (.bipush 8, 2) := by decide +kernel
theorem dX5_standsBy_195 : decode cX5_standsBy 195 = .ok (.iadd, 1) := by decide +kernel
theorem dX5_standsBy_196 : decode cX5_standsBy 196 = .ok (.lushr, 1) := by decide +kernel
theorem dX5_standsBy_197 : decode cX5_standsBy 197 = .ok (.lconst 1, 1) := by decide +kernel
theorem dX5_standsBy_198 : decode cX5_standsBy 198 = .ok (.land, 1) := by decide +kernel
theorem dX5_standsBy_199 : decode cX5_standsBy 199 = .ok (.lconst 0, 1) := by decide +kernel
theorem dX5_standsBy_200 : decode cX5_standsBy 200 = .ok (.lcmp, 1) := by decide +kernel
theorem dX5_standsBy_201 : decode cX5_standsBy 201 = .ok (.ifCond .eq 7, 3) := by decide +kernel
theorem dX5_standsBy_204 : decode cX5_standsBy 204 = .ok (.iconst 1, 1) := by decide +kernel
theorem dX5_standsBy_205 : decode cX5_standsBy 205 = .ok (.goto 4, 3) := by decide +kernel
theorem dX5_standsBy_208 : decode cX5_standsBy 208 = .ok (.iconst 0, 1) := by decide +kernel
theorem dX5_standsBy_209 : decode cX5_standsBy 209 = .ok (.ireturn, 1) := by decide +kernel
theorem dX5_standsBy_210 : decode cX5_standsBy 210 = .ok (.iload 5, 2) := by decide +kernel
theorem dX5_standsBy_212 : decode cX5_standsBy 212 = .ok (.ireturn, 1) := by decide +kernel
theorem dX5_standing_0 : decode cX5_standing 0 = .ok (.lconst 0, 1) := by decide +kernel
theorem dX5_standing_1 : decode cX5_standing 1 = .ok (.lstore_n 1, 1) := by decide +kernel
theorem dX5_standing_2 : decode cX5_standing 2 = .ok (.iconst 0, 1) := by decide +kernel
theorem dX5_standing_3 : decode cX5_standing 3 = .ok (.istore_n 3, 1) := by decide +kernel
theorem dX5_standing_4 : decode cX5_standing 4 = .ok (.iload_n 3, 1) := by decide +kernel
theorem dX5_standing_5 : decode cX5_standing 5 = .ok (.bipush 16, 2) := by decide +kernel
theorem dX5_standing_7 : decode cX5_standing 7 = .ok (.if_icmp .gt 59, 3) := by decide +kernel
theorem dX5_standing_10 : decode cX5_standing 10 = .ok (.lload_n 1, 1) := by decide +kernel
theorem dX5_standing_11 : decode cX5_standing 11 = .ok (.lstore 4, 2) := by decide +kernel
theorem dX5_standing_13 : decode cX5_standing 13 = .ok (.iconst 0, 1) := by decide +kernel
theorem dX5_standing_14 : decode cX5_standing 14 = .ok (.istore 6, 2) := by decide +kernel
theorem dX5_standing_16 : decode cX5_standing 16 = .ok (.iload 6, 2) := by decide +kernel
theorem dX5_standing_18 : decode cX5_standing 18 = .ok (.aload_n 0, 1) := by decide +kernel
theorem dX5_standing_19 : decode cX5_standing 19 = .ok (.getfield 30, 3) := by decide +kernel
theorem dX5_standing_22 : decode cX5_standing 22 = .ok (.if_icmp .ge 28, 3) := by decide +kernel
theorem dX5_standing_25 : decode cX5_standing 25 = .ok (.aload_n 0, 1) := by decide +kernel
theorem dX5_standing_26 : decode cX5_standing 26 = .ok (.iload 6, 2) := by decide +kernel
theorem dX5_standing_28 : decode cX5_standing 28 = .ok (.lload_n 1, 1) := by decide +kernel
theorem dX5_standing_29 : decode cX5_standing 29 = .ok (.invokevirtual 61, 3) := by decide +kernel
theorem dX5_standing_32 : decode cX5_standing 32 = .ok (.ifCond .eq 12, 3) := by decide +kernel
theorem dX5_standing_35 : decode cX5_standing 35 = .ok (.lload_n 1, 1) := by decide +kernel
theorem dX5_standing_36 : decode cX5_standing 36 = .ok (.aload_n 0, 1) := by decide +kernel
theorem dX5_standing_37 : decode cX5_standing 37 = .ok (.iload 6, 2) := by decide +kernel
theorem dX5_standing_39 : decode cX5_standing 39 = .ok (.invokevirtual 57, 3) := by decide +kernel
theorem dX5_standing_42 : decode cX5_standing 42 = .ok (.lor, 1) := by decide +kernel
theorem dX5_standing_43 : decode cX5_standing 43 = .ok (.lstore_n 1, 1) := by decide +kernel
theorem dX5_standing_44 : decode cX5_standing 44 = .ok (.iinc 6 1, 3) := by decide +kernel
theorem dX5_standing_47 : decode cX5_standing 47 = .ok (.goto (-31), 3) := by decide +kernel
theorem dX5_standing_50 : decode cX5_standing 50 = .ok (.lload_n 1, 1) := by decide +kernel
theorem dX5_standing_51 : decode cX5_standing 51 = .ok (.lload 4, 2) := by decide +kernel
theorem dX5_standing_53 : decode cX5_standing 53 = .ok (.lcmp, 1) := by decide +kernel
theorem dX5_standing_54 : decode cX5_standing 54 = .ok (.ifCond .ne 6, 3) := by decide +kernel
theorem dX5_standing_57 : decode cX5_standing 57 = .ok (.goto 9, 3) := by decide +kernel
theorem dX5_standing_60 : decode cX5_standing 60 = .ok (.iinc 3 1, 3) := by decide +kernel
theorem dX5_standing_63 : decode cX5_standing 63 = .ok (.goto (-59), 3) := by decide +kernel
theorem dX5_standing_66 : decode cX5_standing 66 = .ok (.lload_n 1, 1) := by decide +kernel
theorem dX5_standing_67 : decode cX5_standing 67 = .ok (.lreturn, 1) := by decide +kernel
theorem dX5_looseSet_0 : decode cX5_looseSet 0 = .ok (.aload_n 0, 1) := by decide +kernel
theorem dX5_looseSet_1 : decode cX5_looseSet 1 = .ok (.invokevirtual 65, 3) := by decide +kernel
theorem dX5_looseSet_4 : decode cX5_looseSet 4 = .ok (.lstore_n 1, 1) := by decide +kernel
theorem dX5_looseSet_5 : decode cX5_looseSet 5 = .ok (.iconst 0, 1) := by decide +kernel
theorem dX5_looseSet_6 : decode cX5_looseSet 6 = .ok (.istore_n 3, 1) := by decide +kernel
theorem dX5_looseSet_7 : decode cX5_looseSet 7 = .ok (.iconst 0, 1) := by decide +kernel
theorem dX5_looseSet_8 : decode cX5_looseSet 8 = .ok (.istore 4, 2) := by decide +kernel
theorem dX5_looseSet_10 : decode cX5_looseSet 10 = .ok (.iload 4, 2) := by decide +kernel
theorem dX5_looseSet_12 : decode cX5_looseSet 12 = .ok (.aload_n 0, 1) := by decide +kernel
theorem dX5_looseSet_13 : decode cX5_looseSet 13 = .ok (.getfield 30, 3) := by decide +kernel
theorem dX5_looseSet_16 : decode cX5_looseSet 16 = .ok (.if_icmp .ge 38, 3) := by decide +kernel
theorem dX5_looseSet_19 : decode cX5_looseSet 19 = .ok (.aload_n 0, 1) := by decide +kernel
theorem dX5_looseSet_20 : decode cX5_looseSet 20 = .ok (.iload 4, 2) := by decide +kernel
theorem dX5_looseSet_22 : decode cX5_looseSet 22 = .ok (.invokevirtual 54, 3) := by decide +kernel
theorem dX5_looseSet_25 : decode cX5_looseSet 25 = .ok (.ifCond .ne 23, 3) := by decide +kernel
theorem dX5_looseSet_28 : decode cX5_looseSet 28 = .ok (.lload_n 1, 1) := by decide +kernel
theorem dX5_looseSet_29 : decode cX5_looseSet 29 = .ok (.aload_n 0, 1) := by decide +kernel
theorem dX5_looseSet_30 : decode cX5_looseSet 30 = .ok (.iload 4, 2) := by decide +kernel
theorem dX5_looseSet_32 : decode cX5_looseSet 32 = .ok (.invokevirtual 57, 3) := by decide +kernel
theorem dX5_looseSet_35 : decode cX5_looseSet 35 = .ok (.land, 1) := by decide +kernel
theorem dX5_looseSet_36 : decode cX5_looseSet 36 = .ok (.lconst 0, 1) := by decide +kernel
theorem dX5_looseSet_37 : decode cX5_looseSet 37 = .ok (.lcmp, 1) := by decide +kernel
theorem dX5_looseSet_38 : decode cX5_looseSet 38 = .ok (.ifCond .ne 10, 3) := by decide +kernel
theorem dX5_looseSet_41 : decode cX5_looseSet 41 = .ok (.iload_n 3, 1) := by decide +kernel
theorem dX5_looseSet_42 : decode cX5_looseSet 42 = .ok (.iconst 1, 1) := by decide +kernel
theorem dX5_looseSet_43 : decode cX5_looseSet 43 = .ok (.iload 4, 2) := by decide +kernel
theorem dX5_looseSet_45 : decode cX5_looseSet 45 = .ok (.ishl, 1) := by decide +kernel
theorem dX5_looseSet_46 : decode cX5_looseSet 46 = .ok (.ior, 1) := by decide +kernel
theorem dX5_looseSet_47 : decode cX5_looseSet 47 = .ok (.istore_n 3, 1) := by decide +kernel
theorem dX5_looseSet_48 : decode cX5_looseSet 48 = .ok (.iinc 4 1, 3) := by decide +kernel
theorem dX5_looseSet_51 : decode cX5_looseSet 51 = .ok (.goto (-41), 3) := by decide +kernel
theorem dX5_looseSet_54 : decode cX5_looseSet 54 = .ok (.iload_n 3, 1) := by decide +kernel
theorem dX5_looseSet_55 : decode cX5_looseSet 55 = .ok (.ireturn, 1) := by decide +kernel
theorem dX5_weakSet_0 : decode cX5_weakSet 0 = .ok (.iconst 0, 1) := by decide +kernel
theorem dX5_weakSet_1 : decode cX5_weakSet 1 = .ok (.istore_n 1, 1) := by decide +kernel
theorem dX5_weakSet_2 : decode cX5_weakSet 2 = .ok (.iconst 0, 1) := by decide +kernel
theorem dX5_weakSet_3 : decode cX5_weakSet 3 = .ok (.istore_n 2, 1) := by decide +kernel
theorem dX5_weakSet_4 : decode cX5_weakSet 4 = .ok (.iload_n 2, 1) := by decide +kernel
theorem dX5_weakSet_5 : decode cX5_weakSet 5 = .ok (.aload_n 0, 1) := by decide +kernel
theorem dX5_weakSet_6 : decode cX5_weakSet 6 = .ok (.getfield 30, 3) := by decide +kernel
theorem dX5_weakSet_9 : decode cX5_weakSet 9 = .ok (.if_icmp .ge 28, 3) := by decide +kernel
theorem dX5_weakSet_12 : decode cX5_weakSet 12 = .ok (.aload_n 0, 1) := by decide +kernel
theorem dX5_weakSet_13 : decode cX5_weakSet 13 = .ok (.iload_n 2, 1) := by decide +kernel
theorem dX5_weakSet_14 : decode cX5_weakSet 14 = .ok (.invokevirtual 69, 3) := by decide +kernel
theorem dX5_weakSet_17 : decode cX5_weakSet 17 = .ok (.aload_n 0, 1) := by decide +kernel
theorem dX5_weakSet_18 : decode cX5_weakSet 18 = .ok (.iload_n 2, 1) := by decide +kernel
theorem dX5_weakSet_19 : decode cX5_weakSet 19 = .ok (.invokevirtual 73, 3) := by decide +kernel
theorem dX5_weakSet_22 : decode cX5_weakSet 22 = .ok (.if_icmp .le 9, 3) := by decide +kernel
theorem dX5_weakSet_25 : decode cX5_weakSet 25 = .ok (.iload_n 1, 1) := by decide +kernel
theorem dX5_weakSet_26 : decode cX5_weakSet 26 = .ok (.iconst 1, 1) := by decide +kernel
theorem dX5_weakSet_27 : decode cX5_weakSet 27 = .ok (.iload_n 2, 1) := by decide +kernel
theorem dX5_weakSet_28 : decode cX5_weakSet 28 = .ok (.ishl, 1) := by decide +kernel
theorem dX5_weakSet_29 : decode cX5_weakSet 29 = .ok (.ior, 1) := by decide +kernel
theorem dX5_weakSet_30 : decode cX5_weakSet 30 = .ok (.istore_n 1, 1) := by decide +kernel
theorem dX5_weakSet_31 : decode cX5_weakSet 31 = .ok (.iinc 2 1, 3) := by decide +kernel
theorem dX5_weakSet_34 : decode cX5_weakSet 34 = .ok (.goto (-30), 3) := by decide +kernel
theorem dX5_weakSet_37 : decode cX5_weakSet 37 = .ok (.iload_n 1, 1) := by decide +kernel
theorem dX5_weakSet_38 : decode cX5_weakSet 38 = .ok (.ireturn, 1) := by decide +kernel
theorem dX5_shakenSet_0 : decode cX5_shakenSet 0 = .ok (.iconst 0, 1) := by decide +kernel
theorem dX5_shakenSet_1 : decode cX5_shakenSet 1 = .ok (.istore_n 2, 1) := by decide +kernel
theorem dX5_shakenSet_2 : decode cX5_shakenSet 2 = .ok (.iconst 0, 1) := by decide +kernel
theorem dX5_shakenSet_3 : decode cX5_shakenSet 3 = .ok (.istore_n 3, 1) := by decide +kernel
theorem dX5_shakenSet_4 : decode cX5_shakenSet 4 = .ok (.iload_n 3, 1) := by decide +kernel
theorem dX5_shakenSet_5 : decode cX5_shakenSet 5 = .ok (.aload_n 0, 1) := by decide +kernel
theorem dX5_shakenSet_6 : decode cX5_shakenSet 6 = .ok (.getfield 30, 3) := by decide +kernel
theorem dX5_shakenSet_9 : decode cX5_shakenSet 9 = .ok (.if_icmp .ge 38, 3) := by decide +kernel
theorem dX5_shakenSet_12 : decode cX5_shakenSet 12 = .ok (.aload_n 0, 1) := by decide +kernel
theorem dX5_shakenSet_13 : decode cX5_shakenSet 13 = .ok (.iload_n 3, 1) := by decide +kernel
theorem dX5_shakenSet_14 : decode cX5_shakenSet 14 = .ok (.invokevirtual 54, 3) := by decide +kernel
theorem dX5_shakenSet_17 : decode cX5_shakenSet 17 = .ok (.ifCond .ne 24, 3) := by decide +kernel
theorem dX5_shakenSet_20 : decode cX5_shakenSet 20 = .ok (.iload_n 1, 1) := by decide +kernel
theorem dX5_shakenSet_21 : decode cX5_shakenSet 21 = .ok (.ifCond .le 20, 3) := by decide +kernel
theorem dX5_shakenSet_24 : decode cX5_shakenSet 24 = .ok (.aload_n 0, 1) := by decide +kernel
theorem dX5_shakenSet_25 : decode cX5_shakenSet 25 = .ok (.getfield 18, 3) := by decide +kernel
theorem dX5_shakenSet_28 : decode cX5_shakenSet 28 = .ok (.iload_n 3, 1) := by decide +kernel
theorem dX5_shakenSet_29 : decode cX5_shakenSet 29 = .ok (.iaload, 1) := by decide +kernel
theorem dX5_shakenSet_30 : decode cX5_shakenSet 30 = .ok (.iload_n 1, 1) := by decide +kernel
theorem dX5_shakenSet_31 : decode cX5_shakenSet 31 = .ok (.irem, 1) := by decide +kernel
theorem dX5_shakenSet_32 : decode cX5_shakenSet 32 = .ok (.ifCond .ne 9, 3) := by decide +kernel
theorem dX5_shakenSet_35 : decode cX5_shakenSet 35 = .ok (.iload_n 2, 1) := by decide +kernel
theorem dX5_shakenSet_36 : decode cX5_shakenSet 36 = .ok (.iconst 1, 1) := by decide +kernel
theorem dX5_shakenSet_37 : decode cX5_shakenSet 37 = .ok (.iload_n 3, 1) := by decide +kernel
theorem dX5_shakenSet_38 : decode cX5_shakenSet 38 = .ok (.ishl, 1) := by decide +kernel
theorem dX5_shakenSet_39 : decode cX5_shakenSet 39 = .ok (.ior, 1) := by decide +kernel
theorem dX5_shakenSet_40 : decode cX5_shakenSet 40 = .ok (.istore_n 2, 1) := by decide +kernel
theorem dX5_shakenSet_41 : decode cX5_shakenSet 41 = .ok (.iinc 3 1, 3) := by decide +kernel
theorem dX5_shakenSet_44 : decode cX5_shakenSet 44 = .ok (.goto (-40), 3) := by decide +kernel
theorem dX5_shakenSet_47 : decode cX5_shakenSet 47 = .ok (.iload_n 2, 1) := by decide +kernel
theorem dX5_shakenSet_48 : decode cX5_shakenSet 48 = .ok (.ireturn, 1) := by decide +kernel
theorem dX5_loadOf_0 : decode cX5_loadOf 0 = .ok (.aload_n 0, 1) := by decide +kernel
theorem dX5_loadOf_1 : decode cX5_loadOf 1 = .ok (.iload_n 1, 1) := by decide +kernel
theorem dX5_loadOf_2 : decode cX5_loadOf 2 = .ok (.invokevirtual 54, 3) := by decide +kernel
theorem dX5_loadOf_5 : decode cX5_loadOf 5 = .ok (.ifCond .eq 5, 3) := by decide +kernel
theorem dX5_loadOf_8 : decode cX5_loadOf 8 = .ok (.iconst 0, 1) := by decide +kernel
theorem dX5_loadOf_9 : decode cX5_loadOf 9 = .ok (.ireturn, 1) := by decide +kernel
theorem dX5_loadOf_10 : decode cX5_loadOf 10 = .ok (.iconst 0, 1) := by decide +kernel
theorem dX5_loadOf_11 : decode cX5_loadOf 11 = .ok (.istore_n 2, 1) := by decide +kernel
theorem dX5_loadOf_12 : decode cX5_loadOf 12 = .ok (.aload_n 0, 1) := by decide +kernel
theorem dX5_loadOf_13 : decode cX5_loadOf 13 = .ok (.getfield 15, 3) := by decide +kernel
theorem dX5_loadOf_16 : decode cX5_loadOf 16 = .ok (.iload_n 1, 1) := by decide +kernel
theorem dX5_loadOf_17 : decode cX5_loadOf 17 = .ok (.iaload, 1) := by decide +kernel
theorem dX5_loadOf_18 : decode cX5_loadOf 18 = .ok (.bipush 8, 2) := by decide +kernel
theorem dX5_loadOf_20 : decode cX5_loadOf 20 = .ok (.iadd, 1) := by decide +kernel
theorem dX5_loadOf_21 : decode cX5_loadOf 21 = .ok (.istore_n 3, 1) := by decide +kernel
theorem dX5_loadOf_22 : decode cX5_loadOf 22 = .ok (.iload_n 3, 1) := by decide +kernel
theorem dX5_loadOf_23 : decode cX5_loadOf 23 = .ok (.bipush 48, 2) := by decide +kernel
theorem dX5_loadOf_25 : decode cX5_loadOf 25 = .ok (.if_icmp .ge 35, 3) := by decide +kernel
theorem dX5_loadOf_28 : decode cX5_loadOf 28 = .ok (.aload_n 0, 1) := by decide +kernel
theorem dX5_loadOf_29 : decode cX5_loadOf 29 = .ok (.getfield 21, 3) := by decide +kernel
theorem dX5_loadOf_32 : decode cX5_loadOf 32 = .ok (.iload_n 3, 1) := by decide +kernel
theorem dX5_loadOf_33 : decode cX5_loadOf 33 = .ok (.iaload, 1) := by decide +kernel
theorem dX5_loadOf_34 : decode cX5_loadOf 34 = .ok (.istore 4, 2) := by decide +kernel
theorem dX5_loadOf_36 : decode cX5_loadOf 36 = .ok (.iload 4, 2) := by decide +kernel
theorem dX5_loadOf_38 : decode cX5_loadOf 38 = .ok (.ifCond .ge 6, 3) := by decide +kernel
theorem dX5_loadOf_41 : decode cX5_loadOf 41 = .ok (.goto 19, 3) := by decide +kernel
theorem dX5_loadOf_44 : decode cX5_loadOf 44 = .ok (.iload_n 2, 1) := by decide +kernel
theorem dX5_loadOf_45 : decode cX5_loadOf 45 = .ok (.aload_n 0, 1) := by decide +kernel
theorem dX5_loadOf_46 : decode cX5_loadOf 46 = .ok (.getfield 18, 3) := by decide +kernel
theorem dX5_loadOf_49 : decode cX5_loadOf 49 = .ok (.iload 4, 2) := by decide +kernel
theorem dX5_loadOf_51 : decode cX5_loadOf 51 = .ok (.iaload, 1) := by decide +kernel
theorem dX5_loadOf_52 : decode cX5_loadOf 52 = .ok (.iadd, 1) := by decide +kernel
theorem dX5_loadOf_53 : decode cX5_loadOf 53 = .ok (.istore_n 2, 1) := by decide +kernel
theorem dX5_loadOf_54 : decode cX5_loadOf 54 = .ok (.iinc 3 8, 3) := by decide +kernel
theorem dX5_loadOf_57 : decode cX5_loadOf 57 = .ok (.goto (-35), 3) := by decide +kernel
theorem dX5_loadOf_60 : decode cX5_loadOf 60 = .ok (.iload_n 2, 1) := by decide +kernel
theorem dX5_loadOf_61 : decode cX5_loadOf 61 = .ok (.ireturn, 1) := by decide +kernel
theorem dX5_strengthOf_0 : decode cX5_strengthOf 0 = .ok (.aload_n 0, 1) := by decide +kernel
theorem dX5_strengthOf_1 : decode cX5_strengthOf 1 = .ok (.iload_n 1, 1) := by decide +kernel
theorem dX5_strengthOf_2 : decode cX5_strengthOf 2 = .ok (.invokevirtual 54, 3) := by decide +kernel
theorem dX5_strengthOf_5 : decode cX5_strengthOf 5 = .ok (.ifCond .eq 5, 3) := by decide +kernel
theorem dX5_strengthOf_8 : decode cX5_strengthOf 8 = .ok (.iconst 0, 1) := by decide +kernel
theorem dX5_strengthOf_9 : decode cX5_strengthOf 9 = .ok (.ireturn, 1) := by decide +kernel
theorem dX5_strengthOf_10 : decode cX5_strengthOf 10 = .ok (.iconst 4, 1) := by decide +kernel
theorem dX5_strengthOf_11 : decode cX5_strengthOf 11 = .ok (.aload_n 0, 1) := by decide +kernel
theorem dX5_strengthOf_12 : decode cX5_strengthOf 12 = .ok (.getfield 18, 3) := by decide +kernel
theorem dX5_strengthOf_15 : decode cX5_strengthOf 15 = .ok (.iload_n 1, 1) := by decide +kernel
theorem dX5_strengthOf_16 : decode cX5_strengthOf 16 = .ok (.iaload, 1) := by decide +kernel
theorem dX5_strengthOf_17 : decode cX5_strengthOf 17 = .ok (.imul, 1) := by decide +kernel
theorem dX5_strengthOf_18 : decode cX5_strengthOf 18 = .ok (.istore_n 2, 1) := by decide +kernel
theorem dX5_strengthOf_19 : decode cX5_strengthOf 19 = .ok (.aload_n 0, 1) := by decide +kernel
theorem dX5_strengthOf_20 : decode cX5_strengthOf 20 = .ok (.getfield 9, 3) := by decide +kernel
theorem dX5_strengthOf_23 : decode cX5_strengthOf 23 = .ok (.iload_n 1, 1) := by decide +kernel
theorem dX5_strengthOf_24 : decode cX5_strengthOf 24 = .ok (.iaload, 1) := by decide +kernel
theorem dX5_strengthOf_25 : decode cX5_strengthOf 25 = .ok (.tableswitch 40 3 5 #[27, 32, 36], 27) := by decide +kernel
theorem dX5_strengthOf_52 : decode cX5_strengthOf 52 = .ok (.iload_n 2, 1) := by decide +kernel
theorem dX5_strengthOf_53 : decode cX5_strengthOf 53 = .ok (.bipush 20, 2) := by decide +kernel
theorem dX5_strengthOf_55 : decode cX5_strengthOf 55 = .ok (.iadd, 1) := by decide +kernel
theorem dX5_strengthOf_56 : decode cX5_strengthOf 56 = .ok (.ireturn, 1) := by decide +kernel
theorem dX5_strengthOf_57 : decode cX5_strengthOf 57 = .ok (.iconst 3, 1) := by decide +kernel
theorem dX5_strengthOf_58 : decode cX5_strengthOf 58 = .ok (.iload_n 2, 1) := by decide +kernel
theorem dX5_strengthOf_59 : decode cX5_strengthOf 59 = .ok (.imul, 1) := by decide +kernel
theorem dX5_strengthOf_60 : decode cX5_strengthOf 60 = .ok (.ireturn, 1) := by decide +kernel
theorem dX5_strengthOf_61 : decode cX5_strengthOf 61 = .ok (.iconst 2, 1) := by decide +kernel
theorem dX5_strengthOf_62 : decode cX5_strengthOf 62 = .ok (.iload_n 2, 1) := by decide +kernel
theorem dX5_strengthOf_63 : decode cX5_strengthOf 63 = .ok (.imul, 1) := by decide +kernel
theorem dX5_strengthOf_64 : decode cX5_strengthOf 64 = .ok (.ireturn, 1) := by decide +kernel
theorem dX5_strengthOf_65 : decode cX5_strengthOf 65 = .ok (.iload_n 2, 1) := by decide +kernel
theorem dX5_strengthOf_66 : decode cX5_strengthOf 66 = .ok (.ireturn, 1) := by decide +kernel
theorem dX5_isComer_0 : decode cX5_isComer 0 = .ok (.lload_n 2, 1) := by decide +kernel
theorem dX5_isComer_1 : decode cX5_isComer 1 = .ok (.aload_n 0, 1) := by decide +kernel
theorem dX5_isComer_2 : decode cX5_isComer 2 = .ok (.iload_n 1, 1) := by decide +kernel
theorem dX5_isComer_3 : decode cX5_isComer 3 = .ok (.invokevirtual 57, 3) := by decide +kernel
theorem dX5_isComer_6 : decode cX5_isComer 6 = .ok (.land, 1) := by decide +kernel
theorem dX5_isComer_7 : decode cX5_isComer 7 = .ok (.lconst 0, 1) := by decide +kernel
theorem dX5_isComer_8 : decode cX5_isComer 8 = .ok (.lcmp, 1) := by decide +kernel
theorem dX5_isComer_9 : decode cX5_isComer 9 = .ok (.ifCond .ne 16, 3) := by decide +kernel
theorem dX5_isComer_12 : decode cX5_isComer 12 = .ok (.aload_n 0, 1) := by decide +kernel
theorem dX5_isComer_13 : decode cX5_isComer 13 = .ok (.iload_n 1, 1) := by decide +kernel
theorem dX5_isComer_14 : decode cX5_isComer 14 = .ok (.lload_n 2, 1) := by decide +kernel
theorem dX5_isComer_15 : decode cX5_isComer 15 = .ok (.invokevirtual 61, 3) := by decide +kernel
theorem dX5_isComer_18 : decode cX5_isComer 18 = .ok (.ifCond .eq 7, 3) := by decide +kernel
theorem dX5_isComer_21 : decode cX5_isComer 21 = .ok (.iconst 1, 1) := by decide +kernel
theorem dX5_isComer_22 : decode cX5_isComer 22 = .ok (.goto 4, 3) := by decide +kernel
theorem dX5_isComer_25 : decode cX5_isComer 25 = .ok (.iconst 0, 1) := by decide +kernel
theorem dX5_isComer_26 : decode cX5_isComer 26 = .ok (.ireturn, 1) := by decide +kernel
theorem dX5_nextComer_0 : decode cX5_nextComer 0 = .ok (.iload_n 3, 1) := by decide +kernel
theorem dX5_nextComer_1 : decode cX5_nextComer 1 = .ok (.istore 4, 2) := by decide +kernel
theorem dX5_nextComer_3 : decode cX5_nextComer 3 = .ok (.iload 4, 2) := by decide +kernel
theorem dX5_nextComer_5 : decode cX5_nextComer 5 = .ok (.aload_n 0, 1) := by decide +kernel
theorem dX5_nextComer_6 : decode cX5_nextComer 6 = .ok (.getfield 30, 3) := by decide +kernel
theorem dX5_nextComer_9 : decode cX5_nextComer 9 = .ok (.if_icmp .ge 22, 3) := by decide +kernel
theorem dX5_nextComer_12 : decode cX5_nextComer 12 = .ok (.aload_n 0, 1) := by decide +kernel
theorem dX5_nextComer_13 : decode cX5_nextComer 13 = .ok (.iload 4, 2) := by decide +kernel
theorem dX5_nextComer_15 : decode cX5_nextComer 15 = .ok (.lload_n 1, 1) := by decide +kernel
theorem dX5_nextComer_16 : decode cX5_nextComer 16 = .ok (.invokevirtual 76, 3) := by decide +kernel
theorem dX5_nextComer_19 : decode cX5_nextComer 19 = .ok (.ifCond .eq 6, 3) := by decide +kernel
theorem dX5_nextComer_22 : decode cX5_nextComer 22 = .ok (.iload 4, 2) := by decide +kernel
theorem dX5_nextComer_24 : decode cX5_nextComer 24 = .ok (.ireturn, 1) := by decide +kernel
theorem dX5_nextComer_25 : decode cX5_nextComer 25 = .ok (.iinc 4 1, 3) := by decide +kernel
theorem dX5_nextComer_28 : decode cX5_nextComer 28 = .ok (.goto (-25), 3) := by decide +kernel
theorem dX5_nextComer_31 : decode cX5_nextComer 31 = .ok (.iconst (-1), 1) := by decide +kernel
theorem dX5_nextComer_32 : decode cX5_nextComer 32 = .ok (.ireturn, 1) := by decide +kernel
theorem dX5_comers_0 : decode cX5_comers 0 = .ok (.lconst 0, 1) := by decide +kernel
theorem dX5_comers_1 : decode cX5_comers 1 = .ok (.lstore 4, 2) := by decide +kernel
theorem dX5_comers_3 : decode cX5_comers 3 = .ok (.iconst 0, 1) := by decide +kernel
theorem dX5_comers_4 : decode cX5_comers 4 = .ok (.istore 6, 2) := by decide +kernel
theorem dX5_comers_6 : decode cX5_comers 6 = .ok (.iconst 0, 1) := by decide +kernel
theorem dX5_comers_7 : decode cX5_comers 7 = .ok (.istore 7, 2) := by decide +kernel
theorem dX5_comers_9 : decode cX5_comers 9 = .ok (.iload 7, 2) := by decide +kernel
theorem dX5_comers_11 : decode cX5_comers 11 = .ok (.iload_n 3, 1) := by decide +kernel
theorem dX5_comers_12 : decode cX5_comers 12 = .ok (.if_icmp .ge 43, 3) := by decide +kernel
theorem dX5_comers_15 : decode cX5_comers 15 = .ok (.aload_n 0, 1) := by decide +kernel
theorem dX5_comers_16 : decode cX5_comers 16 = .ok (.lload_n 1, 1) := by decide +kernel
theorem dX5_comers_17 : decode cX5_comers 17 = .ok (.iload 6, 2) := by decide +kernel
theorem dX5_comers_19 : decode cX5_comers 19 = .ok (.invokevirtual 79, 3) := by decide +kernel
theorem dX5_comers_22 : decode cX5_comers 22 = .ok (.istore 8, 2) := by decide +kernel
theorem dX5_comers_24 : decode cX5_comers 24 = .ok (.iload 8, 2) := by decide +kernel
theorem dX5_comers_26 : decode cX5_comers 26 = .ok (.ifCond .ge 6, 3) := by decide +kernel
theorem dX5_comers_29 : decode cX5_comers 29 = .ok (.goto 26, 3) := by decide +kernel
theorem dX5_comers_32 : decode cX5_comers 32 = .ok (.lload 4, 2) := by decide +kernel
theorem dX5_comers_34 : decode cX5_comers 34 = .ok (.aload_n 0, 1) := by decide +kernel
theorem dX5_comers_35 : decode cX5_comers 35 = .ok (.iload 8, 2) := by decide +kernel
theorem dX5_comers_37 : decode cX5_comers 37 = .ok (.invokevirtual 57, 3) := by decide +kernel
theorem dX5_comers_40 : decode cX5_comers 40 = .ok (.lor, 1) := by decide +kernel
theorem dX5_comers_41 : decode cX5_comers 41 = .ok (.lstore 4, 2) := by decide +kernel
theorem dX5_comers_43 : decode cX5_comers 43 = .ok (.iload 8, 2) := by decide +kernel
theorem dX5_comers_45 : decode cX5_comers 45 = .ok (.iconst 1, 1) := by decide +kernel
theorem dX5_comers_46 : decode cX5_comers 46 = .ok (.iadd, 1) := by decide +kernel
theorem dX5_comers_47 : decode cX5_comers 47 = .ok (.istore 6, 2) := by decide +kernel
theorem dX5_comers_49 : decode cX5_comers 49 = .ok (.iinc 7 1, 3) := by decide +kernel
theorem dX5_comers_52 : decode cX5_comers 52 = .ok (.goto (-43), 3) := by decide +kernel
theorem dX5_comers_55 : decode cX5_comers 55 = .ok (.lload 4, 2) := by decide +kernel
theorem dX5_comers_57 : decode cX5_comers 57 = .ok (.lreturn, 1) := by decide +kernel
theorem dX6_init_0 : decode cX6_init 0 = .ok (.aload_n 0, 1) := by decide +kernel
theorem dX6_init_1 : decode cX6_init 1 = .ok (.invokespecial 3, 3) := by decide +kernel
theorem dX6_init_4 : decode cX6_init 4 = .ok (.aload_n 0, 1) := by decide +kernel
theorem dX6_init_5 : decode cX6_init 5 = .ok (.new 9, 3) := by decide +kernel
theorem dX6_init_8 : decode cX6_init 8 = .ok (.dup, 1) := by decide +kernel
theorem dX6_init_9 : decode cX6_init 9 = .ok (.invokespecial 11, 3) := by decide +kernel
theorem dX6_init_12 : decode cX6_init 12 = .ok (.putfield 12, 3) := by decide +kernel
theorem dX6_init_15 : decode cX6_init 15 = .ok (.aload_n 0, 1) := by decide +kernel
theorem dX6_init_16 : decode cX6_init 16 = .ok (.new 9, 3) := by decide +kernel
theorem dX6_init_19 : decode cX6_init 19 = .ok (.dup, 1) := by decide +kernel
theorem dX6_init_20 : decode cX6_init 20 = .ok (.invokespecial 11, 3) := by decide +kernel
theorem dX6_init_23 : decode cX6_init 23 = .ok (.putfield 16, 3) := by decide +kernel
theorem dX6_init_26 : decode cX6_init 26 = .ok (.aload_n 0, 1) := by decide +kernel
theorem dX6_init_27 : decode cX6_init 27 = .ok (.new 9, 3) := by decide +kernel
theorem dX6_init_30 : decode cX6_init 30 = .ok (.dup, 1) := by decide +kernel
theorem dX6_init_31 : decode cX6_init 31 = .ok (.invokespecial 11, 3) := by decide +kernel
theorem dX6_init_34 : decode cX6_init 34 = .ok (.putfield 19, 3) := by decide +kernel
theorem dX6_init_37 : decode cX6_init 37 = .ok (.aload_n 0, 1) := by decide +kernel
theorem dX6_init_38 : decode cX6_init 38 = .ok (.new 22, 3) := by decide +kernel
theorem dX6_init_41 : decode cX6_init 41 = .ok (.dup, 1) := by decide +kernel
theorem dX6_init_42 : decode cX6_init 42 = .ok (.invokespecial 24, 3) := by decide +kernel
theorem dX6_init_45 : decode cX6_init 45 = .ok (.putfield 25, 3) := by decide +kernel
theorem dX6_init_48 : decode cX6_init 48 = .ok (.aload_n 0, 1) := by decide +kernel
theorem dX6_init_49 : decode cX6_init 49 = .ok (.aload_n 0, 1) := by decide +kernel
theorem dX6_init_50 : decode cX6_init 50 = .ok (.getfield 25, 3) := by decide +kernel
theorem dX6_init_53 : decode cX6_init 53 = .ok (.getfield 29, 3) := by decide +kernel
theorem dX6_init_56 : decode cX6_init 56 = .ok (.putfield 33, 3) := by decide +kernel
theorem dX6_init_59 : decode cX6_init 59 = .ok (.aload_n 0, 1) := by decide +kernel
theorem dX6_init_60 : decode cX6_init 60 = .ok (.iconst 4, 1) := by decide +kernel
theorem dX6_init_61 : decode cX6_init 61 = .ok (.anewarray 34, 3) := by decide +kernel
theorem dX6_init_64 : decode cX6_init 64 = .ok (.putfield 36, 3) := by decide +kernel
theorem dX6_init_67 : decode cX6_init 67 = .ok (.aload_n 0, 1) := by decide +kernel
theorem dX6_init_68 : decode cX6_init 68 = .ok (.bipush 7, 2) := by decide +kernel
theorem dX6_init_70 : decode cX6_init 70 = .ok (.newarray .int, 2) := by decide +kernel
theorem dX6_init_72 : decode cX6_init 72 = .ok (.putfield 40, 3) := by decide +kernel
theorem dX6_init_75 : decode cX6_init 75 = .ok (.iconst 0, 1) := by decide +kernel
theorem dX6_init_76 : decode cX6_init 76 = .ok (.istore_n 1, 1) := by decide +kernel
theorem dX6_init_77 : decode cX6_init 77 = .ok (.iload_n 1, 1) := by decide +kernel
theorem dX6_init_78 : decode cX6_init 78 = .ok (.iconst 4, 1) := by decide +kernel
theorem dX6_init_79 : decode cX6_init 79 = .ok (.if_icmp .ge 22, 3) := by decide +kernel
theorem dX6_init_82 : decode cX6_init 82 = .ok (.aload_n 0, 1) := by decide +kernel
theorem dX6_init_83 : decode cX6_init 83 = .ok (.getfield 36, 3) := by decide +kernel
theorem dX6_init_86 : decode cX6_init 86 = .ok (.iload_n 1, 1) := by decide +kernel
theorem dX6_init_87 : decode cX6_init 87 = .ok (.new 34, 3) := by decide +kernel
theorem dX6_init_90 : decode cX6_init 90 = .ok (.dup, 1) := by decide +kernel
theorem dX6_init_91 : decode cX6_init 91 = .ok (.invokespecial 44, 3) := by decide +kernel
theorem dX6_init_94 : decode cX6_init 94 = .ok (.aastore, 1) := by decide +kernel
theorem dX6_init_95 : decode cX6_init 95 = .ok (.iinc 1 1, 3) := by decide +kernel
theorem dX6_init_98 : decode cX6_init 98 = .ok (.goto (-21), 3) := by decide +kernel
theorem dX6_init_101 : decode cX6_init 101 = .ok (.return_, 1) := by decide +kernel
theorem dX6_block_0 : decode cX6_block 0 = .ok (.iload_n 1, 1) := by decide +kernel
theorem dX6_block_1 : decode cX6_block 1 = .ok (.invokestatic 45, 3) := by decide +kernel
theorem dX6_block_4 : decode cX6_block 4 = .ok (.ifCond .eq 20, 3) := by decide +kernel
theorem dX6_block_7 : decode cX6_block 7 = .ok (.iload_n 2, 1) := by decide +kernel
theorem dX6_block_8 : decode cX6_block 8 = .ok (.invokestatic 49, 3) := by decide +kernel
theorem dX6_block_11 : decode cX6_block 11 = .ok (.ifCond .eq 13, 3) := by decide +kernel
theorem dX6_block_14 : decode cX6_block 14 = .ok (.iload_n 3, 1) := by decide +kernel
theorem dX6_block_15 : decode cX6_block 15 = .ok (.iconst 1, 1) := by decide +kernel
theorem dX6_block_16 : decode cX6_block 16 = .ok (.bipush 99, 2) := by decide +kernel
theorem dX6_block_18 : decode cX6_block 18 = .ok (.invokestatic 52, 3) := by decide +kernel
theorem dX6_block_21 : decode cX6_block 21 = .ok (.ifCond .ne 10, 3) := by decide +kernel
theorem dX6_block_24 : decode cX6_block 24 = .ok (.aload_n 0, 1) := by decide +kernel
theorem dX6_block_25 : decode cX6_block 25 = .ok (.ldc 56, 2) := by decide +kernel
theorem dX6_block_27 : decode cX6_block 27 = .ok (.invokevirtual 57, 3) := by decide +kernel
theorem dX6_block_30 : decode cX6_block 30 = .ok (.ireturn, 1) := by decide +kernel
theorem dX6_block_31 : decode cX6_block 31 = .ok (.aload_n 0, 1) := by decide +kernel
theorem dX6_block_32 : decode cX6_block 32 = .ok (.getfield 12, 3) := by decide +kernel
theorem dX6_block_35 : decode cX6_block 35 = .ok (.getfield 61, 3) := by decide +kernel
theorem dX6_block_38 : decode cX6_block 38 = .ok (.invokevirtual 65, 3) := by decide +kernel
theorem dX6_block_41 : decode cX6_block 41 = .ok (.ifCond .eq 10, 3) := by decide +kernel
theorem dX6_block_44 : decode cX6_block 44 = .ok (.aload_n 0, 1) := by decide +kernel
theorem dX6_block_45 : decode cX6_block 45 = .ok (.ldc 71, 2) := by decide +kernel
theorem dX6_block_47 : decode cX6_block 47 = .ok (.invokevirtual 57, 3) := by decide +kernel
theorem dX6_block_50 : decode cX6_block 50 = .ok (.ireturn, 1) := by decide +kernel
theorem dX6_block_51 : decode cX6_block 51 = .ok (.aload_n 0, 1) := by decide +kernel
theorem dX6_block_52 : decode cX6_block 52 = .ok (.getfield 12, 3) := by decide +kernel
theorem dX6_block_55 : decode cX6_block 55 = .ok (.getfield 61, 3) := by decide +kernel
theorem dX6_block_58 : decode cX6_block 58 = .ok (.iload_n 2, 1) := by decide +kernel
theorem dX6_block_59 : decode cX6_block 59 = .ok (.invokevirtual 72, 3) := by decide +kernel
theorem dX6_block_62 : decode cX6_block 62 = .ok (.ifCond .lt 10, 3) := by decide +kernel
theorem dX6_block_65 : decode cX6_block 65 = .ok (.aload_n 0, 1) := by decide +kernel
theorem dX6_block_66 : decode cX6_block 66 = .ok (.ldc 75, 2) := by decide +kernel
theorem dX6_block_68 : decode cX6_block 68 = .ok (.invokevirtual 57, 3) := by decide +kernel
theorem dX6_block_71 : decode cX6_block 71 = .ok (.ireturn, 1) := by decide +kernel
theorem dX6_block_72 : decode cX6_block 72 = .ok (.aload_n 0, 1) := by decide +kernel
theorem dX6_block_73 : decode cX6_block 73 = .ok (.getfield 12, 3) := by decide +kernel
theorem dX6_block_76 : decode cX6_block 76 = .ok (.getfield 61, 3) := by decide +kernel
theorem dX6_block_79 : decode cX6_block 79 = .ok (.iload_n 1, 1) := by decide +kernel
theorem dX6_block_80 : decode cX6_block 80 = .ok (.iload_n 2, 1) := by decide +kernel
theorem dX6_block_81 : decode cX6_block 81 = .ok (.iload_n 3, 1) := by decide +kernel
theorem dX6_block_82 : decode cX6_block 82 = .ok (.invokevirtual 76, 3) := by decide +kernel
theorem dX6_block_85 : decode cX6_block 85 = .ok (.ireturn, 1) := by decide +kernel
theorem dX6_blockOf_0 : decode cX6_blockOf 0 = .ok (.aload_n 0, 1) := by decide +kernel
theorem dX6_blockOf_1 : decode cX6_blockOf 1 = .ok (.getfield 12, 3) := by decide +kernel
theorem dX6_blockOf_4 : decode cX6_blockOf 4 = .ok (.getfield 61, 3) := by decide +kernel
theorem dX6_blockOf_7 : decode cX6_blockOf 7 = .ok (.astore_n 3, 1) := by decide +kernel
theorem dX6_blockOf_8 : decode cX6_blockOf 8 = .ok (.aload_n 3, 1) := by decide +kernel
theorem dX6_blockOf_9 : decode cX6_blockOf 9 = .ok (.iload_n 1, 1) := by decide +kernel
theorem dX6_blockOf_10 : decode cX6_blockOf 10 = .ok (.invokevirtual 80, 3) := by decide +kernel
theorem dX6_blockOf_13 : decode cX6_blockOf 13 = .ok (.ifCond .eq 13, 3) := by decide +kernel
theorem dX6_blockOf_16 : decode cX6_blockOf 16 = .ok (.iload_n 2, 1) := by decide +kernel
theorem dX6_blockOf_17 : decode cX6_blockOf 17 = .ok (.iconst 0, 1) := by decide +kernel
theorem dX6_blockOf_18 : decode cX6_blockOf 18 = .ok (.bipush 6, 2) := by decide +kernel
theorem dX6_blockOf_20 : decode cX6_blockOf 20 = .ok (.invokestatic 52, 3) := by decide +kernel
theorem dX6_blockOf_23 : decode cX6_blockOf 23 = .ok (.ifCond .ne 10, 3) := by decide +kernel
theorem dX6_blockOf_26 : decode cX6_blockOf 26 = .ok (.aload_n 0, 1) := by decide +kernel
theorem dX6_blockOf_27 : decode cX6_blockOf 27 = .ok (.ldc 56, 2) := by decide +kernel
theorem dX6_blockOf_29 : decode cX6_blockOf 29 = .ok (.invokevirtual 57, 3) := by decide +kernel
theorem dX6_blockOf_32 : decode cX6_blockOf 32 = .ok (.ireturn, 1) := by decide +kernel
theorem dX6_blockOf_33 : decode cX6_blockOf 33 = .ok (.iload_n 2, 1) := by decide +kernel
theorem dX6_blockOf_34 : decode cX6_blockOf 34 = .ok (.tableswitch 100 0 5 #[38, 45, 52, 59, 73, 94], 38) := by decide +kernel
theorem dX6_blockOf_72 : decode cX6_blockOf 72 = .ok (.aload_n 3, 1) := by decide +kernel
theorem dX6_blockOf_73 : decode cX6_blockOf 73 = .ok (.getfield 83, 3) := by decide +kernel
theorem dX6_blockOf_76 : decode cX6_blockOf 76 = .ok (.iload_n 1, 1) := by decide +kernel
theorem dX6_blockOf_77 : decode cX6_blockOf 77 = .ok (.iaload, 1) := by decide +kernel
theorem dX6_blockOf_78 : decode cX6_blockOf 78 = .ok (.ireturn, 1) := by decide +kernel
theorem dX6_blockOf_79 : decode cX6_blockOf 79 = .ok (.aload_n 3, 1) := by decide +kernel
theorem dX6_blockOf_80 : decode cX6_blockOf 80 = .ok (.getfield 86, 3) := by decide +kernel
theorem dX6_blockOf_83 : decode cX6_blockOf 83 = .ok (.iload_n 1, 1) := by decide +kernel
theorem dX6_blockOf_84 : decode cX6_blockOf 84 = .ok (.iaload, 1) := by decide +kernel
theorem dX6_blockOf_85 : decode cX6_blockOf 85 = .ok (.ireturn, 1) := by decide +kernel
theorem dX6_blockOf_86 : decode cX6_blockOf 86 = .ok (.aload_n 3, 1) := by decide +kernel
theorem dX6_blockOf_87 : decode cX6_blockOf 87 = .ok (.getfield 89, 3) := by decide +kernel
theorem dX6_blockOf_90 : decode cX6_blockOf 90 = .ok (.iload_n 1, 1) := by decide +kernel
theorem dX6_blockOf_91 : decode cX6_blockOf 91 = .ok (.iaload, 1) := by decide +kernel
theorem dX6_blockOf_92 : decode cX6_blockOf 92 = .ok (.ireturn, 1) := by decide +kernel
theorem dX6_blockOf_93 : decode cX6_blockOf 93 = .ok (.aload_n 3, 1) := by decide +kernel
theorem dX6_blockOf_94 : decode cX6_blockOf 94 = .ok (.iload_n 1, 1) := by decide +kernel
theorem dX6_blockOf_95 : decode cX6_blockOf 95 = .ok (.invokevirtual 92, 3) := by decide +kernel
theorem dX6_blockOf_98 : decode cX6_blockOf 98 = .ok (.ifCond .eq 7, 3) := by decide +kernel
theorem dX6_blockOf_101 : decode cX6_blockOf 101 = .ok (.iconst 1, 1) := by decide +kernel
theorem dX6_blockOf_102 : decode cX6_blockOf 102 = .ok (.goto 4, 3) := by decide +kernel
theorem dX6_blockOf_105 : decode cX6_blockOf 105 = .ok (.iconst 0, 1) := by decide +kernel
theorem dX6_blockOf_106 : decode cX6_blockOf 106 = .ok (.ireturn, 1) := by decide +kernel
theorem dX6_blockOf_107 : decode cX6_blockOf 107 = .ok (.aload_n 3, 1) := by decide +kernel
theorem dX6_blockOf_108 : decode cX6_blockOf 108 = .ok (.invokevirtual 95, 3) := by decide +kernel
theorem dX6_blockOf_111 : decode cX6_blockOf 111 = .ok (.aload_n 3, 1) := by decide +kernel
theorem dX6_blockOf_112 : decode cX6_blockOf 112 = .ok (.iload_n 1, 1) := by decide +kernel
theorem dX6_blockOf_113 : decode cX6_blockOf 113 = .ok (.invokevirtual 99, 3) := by decide +kernel
theorem dX6_blockOf_116 : decode cX6_blockOf 116 = .ok (.land, 1) := by decide +kernel
theorem dX6_blockOf_117 : decode cX6_blockOf 117 = .ok (.lconst 0, 1) := by decide +kernel
theorem dX6_blockOf_118 : decode cX6_blockOf 118 = .ok (.lcmp, 1) := by decide +kernel
theorem dX6_blockOf_119 : decode cX6_blockOf 119 = .ok (.ifCond .eq 7, 3) := by decide +kernel
theorem dX6_blockOf_122 : decode cX6_blockOf 122 = .ok (.iconst 1, 1) := by decide +kernel
theorem dX6_blockOf_123 : decode cX6_blockOf 123 = .ok (.goto 4, 3) := by decide +kernel
theorem dX6_blockOf_126 : decode cX6_blockOf 126 = .ok (.iconst 0, 1) := by decide +kernel
theorem dX6_blockOf_127 : decode cX6_blockOf 127 = .ok (.ireturn, 1) := by decide +kernel
theorem dX6_blockOf_128 : decode cX6_blockOf 128 = .ok (.aload_n 3, 1) := by decide +kernel
theorem dX6_blockOf_129 : decode cX6_blockOf 129 = .ok (.iload_n 1, 1) := by decide +kernel
theorem dX6_blockOf_130 : decode cX6_blockOf 130 = .ok (.invokevirtual 103, 3) := by decide +kernel
theorem dX6_blockOf_133 : decode cX6_blockOf 133 = .ok (.ireturn, 1) := by decide +kernel
theorem dX6_blockOf_134 : decode cX6_blockOf 134 = .ok (.aload_n 3, 1) := by decide +kernel
theorem dX6_blockOf_135 : decode cX6_blockOf 135 = .ok (.iload_n 1, 1) := by decide +kernel
theorem dX6_blockOf_136 : decode cX6_blockOf 136 = .ok (.invokevirtual 106, 3) := by decide +kernel
theorem dX6_blockOf_139 : decode cX6_blockOf 139 = .ok (.ireturn, 1) := by decide +kernel
theorem dX6_turn_0 : decode cX6_turn 0 = .ok (.aload_n 0, 1) := by decide +kernel
theorem dX6_turn_1 : decode cX6_turn 1 = .ok (.getfield 12, 3) := by decide +kernel
theorem dX6_turn_4 : decode cX6_turn 4 = .ok (.getfield 61, 3) := by decide +kernel
theorem dX6_turn_7 : decode cX6_turn 7 = .ok (.iload_n 1, 1) := by decide +kernel
theorem dX6_turn_8 : decode cX6_turn 8 = .ok (.invokevirtual 80, 3) := by decide +kernel
theorem dX6_turn_11 : decode cX6_turn 11 = .ok (.ifCond .eq 10, 3) := by decide +kernel
theorem dX6_turn_14 : decode cX6_turn 14 = .ok (.iload_n 2, 1) := by decide +kernel
theorem dX6_turn_15 : decode cX6_turn 15 = .ok (.invokestatic 45, 3) := by decide +kernel
theorem dX6_turn_18 : decode cX6_turn 18 = .ok (.ifCond .ne 10, 3) := by decide +kernel
theorem dX6_turn_21 : decode cX6_turn 21 = .ok (.aload_n 0, 1) := by decide +kernel
theorem dX6_turn_22 : decode cX6_turn 22 = .ok (.ldc 56, 2) := by decide +kernel
theorem dX6_turn_24 : decode cX6_turn 24 = .ok (.invokevirtual 57, 3) := by decide +kernel
theorem dX6_turn_27 : decode cX6_turn 27 = .ok (.ireturn, 1) := by decide +kernel
theorem dX6_turn_28 : decode cX6_turn 28 = .ok (.aload_n 0, 1) := by decide +kernel
theorem dX6_turn_29 : decode cX6_turn 29 = .ok (.getfield 12, 3) := by decide +kernel
theorem dX6_turn_32 : decode cX6_turn 32 = .ok (.getfield 61, 3) := by decide +kernel
theorem dX6_turn_35 : decode cX6_turn 35 = .ok (.getfield 83, 3) := by decide +kernel
theorem dX6_turn_38 : decode cX6_turn 38 = .ok (.iload_n 1, 1) := by decide +kernel
theorem dX6_turn_39 : decode cX6_turn 39 = .ok (.iaload, 1) := by decide +kernel
theorem dX6_turn_40 : decode cX6_turn 40 = .ok (.istore_n 3, 1) := by decide +kernel
theorem dX6_turn_41 : decode cX6_turn 41 = .ok (.aload_n 0, 1) := by decide +kernel
theorem dX6_turn_42 : decode cX6_turn 42 = .ok (.getfield 12, 3) := by decide +kernel
theorem dX6_turn_45 : decode cX6_turn 45 = .ok (.getfield 61, 3) := by decide +kernel
theorem dX6_turn_48 : decode cX6_turn 48 = .ok (.getfield 83, 3) := by decide +kernel
theorem dX6_turn_51 : decode cX6_turn 51 = .ok (.iload_n 1, 1) := by decide +kernel
theorem dX6_turn_52 : decode cX6_turn 52 = .ok (.iload_n 2, 1) := by decide +kernel
theorem dX6_turn_53 : decode cX6_turn 53 = .ok (.iastore, 1) := by decide +kernel
theorem dX6_turn_54 : decode cX6_turn 54 = .ok (.iload_n 3, 1) := by decide +kernel
theorem dX6_turn_55 : decode cX6_turn 55 = .ok (.ireturn, 1) := by decide +kernel
theorem dX6_take_0 : decode cX6_take 0 = .ok (.aload_n 0, 1) := by decide +kernel
theorem dX6_take_1 : decode cX6_take 1 = .ok (.getfield 12, 3) := by decide +kernel
theorem dX6_take_4 : decode cX6_take 4 = .ok (.getfield 61, 3) := by decide +kernel
theorem dX6_take_7 : decode cX6_take 7 = .ok (.astore_n 3, 1) := by decide +kernel
theorem dX6_take_8 : decode cX6_take 8 = .ok (.aload_n 3, 1) := by decide +kernel
theorem dX6_take_9 : decode cX6_take 9 = .ok (.iload_n 1, 1) := by decide +kernel
theorem dX6_take_10 : decode cX6_take 10 = .ok (.invokevirtual 80, 3) := by decide +kernel
theorem dX6_take_13 : decode cX6_take 13 = .ok (.ifCond .eq 10, 3) := by decide +kernel
theorem dX6_take_16 : decode cX6_take 16 = .ok (.iload_n 2, 1) := by decide +kernel
theorem dX6_take_17 : decode cX6_take 17 = .ok (.invokestatic 49, 3) := by decide +kernel
theorem dX6_take_20 : decode cX6_take 20 = .ok (.ifCond .ne 10, 3) := by decide +kernel
theorem dX6_take_23 : decode cX6_take 23 = .ok (.aload_n 0, 1) := by decide +kernel
theorem dX6_take_24 : decode cX6_take 24 = .ok (.ldc 56, 2) := by decide +kernel
theorem dX6_take_26 : decode cX6_take 26 = .ok (.invokevirtual 57, 3) := by decide +kernel
theorem dX6_take_29 : decode cX6_take 29 = .ok (.ireturn, 1) := by decide +kernel
theorem dX6_take_30 : decode cX6_take 30 = .ok (.aload_n 3, 1) := by decide +kernel
theorem dX6_take_31 : decode cX6_take 31 = .ok (.iload_n 2, 1) := by decide +kernel
theorem dX6_take_32 : decode cX6_take 32 = .ok (.invokevirtual 72, 3) := by decide +kernel
theorem dX6_take_35 : decode cX6_take 35 = .ok (.istore 4, 2) := by decide +kernel
theorem dX6_take_37 : decode cX6_take 37 = .ok (.aload_n 3, 1) := by decide +kernel
theorem dX6_take_38 : decode cX6_take 38 = .ok (.iload_n 1, 1) := by decide +kernel
theorem dX6_take_39 : decode cX6_take 39 = .ok (.invokevirtual 92, 3) := by decide +kernel
theorem dX6_take_42 : decode cX6_take 42 = .ok (.ifCond .ne 14, 3) := by decide +kernel
theorem dX6_take_45 : decode cX6_take 45 = .ok (.iload 4, 2) := by decide +kernel
theorem dX6_take_47 : decode cX6_take 47 = .ok (.ifCond .lt 16, 3) := by decide +kernel
theorem dX6_take_50 : decode cX6_take 50 = .ok (.iload 4, 2) := by decide +kernel
theorem dX6_take_52 : decode cX6_take 52 = .ok (.iload_n 1, 1) := by decide +kernel
theorem dX6_take_53 : decode cX6_take 53 = .ok (.if_icmp .eq 10, 3) := by decide +kernel
theorem dX6_take_56 : decode cX6_take 56 = .ok (.aload_n 0, 1) := by decide +kernel
theorem dX6_take_57 : decode cX6_take 57 = .ok (.ldc 75, 2) := by decide +kernel
theorem dX6_take_59 : decode cX6_take 59 = .ok (.invokevirtual 57, 3) := by decide +kernel
theorem dX6_take_62 : decode cX6_take 62 = .ok (.ireturn, 1) := by decide +kernel
theorem dX6_take_63 : decode cX6_take 63 = .ok (.aload_n 3, 1) := by decide +kernel
theorem dX6_take_64 : decode cX6_take 64 = .ok (.iload_n 1, 1) := by decide +kernel
theorem dX6_take_65 : decode cX6_take 65 = .ok (.iload_n 2, 1) := by decide +kernel
theorem dX6_take_66 : decode cX6_take 66 = .ok (.invokevirtual 109, 3) := by decide +kernel
theorem dX6_take_69 : decode cX6_take 69 = .ok (.ireturn, 1) := by decide +kernel
theorem dX6_on_0 : decode cX6_on 0 = .ok (.iload_n 1, 1) := by decide +kernel
theorem dX6_on_1 : decode cX6_on 1 = .ok (.invokestatic 49, 3) := by decide +kernel
theorem dX6_on_4 : decode cX6_on 4 = .ok (.ifCond .ne 10, 3) := by decide +kernel
theorem dX6_on_7 : decode cX6_on 7 = .ok (.aload_n 0, 1) := by decide +kernel
theorem dX6_on_8 : decode cX6_on 8 = .ok (.ldc 56, 2) := by decide +kernel
theorem dX6_on_10 : decode cX6_on 10 = .ok (.invokevirtual 57, 3) := by decide +kernel
theorem dX6_on_13 : decode cX6_on 13 = .ok (.ireturn, 1) := by decide +kernel
theorem dX6_on_14 : decode cX6_on 14 = .ok (.aload_n 0, 1) := by decide +kernel
theorem dX6_on_15 : decode cX6_on 15 = .ok (.getfield 12, 3) := by decide +kernel
theorem dX6_on_18 : decode cX6_on 18 = .ok (.getfield 61, 3) := by decide +kernel
theorem dX6_on_21 : decode cX6_on 21 = .ok (.iload_n 1, 1) := by decide +kernel
theorem dX6_on_22 : decode cX6_on 22 = .ok (.invokevirtual 72, 3) := by decide +kernel
theorem dX6_on_25 : decode cX6_on 25 = .ok (.ireturn, 1) := by decide +kernel
theorem dX6_water_0 : decode cX6_water 0 = .ok (.aload_n 0, 1) := by decide +kernel
theorem dX6_water_1 : decode cX6_water 1 = .ok (.getfield 12, 3) := by decide +kernel
theorem dX6_water_4 : decode cX6_water 4 = .ok (.getfield 61, 3) := by decide +kernel
theorem dX6_water_7 : decode cX6_water 7 = .ok (.astore_n 3, 1) := by decide +kernel
theorem dX6_water_8 : decode cX6_water 8 = .ok (.aload_n 3, 1) := by decide +kernel
theorem dX6_water_9 : decode cX6_water 9 = .ok (.iload_n 1, 1) := by decide +kernel
theorem dX6_water_10 : decode cX6_water 10 = .ok (.invokevirtual 80, 3) := by decide +kernel
theorem dX6_water_13 : decode cX6_water 13 = .ok (.ifCond .eq 13, 3) := by decide +kernel
theorem dX6_water_16 : decode cX6_water 16 = .ok (.iload_n 2, 1) := by decide +kernel
theorem dX6_water_17 : decode cX6_water 17 = .ok (.iconst 1, 1) := by decide +kernel
theorem dX6_water_18 : decode cX6_water 18 = .ok (.bipush 99, 2) := by decide +kernel
theorem dX6_water_20 : decode cX6_water 20 = .ok (.invokestatic 52, 3) := by decide +kernel
theorem dX6_water_23 : decode cX6_water 23 = .ok (.ifCond .ne 10, 3) := by decide +kernel
theorem dX6_water_26 : decode cX6_water 26 = .ok (.aload_n 0, 1) := by decide +kernel
theorem dX6_water_27 : decode cX6_water 27 = .ok (.ldc 56, 2) := by decide +kernel
theorem dX6_water_29 : decode cX6_water 29 = .ok (.invokevirtual 57, 3) := by decide +kernel
theorem dX6_water_32 : decode cX6_water 32 = .ok (.ireturn, 1) := by decide +kernel
theorem dX6_water_33 : decode cX6_water 33 = .ok (.aload_n 3, 1) := by decide +kernel
theorem dX6_water_34 : decode cX6_water 34 = .ok (.iload_n 1, 1) := by decide +kernel
theorem dX6_water_35 : decode cX6_water 35 = .ok (.invokevirtual 92, 3) := by decide +kernel
theorem dX6_water_38 : decode cX6_water 38 = .ok (.ifCond .ne 22, 3) := by decide +kernel
theorem dX6_water_41 : decode cX6_water 41 = .ok (.aload_n 0, 1) := by decide +kernel
theorem dX6_water_42 : decode cX6_water 42 = .ok (.getfield 12, 3) := by decide +kernel
theorem dX6_water_45 : decode cX6_water 45 = .ok (.getfield 113, 3) := by decide +kernel
theorem dX6_water_48 : decode cX6_water 48 = .ok (.aload_n 3, 1) := by decide +kernel
theorem dX6_water_49 : decode cX6_water 49 = .ok (.getfield 86, 3) := by decide +kernel
theorem dX6_water_52 : decode cX6_water 52 = .ok (.iload_n 1, 1) := by decide +kernel
theorem dX6_water_53 : decode cX6_water 53 = .ok (.iaload, 1) := by decide +kernel
theorem dX6_water_54 : decode cX6_water 54 = .ok (.invokevirtual 117, 3) := by decide +kernel
theorem dX6_water_57 : decode cX6_water 57 = .ok (.ifCond .lt 10, 3) := by decide +kernel
theorem dX6_water_60 : decode cX6_water 60 = .ok (.aload_n 0, 1) := by decide +kernel
theorem dX6_water_61 : decode cX6_water 61 = .ok (.ldc 75, 2) := by decide +kernel
theorem dX6_water_63 : decode cX6_water 63 = .ok (.invokevirtual 57, 3) := by decide +kernel
theorem dX6_water_66 : decode cX6_water 66 = .ok (.ireturn, 1) := by decide +kernel
theorem dX6_water_67 : decode cX6_water 67 = .ok (.aload_n 3, 1) := by decide +kernel
theorem dX6_water_68 : decode cX6_water 68 = .ok (.iload_n 1, 1) := by decide +kernel
theorem dX6_water_69 : decode cX6_water 69 = .ok (.iload_n 2, 1) := by decide +kernel
theorem dX6_water_70 : decode cX6_water 70 = .ok (.invokevirtual 122, 3) := by decide +kernel
theorem dX6_water_73 : decode cX6_water 73 = .ok (.ireturn, 1) := by decide +kernel
theorem dX6_candle_0 : decode cX6_candle 0 = .ok (.iload_n 1, 1) := by decide +kernel
theorem dX6_candle_1 : decode cX6_candle 1 = .ok (.invokestatic 125, 3) := by decide +kernel
theorem dX6_candle_4 : decode cX6_candle 4 = .ok (.ifCond .eq 36, 3) := by decide +kernel
theorem dX6_candle_7 : decode cX6_candle 7 = .ok (.iload_n 2, 1) := by decide +kernel
theorem dX6_candle_8 : decode cX6_candle 8 = .ok (.iconst 0, 1) := by decide +kernel
theorem dX6_candle_9 : decode cX6_candle 9 = .ok (.iconst 1, 1) := by decide +kernel
theorem dX6_candle_10 : decode cX6_candle 10 = .ok (.invokestatic 52, 3) := by decide +kernel
theorem dX6_candle_13 : decode cX6_candle 13 = .ok (.ifCond .eq 27, 3) := by decide +kernel
theorem dX6_candle_16 : decode cX6_candle 16 = .ok (.iload_n 2, 1) := by decide +kernel
theorem dX6_candle_17 : decode cX6_candle 17 = .ok (.ifCond .ne 13, 3) := by decide +kernel
theorem dX6_candle_20 : decode cX6_candle 20 = .ok (.iload_n 3, 1) := by decide +kernel
theorem dX6_candle_21 : decode cX6_candle 21 = .ok (.invokestatic 49, 3) := by decide +kernel
theorem dX6_candle_24 : decode cX6_candle 24 = .ok (.ifCond .eq 16, 3) := by decide +kernel
theorem dX6_candle_27 : decode cX6_candle 27 = .ok (.goto 20, 3) := by decide +kernel
theorem dX6_candle_30 : decode cX6_candle 30 = .ok (.iload_n 3, 1) := by decide +kernel
theorem dX6_candle_31 : decode cX6_candle 31 = .ok (.iconst 0, 1) := by decide +kernel
theorem dX6_candle_32 : decode cX6_candle 32 = .ok (.bipush 30, 2) := by decide +kernel
theorem dX6_candle_34 : decode cX6_candle 34 = .ok (.invokestatic 52, 3) := by decide +kernel
theorem dX6_candle_37 : decode cX6_candle 37 = .ok (.ifCond .ne 10, 3) := by decide +kernel
theorem dX6_candle_40 : decode cX6_candle 40 = .ok (.aload_n 0, 1) := by decide +kernel
theorem dX6_candle_41 : decode cX6_candle 41 = .ok (.ldc 56, 2) := by decide +kernel
theorem dX6_candle_43 : decode cX6_candle 43 = .ok (.invokevirtual 57, 3) := by decide +kernel
theorem dX6_candle_46 : decode cX6_candle 46 = .ok (.ireturn, 1) := by decide +kernel
theorem dX6_candle_47 : decode cX6_candle 47 = .ok (.iload_n 2, 1) := by decide +kernel
theorem dX6_candle_48 : decode cX6_candle 48 = .ok (.ifCond .ne 16, 3) := by decide +kernel
theorem dX6_candle_51 : decode cX6_candle 51 = .ok (.aload_n 0, 1) := by decide +kernel
theorem dX6_candle_52 : decode cX6_candle 52 = .ok (.getfield 12, 3) := by decide +kernel
theorem dX6_candle_55 : decode cX6_candle 55 = .ok (.getfield 113, 3) := by decide +kernel
theorem dX6_candle_58 : decode cX6_candle 58 = .ok (.getfield 128, 3) := by decide +kernel
theorem dX6_candle_61 : decode cX6_candle 61 = .ok (.goto 13, 3) := by decide +kernel
theorem dX6_candle_64 : decode cX6_candle 64 = .ok (.aload_n 0, 1) := by decide +kernel
theorem dX6_candle_65 : decode cX6_candle 65 = .ok (.getfield 12, 3) := by decide +kernel
theorem dX6_candle_68 : decode cX6_candle 68 = .ok (.getfield 113, 3) := by decide +kernel
theorem dX6_candle_71 : decode cX6_candle 71 = .ok (.getfield 129, 3) := by decide +kernel
theorem dX6_candle_74 : decode cX6_candle 74 = .ok (.astore 4, 2) := by decide +kernel
theorem dX6_candle_76 : decode cX6_candle 76 = .ok (.aload 4, 2) := by decide +kernel
theorem dX6_candle_78 : decode cX6_candle 78 = .ok (.iload_n 1, 1) := by decide +kernel
theorem dX6_candle_79 : decode cX6_candle 79 = .ok (.iaload, 1) := by decide +kernel
theorem dX6_candle_80 : decode cX6_candle 80 = .ok (.istore 5, 2) := by decide +kernel
theorem dX6_candle_82 : decode cX6_candle 82 = .ok (.aload 4, 2) := by decide +kernel
theorem dX6_candle_84 : decode cX6_candle 84 = .ok (.iload_n 1, 1) := by decide +kernel
theorem dX6_candle_85 : decode cX6_candle 85 = .ok (.iload_n 3, 1) := by decide +kernel
theorem dX6_candle_86 : decode cX6_candle 86 = .ok (.iastore, 1) := by decide +kernel
theorem dX6_candle_87 : decode cX6_candle 87 = .ok (.iload 5, 2) := by decide +kernel
theorem dX6_candle_89 : decode cX6_candle 89 = .ok (.ireturn, 1) := by decide +kernel
theorem dX6_lit_0 : decode cX6_lit 0 = .ok (.iload_n 1, 1) := by decide +kernel
theorem dX6_lit_1 : decode cX6_lit 1 = .ok (.invokestatic 125, 3) := by decide +kernel
theorem dX6_lit_4 : decode cX6_lit 4 = .ok (.ifCond .ne 10, 3) := by decide +kernel
theorem dX6_lit_7 : decode cX6_lit 7 = .ok (.aload_n 0, 1) := by decide +kernel
theorem dX6_lit_8 : decode cX6_lit 8 = .ok (.ldc 56, 2) := by decide +kernel
theorem dX6_lit_10 : decode cX6_lit 10 = .ok (.invokevirtual 57, 3) := by decide +kernel
theorem dX6_lit_13 : decode cX6_lit 13 = .ok (.ireturn, 1) := by decide +kernel
theorem dX6_lit_14 : decode cX6_lit 14 = .ok (.aload_n 0, 1) := by decide +kernel
theorem dX6_lit_15 : decode cX6_lit 15 = .ok (.getfield 12, 3) := by decide +kernel
theorem dX6_lit_18 : decode cX6_lit 18 = .ok (.getfield 113, 3) := by decide +kernel
theorem dX6_lit_21 : decode cX6_lit 21 = .ok (.iload_n 1, 1) := by decide +kernel
theorem dX6_lit_22 : decode cX6_lit 22 = .ok (.invokevirtual 132, 3) := by decide +kernel
theorem dX6_lit_25 : decode cX6_lit 25 = .ok (.istore_n 3, 1) := by decide +kernel
theorem dX6_lit_26 : decode cX6_lit 26 = .ok (.aload_n 0, 1) := by decide +kernel
theorem dX6_lit_27 : decode cX6_lit 27 = .ok (.getfield 12, 3) := by decide +kernel
theorem dX6_lit_30 : decode cX6_lit 30 = .ok (.getfield 113, 3) := by decide +kernel
theorem dX6_lit_33 : decode cX6_lit 33 = .ok (.iload_n 1, 1) := by decide +kernel
theorem dX6_lit_34 : decode cX6_lit 34 = .ok (.iload_n 2, 1) := by decide +kernel
theorem dX6_lit_35 : decode cX6_lit 35 = .ok (.invokevirtual 135, 3) := by decide +kernel
theorem dX6_lit_38 : decode cX6_lit 38 = .ok (.iload_n 3, 1) := by decide +kernel
theorem dX6_lit_39 : decode cX6_lit 39 = .ok (.ifCond .eq 7, 3) := by decide +kernel
theorem dX6_lit_42 : decode cX6_lit 42 = .ok (.iconst 1, 1) := by decide +kernel
theorem dX6_lit_43 : decode cX6_lit 43 = .ok (.goto 4, 3) := by decide +kernel
theorem dX6_lit_46 : decode cX6_lit 46 = .ok (.iconst 0, 1) := by decide +kernel
theorem dX6_lit_47 : decode cX6_lit 47 = .ok (.ireturn, 1) := by decide +kernel
theorem dX6_cold_0 : decode cX6_cold 0 = .ok (.iload_n 1, 1) := by decide +kernel
theorem dX6_cold_1 : decode cX6_cold 1 = .ok (.bipush (-20), 2) := by decide +kernel
theorem dX6_cold_3 : decode cX6_cold 3 = .ok (.bipush 20, 2) := by decide +kernel
theorem dX6_cold_5 : decode cX6_cold 5 = .ok (.invokestatic 52, 3) := by decide +kernel
theorem dX6_cold_8 : decode cX6_cold 8 = .ok (.ifCond .ne 10, 3) := by decide +kernel
theorem dX6_cold_11 : decode cX6_cold 11 = .ok (.aload_n 0, 1) := by decide +kernel
theorem dX6_cold_12 : decode cX6_cold 12 = .ok (.ldc 56, 2) := by decide +kernel
theorem dX6_cold_14 : decode cX6_cold 14 = .ok (.invokevirtual 57, 3) := by decide +kernel
theorem dX6_cold_17 : decode cX6_cold 17 = .ok (.ireturn, 1) := by decide +kernel
theorem dX6_cold_18 : decode cX6_cold 18 = .ok (.aload_n 0, 1) := by decide +kernel
theorem dX6_cold_19 : decode cX6_cold 19 = .ok (.getfield 12, 3) := by decide +kernel
theorem dX6_cold_22 : decode cX6_cold 22 = .ok (.getfield 113, 3) := by decide +kernel
theorem dX6_cold_25 : decode cX6_cold 25 = .ok (.getfield 139, 3) := by decide +kernel
theorem dX6_cold_28 : decode cX6_cold 28 = .ok (.istore_n 2, 1) := by decide +kernel
theorem dX6_cold_29 : decode cX6_cold 29 = .ok (.aload_n 0, 1) := by decide +kernel
theorem dX6_cold_30 : decode cX6_cold 30 = .ok (.getfield 12, 3) := by decide +kernel
theorem dX6_cold_33 : decode cX6_cold 33 = .ok (.getfield 113, 3) := by decide +kernel
theorem dX6_cold_36 : decode cX6_cold 36 = .ok (.iload_n 1, 1) := by decide +kernel
theorem dX6_cold_37 : decode cX6_cold 37 = .ok (.putfield 139, 3) := by decide +kernel
theorem dX6_cold_40 : decode cX6_cold 40 = .ok (.iload_n 2, 1) := by decide +kernel
theorem dX6_cold_41 : decode cX6_cold 41 = .ok (.ireturn, 1) := by decide +kernel
theorem dX6_warmth_0 : decode cX6_warmth 0 = .ok (.iload_n 1, 1) := by decide +kernel
theorem dX6_warmth_1 : decode cX6_warmth 1 = .ok (.invokestatic 49, 3) := by decide +kernel
theorem dX6_warmth_4 : decode cX6_warmth 4 = .ok (.ifCond .ne 10, 3) := by decide +kernel
theorem dX6_warmth_7 : decode cX6_warmth 7 = .ok (.aload_n 0, 1) := by decide +kernel
theorem dX6_warmth_8 : decode cX6_warmth 8 = .ok (.ldc 56, 2) := by decide +kernel
theorem dX6_warmth_10 : decode cX6_warmth 10 = .ok (.invokevirtual 57, 3) := by decide +kernel
theorem dX6_warmth_13 : decode cX6_warmth 13 = .ok (.ireturn, 1) := by decide +kernel
theorem dX6_warmth_14 : decode cX6_warmth 14 = .ok (.aload_n 0, 1) := by decide +kernel
theorem dX6_warmth_15 : decode cX6_warmth 15 = .ok (.getfield 12, 3) := by decide +kernel
theorem dX6_warmth_18 : decode cX6_warmth 18 = .ok (.getfield 113, 3) := by decide +kernel
theorem dX6_warmth_21 : decode cX6_warmth 21 = .ok (.iload_n 1, 1) := by decide +kernel
theorem dX6_warmth_22 : decode cX6_warmth 22 = .ok (.invokevirtual 117, 3) := by decide +kernel
theorem dX6_warmth_25 : decode cX6_warmth 25 = .ok (.ireturn, 1) := by decide +kernel
theorem dX6_light_0 : decode cX6_light 0 = .ok (.aload_n 0, 1) := by decide +kernel
theorem dX6_light_1 : decode cX6_light 1 = .ok (.getfield 12, 3) := by decide +kernel
theorem dX6_light_4 : decode cX6_light 4 = .ok (.getfield 113, 3) := by decide +kernel
theorem dX6_light_7 : decode cX6_light 7 = .ok (.aload_n 0, 1) := by decide +kernel
theorem dX6_light_8 : decode cX6_light 8 = .ok (.getfield 12, 3) := by decide +kernel
theorem dX6_light_11 : decode cX6_light 11 = .ok (.getfield 113, 3) := by decide +kernel
theorem dX6_light_14 : decode cX6_light 14 = .ok (.getfield 143, 3) := by decide +kernel
theorem dX6_light_17 : decode cX6_light 17 = .ok (.invokevirtual 146, 3) := by decide +kernel
theorem dX6_light_20 : decode cX6_light 20 = .ok (.ireturn, 1) := by decide +kernel
theorem dX6_hours_0 : decode cX6_hours 0 = .ok (.iload_n 1, 1) := by decide +kernel
theorem dX6_hours_1 : decode cX6_hours 1 = .ok (.iconst 1, 1) := by decide +kernel
theorem dX6_hours_2 : decode cX6_hours 2 = .ok (.bipush 48, 2) := by decide +kernel
theorem dX6_hours_4 : decode cX6_hours 4 = .ok (.invokestatic 52, 3) := by decide +kernel
theorem dX6_hours_7 : decode cX6_hours 7 = .ok (.ifCond .ne 10, 3) := by decide +kernel
theorem dX6_hours_10 : decode cX6_hours 10 = .ok (.aload_n 0, 1) := by decide +kernel
theorem dX6_hours_11 : decode cX6_hours 11 = .ok (.ldc 56, 2) := by decide +kernel
theorem dX6_hours_13 : decode cX6_hours 13 = .ok (.invokevirtual 57, 3) := by decide +kernel
theorem dX6_hours_16 : decode cX6_hours 16 = .ok (.ireturn, 1) := by decide +kernel
theorem dX6_hours_17 : decode cX6_hours 17 = .ok (.aload_n 0, 1) := by decide +kernel
theorem dX6_hours_18 : decode cX6_hours 18 = .ok (.iload_n 1, 1) := by decide +kernel
theorem dX6_hours_19 : decode cX6_hours 19 = .ok (.invokevirtual 149, 3) := by decide +kernel
theorem dX6_hours_22 : decode cX6_hours 22 = .ok (.ifCond .ne 10, 3) := by decide +kernel
theorem dX6_hours_25 : decode cX6_hours 25 = .ok (.aload_n 0, 1) := by decide +kernel
theorem dX6_hours_26 : decode cX6_hours 26 = .ok (.ldc 75, 2) := by decide +kernel
theorem dX6_hours_28 : decode cX6_hours 28 = .ok (.invokevirtual 57, 3) := by decide +kernel
theorem dX6_hours_31 : decode cX6_hours 31 = .ok (.ireturn, 1) := by decide +kernel
theorem dX6_hours_32 : decode cX6_hours 32 = .ok (.aload_n 0, 1) := by decide +kernel
theorem dX6_hours_33 : decode cX6_hours 33 = .ok (.getfield 12, 3) := by decide +kernel
theorem dX6_hours_36 : decode cX6_hours 36 = .ok (.iload_n 1, 1) := by decide +kernel
theorem dX6_hours_37 : decode cX6_hours 37 = .ok (.invokevirtual 152, 3) := by decide +kernel
theorem dX6_hours_40 : decode cX6_hours 40 = .ok (.ireturn, 1) := by decide +kernel
theorem dX6_fall_0 : decode cX6_fall 0 = .ok (.aload_n 0, 1) := by decide +kernel
theorem dX6_fall_1 : decode cX6_fall 1 = .ok (.getfield 12, 3) := by decide +kernel
theorem dX6_fall_4 : decode cX6_fall 4 = .ok (.invokevirtual 155, 3) := by decide +kernel
theorem dX6_fall_7 : decode cX6_fall 7 = .ok (.ireturn, 1) := by decide +kernel
theorem dX6_loose_0 : decode cX6_loose 0 = .ok (.aload_n 0, 1) := by decide +kernel
theorem dX6_loose_1 : decode cX6_loose 1 = .ok (.getfield 12, 3) := by decide +kernel
theorem dX6_loose_4 : decode cX6_loose 4 = .ok (.getfield 61, 3) := by decide +kernel
theorem dX6_loose_7 : decode cX6_loose 7 = .ok (.invokevirtual 159, 3) := by decide +kernel
theorem dX6_loose_10 : decode cX6_loose 10 = .ok (.ireturn, 1) := by decide +kernel
theorem dX6_weak_0 : decode cX6_weak 0 = .ok (.aload_n 0, 1) := by decide +kernel
theorem dX6_weak_1 : decode cX6_weak 1 = .ok (.getfield 12, 3) := by decide +kernel
theorem dX6_weak_4 : decode cX6_weak 4 = .ok (.getfield 61, 3) := by decide +kernel
theorem dX6_weak_7 : decode cX6_weak 7 = .ok (.invokevirtual 162, 3) := by decide +kernel
theorem dX6_weak_10 : decode cX6_weak 10 = .ok (.ireturn, 1) := by decide +kernel
theorem dX6_ahead_0 : decode cX6_ahead 0 = .ok (.iload_n 1, 1) := by decide +kernel
theorem dX6_ahead_1 : decode cX6_ahead 1 = .ok (.iconst 0, 1) := by decide +kernel
theorem dX6_ahead_2 : decode cX6_ahead 2 = .ok (.bipush 96, 2) := by decide +kernel
theorem dX6_ahead_4 : decode cX6_ahead 4 = .ok (.invokestatic 52, 3) := by decide +kernel
theorem dX6_ahead_7 : decode cX6_ahead 7 = .ok (.ifCond .eq 12, 3) := by decide +kernel
theorem dX6_ahead_10 : decode cX6_ahead 10 = .ok (.iload_n 2, 1) := by decide +kernel
theorem dX6_ahead_11 : decode cX6_ahead 11 = .ok (.iconst 0, 1) := by decide +kernel
theorem dX6_ahead_12 : decode cX6_ahead 12 = .ok (.iconst 4, 1) := by decide +kernel
theorem dX6_ahead_13 : decode cX6_ahead 13 = .ok (.invokestatic 52, 3) := by decide +kernel
theorem dX6_ahead_16 : decode cX6_ahead 16 = .ok (.ifCond .ne 10, 3) := by decide +kernel
theorem dX6_ahead_19 : decode cX6_ahead 19 = .ok (.aload_n 0, 1) := by decide +kernel
theorem dX6_ahead_20 : decode cX6_ahead 20 = .ok (.ldc 56, 2) := by decide +kernel
theorem dX6_ahead_22 : decode cX6_ahead 22 = .ok (.invokevirtual 57, 3) := by decide +kernel
theorem dX6_ahead_25 : decode cX6_ahead 25 = .ok (.ireturn, 1) := by decide +kernel
theorem dX6_ahead_26 : decode cX6_ahead 26 = .ok (.aload_n 0, 1) := by decide +kernel
theorem dX6_ahead_27 : decode cX6_ahead 27 = .ok (.iload_n 1, 1) := by decide +kernel
theorem dX6_ahead_28 : decode cX6_ahead 28 = .ok (.invokevirtual 149, 3) := by decide +kernel
theorem dX6_ahead_31 : decode cX6_ahead 31 = .ok (.ifCond .ne 10, 3) := by decide +kernel
theorem dX6_ahead_34 : decode cX6_ahead 34 = .ok (.aload_n 0, 1) := by decide +kernel
theorem dX6_ahead_35 : decode cX6_ahead 35 = .ok (.ldc 75, 2) := by decide +kernel
theorem dX6_ahead_37 : decode cX6_ahead 37 = .ok (.invokevirtual 57, 3) := by decide +kernel
theorem dX6_ahead_40 : decode cX6_ahead 40 = .ok (.ireturn, 1) := by decide +kernel
theorem dX6_ahead_41 : decode cX6_ahead 41 = .ok (.aload_n 0, 1) := by decide +kernel
theorem dX6_ahead_42 : decode cX6_ahead 42 = .ok (.invokevirtual 165, 3) := by decide +kernel
theorem dX6_ahead_45 : decode cX6_ahead 45 = .ok (.astore_n 3, 1) := by decide +kernel
theorem dX6_ahead_46 : decode cX6_ahead 46 = .ok (.aload_n 3, 1) := by decide +kernel
theorem dX6_ahead_47 : decode cX6_ahead 47 = .ok (.iload_n 1, 1) := by decide +kernel
theorem dX6_ahead_48 : decode cX6_ahead 48 = .ok (.invokevirtual 152, 3) := by decide +kernel
theorem dX6_ahead_51 : decode cX6_ahead 51 = .ok (.istore 4, 2) := by decide +kernel
theorem dX6_ahead_53 : decode cX6_ahead 53 = .ok (.iload_n 2, 1) := by decide +kernel
theorem dX6_ahead_54 : decode cX6_ahead 54 = .ok (.tableswitch 51 0 3 #[30, 33, 41, 46], 30) := by decide +kernel
theorem dX6_ahead_84 : decode cX6_ahead 84 = .ok (.iload 4, 2) := by decide +kernel
theorem dX6_ahead_86 : decode cX6_ahead 86 = .ok (.ireturn, 1) := by decide +kernel
theorem dX6_ahead_87 : decode cX6_ahead 87 = .ok (.aload_n 3, 1) := by decide +kernel
theorem dX6_ahead_88 : decode cX6_ahead 88 = .ok (.getfield 61, 3) := by decide +kernel
theorem dX6_ahead_91 : decode cX6_ahead 91 = .ok (.invokevirtual 169, 3) := by decide +kernel
theorem dX6_ahead_94 : decode cX6_ahead 94 = .ok (.ireturn, 1) := by decide +kernel
theorem dX6_ahead_95 : decode cX6_ahead 95 = .ok (.aload_n 3, 1) := by decide +kernel
theorem dX6_ahead_96 : decode cX6_ahead 96 = .ok (.getfield 172, 3) := by decide +kernel
theorem dX6_ahead_99 : decode cX6_ahead 99 = .ok (.ireturn, 1) := by decide +kernel
theorem dX6_ahead_100 : decode cX6_ahead 100 = .ok (.aload_n 3, 1) := by decide +kernel
theorem dX6_ahead_101 : decode cX6_ahead 101 = .ok (.getfield 175, 3) := by decide +kernel
theorem dX6_ahead_104 : decode cX6_ahead 104 = .ok (.ireturn, 1) := by decide +kernel
theorem dX6_ahead_105 : decode cX6_ahead 105 = .ok (.aload_n 3, 1) := by decide +kernel
theorem dX6_ahead_106 : decode cX6_ahead 106 = .ok (.getfield 61, 3) := by decide +kernel
theorem dX6_ahead_109 : decode cX6_ahead 109 = .ok (.invokevirtual 178, 3) := by decide +kernel
theorem dX6_ahead_112 : decode cX6_ahead 112 = .ok (.ireturn, 1) := by decide +kernel
theorem dX6_goes_0 : decode cX6_goes 0 = .ok (.aload_n 0, 1) := by decide +kernel
theorem dX6_goes_1 : decode cX6_goes 1 = .ok (.getfield 12, 3) := by decide +kernel
theorem dX6_goes_4 : decode cX6_goes 4 = .ok (.getfield 61, 3) := by decide +kernel
theorem dX6_goes_7 : decode cX6_goes 7 = .ok (.iload_n 1, 1) := by decide +kernel
theorem dX6_goes_8 : decode cX6_goes 8 = .ok (.invokevirtual 80, 3) := by decide +kernel
theorem dX6_goes_11 : decode cX6_goes 11 = .ok (.ifCond .ne 10, 3) := by decide +kernel
theorem dX6_goes_14 : decode cX6_goes 14 = .ok (.aload_n 0, 1) := by decide +kernel
theorem dX6_goes_15 : decode cX6_goes 15 = .ok (.ldc 56, 2) := by decide +kernel
theorem dX6_goes_17 : decode cX6_goes 17 = .ok (.invokevirtual 57, 3) := by decide +kernel
theorem dX6_goes_20 : decode cX6_goes 20 = .ok (.ireturn, 1) := by decide +kernel
theorem dX6_goes_21 : decode cX6_goes 21 = .ok (.aload_n 0, 1) := by decide +kernel
theorem dX6_goes_22 : decode cX6_goes 22 = .ok (.getfield 12, 3) := by decide +kernel
theorem dX6_goes_25 : decode cX6_goes 25 = .ok (.getfield 61, 3) := by decide +kernel
theorem dX6_goes_28 : decode cX6_goes 28 = .ok (.iload_n 1, 1) := by decide +kernel
theorem dX6_goes_29 : decode cX6_goes 29 = .ok (.invokevirtual 92, 3) := by decide +kernel
theorem dX6_goes_32 : decode cX6_goes 32 = .ok (.ifCond .ne 12, 3) := by decide +kernel
theorem dX6_goes_35 : decode cX6_goes 35 = .ok (.aload_n 0, 1) := by decide +kernel
theorem dX6_goes_36 : decode cX6_goes 36 = .ok (.bipush 96, 2) := by decide +kernel
theorem dX6_goes_38 : decode cX6_goes 38 = .ok (.invokevirtual 149, 3) := by decide +kernel
theorem dX6_goes_41 : decode cX6_goes 41 = .ok (.ifCond .ne 10, 3) := by decide +kernel
theorem dX6_goes_44 : decode cX6_goes 44 = .ok (.aload_n 0, 1) := by decide +kernel
theorem dX6_goes_45 : decode cX6_goes 45 = .ok (.ldc 75, 2) := by decide +kernel
theorem dX6_goes_47 : decode cX6_goes 47 = .ok (.invokevirtual 57, 3) := by decide +kernel
theorem dX6_goes_50 : decode cX6_goes 50 = .ok (.ireturn, 1) := by decide +kernel
theorem dX6_goes_51 : decode cX6_goes 51 = .ok (.aload_n 0, 1) := by decide +kernel
theorem dX6_goes_52 : decode cX6_goes 52 = .ok (.invokevirtual 165, 3) := by decide +kernel
theorem dX6_goes_55 : decode cX6_goes 55 = .ok (.iload_n 1, 1) := by decide +kernel
theorem dX6_goes_56 : decode cX6_goes 56 = .ok (.bipush 96, 2) := by decide +kernel
theorem dX6_goes_58 : decode cX6_goes 58 = .ok (.invokevirtual 181, 3) := by decide +kernel
theorem dX6_goes_61 : decode cX6_goes 61 = .ok (.istore_n 2, 1) := by decide +kernel
theorem dX6_goes_62 : decode cX6_goes 62 = .ok (.iload_n 2, 1) := by decide +kernel
theorem dX6_goes_63 : decode cX6_goes 63 = .ok (.bipush 96, 2) := by decide +kernel
theorem dX6_goes_65 : decode cX6_goes 65 = .ok (.if_icmp .le 12, 3) := by decide +kernel
theorem dX6_goes_68 : decode cX6_goes 68 = .ok (.aload_n 0, 1) := by decide +kernel
theorem dX6_goes_69 : decode cX6_goes 69 = .ok (.ldc 184, 2) := by decide +kernel
theorem dX6_goes_71 : decode cX6_goes 71 = .ok (.invokevirtual 57, 3) := by decide +kernel
theorem dX6_goes_74 : decode cX6_goes 74 = .ok (.goto 4, 3) := by decide +kernel
theorem dX6_goes_77 : decode cX6_goes 77 = .ok (.iload_n 2, 1) := by decide +kernel
theorem dX6_goes_78 : decode cX6_goes 78 = .ok (.ireturn, 1) := by decide +kernel
theorem dX6_holds_0 : decode cX6_holds 0 = .ok (.aload_n 0, 1) := by decide +kernel
theorem dX6_holds_1 : decode cX6_holds 1 = .ok (.bipush 96, 2) := by decide +kernel
theorem dX6_holds_3 : decode cX6_holds 3 = .ok (.invokevirtual 149, 3) := by decide +kernel
theorem dX6_holds_6 : decode cX6_holds 6 = .ok (.ifCond .ne 10, 3) := by decide +kernel
theorem dX6_holds_9 : decode cX6_holds 9 = .ok (.aload_n 0, 1) := by decide +kernel
theorem dX6_holds_10 : decode cX6_holds 10 = .ok (.ldc 75, 2) := by decide +kernel
theorem dX6_holds_12 : decode cX6_holds 12 = .ok (.invokevirtual 57, 3) := by decide +kernel
theorem dX6_holds_15 : decode cX6_holds 15 = .ok (.ireturn, 1) := by decide +kernel
theorem dX6_holds_16 : decode cX6_holds 16 = .ok (.aload_n 0, 1) := by decide +kernel
theorem dX6_holds_17 : decode cX6_holds 17 = .ok (.invokevirtual 165, 3) := by decide +kernel
theorem dX6_holds_20 : decode cX6_holds 20 = .ok (.bipush 96, 2) := by decide +kernel
theorem dX6_holds_22 : decode cX6_holds 22 = .ok (.invokevirtual 185, 3) := by decide +kernel
theorem dX6_holds_25 : decode cX6_holds 25 = .ok (.ireturn, 1) := by decide +kernel
theorem dX6_deal_0 : decode cX6_deal 0 = .ok (.iload_n 1, 1) := by decide +kernel
theorem dX6_deal_1 : decode cX6_deal 1 = .ok (.iconst 1, 1) := by decide +kernel
theorem dX6_deal_2 : decode cX6_deal 2 = .ok (.bipush 48, 2) := by decide +kernel
theorem dX6_deal_4 : decode cX6_deal 4 = .ok (.invokestatic 52, 3) := by decide +kernel
theorem dX6_deal_7 : decode cX6_deal 7 = .ok (.ifCond .ne 10, 3) := by decide +kernel
theorem dX6_deal_10 : decode cX6_deal 10 = .ok (.aload_n 0, 1) := by decide +kernel
theorem dX6_deal_11 : decode cX6_deal 11 = .ok (.ldc 56, 2) := by decide +kernel
theorem dX6_deal_13 : decode cX6_deal 13 = .ok (.invokevirtual 57, 3) := by decide +kernel
theorem dX6_deal_16 : decode cX6_deal 16 = .ok (.ireturn, 1) := by decide +kernel
theorem dX6_deal_17 : decode cX6_deal 17 = .ok (.aload_n 0, 1) := by decide +kernel
theorem dX6_deal_18 : decode cX6_deal 18 = .ok (.iload_n 1, 1) := by decide +kernel
theorem dX6_deal_19 : decode cX6_deal 19 = .ok (.invokevirtual 149, 3) := by decide +kernel
theorem dX6_deal_22 : decode cX6_deal 22 = .ok (.ifCond .ne 10, 3) := by decide +kernel
theorem dX6_deal_25 : decode cX6_deal 25 = .ok (.aload_n 0, 1) := by decide +kernel
theorem dX6_deal_26 : decode cX6_deal 26 = .ok (.ldc 75, 2) := by decide +kernel
theorem dX6_deal_28 : decode cX6_deal 28 = .ok (.invokevirtual 57, 3) := by decide +kernel
theorem dX6_deal_31 : decode cX6_deal 31 = .ok (.ireturn, 1) := by decide +kernel
theorem dX6_deal_32 : decode cX6_deal 32 = .ok (.iconst (-1), 1) := by decide +kernel
theorem dX6_deal_33 : decode cX6_deal 33 = .ok (.istore_n 2, 1) := by decide +kernel
theorem dX6_deal_34 : decode cX6_deal 34 = .ok (.iconst (-1), 1) := by decide +kernel
theorem dX6_deal_35 : decode cX6_deal 35 = .ok (.istore_n 3, 1) := by decide +kernel
theorem dX6_deal_36 : decode cX6_deal 36 = .ok (.iconst 0, 1) := by decide +kernel
theorem dX6_deal_37 : decode cX6_deal 37 = .ok (.istore 4, 2) := by decide +kernel
theorem dX6_deal_39 : decode cX6_deal 39 = .ok (.iload 4, 2) := by decide +kernel
theorem dX6_deal_41 : decode cX6_deal 41 = .ok (.bipush 64, 2) := by decide +kernel
theorem dX6_deal_43 : decode cX6_deal 43 = .ok (.if_icmp .ge 64, 3) := by decide +kernel
theorem dX6_deal_46 : decode cX6_deal 46 = .ok (.aload_n 0, 1) := by decide +kernel
theorem dX6_deal_47 : decode cX6_deal 47 = .ok (.getfield 12, 3) := by decide +kernel
theorem dX6_deal_50 : decode cX6_deal 50 = .ok (.getfield 113, 3) := by decide +kernel
theorem dX6_deal_53 : decode cX6_deal 53 = .ok (.iload 4, 2) := by decide +kernel
theorem dX6_deal_55 : decode cX6_deal 55 = .ok (.invokevirtual 146, 3) := by decide +kernel
theorem dX6_deal_58 : decode cX6_deal 58 = .ok (.istore 5, 2) := by decide +kernel
theorem dX6_deal_60 : decode cX6_deal 60 = .ok (.iload 5, 2) := by decide +kernel
theorem dX6_deal_62 : decode cX6_deal 62 = .ok (.iload_n 3, 1) := by decide +kernel
theorem dX6_deal_63 : decode cX6_deal 63 = .ok (.if_icmp .gt 6, 3) := by decide +kernel
theorem dX6_deal_66 : decode cX6_deal 66 = .ok (.goto 35, 3) := by decide +kernel
theorem dX6_deal_69 : decode cX6_deal 69 = .ok (.aload_n 0, 1) := by decide +kernel
theorem dX6_deal_70 : decode cX6_deal 70 = .ok (.invokevirtual 165, 3) := by decide +kernel
theorem dX6_deal_73 : decode cX6_deal 73 = .ok (.astore 6, 2) := by decide +kernel
theorem dX6_deal_75 : decode cX6_deal 75 = .ok (.aload 6, 2) := by decide +kernel
theorem dX6_deal_77 : decode cX6_deal 77 = .ok (.getfield 113, 3) := by decide +kernel
theorem dX6_deal_80 : decode cX6_deal 80 = .ok (.iload 4, 2) := by decide +kernel
theorem dX6_deal_82 : decode cX6_deal 82 = .ok (.putfield 143, 3) := by decide +kernel
theorem dX6_deal_85 : decode cX6_deal 85 = .ok (.aload 6, 2) := by decide +kernel
theorem dX6_deal_87 : decode cX6_deal 87 = .ok (.iload_n 1, 1) := by decide +kernel
theorem dX6_deal_88 : decode cX6_deal 88 = .ok (.invokevirtual 185, 3) := by decide +kernel
theorem dX6_deal_91 : decode cX6_deal 91 = .ok (.iload_n 1, 1) := by decide +kernel
theorem dX6_deal_92 : decode cX6_deal 92 = .ok (.if_icmp .ne 9, 3) := by decide +kernel
theorem dX6_deal_95 : decode cX6_deal 95 = .ok (.iload 4, 2) := by decide +kernel
theorem dX6_deal_97 : decode cX6_deal 97 = .ok (.istore_n 2, 1) := by decide +kernel
theorem dX6_deal_98 : decode cX6_deal 98 = .ok (.iload 5, 2) := by decide +kernel
theorem dX6_deal_100 : decode cX6_deal 100 = .ok (.istore_n 3, 1) := by decide +kernel
theorem dX6_deal_101 : decode cX6_deal 101 = .ok (.iinc 4 1, 3) := by decide +kernel
theorem dX6_deal_104 : decode cX6_deal 104 = .ok (.goto (-65), 3) := by decide +kernel
theorem dX6_deal_107 : decode cX6_deal 107 = .ok (.iload_n 2, 1) := by decide +kernel
theorem dX6_deal_108 : decode cX6_deal 108 = .ok (.ifCond .ge 12, 3) := by decide +kernel
theorem dX6_deal_111 : decode cX6_deal 111 = .ok (.aload_n 0, 1) := by decide +kernel
theorem dX6_deal_112 : decode cX6_deal 112 = .ok (.ldc 184, 2) := by decide +kernel
theorem dX6_deal_114 : decode cX6_deal 114 = .ok (.invokevirtual 57, 3) := by decide +kernel
theorem dX6_deal_117 : decode cX6_deal 117 = .ok (.goto 4, 3) := by decide +kernel
theorem dX6_deal_120 : decode cX6_deal 120 = .ok (.iload_n 2, 1) := by decide +kernel
theorem dX6_deal_121 : decode cX6_deal 121 = .ok (.ireturn, 1) := by decide +kernel
theorem dX6_bears_0 : decode cX6_bears 0 = .ok (.iload_n 1, 1) := by decide +kernel
theorem dX6_bears_1 : decode cX6_bears 1 = .ok (.iconst 1, 1) := by decide +kernel
theorem dX6_bears_2 : decode cX6_bears 2 = .ok (.bipush 48, 2) := by decide +kernel
theorem dX6_bears_4 : decode cX6_bears 4 = .ok (.invokestatic 52, 3) := by decide +kernel
theorem dX6_bears_7 : decode cX6_bears 7 = .ok (.ifCond .ne 10, 3) := by decide +kernel
theorem dX6_bears_10 : decode cX6_bears 10 = .ok (.aload_n 0, 1) := by decide +kernel
theorem dX6_bears_11 : decode cX6_bears 11 = .ok (.ldc 56, 2) := by decide +kernel
theorem dX6_bears_13 : decode cX6_bears 13 = .ok (.invokevirtual 57, 3) := by decide +kernel
theorem dX6_bears_16 : decode cX6_bears 16 = .ok (.ireturn, 1) := by decide +kernel
theorem dX6_bears_17 : decode cX6_bears 17 = .ok (.aload_n 0, 1) := by decide +kernel
theorem dX6_bears_18 : decode cX6_bears 18 = .ok (.iload_n 1, 1) := by decide +kernel
theorem dX6_bears_19 : decode cX6_bears 19 = .ok (.invokevirtual 149, 3) := by decide +kernel
theorem dX6_bears_22 : decode cX6_bears 22 = .ok (.ifCond .ne 10, 3) := by decide +kernel
theorem dX6_bears_25 : decode cX6_bears 25 = .ok (.aload_n 0, 1) := by decide +kernel
theorem dX6_bears_26 : decode cX6_bears 26 = .ok (.ldc 75, 2) := by decide +kernel
theorem dX6_bears_28 : decode cX6_bears 28 = .ok (.invokevirtual 57, 3) := by decide +kernel
theorem dX6_bears_31 : decode cX6_bears 31 = .ok (.ireturn, 1) := by decide +kernel
theorem dX6_bears_32 : decode cX6_bears 32 = .ok (.bipush 20, 2) := by decide +kernel
theorem dX6_bears_34 : decode cX6_bears 34 = .ok (.istore_n 2, 1) := by decide +kernel
theorem dX6_bears_35 : decode cX6_bears 35 = .ok (.iload_n 2, 1) := by decide +kernel
theorem dX6_bears_36 : decode cX6_bears 36 = .ok (.bipush (-20), 2) := by decide +kernel
theorem dX6_bears_38 : decode cX6_bears 38 = .ok (.if_icmp .lt 33, 3) := by decide +kernel
theorem dX6_bears_41 : decode cX6_bears 41 = .ok (.aload_n 0, 1) := by decide +kernel
theorem dX6_bears_42 : decode cX6_bears 42 = .ok (.invokevirtual 165, 3) := by decide +kernel
theorem dX6_bears_45 : decode cX6_bears 45 = .ok (.astore_n 3, 1) := by decide +kernel
theorem dX6_bears_46 : decode cX6_bears 46 = .ok (.aload_n 3, 1) := by decide +kernel
theorem dX6_bears_47 : decode cX6_bears 47 = .ok (.getfield 113, 3) := by decide +kernel
theorem dX6_bears_50 : decode cX6_bears 50 = .ok (.iload_n 2, 1) := by decide +kernel
theorem dX6_bears_51 : decode cX6_bears 51 = .ok (.putfield 139, 3) := by decide +kernel
theorem dX6_bears_54 : decode cX6_bears 54 = .ok (.aload_n 3, 1) := by decide +kernel
theorem dX6_bears_55 : decode cX6_bears 55 = .ok (.iload_n 1, 1) := by decide +kernel
theorem dX6_bears_56 : decode cX6_bears 56 = .ok (.invokevirtual 185, 3) := by decide +kernel
theorem dX6_bears_59 : decode cX6_bears 59 = .ok (.iload_n 1, 1) := by decide +kernel
theorem dX6_bears_60 : decode cX6_bears 60 = .ok (.if_icmp .ne 5, 3) := by decide +kernel
theorem dX6_bears_63 : decode cX6_bears 63 = .ok (.iload_n 2, 1) := by decide +kernel
theorem dX6_bears_64 : decode cX6_bears 64 = .ok (.ireturn, 1) := by decide +kernel
theorem dX6_bears_65 : decode cX6_bears 65 = .ok (.iinc 2 (-1), 3) := by decide +kernel
theorem dX6_bears_68 : decode cX6_bears 68 = .ok (.goto (-33), 3) := by decide +kernel
theorem dX6_bears_71 : decode cX6_bears 71 = .ok (.aload_n 0, 1) := by decide +kernel
theorem dX6_bears_72 : decode cX6_bears 72 = .ok (.ldc 184, 2) := by decide +kernel
theorem dX6_bears_74 : decode cX6_bears 74 = .ok (.invokevirtual 57, 3) := by decide +kernel
theorem dX6_bears_77 : decode cX6_bears 77 = .ok (.ireturn, 1) := by decide +kernel
theorem dX6_needs_0 : decode cX6_needs 0 = .ok (.aload_n 0, 1) := by decide +kernel
theorem dX6_needs_1 : decode cX6_needs 1 = .ok (.getfield 12, 3) := by decide +kernel
theorem dX6_needs_4 : decode cX6_needs 4 = .ok (.getfield 61, 3) := by decide +kernel
theorem dX6_needs_7 : decode cX6_needs 7 = .ok (.iload_n 1, 1) := by decide +kernel
theorem dX6_needs_8 : decode cX6_needs 8 = .ok (.invokevirtual 80, 3) := by decide +kernel
theorem dX6_needs_11 : decode cX6_needs 11 = .ok (.ifCond .eq 13, 3) := by decide +kernel
theorem dX6_needs_14 : decode cX6_needs 14 = .ok (.iload_n 2, 1) := by decide +kernel
theorem dX6_needs_15 : decode cX6_needs 15 = .ok (.iconst 1, 1) := by decide +kernel
theorem dX6_needs_16 : decode cX6_needs 16 = .ok (.bipush 48, 2) := by decide +kernel
theorem dX6_needs_18 : decode cX6_needs 18 = .ok (.invokestatic 52, 3) := by decide +kernel
theorem dX6_needs_21 : decode cX6_needs 21 = .ok (.ifCond .ne 10, 3) := by decide +kernel
theorem dX6_needs_24 : decode cX6_needs 24 = .ok (.aload_n 0, 1) := by decide +kernel
theorem dX6_needs_25 : decode cX6_needs 25 = .ok (.ldc 56, 2) := by decide +kernel
theorem dX6_needs_27 : decode cX6_needs 27 = .ok (.invokevirtual 57, 3) := by decide +kernel
theorem dX6_needs_30 : decode cX6_needs 30 = .ok (.ireturn, 1) := by decide +kernel
theorem dX6_needs_31 : decode cX6_needs 31 = .ok (.aload_n 0, 1) := by decide +kernel
theorem dX6_needs_32 : decode cX6_needs 32 = .ok (.getfield 12, 3) := by decide +kernel
theorem dX6_needs_35 : decode cX6_needs 35 = .ok (.getfield 61, 3) := by decide +kernel
theorem dX6_needs_38 : decode cX6_needs 38 = .ok (.iload_n 1, 1) := by decide +kernel
theorem dX6_needs_39 : decode cX6_needs 39 = .ok (.invokevirtual 92, 3) := by decide +kernel
theorem dX6_needs_42 : decode cX6_needs 42 = .ok (.ifCond .ne 11, 3) := by decide +kernel
theorem dX6_needs_45 : decode cX6_needs 45 = .ok (.aload_n 0, 1) := by decide +kernel
theorem dX6_needs_46 : decode cX6_needs 46 = .ok (.iload_n 2, 1) := by decide +kernel
theorem dX6_needs_47 : decode cX6_needs 47 = .ok (.invokevirtual 149, 3) := by decide +kernel
theorem dX6_needs_50 : decode cX6_needs 50 = .ok (.ifCond .ne 10, 3) := by decide +kernel
theorem dX6_needs_53 : decode cX6_needs 53 = .ok (.aload_n 0, 1) := by decide +kernel
theorem dX6_needs_54 : decode cX6_needs 54 = .ok (.ldc 75, 2) := by decide +kernel
theorem dX6_needs_56 : decode cX6_needs 56 = .ok (.invokevirtual 57, 3) := by decide +kernel
theorem dX6_needs_59 : decode cX6_needs 59 = .ok (.ireturn, 1) := by decide +kernel
theorem dX6_needs_60 : decode cX6_needs 60 = .ok (.bipush 99, 2) := by decide +kernel
theorem dX6_needs_62 : decode cX6_needs 62 = .ok (.aload_n 0, 1) := by decide +kernel
theorem dX6_needs_63 : decode cX6_needs 63 = .ok (.getfield 12, 3) := by decide +kernel
theorem dX6_needs_66 : decode cX6_needs 66 = .ok (.getfield 61, 3) := by decide +kernel
theorem dX6_needs_69 : decode cX6_needs 69 = .ok (.getfield 89, 3) := by decide +kernel
theorem dX6_needs_72 : decode cX6_needs 72 = .ok (.iload_n 1, 1) := by decide +kernel
theorem dX6_needs_73 : decode cX6_needs 73 = .ok (.iaload, 1) := by decide +kernel
theorem dX6_needs_74 : decode cX6_needs 74 = .ok (.isub, 1) := by decide +kernel
theorem dX6_needs_75 : decode cX6_needs 75 = .ok (.istore_n 3, 1) := by decide +kernel
theorem dX6_needs_76 : decode cX6_needs 76 = .ok (.iconst 0, 1) := by decide +kernel
theorem dX6_needs_77 : decode cX6_needs 77 = .ok (.istore 4, 2) := by decide +kernel
theorem dX6_needs_79 : decode cX6_needs 79 = .ok (.iload 4, 2) := by decide +kernel
theorem dX6_needs_81 : decode cX6_needs 81 = .ok (.iload_n 3, 1) := by decide +kernel
theorem dX6_needs_82 : decode cX6_needs 82 = .ok (.if_icmp .gt 40, 3) := by decide +kernel
theorem dX6_needs_85 : decode cX6_needs 85 = .ok (.aload_n 0, 1) := by decide +kernel
theorem dX6_needs_86 : decode cX6_needs 86 = .ok (.invokevirtual 165, 3) := by decide +kernel
theorem dX6_needs_89 : decode cX6_needs 89 = .ok (.astore 5, 2) := by decide +kernel
theorem dX6_needs_91 : decode cX6_needs 91 = .ok (.aload 5, 2) := by decide +kernel
theorem dX6_needs_93 : decode cX6_needs 93 = .ok (.getfield 61, 3) := by decide +kernel
theorem dX6_needs_96 : decode cX6_needs 96 = .ok (.iload_n 1, 1) := by decide +kernel
theorem dX6_needs_97 : decode cX6_needs 97 = .ok (.iload 4, 2) := by decide +kernel
theorem dX6_needs_99 : decode cX6_needs 99 = .ok (.invokevirtual 122, 3) := by decide +kernel
theorem dX6_needs_102 : decode cX6_needs 102 = .ok (.pop, 1) := by decide +kernel
theorem dX6_needs_103 : decode cX6_needs 103 = .ok (.aload 5, 2) := by decide +kernel
theorem dX6_needs_105 : decode cX6_needs 105 = .ok (.iload_n 2, 1) := by decide +kernel
theorem dX6_needs_106 : decode cX6_needs 106 = .ok (.invokevirtual 185, 3) := by decide +kernel
theorem dX6_needs_109 : decode cX6_needs 109 = .ok (.iload_n 2, 1) := by decide +kernel
theorem dX6_needs_110 : decode cX6_needs 110 = .ok (.if_icmp .ne 6, 3) := by decide +kernel
theorem dX6_needs_113 : decode cX6_needs 113 = .ok (.iload 4, 2) := by decide +kernel
theorem dX6_needs_115 : decode cX6_needs 115 = .ok (.ireturn, 1) := by decide +kernel
theorem dX6_needs_116 : decode cX6_needs 116 = .ok (.iinc 4 1, 3) := by decide +kernel
theorem dX6_needs_119 : decode cX6_needs 119 = .ok (.goto (-40), 3) := by decide +kernel
theorem dX6_needs_122 : decode cX6_needs 122 = .ok (.aload_n 0, 1) := by decide +kernel
theorem dX6_needs_123 : decode cX6_needs 123 = .ok (.ldc 184, 2) := by decide +kernel
theorem dX6_needs_125 : decode cX6_needs 125 = .ok (.invokevirtual 57, 3) := by decide +kernel
theorem dX6_needs_128 : decode cX6_needs 128 = .ok (.ireturn, 1) := by decide +kernel
theorem dX6_mend_0 : decode cX6_mend 0 = .ok (.iload_n 1, 1) := by decide +kernel
theorem dX6_mend_1 : decode cX6_mend 1 = .ok (.iconst 1, 1) := by decide +kernel
theorem dX6_mend_2 : decode cX6_mend 2 = .ok (.bipush 98, 2) := by decide +kernel
theorem dX6_mend_4 : decode cX6_mend 4 = .ok (.invokestatic 52, 3) := by decide +kernel
theorem dX6_mend_7 : decode cX6_mend 7 = .ok (.ifCond .ne 10, 3) := by decide +kernel
theorem dX6_mend_10 : decode cX6_mend 10 = .ok (.aload_n 0, 1) := by decide +kernel
theorem dX6_mend_11 : decode cX6_mend 11 = .ok (.ldc 56, 2) := by decide +kernel
theorem dX6_mend_13 : decode cX6_mend 13 = .ok (.invokevirtual 57, 3) := by decide +kernel
theorem dX6_mend_16 : decode cX6_mend 16 = .ok (.ireturn, 1) := by decide +kernel
theorem dX6_mend_17 : decode cX6_mend 17 = .ok (.aload_n 0, 1) := by decide +kernel
theorem dX6_mend_18 : decode cX6_mend 18 = .ok (.bipush 96, 2) := by decide +kernel
theorem dX6_mend_20 : decode cX6_mend 20 = .ok (.invokevirtual 149, 3) := by decide +kernel
theorem dX6_mend_23 : decode cX6_mend 23 = .ok (.ifCond .ne 10, 3) := by decide +kernel
theorem dX6_mend_26 : decode cX6_mend 26 = .ok (.aload_n 0, 1) := by decide +kernel
theorem dX6_mend_27 : decode cX6_mend 27 = .ok (.ldc 75, 2) := by decide +kernel
theorem dX6_mend_29 : decode cX6_mend 29 = .ok (.invokevirtual 57, 3) := by decide +kernel
theorem dX6_mend_32 : decode cX6_mend 32 = .ok (.ireturn, 1) := by decide +kernel
theorem dX6_mend_33 : decode cX6_mend 33 = .ok (.iconst (-1), 1) := by decide +kernel
theorem dX6_mend_34 : decode cX6_mend 34 = .ok (.istore_n 2, 1) := by decide +kernel
theorem dX6_mend_35 : decode cX6_mend 35 = .ok (.iconst (-1), 1) := by decide +kernel
theorem dX6_mend_36 : decode cX6_mend 36 = .ok (.istore_n 3, 1) := by decide +kernel
theorem dX6_mend_37 : decode cX6_mend 37 = .ok (.iconst 0, 1) := by decide +kernel
theorem dX6_mend_38 : decode cX6_mend 38 = .ok (.istore 4, 2) := by decide +kernel
theorem dX6_mend_40 : decode cX6_mend 40 = .ok (.iload 4, 2) := by decide +kernel
theorem dX6_mend_42 : decode cX6_mend 42 = .ok (.aload_n 0, 1) := by decide +kernel
theorem dX6_mend_43 : decode cX6_mend 43 = .ok (.getfield 12, 3) := by decide +kernel
theorem dX6_mend_46 : decode cX6_mend 46 = .ok (.getfield 61, 3) := by decide +kernel
theorem dX6_mend_49 : decode cX6_mend 49 = .ok (.getfield 188, 3) := by decide +kernel
theorem dX6_mend_52 : decode cX6_mend 52 = .ok (.if_icmp .ge 66, 3) := by decide +kernel
theorem dX6_mend_55 : decode cX6_mend 55 = .ok (.aload_n 0, 1) := by decide +kernel
theorem dX6_mend_56 : decode cX6_mend 56 = .ok (.getfield 12, 3) := by decide +kernel
theorem dX6_mend_59 : decode cX6_mend 59 = .ok (.getfield 61, 3) := by decide +kernel
theorem dX6_mend_62 : decode cX6_mend 62 = .ok (.iload 4, 2) := by decide +kernel
theorem dX6_mend_64 : decode cX6_mend 64 = .ok (.invokevirtual 92, 3) := by decide +kernel
theorem dX6_mend_67 : decode cX6_mend 67 = .ok (.ifCond .eq 6, 3) := by decide +kernel
theorem dX6_mend_70 : decode cX6_mend 70 = .ok (.goto 42, 3) := by decide +kernel
theorem dX6_mend_73 : decode cX6_mend 73 = .ok (.aload_n 0, 1) := by decide +kernel
theorem dX6_mend_74 : decode cX6_mend 74 = .ok (.invokevirtual 165, 3) := by decide +kernel
theorem dX6_mend_77 : decode cX6_mend 77 = .ok (.astore 5, 2) := by decide +kernel
theorem dX6_mend_79 : decode cX6_mend 79 = .ok (.aload 5, 2) := by decide +kernel
theorem dX6_mend_81 : decode cX6_mend 81 = .ok (.getfield 61, 3) := by decide +kernel
theorem dX6_mend_84 : decode cX6_mend 84 = .ok (.iload 4, 2) := by decide +kernel
theorem dX6_mend_86 : decode cX6_mend 86 = .ok (.iload_n 1, 1) := by decide +kernel
theorem dX6_mend_87 : decode cX6_mend 87 = .ok (.invokevirtual 122, 3) := by decide +kernel
theorem dX6_mend_90 : decode cX6_mend 90 = .ok (.pop, 1) := by decide +kernel
theorem dX6_mend_91 : decode cX6_mend 91 = .ok (.aload 5, 2) := by decide +kernel
theorem dX6_mend_93 : decode cX6_mend 93 = .ok (.bipush 96, 2) := by decide +kernel
theorem dX6_mend_95 : decode cX6_mend 95 = .ok (.invokevirtual 185, 3) := by decide +kernel
theorem dX6_mend_98 : decode cX6_mend 98 = .ok (.istore 6, 2) := by decide +kernel
theorem dX6_mend_100 : decode cX6_mend 100 = .ok (.iload 6, 2) := by decide +kernel
theorem dX6_mend_102 : decode cX6_mend 102 = .ok (.iload_n 3, 1) := by decide +kernel
theorem dX6_mend_103 : decode cX6_mend 103 = .ok (.if_icmp .le 9, 3) := by decide +kernel
theorem dX6_mend_106 : decode cX6_mend 106 = .ok (.iload 4, 2) := by decide +kernel
theorem dX6_mend_108 : decode cX6_mend 108 = .ok (.istore_n 2, 1) := by decide +kernel
theorem dX6_mend_109 : decode cX6_mend 109 = .ok (.iload 6, 2) := by decide +kernel
theorem dX6_mend_111 : decode cX6_mend 111 = .ok (.istore_n 3, 1) := by decide +kernel
theorem dX6_mend_112 : decode cX6_mend 112 = .ok (.iinc 4 1, 3) := by decide +kernel
theorem dX6_mend_115 : decode cX6_mend 115 = .ok (.goto (-75), 3) := by decide +kernel
theorem dX6_mend_118 : decode cX6_mend 118 = .ok (.iload_n 2, 1) := by decide +kernel
theorem dX6_mend_119 : decode cX6_mend 119 = .ok (.ifCond .ge 12, 3) := by decide +kernel
theorem dX6_mend_122 : decode cX6_mend 122 = .ok (.aload_n 0, 1) := by decide +kernel
theorem dX6_mend_123 : decode cX6_mend 123 = .ok (.ldc 184, 2) := by decide +kernel
theorem dX6_mend_125 : decode cX6_mend 125 = .ok (.invokevirtual 57, 3) := by decide +kernel
theorem dX6_mend_128 : decode cX6_mend 128 = .ok (.goto 4, 3) := by decide +kernel
theorem dX6_mend_131 : decode cX6_mend 131 = .ok (.iload_n 2, 1) := by decide +kernel
theorem dX6_mend_132 : decode cX6_mend 132 = .ok (.ireturn, 1) := by decide +kernel
theorem dX6_whose_0 : decode cX6_whose 0 = .ok (.aload_n 0, 1) := by decide +kernel
theorem dX6_whose_1 : decode cX6_whose 1 = .ok (.getfield 12, 3) := by decide +kernel
theorem dX6_whose_4 : decode cX6_whose 4 = .ok (.getfield 61, 3) := by decide +kernel
theorem dX6_whose_7 : decode cX6_whose 7 = .ok (.iload_n 1, 1) := by decide +kernel
theorem dX6_whose_8 : decode cX6_whose 8 = .ok (.invokevirtual 80, 3) := by decide +kernel
theorem dX6_whose_11 : decode cX6_whose 11 = .ok (.ifCond .ne 10, 3) := by decide +kernel
theorem dX6_whose_14 : decode cX6_whose 14 = .ok (.aload_n 0, 1) := by decide +kernel
theorem dX6_whose_15 : decode cX6_whose 15 = .ok (.ldc 56, 2) := by decide +kernel
theorem dX6_whose_17 : decode cX6_whose 17 = .ok (.invokevirtual 57, 3) := by decide +kernel
theorem dX6_whose_20 : decode cX6_whose 20 = .ok (.ireturn, 1) := by decide +kernel
theorem dX6_whose_21 : decode cX6_whose 21 = .ok (.aload_n 0, 1) := by decide +kernel
theorem dX6_whose_22 : decode cX6_whose 22 = .ok (.getfield 12, 3) := by decide +kernel
theorem dX6_whose_25 : decode cX6_whose 25 = .ok (.getfield 61, 3) := by decide +kernel
theorem dX6_whose_28 : decode cX6_whose 28 = .ok (.iload_n 1, 1) := by decide +kernel
theorem dX6_whose_29 : decode cX6_whose 29 = .ok (.invokevirtual 92, 3) := by decide +kernel
theorem dX6_whose_32 : decode cX6_whose 32 = .ok (.ifCond .ne 12, 3) := by decide +kernel
theorem dX6_whose_35 : decode cX6_whose 35 = .ok (.aload_n 0, 1) := by decide +kernel
theorem dX6_whose_36 : decode cX6_whose 36 = .ok (.bipush 96, 2) := by decide +kernel
theorem dX6_whose_38 : decode cX6_whose 38 = .ok (.invokevirtual 149, 3) := by decide +kernel
theorem dX6_whose_41 : decode cX6_whose 41 = .ok (.ifCond .ne 10, 3) := by decide +kernel
theorem dX6_whose_44 : decode cX6_whose 44 = .ok (.aload_n 0, 1) := by decide +kernel
theorem dX6_whose_45 : decode cX6_whose 45 = .ok (.ldc 75, 2) := by decide +kernel
theorem dX6_whose_47 : decode cX6_whose 47 = .ok (.invokevirtual 57, 3) := by decide +kernel
theorem dX6_whose_50 : decode cX6_whose 50 = .ok (.ireturn, 1) := by decide +kernel
theorem dX6_whose_51 : decode cX6_whose 51 = .ok (.iconst (-1), 1) := by decide +kernel
theorem dX6_whose_52 : decode cX6_whose 52 = .ok (.istore_n 2, 1) := by decide +kernel
theorem dX6_whose_53 : decode cX6_whose 53 = .ok (.iconst 0, 1) := by decide +kernel
theorem dX6_whose_54 : decode cX6_whose 54 = .ok (.istore_n 3, 1) := by decide +kernel
theorem dX6_whose_55 : decode cX6_whose 55 = .ok (.iconst 0, 1) := by decide +kernel
theorem dX6_whose_56 : decode cX6_whose 56 = .ok (.istore 4, 2) := by decide +kernel
theorem dX6_whose_58 : decode cX6_whose 58 = .ok (.iload 4, 2) := by decide +kernel
theorem dX6_whose_60 : decode cX6_whose 60 = .ok (.bipush 6, 2) := by decide +kernel
theorem dX6_whose_62 : decode cX6_whose 62 = .ok (.if_icmp .ge 66, 3) := by decide +kernel
theorem dX6_whose_65 : decode cX6_whose 65 = .ok (.aload_n 0, 1) := by decide +kernel
theorem dX6_whose_66 : decode cX6_whose 66 = .ok (.getfield 12, 3) := by decide +kernel
theorem dX6_whose_69 : decode cX6_whose 69 = .ok (.getfield 113, 3) := by decide +kernel
theorem dX6_whose_72 : decode cX6_whose 72 = .ok (.iload 4, 2) := by decide +kernel
theorem dX6_whose_74 : decode cX6_whose 74 = .ok (.invokevirtual 132, 3) := by decide +kernel
theorem dX6_whose_77 : decode cX6_whose 77 = .ok (.ifCond .ne 6, 3) := by decide +kernel
theorem dX6_whose_80 : decode cX6_whose 80 = .ok (.goto 42, 3) := by decide +kernel
theorem dX6_whose_83 : decode cX6_whose 83 = .ok (.aload_n 0, 1) := by decide +kernel
theorem dX6_whose_84 : decode cX6_whose 84 = .ok (.invokevirtual 165, 3) := by decide +kernel
theorem dX6_whose_87 : decode cX6_whose 87 = .ok (.astore 5, 2) := by decide +kernel
theorem dX6_whose_89 : decode cX6_whose 89 = .ok (.aload 5, 2) := by decide +kernel
theorem dX6_whose_91 : decode cX6_whose 91 = .ok (.getfield 113, 3) := by decide +kernel
theorem dX6_whose_94 : decode cX6_whose 94 = .ok (.iload 4, 2) := by decide +kernel
theorem dX6_whose_96 : decode cX6_whose 96 = .ok (.iconst 0, 1) := by decide +kernel
theorem dX6_whose_97 : decode cX6_whose 97 = .ok (.invokevirtual 135, 3) := by decide +kernel
theorem dX6_whose_100 : decode cX6_whose 100 = .ok (.aload 5, 2) := by decide +kernel
theorem dX6_whose_102 : decode cX6_whose 102 = .ok (.iload_n 1, 1) := by decide +kernel
theorem dX6_whose_103 : decode cX6_whose 103 = .ok (.bipush 96, 2) := by decide +kernel
theorem dX6_whose_105 : decode cX6_whose 105 = .ok (.invokevirtual 181, 3) := by decide +kernel
theorem dX6_whose_108 : decode cX6_whose 108 = .ok (.istore 6, 2) := by decide +kernel
theorem dX6_whose_110 : decode cX6_whose 110 = .ok (.iload 6, 2) := by decide +kernel
theorem dX6_whose_112 : decode cX6_whose 112 = .ok (.iload_n 3, 1) := by decide +kernel
theorem dX6_whose_113 : decode cX6_whose 113 = .ok (.if_icmp .le 9, 3) := by decide +kernel
theorem dX6_whose_116 : decode cX6_whose 116 = .ok (.iload 4, 2) := by decide +kernel
theorem dX6_whose_118 : decode cX6_whose 118 = .ok (.istore_n 2, 1) := by decide +kernel
theorem dX6_whose_119 : decode cX6_whose 119 = .ok (.iload 6, 2) := by decide +kernel
theorem dX6_whose_121 : decode cX6_whose 121 = .ok (.istore_n 3, 1) := by decide +kernel
theorem dX6_whose_122 : decode cX6_whose 122 = .ok (.iinc 4 1, 3) := by decide +kernel
theorem dX6_whose_125 : decode cX6_whose 125 = .ok (.goto (-67), 3) := by decide +kernel
theorem dX6_whose_128 : decode cX6_whose 128 = .ok (.iload_n 2, 1) := by decide +kernel
theorem dX6_whose_129 : decode cX6_whose 129 = .ok (.ifCond .ge 12, 3) := by decide +kernel
theorem dX6_whose_132 : decode cX6_whose 132 = .ok (.aload_n 0, 1) := by decide +kernel
theorem dX6_whose_133 : decode cX6_whose 133 = .ok (.ldc 184, 2) := by decide +kernel
theorem dX6_whose_135 : decode cX6_whose 135 = .ok (.invokevirtual 57, 3) := by decide +kernel
theorem dX6_whose_138 : decode cX6_whose 138 = .ok (.goto 4, 3) := by decide +kernel
theorem dX6_whose_141 : decode cX6_whose 141 = .ok (.iload_n 2, 1) := by decide +kernel
theorem dX6_whose_142 : decode cX6_whose 142 = .ok (.ireturn, 1) := by decide +kernel
theorem dX6_drawing_0 : decode cX6_drawing 0 = .ok (.aload_n 0, 1) := by decide +kernel
theorem dX6_drawing_1 : decode cX6_drawing 1 = .ok (.getfield 12, 3) := by decide +kernel
theorem dX6_drawing_4 : decode cX6_drawing 4 = .ok (.getfield 61, 3) := by decide +kernel
theorem dX6_drawing_7 : decode cX6_drawing 7 = .ok (.iload_n 1, 1) := by decide +kernel
theorem dX6_drawing_8 : decode cX6_drawing 8 = .ok (.invokevirtual 80, 3) := by decide +kernel
theorem dX6_drawing_11 : decode cX6_drawing 11 = .ok (.ifCond .eq 23, 3) := by decide +kernel
theorem dX6_drawing_14 : decode cX6_drawing 14 = .ok (.iload_n 2, 1) := by decide +kernel
theorem dX6_drawing_15 : decode cX6_drawing 15 = .ok (.iconst 1, 1) := by decide +kernel
theorem dX6_drawing_16 : decode cX6_drawing 16 = .ok (.bipush 24, 2) := by decide +kernel
theorem dX6_drawing_18 : decode cX6_drawing 18 = .ok (.invokestatic 52, 3) := by decide +kernel
theorem dX6_drawing_21 : decode cX6_drawing 21 = .ok (.ifCond .eq 13, 3) := by decide +kernel
theorem dX6_drawing_24 : decode cX6_drawing 24 = .ok (.iload_n 3, 1) := by decide +kernel
theorem dX6_drawing_25 : decode cX6_drawing 25 = .ok (.iconst 0, 1) := by decide +kernel
theorem dX6_drawing_26 : decode cX6_drawing 26 = .ok (.bipush 99, 2) := by decide +kernel
theorem dX6_drawing_28 : decode cX6_drawing 28 = .ok (.invokestatic 52, 3) := by decide +kernel
theorem dX6_drawing_31 : decode cX6_drawing 31 = .ok (.ifCond .ne 10, 3) := by decide +kernel
theorem dX6_drawing_34 : decode cX6_drawing 34 = .ok (.aload_n 0, 1) := by decide +kernel
theorem dX6_drawing_35 : decode cX6_drawing 35 = .ok (.ldc 56, 2) := by decide +kernel
theorem dX6_drawing_37 : decode cX6_drawing 37 = .ok (.invokevirtual 57, 3) := by decide +kernel
theorem dX6_drawing_40 : decode cX6_drawing 40 = .ok (.ireturn, 1) := by decide +kernel
theorem dX6_drawing_41 : decode cX6_drawing 41 = .ok (.aload_n 0, 1) := by decide +kernel
theorem dX6_drawing_42 : decode cX6_drawing 42 = .ok (.getfield 12, 3) := by decide +kernel
theorem dX6_drawing_45 : decode cX6_drawing 45 = .ok (.getfield 61, 3) := by decide +kernel
theorem dX6_drawing_48 : decode cX6_drawing 48 = .ok (.iload_n 1, 1) := by decide +kernel
theorem dX6_drawing_49 : decode cX6_drawing 49 = .ok (.invokevirtual 92, 3) := by decide +kernel
theorem dX6_drawing_52 : decode cX6_drawing 52 = .ok (.ifCond .ne 11, 3) := by decide +kernel
theorem dX6_drawing_55 : decode cX6_drawing 55 = .ok (.aload_n 0, 1) := by decide +kernel
theorem dX6_drawing_56 : decode cX6_drawing 56 = .ok (.iload_n 2, 1) := by decide +kernel
theorem dX6_drawing_57 : decode cX6_drawing 57 = .ok (.invokevirtual 149, 3) := by decide +kernel
theorem dX6_drawing_60 : decode cX6_drawing 60 = .ok (.ifCond .ne 10, 3) := by decide +kernel
theorem dX6_drawing_63 : decode cX6_drawing 63 = .ok (.aload_n 0, 1) := by decide +kernel
theorem dX6_drawing_64 : decode cX6_drawing 64 = .ok (.ldc 75, 2) := by decide +kernel
theorem dX6_drawing_66 : decode cX6_drawing 66 = .ok (.invokevirtual 57, 3) := by decide +kernel
theorem dX6_drawing_69 : decode cX6_drawing 69 = .ok (.ireturn, 1) := by decide +kernel
theorem dX6_drawing_70 : decode cX6_drawing 70 = .ok (.iconst 0, 1) := by decide +kernel
theorem dX6_drawing_71 : decode cX6_drawing 71 = .ok (.istore 4, 2) := by decide +kernel
theorem dX6_drawing_73 : decode cX6_drawing 73 = .ok (.iconst 0, 1) := by decide +kernel
theorem dX6_drawing_74 : decode cX6_drawing 74 = .ok (.istore 5, 2) := by decide +kernel
theorem dX6_drawing_76 : decode cX6_drawing 76 = .ok (.bipush 20, 2) := by decide +kernel
theorem dX6_drawing_78 : decode cX6_drawing 78 = .ok (.istore 6, 2) := by decide +kernel
theorem dX6_drawing_80 : decode cX6_drawing 80 = .ok (.iload 6, 2) := by decide +kernel
theorem dX6_drawing_82 : decode cX6_drawing 82 = .ok (.bipush (-20), 2) := by decide +kernel
theorem dX6_drawing_84 : decode cX6_drawing 84 = .ok (.if_icmp .lt 53, 3) := by decide +kernel
theorem dX6_drawing_87 : decode cX6_drawing 87 = .ok (.aload_n 0, 1) := by decide +kernel
theorem dX6_drawing_88 : decode cX6_drawing 88 = .ok (.invokevirtual 165, 3) := by decide +kernel
theorem dX6_drawing_91 : decode cX6_drawing 91 = .ok (.astore 7, 2) := by decide +kernel
theorem dX6_drawing_93 : decode cX6_drawing 93 = .ok (.aload 7, 2) := by decide +kernel
theorem dX6_drawing_95 : decode cX6_drawing 95 = .ok (.getfield 113, 3) := by decide +kernel
theorem dX6_drawing_98 : decode cX6_drawing 98 = .ok (.iload 6, 2) := by decide +kernel
theorem dX6_drawing_100 : decode cX6_drawing 100 = .ok (.putfield 139, 3) := by decide +kernel
theorem dX6_drawing_103 : decode cX6_drawing 103 = .ok (.aload 7, 2) := by decide +kernel
theorem dX6_drawing_105 : decode cX6_drawing 105 = .ok (.iload_n 2, 1) := by decide +kernel
theorem dX6_drawing_106 : decode cX6_drawing 106 = .ok (.invokevirtual 152, 3) := by decide +kernel
theorem dX6_drawing_109 : decode cX6_drawing 109 = .ok (.pop, 1) := by decide +kernel
theorem dX6_drawing_110 : decode cX6_drawing 110 = .ok (.aload 7, 2) := by decide +kernel
theorem dX6_drawing_112 : decode cX6_drawing 112 = .ok (.getfield 61, 3) := by decide +kernel
theorem dX6_drawing_115 : decode cX6_drawing 115 = .ok (.getfield 89, 3) := by decide +kernel
theorem dX6_drawing_118 : decode cX6_drawing 118 = .ok (.iload_n 1, 1) := by decide +kernel
theorem dX6_drawing_119 : decode cX6_drawing 119 = .ok (.iaload, 1) := by decide +kernel
theorem dX6_drawing_120 : decode cX6_drawing 120 = .ok (.iload_n 3, 1) := by decide +kernel
theorem dX6_drawing_121 : decode cX6_drawing 121 = .ok (.if_icmp .ne 10, 3) := by decide +kernel
theorem dX6_drawing_124 : decode cX6_drawing 124 = .ok (.iinc 4 1, 3) := by decide +kernel
theorem dX6_drawing_127 : decode cX6_drawing 127 = .ok (.iload 6, 2) := by decide +kernel
theorem dX6_drawing_129 : decode cX6_drawing 129 = .ok (.istore 5, 2) := by decide +kernel
theorem dX6_drawing_131 : decode cX6_drawing 131 = .ok (.iinc 6 (-1), 3) := by decide +kernel
theorem dX6_drawing_134 : decode cX6_drawing 134 = .ok (.goto (-54), 3) := by decide +kernel
theorem dX6_drawing_137 : decode cX6_drawing 137 = .ok (.iload 4, 2) := by decide +kernel
theorem dX6_drawing_139 : decode cX6_drawing 139 = .ok (.ifCond .ne 12, 3) := by decide +kernel
theorem dX6_drawing_142 : decode cX6_drawing 142 = .ok (.aload_n 0, 1) := by decide +kernel
theorem dX6_drawing_143 : decode cX6_drawing 143 = .ok (.ldc 184, 2) := by decide +kernel
theorem dX6_drawing_145 : decode cX6_drawing 145 = .ok (.invokevirtual 57, 3) := by decide +kernel
theorem dX6_drawing_148 : decode cX6_drawing 148 = .ok (.goto 14, 3) := by decide +kernel
theorem dX6_drawing_151 : decode cX6_drawing 151 = .ok (.bipush 100, 2) := by decide +kernel
theorem dX6_drawing_153 : decode cX6_drawing 153 = .ok (.iload 4, 2) := by decide +kernel
theorem dX6_drawing_155 : decode cX6_drawing 155 = .ok (.imul, 1) := by decide +kernel
theorem dX6_drawing_156 : decode cX6_drawing 156 = .ok (.bipush 20, 2) := by decide +kernel
theorem dX6_drawing_158 : decode cX6_drawing 158 = .ok (.iadd, 1) := by decide +kernel
theorem dX6_drawing_159 : decode cX6_drawing 159 = .ok (.iload 5, 2) := by decide +kernel
theorem dX6_drawing_161 : decode cX6_drawing 161 = .ok (.iadd, 1) := by decide +kernel
theorem dX6_drawing_162 : decode cX6_drawing 162 = .ok (.ireturn, 1) := by decide +kernel
theorem dX6_order_0 : decode cX6_order 0 = .ok (.iload_n 1, 1) := by decide +kernel
theorem dX6_order_1 : decode cX6_order 1 = .ok (.iconst 0, 1) := by decide +kernel
theorem dX6_order_2 : decode cX6_order 2 = .ok (.bipush 15, 2) := by decide +kernel
theorem dX6_order_4 : decode cX6_order 4 = .ok (.invokestatic 52, 3) := by decide +kernel
theorem dX6_order_7 : decode cX6_order 7 = .ok (.ifCond .ne 10, 3) := by decide +kernel
theorem dX6_order_10 : decode cX6_order 10 = .ok (.aload_n 0, 1) := by decide +kernel
theorem dX6_order_11 : decode cX6_order 11 = .ok (.ldc 56, 2) := by decide +kernel
theorem dX6_order_13 : decode cX6_order 13 = .ok (.invokevirtual 57, 3) := by decide +kernel
theorem dX6_order_16 : decode cX6_order 16 = .ok (.ireturn, 1) := by decide +kernel
theorem dX6_order_17 : decode cX6_order 17 = .ok (.aload_n 0, 1) := by decide +kernel
theorem dX6_order_18 : decode cX6_order 18 = .ok (.getfield 12, 3) := by decide +kernel
theorem dX6_order_21 : decode cX6_order 21 = .ok (.getfield 61, 3) := by decide +kernel
theorem dX6_order_24 : decode cX6_order 24 = .ok (.astore_n 2, 1) := by decide +kernel
theorem dX6_order_25 : decode cX6_order 25 = .ok (.aload_n 2, 1) := by decide +kernel
theorem dX6_order_26 : decode cX6_order 26 = .ok (.invokevirtual 191, 3) := by decide +kernel
theorem dX6_order_29 : decode cX6_order 29 = .ok (.lstore_n 3, 1) := by decide +kernel
theorem dX6_order_30 : decode cX6_order 30 = .ok (.lconst 0, 1) := by decide +kernel
theorem dX6_order_31 : decode cX6_order 31 = .ok (.lstore 5, 2) := by decide +kernel
theorem dX6_order_33 : decode cX6_order 33 = .ok (.iconst (-1), 1) := by decide +kernel
theorem dX6_order_34 : decode cX6_order 34 = .ok (.istore 7, 2) := by decide +kernel
theorem dX6_order_36 : decode cX6_order 36 = .ok (.iconst 0, 1) := by decide +kernel
theorem dX6_order_37 : decode cX6_order 37 = .ok (.istore 8, 2) := by decide +kernel
theorem dX6_order_39 : decode cX6_order 39 = .ok (.iload 8, 2) := by decide +kernel
theorem dX6_order_41 : decode cX6_order 41 = .ok (.bipush 16, 2) := by decide +kernel
theorem dX6_order_43 : decode cX6_order 43 = .ok (.if_icmp .ge 58, 3) := by decide +kernel
theorem dX6_order_46 : decode cX6_order 46 = .ok (.lload 5, 2) := by decide +kernel
theorem dX6_order_48 : decode cX6_order 48 = .ok (.lload_n 3, 1) := by decide +kernel
theorem dX6_order_49 : decode cX6_order 49 = .ok (.lcmp, 1) := by decide +kernel
theorem dX6_order_50 : decode cX6_order 50 = .ok (.ifCond .eq 51, 3) := by decide +kernel
theorem dX6_order_53 : decode cX6_order 53 = .ok (.aload_n 2, 1) := by decide +kernel
theorem dX6_order_54 : decode cX6_order 54 = .ok (.lload 5, 2) := by decide +kernel
theorem dX6_order_56 : decode cX6_order 56 = .ok (.iconst 0, 1) := by decide +kernel
theorem dX6_order_57 : decode cX6_order 57 = .ok (.invokevirtual 194, 3) := by decide +kernel
theorem dX6_order_60 : decode cX6_order 60 = .ok (.istore 9, 2) := by decide +kernel
theorem dX6_order_62 : decode cX6_order 62 = .ok (.iload 9, 2) := by decide +kernel
theorem dX6_order_64 : decode cX6_order 64 = .ok (.ifCond .ge 10, 3) := by decide +kernel
theorem dX6_order_67 : decode cX6_order 67 = .ok (.aload_n 0, 1) := by decide +kernel
theorem dX6_order_68 : decode cX6_order 68 = .ok (.ldc 184, 2) := by decide +kernel
theorem dX6_order_70 : decode cX6_order 70 = .ok (.invokevirtual 57, 3) := by decide +kernel
theorem dX6_order_73 : decode cX6_order 73 = .ok (.ireturn, 1) := by decide +kernel
theorem dX6_order_74 : decode cX6_order 74 = .ok (.iload 8, 2) := by decide +kernel
theorem dX6_order_76 : decode cX6_order 76 = .ok (.iload_n 1, 1) := by decide +kernel
theorem dX6_order_77 : decode cX6_order 77 = .ok (.if_icmp .ne 7, 3) := by decide +kernel
theorem dX6_order_80 : decode cX6_order 80 = .ok (.iload 9, 2) := by decide +kernel
theorem dX6_order_82 : decode cX6_order 82 = .ok (.istore 7, 2) := by decide +kernel
theorem dX6_order_84 : decode cX6_order 84 = .ok (.lload 5, 2) := by decide +kernel
theorem dX6_order_86 : decode cX6_order 86 = .ok (.aload_n 2, 1) := by decide +kernel
theorem dX6_order_87 : decode cX6_order 87 = .ok (.iload 9, 2) := by decide +kernel
theorem dX6_order_89 : decode cX6_order 89 = .ok (.invokevirtual 99, 3) := by decide +kernel
theorem dX6_order_92 : decode cX6_order 92 = .ok (.lor, 1) := by decide +kernel
theorem dX6_order_93 : decode cX6_order 93 = .ok (.lstore 5, 2) := by decide +kernel
theorem dX6_order_95 : decode cX6_order 95 = .ok (.iinc 8 1, 3) := by decide +kernel
theorem dX6_order_98 : decode cX6_order 98 = .ok (.goto (-59), 3) := by decide +kernel
theorem dX6_order_101 : decode cX6_order 101 = .ok (.iload 7, 2) := by decide +kernel
theorem dX6_order_103 : decode cX6_order 103 = .ok (.ifCond .ge 12, 3) := by decide +kernel
theorem dX6_order_106 : decode cX6_order 106 = .ok (.aload_n 0, 1) := by decide +kernel
theorem dX6_order_107 : decode cX6_order 107 = .ok (.ldc 184, 2) := by decide +kernel
theorem dX6_order_109 : decode cX6_order 109 = .ok (.invokevirtual 57, 3) := by decide +kernel
theorem dX6_order_112 : decode cX6_order 112 = .ok (.goto 5, 3) := by decide +kernel
theorem dX6_order_115 : decode cX6_order 115 = .ok (.iload 7, 2) := by decide +kernel
theorem dX6_order_117 : decode cX6_order 117 = .ok (.ireturn, 1) := by decide +kernel
theorem dX6_steps_0 : decode cX6_steps 0 = .ok (.iload_n 1, 1) := by decide +kernel
theorem dX6_steps_1 : decode cX6_steps 1 = .ok (.iconst 1, 1) := by decide +kernel
theorem dX6_steps_2 : decode cX6_steps 2 = .ok (.bipush 8, 2) := by decide +kernel
theorem dX6_steps_4 : decode cX6_steps 4 = .ok (.invokestatic 52, 3) := by decide +kernel
theorem dX6_steps_7 : decode cX6_steps 7 = .ok (.ifCond .ne 10, 3) := by decide +kernel
theorem dX6_steps_10 : decode cX6_steps 10 = .ok (.aload_n 0, 1) := by decide +kernel
theorem dX6_steps_11 : decode cX6_steps 11 = .ok (.ldc 56, 2) := by decide +kernel
theorem dX6_steps_13 : decode cX6_steps 13 = .ok (.invokevirtual 57, 3) := by decide +kernel
theorem dX6_steps_16 : decode cX6_steps 16 = .ok (.ireturn, 1) := by decide +kernel
theorem dX6_steps_17 : decode cX6_steps 17 = .ok (.aload_n 0, 1) := by decide +kernel
theorem dX6_steps_18 : decode cX6_steps 18 = .ok (.getfield 12, 3) := by decide +kernel
theorem dX6_steps_21 : decode cX6_steps 21 = .ok (.getfield 61, 3) := by decide +kernel
theorem dX6_steps_24 : decode cX6_steps 24 = .ok (.invokevirtual 191, 3) := by decide +kernel
theorem dX6_steps_27 : decode cX6_steps 27 = .ok (.lstore_n 2, 1) := by decide +kernel
theorem dX6_steps_28 : decode cX6_steps 28 = .ok (.lconst 0, 1) := by decide +kernel
theorem dX6_steps_29 : decode cX6_steps 29 = .ok (.lstore 4, 2) := by decide +kernel
theorem dX6_steps_31 : decode cX6_steps 31 = .ok (.iconst 0, 1) := by decide +kernel
theorem dX6_steps_32 : decode cX6_steps 32 = .ok (.istore 6, 2) := by decide +kernel
theorem dX6_steps_34 : decode cX6_steps 34 = .ok (.iload 6, 2) := by decide +kernel
theorem dX6_steps_36 : decode cX6_steps 36 = .ok (.bipush 16, 2) := by decide +kernel
theorem dX6_steps_38 : decode cX6_steps 38 = .ok (.if_icmp .gt 37, 3) := by decide +kernel
theorem dX6_steps_41 : decode cX6_steps 41 = .ok (.lload 4, 2) := by decide +kernel
theorem dX6_steps_43 : decode cX6_steps 43 = .ok (.lload_n 2, 1) := by decide +kernel
theorem dX6_steps_44 : decode cX6_steps 44 = .ok (.lcmp, 1) := by decide +kernel
theorem dX6_steps_45 : decode cX6_steps 45 = .ok (.ifCond .ne 6, 3) := by decide +kernel
theorem dX6_steps_48 : decode cX6_steps 48 = .ok (.iload 6, 2) := by decide +kernel
theorem dX6_steps_50 : decode cX6_steps 50 = .ok (.ireturn, 1) := by decide +kernel
theorem dX6_steps_51 : decode cX6_steps 51 = .ok (.lload 4, 2) := by decide +kernel
theorem dX6_steps_53 : decode cX6_steps 53 = .ok (.aload_n 0, 1) := by decide +kernel
theorem dX6_steps_54 : decode cX6_steps 54 = .ok (.getfield 12, 3) := by decide +kernel
theorem dX6_steps_57 : decode cX6_steps 57 = .ok (.getfield 61, 3) := by decide +kernel
theorem dX6_steps_60 : decode cX6_steps 60 = .ok (.lload 4, 2) := by decide +kernel
theorem dX6_steps_62 : decode cX6_steps 62 = .ok (.iload_n 1, 1) := by decide +kernel
theorem dX6_steps_63 : decode cX6_steps 63 = .ok (.invokevirtual 198, 3) := by decide +kernel
theorem dX6_steps_66 : decode cX6_steps 66 = .ok (.lor, 1) := by decide +kernel
theorem dX6_steps_67 : decode cX6_steps 67 = .ok (.lstore 4, 2) := by decide +kernel
theorem dX6_steps_69 : decode cX6_steps 69 = .ok (.iinc 6 1, 3) := by decide +kernel
theorem dX6_steps_72 : decode cX6_steps 72 = .ok (.goto (-38), 3) := by decide +kernel
theorem dX6_steps_75 : decode cX6_steps 75 = .ok (.aload_n 0, 1) := by decide +kernel
theorem dX6_steps_76 : decode cX6_steps 76 = .ok (.ldc 184, 2) := by decide +kernel
theorem dX6_steps_78 : decode cX6_steps 78 = .ok (.invokevirtual 57, 3) := by decide +kernel
theorem dX6_steps_81 : decode cX6_steps 81 = .ok (.ireturn, 1) := by decide +kernel
theorem dX6_shakes_0 : decode cX6_shakes 0 = .ok (.iload_n 1, 1) := by decide +kernel
theorem dX6_shakes_1 : decode cX6_shakes 1 = .ok (.invokestatic 202, 3) := by decide +kernel
theorem dX6_shakes_4 : decode cX6_shakes 4 = .ok (.ifCond .ne 10, 3) := by decide +kernel
theorem dX6_shakes_7 : decode cX6_shakes 7 = .ok (.aload_n 0, 1) := by decide +kernel
theorem dX6_shakes_8 : decode cX6_shakes 8 = .ok (.ldc 56, 2) := by decide +kernel
theorem dX6_shakes_10 : decode cX6_shakes 10 = .ok (.invokevirtual 57, 3) := by decide +kernel
theorem dX6_shakes_13 : decode cX6_shakes 13 = .ok (.ireturn, 1) := by decide +kernel
theorem dX6_shakes_14 : decode cX6_shakes 14 = .ok (.aload_n 0, 1) := by decide +kernel
theorem dX6_shakes_15 : decode cX6_shakes 15 = .ok (.getfield 12, 3) := by decide +kernel
theorem dX6_shakes_18 : decode cX6_shakes 18 = .ok (.getfield 61, 3) := by decide +kernel
theorem dX6_shakes_21 : decode cX6_shakes 21 = .ok (.iload_n 1, 1) := by decide +kernel
theorem dX6_shakes_22 : decode cX6_shakes 22 = .ok (.invokevirtual 205, 3) := by decide +kernel
theorem dX6_shakes_25 : decode cX6_shakes 25 = .ok (.ireturn, 1) := by decide +kernel
theorem dX6_dance_0 : decode cX6_dance 0 = .ok (.iload_n 1, 1) := by decide +kernel
theorem dX6_dance_1 : decode cX6_dance 1 = .ok (.invokestatic 202, 3) := by decide +kernel
theorem dX6_dance_4 : decode cX6_dance 4 = .ok (.ifCond .ne 10, 3) := by decide +kernel
theorem dX6_dance_7 : decode cX6_dance 7 = .ok (.aload_n 0, 1) := by decide +kernel
theorem dX6_dance_8 : decode cX6_dance 8 = .ok (.ldc 56, 2) := by decide +kernel
theorem dX6_dance_10 : decode cX6_dance 10 = .ok (.invokevirtual 57, 3) := by decide +kernel
theorem dX6_dance_13 : decode cX6_dance 13 = .ok (.ireturn, 1) := by decide +kernel
theorem dX6_dance_14 : decode cX6_dance 14 = .ok (.aload_n 0, 1) := by decide +kernel
theorem dX6_dance_15 : decode cX6_dance 15 = .ok (.getfield 12, 3) := by decide +kernel
theorem dX6_dance_18 : decode cX6_dance 18 = .ok (.iload_n 1, 1) := by decide +kernel
theorem dX6_dance_19 : decode cX6_dance 19 = .ok (.invokevirtual 208, 3) := by decide +kernel
theorem dX6_dance_22 : decode cX6_dance 22 = .ok (.ireturn, 1) := by decide +kernel
theorem dX6_tune_0 : decode cX6_tune 0 = .ok (.iconst 2, 1) := by decide +kernel
theorem dX6_tune_1 : decode cX6_tune 1 = .ok (.istore_n 1, 1) := by decide +kernel
theorem dX6_tune_2 : decode cX6_tune 2 = .ok (.bipush 17, 2) := by decide +kernel
theorem dX6_tune_4 : decode cX6_tune 4 = .ok (.istore_n 2, 1) := by decide +kernel
theorem dX6_tune_5 : decode cX6_tune 5 = .ok (.iconst 2, 1) := by decide +kernel
theorem dX6_tune_6 : decode cX6_tune 6 = .ok (.istore_n 3, 1) := by decide +kernel
theorem dX6_tune_7 : decode cX6_tune 7 = .ok (.iload_n 3, 1) := by decide +kernel
theorem dX6_tune_8 : decode cX6_tune 8 = .ok (.bipush 9, 2) := by decide +kernel
theorem dX6_tune_10 : decode cX6_tune 10 = .ok (.if_icmp .gt 30, 3) := by decide +kernel
theorem dX6_tune_13 : decode cX6_tune 13 = .ok (.aload_n 0, 1) := by decide +kernel
theorem dX6_tune_14 : decode cX6_tune 14 = .ok (.invokevirtual 165, 3) := by decide +kernel
theorem dX6_tune_17 : decode cX6_tune 17 = .ok (.iload_n 3, 1) := by decide +kernel
theorem dX6_tune_18 : decode cX6_tune 18 = .ok (.invokevirtual 208, 3) := by decide +kernel
theorem dX6_tune_21 : decode cX6_tune 21 = .ok (.istore 4, 2) := by decide +kernel
theorem dX6_tune_23 : decode cX6_tune 23 = .ok (.iload 4, 2) := by decide +kernel
theorem dX6_tune_25 : decode cX6_tune 25 = .ok (.iload_n 2, 1) := by decide +kernel
theorem dX6_tune_26 : decode cX6_tune 26 = .ok (.if_icmp .ge 8, 3) := by decide +kernel
theorem dX6_tune_29 : decode cX6_tune 29 = .ok (.iload_n 3, 1) := by decide +kernel
theorem dX6_tune_30 : decode cX6_tune 30 = .ok (.istore_n 1, 1) := by decide +kernel
theorem dX6_tune_31 : decode cX6_tune 31 = .ok (.iload 4, 2) := by decide +kernel
theorem dX6_tune_33 : decode cX6_tune 33 = .ok (.istore_n 2, 1) := by decide +kernel
theorem dX6_tune_34 : decode cX6_tune 34 = .ok (.iinc 3 1, 3) := by decide +kernel
theorem dX6_tune_37 : decode cX6_tune 37 = .ok (.goto (-30), 3) := by decide +kernel
theorem dX6_tune_40 : decode cX6_tune 40 = .ok (.iload_n 1, 1) := by decide +kernel
theorem dX6_tune_41 : decode cX6_tune 41 = .ok (.ireturn, 1) := by decide +kernel
theorem dX6_wind_0 : decode cX6_wind 0 = .ok (.iload_n 1, 1) := by decide +kernel
theorem dX6_wind_1 : decode cX6_wind 1 = .ok (.iconst 1, 1) := by decide +kernel
theorem dX6_wind_2 : decode cX6_wind 2 = .ok (.bipush 20, 2) := by decide +kernel
theorem dX6_wind_4 : decode cX6_wind 4 = .ok (.invokestatic 52, 3) := by decide +kernel
theorem dX6_wind_7 : decode cX6_wind 7 = .ok (.ifCond .ne 10, 3) := by decide +kernel
theorem dX6_wind_10 : decode cX6_wind 10 = .ok (.aload_n 0, 1) := by decide +kernel
theorem dX6_wind_11 : decode cX6_wind 11 = .ok (.ldc 56, 2) := by decide +kernel
theorem dX6_wind_13 : decode cX6_wind 13 = .ok (.invokevirtual 57, 3) := by decide +kernel
theorem dX6_wind_16 : decode cX6_wind 16 = .ok (.ireturn, 1) := by decide +kernel
theorem dX6_wind_17 : decode cX6_wind 17 = .ok (.iconst 0, 1) := by decide +kernel
theorem dX6_wind_18 : decode cX6_wind 18 = .ok (.istore_n 2, 1) := by decide +kernel
theorem dX6_wind_19 : decode cX6_wind 19 = .ok (.iload_n 2, 1) := by decide +kernel
theorem dX6_wind_20 : decode cX6_wind 20 = .ok (.iload_n 1, 1) := by decide +kernel
theorem dX6_wind_21 : decode cX6_wind 21 = .ok (.if_icmp .ge 50, 3) := by decide +kernel
theorem dX6_wind_24 : decode cX6_wind 24 = .ok (.aload_n 0, 1) := by decide +kernel
theorem dX6_wind_25 : decode cX6_wind 25 = .ok (.getfield 12, 3) := by decide +kernel
theorem dX6_wind_28 : decode cX6_wind 28 = .ok (.invokevirtual 211, 3) := by decide +kernel
theorem dX6_wind_31 : decode cX6_wind 31 = .ok (.bipush 6, 2) := by decide +kernel
theorem dX6_wind_33 : decode cX6_wind 33 = .ok (.irem, 1) := by decide +kernel
theorem dX6_wind_34 : decode cX6_wind 34 = .ok (.istore_n 3, 1) := by decide +kernel
theorem dX6_wind_35 : decode cX6_wind 35 = .ok (.aload_n 0, 1) := by decide +kernel
theorem dX6_wind_36 : decode cX6_wind 36 = .ok (.getfield 12, 3) := by decide +kernel
theorem dX6_wind_39 : decode cX6_wind 39 = .ok (.getfield 113, 3) := by decide +kernel
theorem dX6_wind_42 : decode cX6_wind 42 = .ok (.iload_n 3, 1) := by decide +kernel
theorem dX6_wind_43 : decode cX6_wind 43 = .ok (.aload_n 0, 1) := by decide +kernel
theorem dX6_wind_44 : decode cX6_wind 44 = .ok (.getfield 12, 3) := by decide +kernel
theorem dX6_wind_47 : decode cX6_wind 47 = .ok (.getfield 113, 3) := by decide +kernel
theorem dX6_wind_50 : decode cX6_wind 50 = .ok (.iload_n 3, 1) := by decide +kernel
theorem dX6_wind_51 : decode cX6_wind 51 = .ok (.invokevirtual 132, 3) := by decide +kernel
theorem dX6_wind_54 : decode cX6_wind 54 = .ok (.ifCond .ne 7, 3) := by decide +kernel
theorem dX6_wind_57 : decode cX6_wind 57 = .ok (.iconst 1, 1) := by decide +kernel
theorem dX6_wind_58 : decode cX6_wind 58 = .ok (.goto 4, 3) := by decide +kernel
theorem dX6_wind_61 : decode cX6_wind 61 = .ok (.iconst 0, 1) := by decide +kernel
theorem dX6_wind_62 : decode cX6_wind 62 = .ok (.invokevirtual 135, 3) := by decide +kernel
theorem dX6_wind_65 : decode cX6_wind 65 = .ok (.iinc 2 1, 3) := by decide +kernel
theorem dX6_wind_68 : decode cX6_wind 68 = .ok (.goto (-49), 3) := by decide +kernel
theorem dX6_wind_71 : decode cX6_wind 71 = .ok (.aload_n 0, 1) := by decide +kernel
theorem dX6_wind_72 : decode cX6_wind 72 = .ok (.getfield 12, 3) := by decide +kernel
theorem dX6_wind_75 : decode cX6_wind 75 = .ok (.getfield 113, 3) := by decide +kernel
theorem dX6_wind_78 : decode cX6_wind 78 = .ok (.aload_n 0, 1) := by decide +kernel
theorem dX6_wind_79 : decode cX6_wind 79 = .ok (.getfield 12, 3) := by decide +kernel
theorem dX6_wind_82 : decode cX6_wind 82 = .ok (.getfield 113, 3) := by decide +kernel
theorem dX6_wind_85 : decode cX6_wind 85 = .ok (.getfield 143, 3) := by decide +kernel
theorem dX6_wind_88 : decode cX6_wind 88 = .ok (.invokevirtual 146, 3) := by decide +kernel
theorem dX6_wind_91 : decode cX6_wind 91 = .ok (.ireturn, 1) := by decide +kernel
theorem dX6_seed_0 : decode cX6_seed 0 = .ok (.aload_n 0, 1) := by decide +kernel
theorem dX6_seed_1 : decode cX6_seed 1 = .ok (.getfield 12, 3) := by decide +kernel
theorem dX6_seed_4 : decode cX6_seed 4 = .ok (.getfield 214, 3) := by decide +kernel
theorem dX6_seed_7 : decode cX6_seed 7 = .ok (.istore_n 2, 1) := by decide +kernel
theorem dX6_seed_8 : decode cX6_seed 8 = .ok (.aload_n 0, 1) := by decide +kernel
theorem dX6_seed_9 : decode cX6_seed 9 = .ok (.getfield 12, 3) := by decide +kernel
theorem dX6_seed_12 : decode cX6_seed 12 = .ok (.iload_n 1, 1) := by decide +kernel
theorem dX6_seed_13 : decode cX6_seed 13 = .ok (.putfield 214, 3) := by decide +kernel
theorem dX6_seed_16 : decode cX6_seed 16 = .ok (.iload_n 2, 1) := by decide +kernel
theorem dX6_seed_17 : decode cX6_seed 17 = .ok (.ireturn, 1) := by decide +kernel
theorem dX6_feed_0 : decode cX6_feed 0 = .ok (.iload_n 2, 1) := by decide +kernel
theorem dX6_feed_1 : decode cX6_feed 1 = .ok (.iconst 1, 1) := by decide +kernel
theorem dX6_feed_2 : decode cX6_feed 2 = .ok (.iconst 4, 1) := by decide +kernel
theorem dX6_feed_3 : decode cX6_feed 3 = .ok (.invokestatic 52, 3) := by decide +kernel
theorem dX6_feed_6 : decode cX6_feed 6 = .ok (.ifCond .ne 10, 3) := by decide +kernel
theorem dX6_feed_9 : decode cX6_feed 9 = .ok (.aload_n 0, 1) := by decide +kernel
theorem dX6_feed_10 : decode cX6_feed 10 = .ok (.ldc 56, 2) := by decide +kernel
theorem dX6_feed_12 : decode cX6_feed 12 = .ok (.invokevirtual 57, 3) := by decide +kernel
theorem dX6_feed_15 : decode cX6_feed 15 = .ok (.ireturn, 1) := by decide +kernel
theorem dX6_feed_16 : decode cX6_feed 16 = .ok (.aload_n 0, 1) := by decide +kernel
theorem dX6_feed_17 : decode cX6_feed 17 = .ok (.getfield 33, 3) := by decide +kernel
theorem dX6_feed_20 : decode cX6_feed 20 = .ok (.getfield 217, 3) := by decide +kernel
theorem dX6_feed_23 : decode cX6_feed 23 = .ok (.iload_n 2, 1) := by decide +kernel
theorem dX6_feed_24 : decode cX6_feed 24 = .ok (.iadd, 1) := by decide +kernel
theorem dX6_feed_25 : decode cX6_feed 25 = .ok (.bipush 120, 2) := by decide +kernel
theorem dX6_feed_27 : decode cX6_feed 27 = .ok (.if_icmp .le 10, 3) := by decide +kernel
theorem dX6_feed_30 : decode cX6_feed 30 = .ok (.aload_n 0, 1) := by decide +kernel
theorem dX6_feed_31 : decode cX6_feed 31 = .ok (.ldc 71, 2) := by decide +kernel
theorem dX6_feed_33 : decode cX6_feed 33 = .ok (.invokevirtual 57, 3) := by decide +kernel
theorem dX6_feed_36 : decode cX6_feed 36 = .ok (.ireturn, 1) := by decide +kernel
theorem dX6_feed_37 : decode cX6_feed 37 = .ok (.iload_n 2, 1) := by decide +kernel
theorem dX6_feed_38 : decode cX6_feed 38 = .ok (.iconst 1, 1) := by decide +kernel
theorem dX6_feed_39 : decode cX6_feed 39 = .ok (.isub, 1) := by decide +kernel
theorem dX6_feed_40 : decode cX6_feed 40 = .ok (.istore_n 3, 1) := by decide +kernel
theorem dX6_feed_41 : decode cX6_feed 41 = .ok (.iload_n 3, 1) := by decide +kernel
theorem dX6_feed_42 : decode cX6_feed 42 = .ok (.ifCond .lt 26, 3) := by decide +kernel
theorem dX6_feed_45 : decode cX6_feed 45 = .ok (.aload_n 0, 1) := by decide +kernel
theorem dX6_feed_46 : decode cX6_feed 46 = .ok (.getfield 33, 3) := by decide +kernel
theorem dX6_feed_49 : decode cX6_feed 49 = .ok (.iload_n 1, 1) := by decide +kernel
theorem dX6_feed_50 : decode cX6_feed 50 = .ok (.bipush 8, 2) := by decide +kernel
theorem dX6_feed_52 : decode cX6_feed 52 = .ok (.iload_n 3, 1) := by decide +kernel
theorem dX6_feed_53 : decode cX6_feed 53 = .ok (.imul, 1) := by decide +kernel
theorem dX6_feed_54 : decode cX6_feed 54 = .ok (.iushr, 1) := by decide +kernel
theorem dX6_feed_55 : decode cX6_feed 55 = .ok (.sipush 255, 3) := by decide +kernel
theorem dX6_feed_58 : decode cX6_feed 58 = .ok (.iand, 1) := by decide +kernel
theorem dX6_feed_59 : decode cX6_feed 59 = .ok (.invokevirtual 222, 3) := by decide +kernel
theorem dX6_feed_62 : decode cX6_feed 62 = .ok (.iinc 3 (-1), 3) := by decide +kernel
theorem dX6_feed_65 : decode cX6_feed 65 = .ok (.goto (-24), 3) := by decide +kernel
theorem dX6_feed_68 : decode cX6_feed 68 = .ok (.aload_n 0, 1) := by decide +kernel
theorem dX6_feed_69 : decode cX6_feed 69 = .ok (.getfield 33, 3) := by decide +kernel
theorem dX6_feed_72 : decode cX6_feed 72 = .ok (.getfield 217, 3) := by decide +kernel
theorem dX6_feed_75 : decode cX6_feed 75 = .ok (.ireturn, 1) := by decide +kernel
theorem dX6_wipe_0 : decode cX6_wipe 0 = .ok (.aload_n 0, 1) := by decide +kernel
theorem dX6_wipe_1 : decode cX6_wipe 1 = .ok (.getfield 33, 3) := by decide +kernel
theorem dX6_wipe_4 : decode cX6_wipe 4 = .ok (.getfield 217, 3) := by decide +kernel
theorem dX6_wipe_7 : decode cX6_wipe 7 = .ok (.istore_n 1, 1) := by decide +kernel
