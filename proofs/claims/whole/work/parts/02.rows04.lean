theorem dX7_there_6 : decode cX7_there 6 = .ok (.iconst 1, 1) := by decide +kernel
theorem dX7_there_7 : decode cX7_there 7 = .ok (.aload_n 0, 1) := by decide +kernel
theorem dX7_there_8 : decode cX7_there 8 = .ok (.getfield 9, 3) := by decide +kernel
theorem dX7_there_11 : decode cX7_there 11 = .ok (.iconst 5, 1) := by decide +kernel
theorem dX7_there_12 : decode cX7_there 12 = .ok (.iaload, 1) := by decide +kernel
theorem dX7_there_13 : decode cX7_there 13 = .ok (.ishl, 1) := by decide +kernel
theorem dX7_there_14 : decode cX7_there 14 = .ok (.iconst 1, 1) := by decide +kernel
theorem dX7_there_15 : decode cX7_there 15 = .ok (.isub, 1) := by decide +kernel
theorem dX7_there_16 : decode cX7_there 16 = .ok (.iand, 1) := by decide +kernel
theorem dX7_there_17 : decode cX7_there 17 = .ok (.ireturn, 1) := by decide +kernel
set_option maxRecDepth 20000 in
theorem ggX7_order_X7_in : GoodIn wsX7_order wsX7_in := goodIn_r _ [8] (by decide +kernel) (by decide +kernel)
set_option maxRecDepth 20000 in
theorem gX7_order_X7_in : GoodIn wsX7_order (va_wsS RX7 51 yX7_in wsX7_in) := goodIn_app (goodIn_of _ (by decide +kernel)) ggX7_order_X7_in
set_option maxRecDepth 20000 in
theorem ggX7_order_X7_finds : GoodIn wsX7_order wsX7_finds := goodIn_r _ [12, 13, 2, 65, 66, 67, 68, 69, 70, 71, 72, 73, 74, 75, 76, 77, 78, 79, 80, 81, 82] (by decide +kernel) (by decide +kernel)
set_option maxRecDepth 20000 in
theorem gX7_order_X7_finds : GoodIn wsX7_order (wsV RX7 45 RX7 yX7_finds wsX7_finds) := goodIn_app (goodIn_of _ (by decide +kernel)) ggX7_order_X7_finds
set_option maxRecDepth 20000 in
theorem ggX7_order_X7_there : GoodIn wsX7_order wsX7_there := goodIn_r _ [17, 3, 18, 19, 20, 7, 21, 22, 23, 24, 25, 26, 27, 28, 29, 65, 66, 67, 68, 69, 70, 71, 72, 73, 74, 75, 76, 77, 78, 79, 80, 81, 82] (by decide +kernel) (by decide +kernel)
set_option maxRecDepth 20000 in
theorem gX7_order_X7_there : GoodIn wsX7_order (wsV RX7 228 RX7 yX7_there wsX7_there) := goodIn_app (goodIn_of _ (by decide +kernel)) ggX7_order_X7_there
set_option maxRecDepth 20000 in
theorem ggX7_order_X7_has : GoodIn wsX7_order wsX7_has := goodIn_r _ [32] (by decide +kernel) (by decide +kernel)
set_option maxRecDepth 20000 in
theorem gX7_order_X7_has : GoodIn wsX7_order (va_wsS RX7 83 yX7_has wsX7_has) := goodIn_app (goodIn_of _ (by decide +kernel)) ggX7_order_X7_has
set_option maxRecDepth 20000 in
theorem ggX7_order_X7_standsBy : GoodIn wsX7_order wsX7_standsBy := goodIn_r _ [36, 26, 27, 28, 7, 29, 3, 37, 38, 39, 40, 41, 42, 43, 44, 45, 46, 47, 48, 49, 50, 51, 30, 31, 32, 52, 53, 54, 55, 56, 57, 58, 59, 60, 65, 66, 67, 68, 69, 70, 71, 72, 73, 74, 75, 76, 77, 78, 79, 80, 81, 82] (by decide +kernel) (by decide +kernel)
set_option maxRecDepth 20000 in
theorem gX7_order_X7_standsBy : GoodIn wsX7_order (wsV RX7 108 RX7 yX7_standsBy wsX7_standsBy) := goodIn_app (goodIn_of _ (by decide +kernel)) ggX7_order_X7_standsBy
set_option maxRecDepth 20000 in
theorem ggX7_order_X7_orNone : GoodIn wsX7_order wsX7_orNone := goodIn_r _ [64, 4, 9, 10, 11, 7, 12, 13, 2, 65, 66, 67, 68, 69, 70, 71, 72, 73, 74, 75, 76, 77, 78, 79, 80, 81, 82] (by decide +kernel) (by decide +kernel)
set_option maxRecDepth 20000 in
theorem gX7_order_X7_orNone : GoodIn wsX7_order (wsV RX7 209 RX7 yX7_orNone wsX7_orNone) := goodIn_app (goodIn_of _ (by decide +kernel)) ggX7_order_X7_orNone
theorem dX7_order_0 : decode cX7_order 0 = .ok (.iload_n 1, 1) := by decide +kernel
theorem dX7_order_1 : decode cX7_order 1 = .ok (.i2l, 1) := by decide +kernel
theorem dX7_order_2 : decode cX7_order 2 = .ok (.lconst 0, 1) := by decide +kernel
theorem dX7_order_3 : decode cX7_order 3 = .ok (.ldc2_w 226, 3) := by decide +kernel
theorem dX7_order_6 : decode cX7_order 6 = .ok (.invokestatic 51, 3) := by decide +kernel
theorem dX7_order_9 : decode cX7_order 9 = .ok (.ifCond .ne 10, 3) := by decide +kernel
theorem dX7_order_12 : decode cX7_order 12 = .ok (.aload_n 0, 1) := by decide +kernel
theorem dX7_order_13 : decode cX7_order 13 = .ok (.ldc 43, 2) := by decide +kernel
theorem dX7_order_15 : decode cX7_order 15 = .ok (.invokevirtual 45, 3) := by decide +kernel
theorem dX7_order_18 : decode cX7_order 18 = .ok (.ireturn, 1) := by decide +kernel
theorem dX7_order_19 : decode cX7_order 19 = .ok (.iconst 0, 1) := by decide +kernel
theorem dX7_order_20 : decode cX7_order 20 = .ok (.istore_n 2, 1) := by decide +kernel
theorem dX7_order_21 : decode cX7_order 21 = .ok (.iconst (-1), 1) := by decide +kernel
theorem dX7_order_22 : decode cX7_order 22 = .ok (.istore_n 3, 1) := by decide +kernel
theorem dX7_order_23 : decode cX7_order 23 = .ok (.iconst 0, 1) := by decide +kernel
theorem dX7_order_24 : decode cX7_order 24 = .ok (.istore 4, 2) := by decide +kernel
theorem dX7_order_26 : decode cX7_order 26 = .ok (.iload 4, 2) := by decide +kernel
theorem dX7_order_28 : decode cX7_order 28 = .ok (.aload_n 0, 1) := by decide +kernel
theorem dX7_order_29 : decode cX7_order 29 = .ok (.getfield 9, 3) := by decide +kernel
theorem dX7_order_32 : decode cX7_order 32 = .ok (.iconst 5, 1) := by decide +kernel
theorem dX7_order_33 : decode cX7_order 33 = .ok (.iaload, 1) := by decide +kernel
theorem dX7_order_34 : decode cX7_order 34 = .ok (.if_icmp .ge 96, 3) := by decide +kernel
theorem dX7_order_37 : decode cX7_order 37 = .ok (.iconst (-1), 1) := by decide +kernel
theorem dX7_order_38 : decode cX7_order 38 = .ok (.istore 5, 2) := by decide +kernel
theorem dX7_order_40 : decode cX7_order 40 = .ok (.aload_n 0, 1) := by decide +kernel
theorem dX7_order_41 : decode cX7_order 41 = .ok (.getfield 9, 3) := by decide +kernel
theorem dX7_order_44 : decode cX7_order 44 = .ok (.iconst 5, 1) := by decide +kernel
theorem dX7_order_45 : decode cX7_order 45 = .ok (.iaload, 1) := by decide +kernel
theorem dX7_order_46 : decode cX7_order 46 = .ok (.iconst 1, 1) := by decide +kernel
theorem dX7_order_47 : decode cX7_order 47 = .ok (.isub, 1) := by decide +kernel
theorem dX7_order_48 : decode cX7_order 48 = .ok (.istore 6, 2) := by decide +kernel
theorem dX7_order_50 : decode cX7_order 50 = .ok (.iload 6, 2) := by decide +kernel
theorem dX7_order_52 : decode cX7_order 52 = .ok (.ifCond .lt 44, 3) := by decide +kernel
theorem dX7_order_55 : decode cX7_order 55 = .ok (.aload_n 0, 1) := by decide +kernel
theorem dX7_order_56 : decode cX7_order 56 = .ok (.invokevirtual 228, 3) := by decide +kernel
theorem dX7_order_59 : decode cX7_order 59 = .ok (.iload_n 2, 1) := by decide +kernel
theorem dX7_order_60 : decode cX7_order 60 = .ok (.iconst (-1), 1) := by decide +kernel
theorem dX7_order_61 : decode cX7_order 61 = .ok (.ixor, 1) := by decide +kernel
theorem dX7_order_62 : decode cX7_order 62 = .ok (.iand, 1) := by decide +kernel
theorem dX7_order_63 : decode cX7_order 63 = .ok (.iload 6, 2) := by decide +kernel
theorem dX7_order_65 : decode cX7_order 65 = .ok (.invokestatic 83, 3) := by decide +kernel
theorem dX7_order_68 : decode cX7_order 68 = .ok (.ifCond .eq 18, 3) := by decide +kernel
theorem dX7_order_71 : decode cX7_order 71 = .ok (.aload_n 0, 1) := by decide +kernel
theorem dX7_order_72 : decode cX7_order 72 = .ok (.iload 6, 2) := by decide +kernel
theorem dX7_order_74 : decode cX7_order 74 = .ok (.iload_n 2, 1) := by decide +kernel
theorem dX7_order_75 : decode cX7_order 75 = .ok (.invokevirtual 108, 3) := by decide +kernel
theorem dX7_order_78 : decode cX7_order 78 = .ok (.ifCond .eq 8, 3) := by decide +kernel
theorem dX7_order_81 : decode cX7_order 81 = .ok (.iload 6, 2) := by decide +kernel
theorem dX7_order_83 : decode cX7_order 83 = .ok (.goto 5, 3) := by decide +kernel
theorem dX7_order_86 : decode cX7_order 86 = .ok (.iload 5, 2) := by decide +kernel
theorem dX7_order_88 : decode cX7_order 88 = .ok (.istore 5, 2) := by decide +kernel
theorem dX7_order_90 : decode cX7_order 90 = .ok (.iinc 6 (-1), 3) := by decide +kernel
theorem dX7_order_93 : decode cX7_order 93 = .ok (.goto (-43), 3) := by decide +kernel
theorem dX7_order_96 : decode cX7_order 96 = .ok (.iload 5, 2) := by decide +kernel
theorem dX7_order_98 : decode cX7_order 98 = .ok (.ifCond .ge 6, 3) := by decide +kernel
theorem dX7_order_101 : decode cX7_order 101 = .ok (.goto 29, 3) := by decide +kernel
theorem dX7_order_104 : decode cX7_order 104 = .ok (.iload_n 2, 1) := by decide +kernel
theorem dX7_order_105 : decode cX7_order 105 = .ok (.iconst 1, 1) := by decide +kernel
theorem dX7_order_106 : decode cX7_order 106 = .ok (.iload 5, 2) := by decide +kernel
theorem dX7_order_108 : decode cX7_order 108 = .ok (.ishl, 1) := by decide +kernel
theorem dX7_order_109 : decode cX7_order 109 = .ok (.ior, 1) := by decide +kernel
theorem dX7_order_110 : decode cX7_order 110 = .ok (.istore_n 2, 1) := by decide +kernel
theorem dX7_order_111 : decode cX7_order 111 = .ok (.iload 4, 2) := by decide +kernel
theorem dX7_order_113 : decode cX7_order 113 = .ok (.iload_n 1, 1) := by decide +kernel
theorem dX7_order_114 : decode cX7_order 114 = .ok (.if_icmp .ne 8, 3) := by decide +kernel
theorem dX7_order_117 : decode cX7_order 117 = .ok (.iload 5, 2) := by decide +kernel
theorem dX7_order_119 : decode cX7_order 119 = .ok (.goto 4, 3) := by decide +kernel
theorem dX7_order_122 : decode cX7_order 122 = .ok (.iload_n 3, 1) := by decide +kernel
theorem dX7_order_123 : decode cX7_order 123 = .ok (.istore_n 3, 1) := by decide +kernel
theorem dX7_order_124 : decode cX7_order 124 = .ok (.iinc 4 1, 3) := by decide +kernel
theorem dX7_order_127 : decode cX7_order 127 = .ok (.goto (-101), 3) := by decide +kernel
theorem dX7_order_130 : decode cX7_order 130 = .ok (.iload_n 2, 1) := by decide +kernel
theorem dX7_order_131 : decode cX7_order 131 = .ok (.aload_n 0, 1) := by decide +kernel
theorem dX7_order_132 : decode cX7_order 132 = .ok (.invokevirtual 228, 3) := by decide +kernel
theorem dX7_order_135 : decode cX7_order 135 = .ok (.if_icmp .ne 11, 3) := by decide +kernel
theorem dX7_order_138 : decode cX7_order 138 = .ok (.aload_n 0, 1) := by decide +kernel
theorem dX7_order_139 : decode cX7_order 139 = .ok (.iload_n 3, 1) := by decide +kernel
theorem dX7_order_140 : decode cX7_order 140 = .ok (.invokevirtual 209, 3) := by decide +kernel
theorem dX7_order_143 : decode cX7_order 143 = .ok (.goto 9, 3) := by decide +kernel
theorem dX7_order_146 : decode cX7_order 146 = .ok (.aload_n 0, 1) := by decide +kernel
theorem dX7_order_147 : decode cX7_order 147 = .ok (.ldc 44, 2) := by decide +kernel
theorem dX7_order_149 : decode cX7_order 149 = .ok (.invokevirtual 45, 3) := by decide +kernel
theorem dX7_order_152 : decode cX7_order 152 = .ok (.ireturn, 1) := by decide +kernel
set_option maxRecDepth 20000 in
theorem ggX7_steps_X7_in : GoodIn wsX7_steps wsX7_in := goodIn_r _ [8] (by decide +kernel) (by decide +kernel)
set_option maxRecDepth 20000 in
theorem gX7_steps_X7_in : GoodIn wsX7_steps (va_wsS RX7 51 yX7_in wsX7_in) := goodIn_app (goodIn_of _ (by decide +kernel)) ggX7_steps_X7_in
set_option maxRecDepth 20000 in
theorem ggX7_steps_X7_finds : GoodIn wsX7_steps wsX7_finds := goodIn_r _ [12, 13, 2, 64, 65, 66, 67, 68, 69, 70, 71, 72, 73, 74, 75, 76, 77, 78, 79, 80, 81] (by decide +kernel) (by decide +kernel)
set_option maxRecDepth 20000 in
theorem gX7_steps_X7_finds : GoodIn wsX7_steps (wsV RX7 45 RX7 yX7_finds wsX7_finds) := goodIn_app (goodIn_of _ (by decide +kernel)) ggX7_steps_X7_finds
set_option maxRecDepth 20000 in
theorem ggX7_steps_X7_there : GoodIn wsX7_steps wsX7_there := goodIn_r _ [17, 3, 18, 19, 20, 7, 21, 22, 23, 24, 25, 26, 27, 28, 29, 64, 65, 66, 67, 68, 69, 70, 71, 72, 73, 74, 75, 76, 77, 78, 79, 80, 81] (by decide +kernel) (by decide +kernel)
set_option maxRecDepth 20000 in
theorem gX7_steps_X7_there : GoodIn wsX7_steps (wsV RX7 228 RX7 yX7_there wsX7_there) := goodIn_app (goodIn_of _ (by decide +kernel)) ggX7_steps_X7_there
set_option maxRecDepth 20000 in
theorem ggX7_steps_X7_has : GoodIn wsX7_steps wsX7_has := goodIn_r _ [32] (by decide +kernel) (by decide +kernel)
set_option maxRecDepth 20000 in
theorem gX7_steps_X7_has : GoodIn wsX7_steps (va_wsS RX7 83 yX7_has wsX7_has) := goodIn_app (goodIn_of _ (by decide +kernel)) ggX7_steps_X7_has
set_option maxRecDepth 20000 in
theorem ggX7_steps_X7_many : GoodIn wsX7_steps wsX7_many := goodIn_r _ [35] (by decide +kernel) (by decide +kernel)
set_option maxRecDepth 20000 in
theorem gX7_steps_X7_many : GoodIn wsX7_steps (va_wsS RX7 180 yX7_many wsX7_many) := goodIn_app (goodIn_of _ (by decide +kernel)) ggX7_steps_X7_many
set_option maxRecDepth 20000 in
theorem ggX7_steps_X7_standsBy : GoodIn wsX7_steps wsX7_standsBy := goodIn_r _ [39, 26, 27, 28, 7, 29, 3, 40, 41, 42, 43, 44, 45, 46, 47, 48, 49, 50, 51, 52, 53, 54, 30, 31, 32, 55, 56, 57, 58, 59, 60, 61, 62, 63, 64, 65, 66, 67, 68, 69, 70, 71, 72, 73, 74, 75, 76, 77, 78, 79, 80, 81] (by decide +kernel) (by decide +kernel)
set_option maxRecDepth 20000 in
theorem gX7_steps_X7_standsBy : GoodIn wsX7_steps (wsV RX7 108 RX7 yX7_standsBy wsX7_standsBy) := goodIn_app (goodIn_of _ (by decide +kernel)) ggX7_steps_X7_standsBy
theorem dX7_steps_0 : decode cX7_steps 0 = .ok (.iload_n 1, 1) := by decide +kernel
theorem dX7_steps_1 : decode cX7_steps 1 = .ok (.i2l, 1) := by decide +kernel
theorem dX7_steps_2 : decode cX7_steps 2 = .ok (.lconst 1, 1) := by decide +kernel
theorem dX7_steps_3 : decode cX7_steps 3 = .ok (.ldc2_w 231, 3) := by decide +kernel
theorem dX7_steps_6 : decode cX7_steps 6 = .ok (.invokestatic 51, 3) := by decide +kernel
theorem dX7_steps_9 : decode cX7_steps 9 = .ok (.ifCond .ne 10, 3) := by decide +kernel
theorem dX7_steps_12 : decode cX7_steps 12 = .ok (.aload_n 0, 1) := by decide +kernel
theorem dX7_steps_13 : decode cX7_steps 13 = .ok (.ldc 43, 2) := by decide +kernel
theorem dX7_steps_15 : decode cX7_steps 15 = .ok (.invokevirtual 45, 3) := by decide +kernel
theorem dX7_steps_18 : decode cX7_steps 18 = .ok (.ireturn, 1) := by decide +kernel
theorem dX7_steps_19 : decode cX7_steps 19 = .ok (.iconst 0, 1) := by decide +kernel
theorem dX7_steps_20 : decode cX7_steps 20 = .ok (.istore_n 2, 1) := by decide +kernel
theorem dX7_steps_21 : decode cX7_steps 21 = .ok (.iconst 0, 1) := by decide +kernel
theorem dX7_steps_22 : decode cX7_steps 22 = .ok (.istore_n 3, 1) := by decide +kernel
theorem dX7_steps_23 : decode cX7_steps 23 = .ok (.iload_n 2, 1) := by decide +kernel
theorem dX7_steps_24 : decode cX7_steps 24 = .ok (.aload_n 0, 1) := by decide +kernel
theorem dX7_steps_25 : decode cX7_steps 25 = .ok (.invokevirtual 228, 3) := by decide +kernel
theorem dX7_steps_28 : decode cX7_steps 28 = .ok (.if_icmp .eq 97, 3) := by decide +kernel
theorem dX7_steps_31 : decode cX7_steps 31 = .ok (.iconst 0, 1) := by decide +kernel
theorem dX7_steps_32 : decode cX7_steps 32 = .ok (.istore 4, 2) := by decide +kernel
theorem dX7_steps_34 : decode cX7_steps 34 = .ok (.iconst 0, 1) := by decide +kernel
theorem dX7_steps_35 : decode cX7_steps 35 = .ok (.istore 5, 2) := by decide +kernel
theorem dX7_steps_37 : decode cX7_steps 37 = .ok (.iload 5, 2) := by decide +kernel
theorem dX7_steps_39 : decode cX7_steps 39 = .ok (.aload_n 0, 1) := by decide +kernel
theorem dX7_steps_40 : decode cX7_steps 40 = .ok (.getfield 9, 3) := by decide +kernel
theorem dX7_steps_43 : decode cX7_steps 43 = .ok (.iconst 5, 1) := by decide +kernel
theorem dX7_steps_44 : decode cX7_steps 44 = .ok (.iaload, 1) := by decide +kernel
theorem dX7_steps_45 : decode cX7_steps 45 = .ok (.if_icmp .ge 57, 3) := by decide +kernel
theorem dX7_steps_48 : decode cX7_steps 48 = .ok (.iload 4, 2) := by decide +kernel
theorem dX7_steps_50 : decode cX7_steps 50 = .ok (.aload_n 0, 1) := by decide +kernel
theorem dX7_steps_51 : decode cX7_steps 51 = .ok (.invokevirtual 228, 3) := by decide +kernel
theorem dX7_steps_54 : decode cX7_steps 54 = .ok (.iload_n 2, 1) := by decide +kernel
theorem dX7_steps_55 : decode cX7_steps 55 = .ok (.iconst (-1), 1) := by decide +kernel
theorem dX7_steps_56 : decode cX7_steps 56 = .ok (.ixor, 1) := by decide +kernel
theorem dX7_steps_57 : decode cX7_steps 57 = .ok (.iand, 1) := by decide +kernel
theorem dX7_steps_58 : decode cX7_steps 58 = .ok (.iload 5, 2) := by decide +kernel
theorem dX7_steps_60 : decode cX7_steps 60 = .ok (.invokestatic 83, 3) := by decide +kernel
theorem dX7_steps_63 : decode cX7_steps 63 = .ok (.ifCond .eq 29, 3) := by decide +kernel
theorem dX7_steps_66 : decode cX7_steps 66 = .ok (.iload 4, 2) := by decide +kernel
theorem dX7_steps_68 : decode cX7_steps 68 = .ok (.invokestatic 180, 3) := by decide +kernel
theorem dX7_steps_71 : decode cX7_steps 71 = .ok (.iload_n 1, 1) := by decide +kernel
theorem dX7_steps_72 : decode cX7_steps 72 = .ok (.if_icmp .ge 20, 3) := by decide +kernel
theorem dX7_steps_75 : decode cX7_steps 75 = .ok (.aload_n 0, 1) := by decide +kernel
theorem dX7_steps_76 : decode cX7_steps 76 = .ok (.iload 5, 2) := by decide +kernel
theorem dX7_steps_78 : decode cX7_steps 78 = .ok (.iload_n 2, 1) := by decide +kernel
theorem dX7_steps_79 : decode cX7_steps 79 = .ok (.invokevirtual 108, 3) := by decide +kernel
theorem dX7_steps_82 : decode cX7_steps 82 = .ok (.ifCond .eq 10, 3) := by decide +kernel
theorem dX7_steps_85 : decode cX7_steps 85 = .ok (.iconst 1, 1) := by decide +kernel
theorem dX7_steps_86 : decode cX7_steps 86 = .ok (.iload 5, 2) := by decide +kernel
theorem dX7_steps_88 : decode cX7_steps 88 = .ok (.ishl, 1) := by decide +kernel
theorem dX7_steps_89 : decode cX7_steps 89 = .ok (.goto 4, 3) := by decide +kernel
theorem dX7_steps_92 : decode cX7_steps 92 = .ok (.iconst 0, 1) := by decide +kernel
theorem dX7_steps_93 : decode cX7_steps 93 = .ok (.ior, 1) := by decide +kernel
theorem dX7_steps_94 : decode cX7_steps 94 = .ok (.istore 4, 2) := by decide +kernel
theorem dX7_steps_96 : decode cX7_steps 96 = .ok (.iinc 5 1, 3) := by decide +kernel
theorem dX7_steps_99 : decode cX7_steps 99 = .ok (.goto (-62), 3) := by decide +kernel
theorem dX7_steps_102 : decode cX7_steps 102 = .ok (.iload 4, 2) := by decide +kernel
theorem dX7_steps_104 : decode cX7_steps 104 = .ok (.ifCond .ne 10, 3) := by decide +kernel
theorem dX7_steps_107 : decode cX7_steps 107 = .ok (.aload_n 0, 1) := by decide +kernel
theorem dX7_steps_108 : decode cX7_steps 108 = .ok (.ldc 44, 2) := by decide +kernel
theorem dX7_steps_110 : decode cX7_steps 110 = .ok (.invokevirtual 45, 3) := by decide +kernel
theorem dX7_steps_113 : decode cX7_steps 113 = .ok (.ireturn, 1) := by decide +kernel
theorem dX7_steps_114 : decode cX7_steps 114 = .ok (.iload_n 2, 1) := by decide +kernel
theorem dX7_steps_115 : decode cX7_steps 115 = .ok (.iload 4, 2) := by decide +kernel
theorem dX7_steps_117 : decode cX7_steps 117 = .ok (.ior, 1) := by decide +kernel
theorem dX7_steps_118 : decode cX7_steps 118 = .ok (.istore_n 2, 1) := by decide +kernel
theorem dX7_steps_119 : decode cX7_steps 119 = .ok (.iinc 3 1, 3) := by decide +kernel
theorem dX7_steps_122 : decode cX7_steps 122 = .ok (.goto (-99), 3) := by decide +kernel
theorem dX7_steps_125 : decode cX7_steps 125 = .ok (.iload_n 3, 1) := by decide +kernel
theorem dX7_steps_126 : decode cX7_steps 126 = .ok (.ireturn, 1) := by decide +kernel
set_option maxRecDepth 20000 in
theorem ggX7_shaken_X7_isGone : GoodIn wsX7_shaken wsX7_isGone := goodIn_r _ [6, 7, 8, 9, 5, 10, 1, 15, 16, 17, 18, 19, 20, 21, 22, 23, 24, 25, 26, 27, 28, 29, 30, 31, 32] (by decide +kernel) (by decide +kernel)
set_option maxRecDepth 20000 in
theorem gX7_shaken_X7_isGone : GoodIn wsX7_shaken (wsV RX7 105 RX7 yX7_isGone wsX7_isGone) := goodIn_app (goodIn_of _ (by decide +kernel)) ggX7_shaken_X7_isGone
set_option maxRecDepth 20000 in
theorem ggX7_shaken_X7_grains : GoodIn wsX7_shaken wsX7_grains := goodIn_r _ [14, 1, 15, 16, 17, 18, 19, 20, 21, 22, 23, 24, 25, 26, 27, 28, 29, 30, 31, 32] (by decide +kernel) (by decide +kernel)
set_option maxRecDepth 20000 in
theorem gX7_shaken_X7_grains : GoodIn wsX7_shaken (wsV RX7 111 RX7 yX7_grains wsX7_grains) := goodIn_app (goodIn_of _ (by decide +kernel)) ggX7_shaken_X7_grains
theorem dX7_shaken_0 : decode cX7_shaken 0 = .ok (.iconst 0, 1) := by decide +kernel
theorem dX7_shaken_1 : decode cX7_shaken 1 = .ok (.istore_n 2, 1) := by decide +kernel
theorem dX7_shaken_2 : decode cX7_shaken 2 = .ok (.iconst 0, 1) := by decide +kernel
theorem dX7_shaken_3 : decode cX7_shaken 3 = .ok (.istore_n 3, 1) := by decide +kernel
theorem dX7_shaken_4 : decode cX7_shaken 4 = .ok (.iload_n 3, 1) := by decide +kernel
theorem dX7_shaken_5 : decode cX7_shaken 5 = .ok (.aload_n 0, 1) := by decide +kernel
theorem dX7_shaken_6 : decode cX7_shaken 6 = .ok (.getfield 9, 3) := by decide +kernel
theorem dX7_shaken_9 : decode cX7_shaken 9 = .ok (.iconst 5, 1) := by decide +kernel
theorem dX7_shaken_10 : decode cX7_shaken 10 = .ok (.iaload, 1) := by decide +kernel
theorem dX7_shaken_11 : decode cX7_shaken 11 = .ok (.if_icmp .ge 37, 3) := by decide +kernel
theorem dX7_shaken_14 : decode cX7_shaken 14 = .ok (.iload_n 2, 1) := by decide +kernel
theorem dX7_shaken_15 : decode cX7_shaken 15 = .ok (.aload_n 0, 1) := by decide +kernel
theorem dX7_shaken_16 : decode cX7_shaken 16 = .ok (.iload_n 3, 1) := by decide +kernel
theorem dX7_shaken_17 : decode cX7_shaken 17 = .ok (.invokevirtual 105, 3) := by decide +kernel
theorem dX7_shaken_20 : decode cX7_shaken 20 = .ok (.ifCond .ne 19, 3) := by decide +kernel
theorem dX7_shaken_23 : decode cX7_shaken 23 = .ok (.aload_n 0, 1) := by decide +kernel
theorem dX7_shaken_24 : decode cX7_shaken 24 = .ok (.iload_n 3, 1) := by decide +kernel
theorem dX7_shaken_25 : decode cX7_shaken 25 = .ok (.invokevirtual 111, 3) := by decide +kernel
theorem dX7_shaken_28 : decode cX7_shaken 28 = .ok (.iload_n 1, 1) := by decide +kernel
theorem dX7_shaken_29 : decode cX7_shaken 29 = .ok (.irem, 1) := by decide +kernel
theorem dX7_shaken_30 : decode cX7_shaken 30 = .ok (.ifCond .ne 9, 3) := by decide +kernel
theorem dX7_shaken_33 : decode cX7_shaken 33 = .ok (.iconst 1, 1) := by decide +kernel
theorem dX7_shaken_34 : decode cX7_shaken 34 = .ok (.iload_n 3, 1) := by decide +kernel
theorem dX7_shaken_35 : decode cX7_shaken 35 = .ok (.ishl, 1) := by decide +kernel
theorem dX7_shaken_36 : decode cX7_shaken 36 = .ok (.goto 4, 3) := by decide +kernel
theorem dX7_shaken_39 : decode cX7_shaken 39 = .ok (.iconst 0, 1) := by decide +kernel
theorem dX7_shaken_40 : decode cX7_shaken 40 = .ok (.ior, 1) := by decide +kernel
theorem dX7_shaken_41 : decode cX7_shaken 41 = .ok (.istore_n 2, 1) := by decide +kernel
theorem dX7_shaken_42 : decode cX7_shaken 42 = .ok (.iinc 3 1, 3) := by decide +kernel
theorem dX7_shaken_45 : decode cX7_shaken 45 = .ok (.goto (-41), 3) := by decide +kernel
theorem dX7_shaken_48 : decode cX7_shaken 48 = .ok (.iload_n 2, 1) := by decide +kernel
theorem dX7_shaken_49 : decode cX7_shaken 49 = .ok (.ireturn, 1) := by decide +kernel
set_option maxRecDepth 20000 in
theorem ggX7_isTune_X7_in : GoodIn wsX7_isTune wsX7_in := goodIn_r _ [6] (by decide +kernel) (by decide +kernel)
set_option maxRecDepth 20000 in
theorem gX7_isTune_X7_in : GoodIn wsX7_isTune (va_wsS RX7 51 yX7_in wsX7_in) := goodIn_app (goodIn_of _ (by decide +kernel)) ggX7_isTune_X7_in
theorem dX7_isTune_0 : decode cX7_isTune 0 = .ok (.iload_n 0, 1) := by decide +kernel
theorem dX7_isTune_1 : decode cX7_isTune 1 = .ok (.i2l, 1) := by decide +kernel
theorem dX7_isTune_2 : decode cX7_isTune 2 = .ok (.ldc2_w 233, 3) := by decide +kernel
theorem dX7_isTune_5 : decode cX7_isTune 5 = .ok (.ldc2_w 235, 3) := by decide +kernel
theorem dX7_isTune_8 : decode cX7_isTune 8 = .ok (.invokestatic 51, 3) := by decide +kernel
theorem dX7_isTune_11 : decode cX7_isTune 11 = .ok (.ireturn, 1) := by decide +kernel
set_option maxRecDepth 20000 in
theorem ggX7_shakes_X7_isTune : GoodIn wsX7_shakes wsX7_isTune := goodIn_r _ [5, 6, 7, 8, 9, 4, 10] (by decide +kernel) (by decide +kernel)
set_option maxRecDepth 20000 in
theorem gX7_shakes_X7_isTune : GoodIn wsX7_shakes (va_wsS RX7 237 yX7_isTune wsX7_isTune) := goodIn_app (goodIn_of _ (by decide +kernel)) ggX7_shakes_X7_isTune
set_option maxRecDepth 20000 in
theorem ggX7_shakes_X7_shaken : GoodIn wsX7_shakes wsX7_shaken := goodIn_r _ [14, 15, 16, 17, 18, 4, 19, 20, 21, 22, 23, 24, 25, 26, 27, 33, 34, 35, 36, 37, 38, 39, 40, 41, 42, 43, 44, 45, 46, 47, 48, 49, 50] (by decide +kernel) (by decide +kernel)
set_option maxRecDepth 20000 in
theorem gX7_shakes_X7_shaken : GoodIn wsX7_shakes (wsV RX7 240 RX7 yX7_shaken wsX7_shaken) := goodIn_app (goodIn_of _ (by decide +kernel)) ggX7_shakes_X7_shaken
set_option maxRecDepth 20000 in
theorem ggX7_shakes_X7_finds : GoodIn wsX7_shakes wsX7_finds := goodIn_r _ [31, 32, 1, 33, 34, 35, 36, 37, 38, 39, 40, 41, 42, 43, 44, 45, 46, 47, 48, 49, 50] (by decide +kernel) (by decide +kernel)
set_option maxRecDepth 20000 in
theorem gX7_shakes_X7_finds : GoodIn wsX7_shakes (wsV RX7 45 RX7 yX7_finds wsX7_finds) := goodIn_app (goodIn_of _ (by decide +kernel)) ggX7_shakes_X7_finds
theorem dX7_shakes_0 : decode cX7_shakes 0 = .ok (.iload_n 1, 1) := by decide +kernel
theorem dX7_shakes_1 : decode cX7_shakes 1 = .ok (.invokestatic 237, 3) := by decide +kernel
theorem dX7_shakes_4 : decode cX7_shakes 4 = .ok (.ifCond .eq 11, 3) := by decide +kernel
theorem dX7_shakes_7 : decode cX7_shakes 7 = .ok (.aload_n 0, 1) := by decide +kernel
theorem dX7_shakes_8 : decode cX7_shakes 8 = .ok (.iload_n 1, 1) := by decide +kernel
theorem dX7_shakes_9 : decode cX7_shakes 9 = .ok (.invokevirtual 240, 3) := by decide +kernel
theorem dX7_shakes_12 : decode cX7_shakes 12 = .ok (.goto 9, 3) := by decide +kernel
theorem dX7_shakes_15 : decode cX7_shakes 15 = .ok (.aload_n 0, 1) := by decide +kernel
theorem dX7_shakes_16 : decode cX7_shakes 16 = .ok (.ldc 43, 2) := by decide +kernel
theorem dX7_shakes_18 : decode cX7_shakes 18 = .ok (.invokevirtual 45, 3) := by decide +kernel
theorem dX7_shakes_21 : decode cX7_shakes 21 = .ok (.ireturn, 1) := by decide +kernel
set_option maxRecDepth 20000 in
theorem ggX7_danced_X7_goneNow : GoodIn wsX7_danced wsX7_goneNow := goodIn_r _ [6, 1, 7, 8, 9, 5, 10, 11, 12, 13, 14, 89, 90, 91, 92, 93, 94, 95, 96, 97, 98, 99, 100, 101, 102, 103, 104, 105, 106] (by decide +kernel) (by decide +kernel)
set_option maxRecDepth 20000 in
theorem gX7_danced_X7_goneNow : GoodIn wsX7_danced (wsV RX7 174 RX7 yX7_goneNow wsX7_goneNow) := goodIn_app (goodIn_of _ (by decide +kernel)) ggX7_danced_X7_goneNow
set_option maxRecDepth 20000 in
theorem ggX7_danced_X7_shaken : GoodIn wsX7_danced wsX7_shaken := goodIn_r _ [18, 1, 7, 8, 9, 5, 10, 11, 12, 13, 14, 19, 20, 21, 22, 89, 90, 91, 92, 93, 94, 95, 96, 97, 98, 99, 100, 101, 102, 103, 104, 105, 106] (by decide +kernel) (by decide +kernel)
set_option maxRecDepth 20000 in
theorem gX7_danced_X7_shaken : GoodIn wsX7_danced (wsV RX7 240 RX7 yX7_shaken wsX7_shaken) := goodIn_app (goodIn_of _ (by decide +kernel)) ggX7_danced_X7_shaken
set_option maxRecDepth 20000 in
theorem ggX7_danced_X7_has : GoodIn wsX7_danced wsX7_has := goodIn_r _ [25] (by decide +kernel) (by decide +kernel)
set_option maxRecDepth 20000 in
theorem gX7_danced_X7_has : GoodIn wsX7_danced (va_wsS RX7 83 yX7_has wsX7_has) := goodIn_app (goodIn_of _ (by decide +kernel)) ggX7_danced_X7_has
set_option maxRecDepth 20000 in
theorem ggX7_danced_X7_grains : GoodIn wsX7_danced wsX7_grains := goodIn_r _ [22, 1, 89, 90, 91, 92, 93, 94, 95, 96, 97, 98, 99, 100, 101, 102, 103, 104, 105, 106] (by decide +kernel) (by decide +kernel)
set_option maxRecDepth 20000 in
theorem gX7_danced_X7_grains : GoodIn wsX7_danced (wsV RX7 111 RX7 yX7_grains wsX7_grains) := goodIn_app (goodIn_of _ (by decide +kernel)) ggX7_danced_X7_grains
set_option maxRecDepth 20000 in
theorem ggX7_danced_X7_makes : GoodIn wsX7_danced wsX7_makes := goodIn_r _ [29, 1, 89, 90, 91, 92, 93, 94, 95, 96, 97, 98, 99, 100, 101, 102, 103, 104, 105, 106] (by decide +kernel) (by decide +kernel)
set_option maxRecDepth 20000 in
theorem gX7_danced_X7_makes : GoodIn wsX7_danced (wsV RX7 140 RX7 yX7_makes wsX7_makes) := goodIn_app (goodIn_of _ (by decide +kernel)) ggX7_danced_X7_makes
set_option maxRecDepth 20000 in
theorem ggX7_danced_X7_emptyGo : GoodIn wsX7_danced wsX7_emptyGo := goodIn_r _ [33, 1, 19, 20, 21, 5, 22, 89, 90, 91, 92, 93, 94, 95, 96, 97, 98, 99, 100, 101, 102, 103, 104, 105, 106] (by decide +kernel) (by decide +kernel)
set_option maxRecDepth 20000 in
theorem gX7_danced_X7_emptyGo : GoodIn wsX7_danced (wsV RX7 166 RX7 yX7_emptyGo wsX7_emptyGo) := goodIn_app (goodIn_of _ (by decide +kernel)) ggX7_danced_X7_emptyGo
set_option maxRecDepth 20000 in
theorem ggX7_danced_X7_falls : GoodIn wsX7_danced wsX7_falls := goodIn_r _ [37, 1, 38, 39, 40, 5, 41, 42, 43, 44, 45, 7, 8, 9, 10, 11, 12, 13, 14, 46, 47, 48, 49, 50, 51, 52, 53, 54, 55, 56, 57, 58, 59, 60, 61, 62, 63, 64, 23, 24, 25, 65, 66, 67, 68, 69, 70, 71, 72, 73, 74, 75, 76, 77, 78, 79, 80, 81, 19, 20, 21, 22, 82, 83, 84, 85, 26, 27, 28, 29, 89, 90, 91, 92, 93, 94, 95, 96, 97, 98, 99, 100, 101, 102, 103, 104, 105, 106] (by decide +kernel) (by decide +kernel)
set_option maxRecDepth 20000 in
theorem gX7_danced_X7_falls : GoodIn wsX7_danced (wsV RX7 169 RX7 yX7_falls wsX7_falls) := goodIn_app (goodIn_of _ (by decide +kernel)) ggX7_danced_X7_falls
set_option maxRecDepth 20000 in
theorem ggX7_danced_X7_many : GoodIn wsX7_danced wsX7_many := goodIn_r _ [88] (by decide +kernel) (by decide +kernel)
set_option maxRecDepth 20000 in
theorem gX7_danced_X7_many : GoodIn wsX7_danced (va_wsS RX7 180 yX7_many wsX7_many) := goodIn_app (goodIn_of _ (by decide +kernel)) ggX7_danced_X7_many
theorem dX7_danced_0 : decode cX7_danced 0 = .ok (.aload_n 0, 1) := by decide +kernel
theorem dX7_danced_1 : decode cX7_danced 1 = .ok (.invokevirtual 174, 3) := by decide +kernel
theorem dX7_danced_4 : decode cX7_danced 4 = .ok (.istore_n 2, 1) := by decide +kernel
theorem dX7_danced_5 : decode cX7_danced 5 = .ok (.aload_n 0, 1) := by decide +kernel
theorem dX7_danced_6 : decode cX7_danced 6 = .ok (.iload_n 1, 1) := by decide +kernel
theorem dX7_danced_7 : decode cX7_danced 7 = .ok (.invokevirtual 240, 3) := by decide +kernel
theorem dX7_danced_10 : decode cX7_danced 10 = .ok (.istore_n 3, 1) := by decide +kernel
theorem dX7_danced_11 : decode cX7_danced 11 = .ok (.iconst 0, 1) := by decide +kernel
theorem dX7_danced_12 : decode cX7_danced 12 = .ok (.istore 4, 2) := by decide +kernel
theorem dX7_danced_14 : decode cX7_danced 14 = .ok (.iload 4, 2) := by decide +kernel
theorem dX7_danced_16 : decode cX7_danced 16 = .ok (.aload_n 0, 1) := by decide +kernel
theorem dX7_danced_17 : decode cX7_danced 17 = .ok (.getfield 9, 3) := by decide +kernel
theorem dX7_danced_20 : decode cX7_danced 20 = .ok (.iconst 5, 1) := by decide +kernel
theorem dX7_danced_21 : decode cX7_danced 21 = .ok (.iaload, 1) := by decide +kernel
theorem dX7_danced_22 : decode cX7_danced 22 = .ok (.if_icmp .ge 45, 3) := by decide +kernel
theorem dX7_danced_25 : decode cX7_danced 25 = .ok (.iload_n 3, 1) := by decide +kernel
theorem dX7_danced_26 : decode cX7_danced 26 = .ok (.iload 4, 2) := by decide +kernel
theorem dX7_danced_28 : decode cX7_danced 28 = .ok (.invokestatic 83, 3) := by decide +kernel
theorem dX7_danced_31 : decode cX7_danced 31 = .ok (.ifCond .ne 6, 3) := by decide +kernel
theorem dX7_danced_34 : decode cX7_danced 34 = .ok (.goto 27, 3) := by decide +kernel
theorem dX7_danced_37 : decode cX7_danced 37 = .ok (.aload_n 0, 1) := by decide +kernel
theorem dX7_danced_38 : decode cX7_danced 38 = .ok (.iload 4, 2) := by decide +kernel
theorem dX7_danced_40 : decode cX7_danced 40 = .ok (.aload_n 0, 1) := by decide +kernel
theorem dX7_danced_41 : decode cX7_danced 41 = .ok (.iload 4, 2) := by decide +kernel
theorem dX7_danced_43 : decode cX7_danced 43 = .ok (.invokevirtual 111, 3) := by decide +kernel
theorem dX7_danced_46 : decode cX7_danced 46 = .ok (.iconst 1, 1) := by decide +kernel
theorem dX7_danced_47 : decode cX7_danced 47 = .ok (.isub, 1) := by decide +kernel
theorem dX7_danced_48 : decode cX7_danced 48 = .ok (.invokevirtual 140, 3) := by decide +kernel
theorem dX7_danced_51 : decode cX7_danced 51 = .ok (.aload_n 0, 1) := by decide +kernel
theorem dX7_danced_52 : decode cX7_danced 52 = .ok (.getfield 9, 3) := by decide +kernel
theorem dX7_danced_55 : decode cX7_danced 55 = .ok (.iconst 2, 1) := by decide +kernel
theorem dX7_danced_56 : decode cX7_danced 56 = .ok (.dup2, 1) := by decide +kernel
theorem dX7_danced_57 : decode cX7_danced 57 = .ok (.iaload, 1) := by decide +kernel
theorem dX7_danced_58 : decode cX7_danced 58 = .ok (.iconst 1, 1) := by decide +kernel
theorem dX7_danced_59 : decode cX7_danced 59 = .ok (.iadd, 1) := by decide +kernel
theorem dX7_danced_60 : decode cX7_danced 60 = .ok (.iastore, 1) := by decide +kernel
theorem dX7_danced_61 : decode cX7_danced 61 = .ok (.iinc 4 1, 3) := by decide +kernel
theorem dX7_danced_64 : decode cX7_danced 64 = .ok (.goto (-50), 3) := by decide +kernel
theorem dX7_danced_67 : decode cX7_danced 67 = .ok (.aload_n 0, 1) := by decide +kernel
theorem dX7_danced_68 : decode cX7_danced 68 = .ok (.invokevirtual 166, 3) := by decide +kernel
theorem dX7_danced_71 : decode cX7_danced 71 = .ok (.aload_n 0, 1) := by decide +kernel
theorem dX7_danced_72 : decode cX7_danced 72 = .ok (.invokevirtual 169, 3) := by decide +kernel
theorem dX7_danced_75 : decode cX7_danced 75 = .ok (.aload_n 0, 1) := by decide +kernel
theorem dX7_danced_76 : decode cX7_danced 76 = .ok (.invokevirtual 174, 3) := by decide +kernel
theorem dX7_danced_79 : decode cX7_danced 79 = .ok (.iload_n 2, 1) := by decide +kernel
theorem dX7_danced_80 : decode cX7_danced 80 = .ok (.iconst (-1), 1) := by decide +kernel
theorem dX7_danced_81 : decode cX7_danced 81 = .ok (.ixor, 1) := by decide +kernel
theorem dX7_danced_82 : decode cX7_danced 82 = .ok (.iand, 1) := by decide +kernel
theorem dX7_danced_83 : decode cX7_danced 83 = .ok (.invokestatic 180, 3) := by decide +kernel
theorem dX7_danced_86 : decode cX7_danced 86 = .ok (.ireturn, 1) := by decide +kernel
set_option maxRecDepth 20000 in
theorem ggX7_dance_X7_isTune : GoodIn wsX7_dance wsX7_isTune := goodIn_r _ [5, 6, 7, 8, 9, 4, 10] (by decide +kernel) (by decide +kernel)
set_option maxRecDepth 20000 in
theorem gX7_dance_X7_isTune : GoodIn wsX7_dance (va_wsS RX7 237 yX7_isTune wsX7_isTune) := goodIn_app (goodIn_of _ (by decide +kernel)) ggX7_dance_X7_isTune
set_option maxRecDepth 20000 in
theorem ggX7_dance_X7_danced : GoodIn wsX7_dance wsX7_danced := goodIn_r _ [14, 15, 16, 17, 18, 4, 19, 20, 21, 22, 23, 24, 25, 26, 27, 28, 29, 30, 31, 32, 33, 34, 35, 36, 37, 38, 39, 40, 41, 42, 43, 44, 45, 46, 47, 48, 49, 50, 51, 52, 53, 54, 55, 56, 57, 58, 59, 60, 61, 62, 63, 64, 65, 66, 67, 68, 69, 70, 71, 72, 73, 74, 75, 76, 77, 78, 79, 80, 81, 82, 83, 84, 85, 86, 87, 88, 89, 90, 91, 92, 93, 94, 95, 96, 97, 98, 99, 100, 101, 107, 108, 109, 110, 111, 112, 113, 114, 115, 116, 117, 118, 119, 120, 121, 122, 123, 124] (by decide +kernel) (by decide +kernel)
set_option maxRecDepth 20000 in
theorem gX7_dance_X7_danced : GoodIn wsX7_dance (wsV RX7 243 RX7 yX7_danced wsX7_danced) := goodIn_app (goodIn_of _ (by decide +kernel)) ggX7_dance_X7_danced
set_option maxRecDepth 20000 in
theorem ggX7_dance_X7_finds : GoodIn wsX7_dance wsX7_finds := goodIn_r _ [105, 106, 1, 107, 108, 109, 110, 111, 112, 113, 114, 115, 116, 117, 118, 119, 120, 121, 122, 123, 124] (by decide +kernel) (by decide +kernel)
set_option maxRecDepth 20000 in
theorem gX7_dance_X7_finds : GoodIn wsX7_dance (wsV RX7 45 RX7 yX7_finds wsX7_finds) := goodIn_app (goodIn_of _ (by decide +kernel)) ggX7_dance_X7_finds
theorem dX7_dance_0 : decode cX7_dance 0 = .ok (.iload_n 1, 1) := by decide +kernel
theorem dX7_dance_1 : decode cX7_dance 1 = .ok (.invokestatic 237, 3) := by decide +kernel
theorem dX7_dance_4 : decode cX7_dance 4 = .ok (.ifCond .eq 11, 3) := by decide +kernel
theorem dX7_dance_7 : decode cX7_dance 7 = .ok (.aload_n 0, 1) := by decide +kernel
theorem dX7_dance_8 : decode cX7_dance 8 = .ok (.iload_n 1, 1) := by decide +kernel
theorem dX7_dance_9 : decode cX7_dance 9 = .ok (.invokevirtual 243, 3) := by decide +kernel
theorem dX7_dance_12 : decode cX7_dance 12 = .ok (.goto 9, 3) := by decide +kernel
theorem dX7_dance_15 : decode cX7_dance 15 = .ok (.aload_n 0, 1) := by decide +kernel
theorem dX7_dance_16 : decode cX7_dance 16 = .ok (.ldc 43, 2) := by decide +kernel
theorem dX7_dance_18 : decode cX7_dance 18 = .ok (.invokevirtual 45, 3) := by decide +kernel
theorem dX7_dance_21 : decode cX7_dance 21 = .ok (.ireturn, 1) := by decide +kernel
set_option maxRecDepth 20000 in
theorem ggX7_tune_X7_row : GoodIn wsX7_tune wsX7_row := goodIn_r _ [6] (by decide +kernel) (by decide +kernel)
set_option maxRecDepth 20000 in
theorem gX7_tune_X7_row : GoodIn wsX7_tune (va_wsS RX7 187 yX7_row wsX7_row) := goodIn_app (goodIn_of _ (by decide +kernel)) ggX7_tune_X7_row
set_option maxRecDepth 20000 in
theorem ggX7_tune_X7_danced : GoodIn wsX7_tune wsX7_danced := goodIn_r _ [10, 1, 11, 12, 13, 5, 14, 15, 16, 17, 18, 19, 20, 21, 22, 23, 24, 25, 26, 27, 28, 29, 30, 31, 32, 33, 34, 35, 36, 37, 38, 39, 40, 41, 42, 43, 44, 45, 46, 47, 48, 49, 50, 51, 52, 53, 54, 55, 56, 57, 58, 59, 60, 61, 62, 63, 64, 65, 66, 67, 68, 69, 70, 71, 72, 73, 74, 75, 76, 77, 78, 79, 80, 81, 82, 83, 84, 85, 86, 87, 88, 89, 90, 91, 92, 93, 94, 95, 96, 97, 98, 99, 100, 101, 102, 103, 104, 105, 106, 107, 108, 109, 110, 111, 112, 113, 114] (by decide +kernel) (by decide +kernel)
set_option maxRecDepth 20000 in
theorem gX7_tune_X7_danced : GoodIn wsX7_tune (wsV RX7 243 RX7 yX7_danced wsX7_danced) := goodIn_app (goodIn_of _ (by decide +kernel)) ggX7_tune_X7_danced
theorem dX7_tune_0 : decode cX7_tune 0 = .ok (.iconst 0, 1) := by decide +kernel
theorem dX7_tune_1 : decode cX7_tune 1 = .ok (.istore_n 1, 1) := by decide +kernel
theorem dX7_tune_2 : decode cX7_tune 2 = .ok (.iconst 0, 1) := by decide +kernel
theorem dX7_tune_3 : decode cX7_tune 3 = .ok (.istore_n 2, 1) := by decide +kernel
theorem dX7_tune_4 : decode cX7_tune 4 = .ok (.iconst 2, 1) := by decide +kernel
theorem dX7_tune_5 : decode cX7_tune 5 = .ok (.istore_n 3, 1) := by decide +kernel
theorem dX7_tune_6 : decode cX7_tune 6 = .ok (.iload_n 3, 1) := by decide +kernel
theorem dX7_tune_7 : decode cX7_tune 7 = .ok (.bipush 9, 2) := by decide +kernel
theorem dX7_tune_9 : decode cX7_tune 9 = .ok (.if_icmp .gt 56, 3) := by decide +kernel
theorem dX7_tune_12 : decode cX7_tune 12 = .ok (.aload_n 0, 1) := by decide +kernel
theorem dX7_tune_13 : decode cX7_tune 13 = .ok (.getfield 9, 3) := by decide +kernel
theorem dX7_tune_16 : decode cX7_tune 16 = .ok (.aload_n 0, 1) := by decide +kernel
theorem dX7_tune_17 : decode cX7_tune 17 = .ok (.getfield 16, 3) := by decide +kernel
theorem dX7_tune_20 : decode cX7_tune 20 = .ok (.invokestatic 187, 3) := by decide +kernel
theorem dX7_tune_23 : decode cX7_tune 23 = .ok (.aload_n 0, 1) := by decide +kernel
theorem dX7_tune_24 : decode cX7_tune 24 = .ok (.iload_n 3, 1) := by decide +kernel
theorem dX7_tune_25 : decode cX7_tune 25 = .ok (.invokevirtual 243, 3) := by decide +kernel
theorem dX7_tune_28 : decode cX7_tune 28 = .ok (.istore 4, 2) := by decide +kernel
theorem dX7_tune_30 : decode cX7_tune 30 = .ok (.aload_n 0, 1) := by decide +kernel
theorem dX7_tune_31 : decode cX7_tune 31 = .ok (.getfield 16, 3) := by decide +kernel
theorem dX7_tune_34 : decode cX7_tune 34 = .ok (.aload_n 0, 1) := by decide +kernel
theorem dX7_tune_35 : decode cX7_tune 35 = .ok (.getfield 9, 3) := by decide +kernel
theorem dX7_tune_38 : decode cX7_tune 38 = .ok (.invokestatic 187, 3) := by decide +kernel
theorem dX7_tune_41 : decode cX7_tune 41 = .ok (.iload_n 1, 1) := by decide +kernel
theorem dX7_tune_42 : decode cX7_tune 42 = .ok (.ifCond .le 12, 3) := by decide +kernel
theorem dX7_tune_45 : decode cX7_tune 45 = .ok (.iload 4, 2) := by decide +kernel
theorem dX7_tune_47 : decode cX7_tune 47 = .ok (.iload_n 2, 1) := by decide +kernel
theorem dX7_tune_48 : decode cX7_tune 48 = .ok (.if_icmp .lt 6, 3) := by decide +kernel
theorem dX7_tune_51 : decode cX7_tune 51 = .ok (.goto 8, 3) := by decide +kernel
theorem dX7_tune_54 : decode cX7_tune 54 = .ok (.iload_n 3, 1) := by decide +kernel
theorem dX7_tune_55 : decode cX7_tune 55 = .ok (.istore_n 1, 1) := by decide +kernel
theorem dX7_tune_56 : decode cX7_tune 56 = .ok (.iload 4, 2) := by decide +kernel
theorem dX7_tune_58 : decode cX7_tune 58 = .ok (.istore_n 2, 1) := by decide +kernel
theorem dX7_tune_59 : decode cX7_tune 59 = .ok (.iinc 3 1, 3) := by decide +kernel
theorem dX7_tune_62 : decode cX7_tune 62 = .ok (.goto (-56), 3) := by decide +kernel
theorem dX7_tune_65 : decode cX7_tune 65 = .ok (.iload_n 1, 1) := by decide +kernel
theorem dX7_tune_66 : decode cX7_tune 66 = .ok (.ireturn, 1) := by decide +kernel
theorem dX7_draw_0 : decode cX7_draw 0 = .ok (.aload_n 0, 1) := by decide +kernel
theorem dX7_draw_1 : decode cX7_draw 1 = .ok (.getfield 9, 3) := by decide +kernel
theorem dX7_draw_4 : decode cX7_draw 4 = .ok (.iconst 4, 1) := by decide +kernel
theorem dX7_draw_5 : decode cX7_draw 5 = .ok (.aload_n 0, 1) := by decide +kernel
theorem dX7_draw_6 : decode cX7_draw 6 = .ok (.getfield 9, 3) := by decide +kernel
theorem dX7_draw_9 : decode cX7_draw 9 = .ok (.iconst 4, 1) := by decide +kernel
theorem dX7_draw_10 : decode cX7_draw 10 = .ok (.iaload, 1) := by decide +kernel
theorem dX7_draw_11 : decode cX7_draw 11 = .ok (.ldc 246, 2) := by decide +kernel
theorem dX7_draw_13 : decode cX7_draw 13 = .ok (.imul, 1) := by decide +kernel
theorem dX7_draw_14 : decode cX7_draw 14 = .ok (.sipush 12345, 3) := by decide +kernel
theorem dX7_draw_17 : decode cX7_draw 17 = .ok (.iadd, 1) := by decide +kernel
theorem dX7_draw_18 : decode cX7_draw 18 = .ok (.iastore, 1) := by decide +kernel
theorem dX7_draw_19 : decode cX7_draw 19 = .ok (.aload_n 0, 1) := by decide +kernel
theorem dX7_draw_20 : decode cX7_draw 20 = .ok (.getfield 9, 3) := by decide +kernel
theorem dX7_draw_23 : decode cX7_draw 23 = .ok (.iconst 4, 1) := by decide +kernel
theorem dX7_draw_24 : decode cX7_draw 24 = .ok (.iaload, 1) := by decide +kernel
theorem dX7_draw_25 : decode cX7_draw 25 = .ok (.bipush 8, 2) := by decide +kernel
theorem dX7_draw_27 : decode cX7_draw 27 = .ok (.iushr, 1) := by decide +kernel
theorem dX7_draw_28 : decode cX7_draw 28 = .ok (.ireturn, 1) := by decide +kernel
set_option maxRecDepth 20000 in
theorem ggX7_wind_X7_in : GoodIn wsX7_wind wsX7_in := goodIn_r _ [7] (by decide +kernel) (by decide +kernel)
set_option maxRecDepth 20000 in
theorem gX7_wind_X7_in : GoodIn wsX7_wind (va_wsS RX7 51 yX7_in wsX7_in) := goodIn_app (goodIn_of _ (by decide +kernel)) ggX7_wind_X7_in
set_option maxRecDepth 20000 in
theorem ggX7_wind_X7_finds : GoodIn wsX7_wind wsX7_finds := goodIn_r _ [11, 12, 2, 26, 27, 28, 29, 30, 31, 32, 33, 34, 35, 36, 37, 38, 39, 40, 41, 42, 43] (by decide +kernel) (by decide +kernel)
set_option maxRecDepth 20000 in
theorem gX7_wind_X7_finds : GoodIn wsX7_wind (wsV RX7 45 RX7 yX7_finds wsX7_finds) := goodIn_app (goodIn_of _ (by decide +kernel)) ggX7_wind_X7_finds
set_option maxRecDepth 20000 in
theorem ggX7_wind_X7_draw : GoodIn wsX7_wind wsX7_draw := goodIn_r _ [16, 3, 17, 26, 27, 28, 29, 30, 31, 32, 33, 34, 35, 36, 37, 38, 39, 40, 41, 42, 43] (by decide +kernel) (by decide +kernel)
set_option maxRecDepth 20000 in
theorem gX7_wind_X7_draw : GoodIn wsX7_wind (wsV RX7 247 RX7 yX7_draw wsX7_draw) := goodIn_app (goodIn_of _ (by decide +kernel)) ggX7_wind_X7_draw
set_option maxRecDepth 20000 in
theorem ggX7_wind_X7_light : GoodIn wsX7_wind wsX7_light := goodIn_r _ [21, 3, 22, 23, 24, 6, 25, 26, 27, 28, 29, 30, 31, 32, 33, 34, 35, 36, 37, 38, 39, 40, 41, 42, 43] (by decide +kernel) (by decide +kernel)
set_option maxRecDepth 20000 in
theorem gX7_wind_X7_light : GoodIn wsX7_wind (wsV RX7 206 RX7 yX7_light wsX7_light) := goodIn_app (goodIn_of _ (by decide +kernel)) ggX7_wind_X7_light
theorem dX7_wind_0 : decode cX7_wind 0 = .ok (.iload_n 1, 1) := by decide +kernel
theorem dX7_wind_1 : decode cX7_wind 1 = .ok (.i2l, 1) := by decide +kernel
theorem dX7_wind_2 : decode cX7_wind 2 = .ok (.lconst 1, 1) := by decide +kernel
theorem dX7_wind_3 : decode cX7_wind 3 = .ok (.ldc2_w 151, 3) := by decide +kernel
theorem dX7_wind_6 : decode cX7_wind 6 = .ok (.invokestatic 51, 3) := by decide +kernel
theorem dX7_wind_9 : decode cX7_wind 9 = .ok (.ifCond .ne 10, 3) := by decide +kernel
theorem dX7_wind_12 : decode cX7_wind 12 = .ok (.aload_n 0, 1) := by decide +kernel
theorem dX7_wind_13 : decode cX7_wind 13 = .ok (.ldc 43, 2) := by decide +kernel
theorem dX7_wind_15 : decode cX7_wind 15 = .ok (.invokevirtual 45, 3) := by decide +kernel
theorem dX7_wind_18 : decode cX7_wind 18 = .ok (.ireturn, 1) := by decide +kernel
theorem dX7_wind_19 : decode cX7_wind 19 = .ok (.iconst 0, 1) := by decide +kernel
theorem dX7_wind_20 : decode cX7_wind 20 = .ok (.istore_n 2, 1) := by decide +kernel
theorem dX7_wind_21 : decode cX7_wind 21 = .ok (.iload_n 2, 1) := by decide +kernel
theorem dX7_wind_22 : decode cX7_wind 22 = .ok (.iload_n 1, 1) := by decide +kernel
theorem dX7_wind_23 : decode cX7_wind 23 = .ok (.if_icmp .ge 45, 3) := by decide +kernel
theorem dX7_wind_26 : decode cX7_wind 26 = .ok (.aload_n 0, 1) := by decide +kernel
theorem dX7_wind_27 : decode cX7_wind 27 = .ok (.invokevirtual 247, 3) := by decide +kernel
theorem dX7_wind_30 : decode cX7_wind 30 = .ok (.bipush 6, 2) := by decide +kernel
theorem dX7_wind_32 : decode cX7_wind 32 = .ok (.irem, 1) := by decide +kernel
theorem dX7_wind_33 : decode cX7_wind 33 = .ok (.istore_n 3, 1) := by decide +kernel
theorem dX7_wind_34 : decode cX7_wind 34 = .ok (.aload_n 0, 1) := by decide +kernel
theorem dX7_wind_35 : decode cX7_wind 35 = .ok (.getfield 9, 3) := by decide +kernel
theorem dX7_wind_38 : decode cX7_wind 38 = .ok (.bipush 6, 2) := by decide +kernel
theorem dX7_wind_40 : decode cX7_wind 40 = .ok (.iconst 3, 1) := by decide +kernel
theorem dX7_wind_41 : decode cX7_wind 41 = .ok (.iload_n 3, 1) := by decide +kernel
theorem dX7_wind_42 : decode cX7_wind 42 = .ok (.imul, 1) := by decide +kernel
theorem dX7_wind_43 : decode cX7_wind 43 = .ok (.iadd, 1) := by decide +kernel
theorem dX7_wind_44 : decode cX7_wind 44 = .ok (.iconst 2, 1) := by decide +kernel
theorem dX7_wind_45 : decode cX7_wind 45 = .ok (.iadd, 1) := by decide +kernel
theorem dX7_wind_46 : decode cX7_wind 46 = .ok (.iconst 1, 1) := by decide +kernel
theorem dX7_wind_47 : decode cX7_wind 47 = .ok (.aload_n 0, 1) := by decide +kernel
theorem dX7_wind_48 : decode cX7_wind 48 = .ok (.getfield 9, 3) := by decide +kernel
theorem dX7_wind_51 : decode cX7_wind 51 = .ok (.bipush 6, 2) := by decide +kernel
theorem dX7_wind_53 : decode cX7_wind 53 = .ok (.iconst 3, 1) := by decide +kernel
theorem dX7_wind_54 : decode cX7_wind 54 = .ok (.iload_n 3, 1) := by decide +kernel
theorem dX7_wind_55 : decode cX7_wind 55 = .ok (.imul, 1) := by decide +kernel
theorem dX7_wind_56 : decode cX7_wind 56 = .ok (.iadd, 1) := by decide +kernel
theorem dX7_wind_57 : decode cX7_wind 57 = .ok (.iconst 2, 1) := by decide +kernel
theorem dX7_wind_58 : decode cX7_wind 58 = .ok (.iadd, 1) := by decide +kernel
theorem dX7_wind_59 : decode cX7_wind 59 = .ok (.iaload, 1) := by decide +kernel
theorem dX7_wind_60 : decode cX7_wind 60 = .ok (.isub, 1) := by decide +kernel
theorem dX7_wind_61 : decode cX7_wind 61 = .ok (.iastore, 1) := by decide +kernel
theorem dX7_wind_62 : decode cX7_wind 62 = .ok (.iinc 2 1, 3) := by decide +kernel
theorem dX7_wind_65 : decode cX7_wind 65 = .ok (.goto (-44), 3) := by decide +kernel
theorem dX7_wind_68 : decode cX7_wind 68 = .ok (.aload_n 0, 1) := by decide +kernel
theorem dX7_wind_69 : decode cX7_wind 69 = .ok (.invokevirtual 206, 3) := by decide +kernel
theorem dX7_wind_72 : decode cX7_wind 72 = .ok (.ireturn, 1) := by decide +kernel
set_option maxRecDepth 20000 in
theorem ggX7_seed_X7_becomes : GoodIn wsX7_seed wsX7_becomes := goodIn_r _ [5, 6, 7, 8, 9, 10, 11, 12, 13, 14, 15, 16, 17, 18, 19, 20, 21, 22, 23, 24] (by decide +kernel) (by decide +kernel)
set_option maxRecDepth 20000 in
theorem gX7_seed_X7_becomes : GoodIn wsX7_seed (wsV RX7 127 RX7 yX7_becomes wsX7_becomes) := goodIn_app (goodIn_of _ (by decide +kernel)) ggX7_seed_X7_becomes
theorem dX7_seed_0 : decode cX7_seed 0 = .ok (.aload_n 0, 1) := by decide +kernel
theorem dX7_seed_1 : decode cX7_seed 1 = .ok (.iconst 4, 1) := by decide +kernel
theorem dX7_seed_2 : decode cX7_seed 2 = .ok (.iload_n 1, 1) := by decide +kernel
theorem dX7_seed_3 : decode cX7_seed 3 = .ok (.invokevirtual 127, 3) := by decide +kernel
theorem dX7_seed_6 : decode cX7_seed 6 = .ok (.ireturn, 1) := by decide +kernel
set_option maxRecDepth 20000 in
theorem ggX7_feed_X7_in : GoodIn wsX7_feed wsX7_in := goodIn_r _ [9] (by decide +kernel) (by decide +kernel)
set_option maxRecDepth 20000 in
theorem gX7_feed_X7_in : GoodIn wsX7_feed (va_wsS RX7 51 yX7_in wsX7_in) := goodIn_app (goodIn_of _ (by decide +kernel)) ggX7_feed_X7_in
set_option maxRecDepth 20000 in
theorem ggX7_feed_X7_finds : GoodIn wsX7_feed wsX7_finds := goodIn_r _ [13, 14, 2, 15, 16, 17, 18, 19, 20, 21, 22, 23, 24, 25, 26, 27, 28, 29, 30, 31, 32] (by decide +kernel) (by decide +kernel)
set_option maxRecDepth 20000 in
theorem gX7_feed_X7_finds : GoodIn wsX7_feed (wsV RX7 45 RX7 yX7_finds wsX7_finds) := goodIn_app (goodIn_of _ (by decide +kernel)) ggX7_feed_X7_finds
theorem dX7_feed_0 : decode cX7_feed 0 = .ok (.iload_n 2, 1) := by decide +kernel
theorem dX7_feed_1 : decode cX7_feed 1 = .ok (.i2l, 1) := by decide +kernel
theorem dX7_feed_2 : decode cX7_feed 2 = .ok (.lconst 1, 1) := by decide +kernel
theorem dX7_feed_3 : decode cX7_feed 3 = .ok (.ldc2_w 185, 3) := by decide +kernel
theorem dX7_feed_6 : decode cX7_feed 6 = .ok (.invokestatic 51, 3) := by decide +kernel
theorem dX7_feed_9 : decode cX7_feed 9 = .ok (.ifCond .ne 10, 3) := by decide +kernel
theorem dX7_feed_12 : decode cX7_feed 12 = .ok (.aload_n 0, 1) := by decide +kernel
theorem dX7_feed_13 : decode cX7_feed 13 = .ok (.ldc 43, 2) := by decide +kernel
theorem dX7_feed_15 : decode cX7_feed 15 = .ok (.invokevirtual 45, 3) := by decide +kernel
theorem dX7_feed_18 : decode cX7_feed 18 = .ok (.ireturn, 1) := by decide +kernel
theorem dX7_feed_19 : decode cX7_feed 19 = .ok (.aload_n 0, 1) := by decide +kernel
theorem dX7_feed_20 : decode cX7_feed 20 = .ok (.getfield 250, 3) := by decide +kernel
theorem dX7_feed_23 : decode cX7_feed 23 = .ok (.iload_n 2, 1) := by decide +kernel
theorem dX7_feed_24 : decode cX7_feed 24 = .ok (.iadd, 1) := by decide +kernel
theorem dX7_feed_25 : decode cX7_feed 25 = .ok (.bipush 120, 2) := by decide +kernel
theorem dX7_feed_27 : decode cX7_feed 27 = .ok (.if_icmp .le 10, 3) := by decide +kernel
theorem dX7_feed_30 : decode cX7_feed 30 = .ok (.aload_n 0, 1) := by decide +kernel
theorem dX7_feed_31 : decode cX7_feed 31 = .ok (.ldc 74, 2) := by decide +kernel
theorem dX7_feed_33 : decode cX7_feed 33 = .ok (.invokevirtual 45, 3) := by decide +kernel
theorem dX7_feed_36 : decode cX7_feed 36 = .ok (.ireturn, 1) := by decide +kernel
theorem dX7_feed_37 : decode cX7_feed 37 = .ok (.iload_n 2, 1) := by decide +kernel
theorem dX7_feed_38 : decode cX7_feed 38 = .ok (.iconst 1, 1) := by decide +kernel
theorem dX7_feed_39 : decode cX7_feed 39 = .ok (.isub, 1) := by decide +kernel
theorem dX7_feed_40 : decode cX7_feed 40 = .ok (.istore_n 3, 1) := by decide +kernel
theorem dX7_feed_41 : decode cX7_feed 41 = .ok (.iload_n 3, 1) := by decide +kernel
theorem dX7_feed_42 : decode cX7_feed 42 = .ok (.ifCond .lt 38, 3) := by decide +kernel
theorem dX7_feed_45 : decode cX7_feed 45 = .ok (.aload_n 0, 1) := by decide +kernel
theorem dX7_feed_46 : decode cX7_feed 46 = .ok (.getfield 31, 3) := by decide +kernel
theorem dX7_feed_49 : decode cX7_feed 49 = .ok (.aload_n 0, 1) := by decide +kernel
theorem dX7_feed_50 : decode cX7_feed 50 = .ok (.getfield 250, 3) := by decide +kernel
theorem dX7_feed_53 : decode cX7_feed 53 = .ok (.iload_n 1, 1) := by decide +kernel
theorem dX7_feed_54 : decode cX7_feed 54 = .ok (.bipush 8, 2) := by decide +kernel
theorem dX7_feed_56 : decode cX7_feed 56 = .ok (.iload_n 3, 1) := by decide +kernel
theorem dX7_feed_57 : decode cX7_feed 57 = .ok (.imul, 1) := by decide +kernel
theorem dX7_feed_58 : decode cX7_feed 58 = .ok (.ishr, 1) := by decide +kernel
theorem dX7_feed_59 : decode cX7_feed 59 = .ok (.sipush 255, 3) := by decide +kernel
theorem dX7_feed_62 : decode cX7_feed 62 = .ok (.iand, 1) := by decide +kernel
theorem dX7_feed_63 : decode cX7_feed 63 = .ok (.iastore, 1) := by decide +kernel
theorem dX7_feed_64 : decode cX7_feed 64 = .ok (.aload_n 0, 1) := by decide +kernel
theorem dX7_feed_65 : decode cX7_feed 65 = .ok (.dup, 1) := by decide +kernel
theorem dX7_feed_66 : decode cX7_feed 66 = .ok (.getfield 250, 3) := by decide +kernel
theorem dX7_feed_69 : decode cX7_feed 69 = .ok (.iconst 1, 1) := by decide +kernel
theorem dX7_feed_70 : decode cX7_feed 70 = .ok (.iadd, 1) := by decide +kernel
theorem dX7_feed_71 : decode cX7_feed 71 = .ok (.putfield 250, 3) := by decide +kernel
theorem dX7_feed_74 : decode cX7_feed 74 = .ok (.iinc 3 (-1), 3) := by decide +kernel
theorem dX7_feed_77 : decode cX7_feed 77 = .ok (.goto (-36), 3) := by decide +kernel
theorem dX7_feed_80 : decode cX7_feed 80 = .ok (.aload_n 0, 1) := by decide +kernel
theorem dX7_feed_81 : decode cX7_feed 81 = .ok (.getfield 250, 3) := by decide +kernel
theorem dX7_feed_84 : decode cX7_feed 84 = .ok (.ireturn, 1) := by decide +kernel
theorem dX7_wipe_0 : decode cX7_wipe 0 = .ok (.aload_n 0, 1) := by decide +kernel
theorem dX7_wipe_1 : decode cX7_wipe 1 = .ok (.getfield 250, 3) := by decide +kernel
theorem dX7_wipe_4 : decode cX7_wipe 4 = .ok (.istore_n 1, 1) := by decide +kernel
theorem dX7_wipe_5 : decode cX7_wipe 5 = .ok (.aload_n 0, 1) := by decide +kernel
theorem dX7_wipe_6 : decode cX7_wipe 6 = .ok (.iconst 0, 1) := by decide +kernel
theorem dX7_wipe_7 : decode cX7_wipe 7 = .ok (.putfield 250, 3) := by decide +kernel
theorem dX7_wipe_10 : decode cX7_wipe 10 = .ok (.iload_n 1, 1) := by decide +kernel
theorem dX7_wipe_11 : decode cX7_wipe 11 = .ok (.ireturn, 1) := by decide +kernel
set_option maxRecDepth 20000 in
theorem ggX7_isByte_X7_in : GoodIn wsX7_isByte wsX7_in := goodIn_r _ [6] (by decide +kernel) (by decide +kernel)
set_option maxRecDepth 20000 in
theorem gX7_isByte_X7_in : GoodIn wsX7_isByte (va_wsS RX7 51 yX7_in wsX7_in) := goodIn_app (goodIn_of _ (by decide +kernel)) ggX7_isByte_X7_in
theorem dX7_isByte_0 : decode cX7_isByte 0 = .ok (.iload_n 1, 1) := by decide +kernel
theorem dX7_isByte_1 : decode cX7_isByte 1 = .ok (.aload_n 0, 1) := by decide +kernel
theorem dX7_isByte_2 : decode cX7_isByte 2 = .ok (.getfield 250, 3) := by decide +kernel
theorem dX7_isByte_5 : decode cX7_isByte 5 = .ok (.if_icmp .ge 24, 3) := by decide +kernel
theorem dX7_isByte_8 : decode cX7_isByte 8 = .ok (.aload_n 0, 1) := by decide +kernel
theorem dX7_isByte_9 : decode cX7_isByte 9 = .ok (.getfield 31, 3) := by decide +kernel
theorem dX7_isByte_12 : decode cX7_isByte 12 = .ok (.iload_n 1, 1) := by decide +kernel
theorem dX7_isByte_13 : decode cX7_isByte 13 = .ok (.iaload, 1) := by decide +kernel
theorem dX7_isByte_14 : decode cX7_isByte 14 = .ok (.i2l, 1) := by decide +kernel
theorem dX7_isByte_15 : decode cX7_isByte 15 = .ok (.iload_n 2, 1) := by decide +kernel
theorem dX7_isByte_16 : decode cX7_isByte 16 = .ok (.i2l, 1) := by decide +kernel
theorem dX7_isByte_17 : decode cX7_isByte 17 = .ok (.iload_n 3, 1) := by decide +kernel
theorem dX7_isByte_18 : decode cX7_isByte 18 = .ok (.i2l, 1) := by decide +kernel
theorem dX7_isByte_19 : decode cX7_isByte 19 = .ok (.invokestatic 51, 3) := by decide +kernel
theorem dX7_isByte_22 : decode cX7_isByte 22 = .ok (.ifCond .eq 7, 3) := by decide +kernel
theorem dX7_isByte_25 : decode cX7_isByte 25 = .ok (.iconst 1, 1) := by decide +kernel
theorem dX7_isByte_26 : decode cX7_isByte 26 = .ok (.goto 4, 3) := by decide +kernel
theorem dX7_isByte_29 : decode cX7_isByte 29 = .ok (.iconst 0, 1) := by decide +kernel
theorem dX7_isByte_30 : decode cX7_isByte 30 = .ok (.ireturn, 1) := by decide +kernel
set_option maxRecDepth 20000 in
theorem ggX7_token_X7_isByte : GoodIn wsX7_token wsX7_isByte := goodIn_r _ [11, 4, 6, 12, 13, 10, 14, 15, 16, 17, 18, 19, 20, 21, 22, 23, 24, 25, 26, 27, 28, 29, 30, 31, 32] (by decide +kernel) (by decide +kernel)
set_option maxRecDepth 20000 in
theorem gX7_token_X7_isByte : GoodIn wsX7_token (wsV RX7 260 RX7 yX7_isByte wsX7_isByte) := goodIn_app (goodIn_of _ (by decide +kernel)) ggX7_token_X7_isByte
theorem dX7_token_0 : decode cX7_token 0 = .ok (.aload_n 0, 1) := by decide +kernel
theorem dX7_token_1 : decode cX7_token 1 = .ok (.aload_n 0, 1) := by decide +kernel
theorem dX7_token_2 : decode cX7_token 2 = .ok (.getfield 254, 3) := by decide +kernel
theorem dX7_token_5 : decode cX7_token 5 = .ok (.putfield 257, 3) := by decide +kernel
theorem dX7_token_8 : decode cX7_token 8 = .ok (.aload_n 0, 1) := by decide +kernel
theorem dX7_token_9 : decode cX7_token 9 = .ok (.aload_n 0, 1) := by decide +kernel
theorem dX7_token_10 : decode cX7_token 10 = .ok (.getfield 257, 3) := by decide +kernel
theorem dX7_token_13 : decode cX7_token 13 = .ok (.bipush 32, 2) := by decide +kernel
theorem dX7_token_15 : decode cX7_token 15 = .ok (.bipush 32, 2) := by decide +kernel
theorem dX7_token_17 : decode cX7_token 17 = .ok (.invokevirtual 260, 3) := by decide +kernel
theorem dX7_token_20 : decode cX7_token 20 = .ok (.ifCond .eq 16, 3) := by decide +kernel
theorem dX7_token_23 : decode cX7_token 23 = .ok (.aload_n 0, 1) := by decide +kernel
theorem dX7_token_24 : decode cX7_token 24 = .ok (.dup, 1) := by decide +kernel
theorem dX7_token_25 : decode cX7_token 25 = .ok (.getfield 257, 3) := by decide +kernel
theorem dX7_token_28 : decode cX7_token 28 = .ok (.iconst 1, 1) := by decide +kernel
theorem dX7_token_29 : decode cX7_token 29 = .ok (.iadd, 1) := by decide +kernel
theorem dX7_token_30 : decode cX7_token 30 = .ok (.putfield 257, 3) := by decide +kernel
theorem dX7_token_33 : decode cX7_token 33 = .ok (.goto (-25), 3) := by decide +kernel
theorem dX7_token_36 : decode cX7_token 36 = .ok (.aload_n 0, 1) := by decide +kernel
theorem dX7_token_37 : decode cX7_token 37 = .ok (.aload_n 0, 1) := by decide +kernel
theorem dX7_token_38 : decode cX7_token 38 = .ok (.getfield 257, 3) := by decide +kernel
theorem dX7_token_41 : decode cX7_token 41 = .ok (.putfield 254, 3) := by decide +kernel
theorem dX7_token_44 : decode cX7_token 44 = .ok (.aload_n 0, 1) := by decide +kernel
theorem dX7_token_45 : decode cX7_token 45 = .ok (.iconst 0, 1) := by decide +kernel
theorem dX7_token_46 : decode cX7_token 46 = .ok (.putfield 264, 3) := by decide +kernel
theorem dX7_token_49 : decode cX7_token 49 = .ok (.aload_n 0, 1) := by decide +kernel
theorem dX7_token_50 : decode cX7_token 50 = .ok (.aload_n 0, 1) := by decide +kernel
theorem dX7_token_51 : decode cX7_token 51 = .ok (.getfield 257, 3) := by decide +kernel
theorem dX7_token_54 : decode cX7_token 54 = .ok (.aload_n 0, 1) := by decide +kernel
theorem dX7_token_55 : decode cX7_token 55 = .ok (.getfield 250, 3) := by decide +kernel
theorem dX7_token_58 : decode cX7_token 58 = .ok (.if_icmp .ne 7, 3) := by decide +kernel
theorem dX7_token_61 : decode cX7_token 61 = .ok (.iconst 0, 1) := by decide +kernel
theorem dX7_token_62 : decode cX7_token 62 = .ok (.goto 42, 3) := by decide +kernel
theorem dX7_token_65 : decode cX7_token 65 = .ok (.aload_n 0, 1) := by decide +kernel
theorem dX7_token_66 : decode cX7_token 66 = .ok (.aload_n 0, 1) := by decide +kernel
theorem dX7_token_67 : decode cX7_token 67 = .ok (.getfield 257, 3) := by decide +kernel
theorem dX7_token_70 : decode cX7_token 70 = .ok (.bipush 97, 2) := by decide +kernel
theorem dX7_token_72 : decode cX7_token 72 = .ok (.bipush 122, 2) := by decide +kernel
theorem dX7_token_74 : decode cX7_token 74 = .ok (.invokevirtual 260, 3) := by decide +kernel
theorem dX7_token_77 : decode cX7_token 77 = .ok (.ifCond .eq 7, 3) := by decide +kernel
theorem dX7_token_80 : decode cX7_token 80 = .ok (.iconst 1, 1) := by decide +kernel
theorem dX7_token_81 : decode cX7_token 81 = .ok (.goto 23, 3) := by decide +kernel
theorem dX7_token_84 : decode cX7_token 84 = .ok (.aload_n 0, 1) := by decide +kernel
theorem dX7_token_85 : decode cX7_token 85 = .ok (.aload_n 0, 1) := by decide +kernel
theorem dX7_token_86 : decode cX7_token 86 = .ok (.getfield 257, 3) := by decide +kernel
theorem dX7_token_89 : decode cX7_token 89 = .ok (.bipush 48, 2) := by decide +kernel
theorem dX7_token_91 : decode cX7_token 91 = .ok (.bipush 57, 2) := by decide +kernel
theorem dX7_token_93 : decode cX7_token 93 = .ok (.invokevirtual 260, 3) := by decide +kernel
theorem dX7_token_96 : decode cX7_token 96 = .ok (.ifCond .eq 7, 3) := by decide +kernel
theorem dX7_token_99 : decode cX7_token 99 = .ok (.iconst 2, 1) := by decide +kernel
theorem dX7_token_100 : decode cX7_token 100 = .ok (.goto 4, 3) := by decide +kernel
theorem dX7_token_103 : decode cX7_token 103 = .ok (.iconst 3, 1) := by decide +kernel
theorem dX7_token_104 : decode cX7_token 104 = .ok (.putfield 267, 3) := by decide +kernel
theorem dX7_token_107 : decode cX7_token 107 = .ok (.aload_n 0, 1) := by decide +kernel
theorem dX7_token_108 : decode cX7_token 108 = .ok (.getfield 267, 3) := by decide +kernel
theorem dX7_token_111 : decode cX7_token 111 = .ok (.iconst 3, 1) := by decide +kernel
theorem dX7_token_112 : decode cX7_token 112 = .ok (.if_icmp .ne 13, 3) := by decide +kernel
theorem dX7_token_115 : decode cX7_token 115 = .ok (.aload_n 0, 1) := by decide +kernel
theorem dX7_token_116 : decode cX7_token 116 = .ok (.dup, 1) := by decide +kernel
theorem dX7_token_117 : decode cX7_token 117 = .ok (.getfield 254, 3) := by decide +kernel
theorem dX7_token_120 : decode cX7_token 120 = .ok (.iconst 1, 1) := by decide +kernel
theorem dX7_token_121 : decode cX7_token 121 = .ok (.iadd, 1) := by decide +kernel
theorem dX7_token_122 : decode cX7_token 122 = .ok (.putfield 254, 3) := by decide +kernel
theorem dX7_token_125 : decode cX7_token 125 = .ok (.aload_n 0, 1) := by decide +kernel
theorem dX7_token_126 : decode cX7_token 126 = .ok (.getfield 267, 3) := by decide +kernel
theorem dX7_token_129 : decode cX7_token 129 = .ok (.iconst 1, 1) := by decide +kernel
theorem dX7_token_130 : decode cX7_token 130 = .ok (.if_icmp .ne 31, 3) := by decide +kernel
theorem dX7_token_133 : decode cX7_token 133 = .ok (.aload_n 0, 1) := by decide +kernel
theorem dX7_token_134 : decode cX7_token 134 = .ok (.aload_n 0, 1) := by decide +kernel
theorem dX7_token_135 : decode cX7_token 135 = .ok (.getfield 254, 3) := by decide +kernel
theorem dX7_token_138 : decode cX7_token 138 = .ok (.bipush 97, 2) := by decide +kernel
theorem dX7_token_140 : decode cX7_token 140 = .ok (.bipush 122, 2) := by decide +kernel
theorem dX7_token_142 : decode cX7_token 142 = .ok (.invokevirtual 260, 3) := by decide +kernel
theorem dX7_token_145 : decode cX7_token 145 = .ok (.ifCond .eq 16, 3) := by decide +kernel
theorem dX7_token_148 : decode cX7_token 148 = .ok (.aload_n 0, 1) := by decide +kernel
theorem dX7_token_149 : decode cX7_token 149 = .ok (.dup, 1) := by decide +kernel
theorem dX7_token_150 : decode cX7_token 150 = .ok (.getfield 254, 3) := by decide +kernel
theorem dX7_token_153 : decode cX7_token 153 = .ok (.iconst 1, 1) := by decide +kernel
theorem dX7_token_154 : decode cX7_token 154 = .ok (.iadd, 1) := by decide +kernel
theorem dX7_token_155 : decode cX7_token 155 = .ok (.putfield 254, 3) := by decide +kernel
theorem dX7_token_158 : decode cX7_token 158 = .ok (.goto (-33), 3) := by decide +kernel
theorem dX7_token_161 : decode cX7_token 161 = .ok (.aload_n 0, 1) := by decide +kernel
theorem dX7_token_162 : decode cX7_token 162 = .ok (.getfield 267, 3) := by decide +kernel
theorem dX7_token_165 : decode cX7_token 165 = .ok (.iconst 2, 1) := by decide +kernel
theorem dX7_token_166 : decode cX7_token 166 = .ok (.if_icmp .ne 72, 3) := by decide +kernel
theorem dX7_token_169 : decode cX7_token 169 = .ok (.aload_n 0, 1) := by decide +kernel
theorem dX7_token_170 : decode cX7_token 170 = .ok (.aload_n 0, 1) := by decide +kernel
theorem dX7_token_171 : decode cX7_token 171 = .ok (.getfield 254, 3) := by decide +kernel
theorem dX7_token_174 : decode cX7_token 174 = .ok (.bipush 48, 2) := by decide +kernel
theorem dX7_token_176 : decode cX7_token 176 = .ok (.bipush 57, 2) := by decide +kernel
theorem dX7_token_178 : decode cX7_token 178 = .ok (.invokevirtual 260, 3) := by decide +kernel
theorem dX7_token_181 : decode cX7_token 181 = .ok (.ifCond .eq 57, 3) := by decide +kernel
theorem dX7_token_184 : decode cX7_token 184 = .ok (.aload_n 0, 1) := by decide +kernel
theorem dX7_token_185 : decode cX7_token 185 = .ok (.aload_n 0, 1) := by decide +kernel
theorem dX7_token_186 : decode cX7_token 186 = .ok (.getfield 264, 3) := by decide +kernel
theorem dX7_token_189 : decode cX7_token 189 = .ok (.sipush 999, 3) := by decide +kernel
theorem dX7_token_192 : decode cX7_token 192 = .ok (.if_icmp .le 10, 3) := by decide +kernel
theorem dX7_token_195 : decode cX7_token 195 = .ok (.aload_n 0, 1) := by decide +kernel
theorem dX7_token_196 : decode cX7_token 196 = .ok (.getfield 264, 3) := by decide +kernel
theorem dX7_token_199 : decode cX7_token 199 = .ok (.goto 23, 3) := by decide +kernel
theorem dX7_token_202 : decode cX7_token 202 = .ok (.bipush 10, 2) := by decide +kernel
theorem dX7_token_204 : decode cX7_token 204 = .ok (.aload_n 0, 1) := by decide +kernel
theorem dX7_token_205 : decode cX7_token 205 = .ok (.getfield 264, 3) := by decide +kernel
theorem dX7_token_208 : decode cX7_token 208 = .ok (.imul, 1) := by decide +kernel
theorem dX7_token_209 : decode cX7_token 209 = .ok (.aload_n 0, 1) := by decide +kernel
theorem dX7_token_210 : decode cX7_token 210 = .ok (.getfield 31, 3) := by decide +kernel
theorem dX7_token_213 : decode cX7_token 213 = .ok (.aload_n 0, 1) := by decide +kernel
theorem dX7_token_214 : decode cX7_token 214 = .ok (.getfield 254, 3) := by decide +kernel
theorem dX7_token_217 : decode cX7_token 217 = .ok (.iaload, 1) := by decide +kernel
theorem dX7_token_218 : decode cX7_token 218 = .ok (.iadd, 1) := by decide +kernel
theorem dX7_token_219 : decode cX7_token 219 = .ok (.bipush 48, 2) := by decide +kernel
theorem dX7_token_221 : decode cX7_token 221 = .ok (.isub, 1) := by decide +kernel
theorem dX7_token_222 : decode cX7_token 222 = .ok (.putfield 264, 3) := by decide +kernel
theorem dX7_token_225 : decode cX7_token 225 = .ok (.aload_n 0, 1) := by decide +kernel
theorem dX7_token_226 : decode cX7_token 226 = .ok (.dup, 1) := by decide +kernel
theorem dX7_token_227 : decode cX7_token 227 = .ok (.getfield 254, 3) := by decide +kernel
theorem dX7_token_230 : decode cX7_token 230 = .ok (.iconst 1, 1) := by decide +kernel
theorem dX7_token_231 : decode cX7_token 231 = .ok (.iadd, 1) := by decide +kernel
theorem dX7_token_232 : decode cX7_token 232 = .ok (.putfield 254, 3) := by decide +kernel
theorem dX7_token_235 : decode cX7_token 235 = .ok (.goto (-74), 3) := by decide +kernel
theorem dX7_token_238 : decode cX7_token 238 = .ok (.return_, 1) := by decide +kernel
set_option maxRecDepth 20000 in
theorem ggX7_isWord_J0_length_8abf5 : GoodIn wsX7_isWord wsJ0_length_8abf5 := goodIn_r _ [10, 11, 12, 13, 14, 9, 15, 16, 17] (by decide +kernel) (by decide +kernel)
set_option maxRecDepth 20000 in
theorem gX7_isWord_J0_length_8abf5 : GoodIn wsX7_isWord (wsV RX7 274 RJ0 yJ0_length_8abf5 wsJ0_length_8abf5) := goodIn_app (goodIn_of _ (by decide +kernel)) ggX7_isWord_J0_length_8abf5
set_option maxRecDepth 20000 in
theorem ggX7_isWord_J0_charAt_5068e : GoodIn wsX7_isWord wsJ0_charAt_5068e := goodIn_r _ [21, 11, 22, 23, 24, 9, 25, 16, 17, 26, 27, 28, 29, 30, 31, 32, 33, 34, 35, 36, 37, 38, 39, 40, 41, 42, 43, 44, 45, 46, 47, 48, 49, 50, 51, 52, 53, 54] (by decide +kernel) (by decide +kernel)
set_option maxRecDepth 20000 in
theorem gX7_isWord_J0_charAt_5068e : GoodIn wsX7_isWord (wsV RX7 279 RJ0 yJ0_charAt_5068e wsJ0_charAt_5068e) := goodIn_app (goodIn_of _ (by decide +kernel)) ggX7_isWord_J0_charAt_5068e
theorem dX7_isWord_0 : decode cX7_isWord 0 = .ok (.aload_n 0, 1) := by decide +kernel
theorem dX7_isWord_1 : decode cX7_isWord 1 = .ok (.getfield 270, 3) := by decide +kernel
theorem dX7_isWord_4 : decode cX7_isWord 4 = .ok (.ifCond .ne 31, 3) := by decide +kernel
theorem dX7_isWord_7 : decode cX7_isWord 7 = .ok (.aload_n 0, 1) := by decide +kernel
theorem dX7_isWord_8 : decode cX7_isWord 8 = .ok (.getfield 267, 3) := by decide +kernel
theorem dX7_isWord_11 : decode cX7_isWord 11 = .ok (.iconst 1, 1) := by decide +kernel
theorem dX7_isWord_12 : decode cX7_isWord 12 = .ok (.if_icmp .ne 23, 3) := by decide +kernel
theorem dX7_isWord_15 : decode cX7_isWord 15 = .ok (.aload_n 0, 1) := by decide +kernel
theorem dX7_isWord_16 : decode cX7_isWord 16 = .ok (.getfield 254, 3) := by decide +kernel
theorem dX7_isWord_19 : decode cX7_isWord 19 = .ok (.aload_n 0, 1) := by decide +kernel
theorem dX7_isWord_20 : decode cX7_isWord 20 = .ok (.getfield 257, 3) := by decide +kernel
theorem dX7_isWord_23 : decode cX7_isWord 23 = .ok (.isub, 1) := by decide +kernel
theorem dX7_isWord_24 : decode cX7_isWord 24 = .ok (.aload_n 1, 1) := by decide +kernel
theorem dX7_isWord_25 : decode cX7_isWord 25 = .ok (.invokevirtual 274, 3) := by decide +kernel
theorem dX7_isWord_28 : decode cX7_isWord 28 = .ok (.if_icmp .ne 7, 3) := by decide +kernel
theorem dX7_isWord_31 : decode cX7_isWord 31 = .ok (.iconst 1, 1) := by decide +kernel
theorem dX7_isWord_32 : decode cX7_isWord 32 = .ok (.goto 4, 3) := by decide +kernel
theorem dX7_isWord_35 : decode cX7_isWord 35 = .ok (.iconst 0, 1) := by decide +kernel
theorem dX7_isWord_36 : decode cX7_isWord 36 = .ok (.istore_n 2, 1) := by decide +kernel
theorem dX7_isWord_37 : decode cX7_isWord 37 = .ok (.iconst 0, 1) := by decide +kernel
theorem dX7_isWord_38 : decode cX7_isWord 38 = .ok (.istore_n 3, 1) := by decide +kernel
theorem dX7_isWord_39 : decode cX7_isWord 39 = .ok (.iload_n 2, 1) := by decide +kernel
theorem dX7_isWord_40 : decode cX7_isWord 40 = .ok (.ifCond .eq 42, 3) := by decide +kernel
theorem dX7_isWord_43 : decode cX7_isWord 43 = .ok (.iload_n 3, 1) := by decide +kernel
theorem dX7_isWord_44 : decode cX7_isWord 44 = .ok (.aload_n 1, 1) := by decide +kernel
theorem dX7_isWord_45 : decode cX7_isWord 45 = .ok (.invokevirtual 274, 3) := by decide +kernel
theorem dX7_isWord_48 : decode cX7_isWord 48 = .ok (.if_icmp .ge 34, 3) := by decide +kernel
theorem dX7_isWord_51 : decode cX7_isWord 51 = .ok (.aload_n 0, 1) := by decide +kernel
theorem dX7_isWord_52 : decode cX7_isWord 52 = .ok (.getfield 31, 3) := by decide +kernel
theorem dX7_isWord_55 : decode cX7_isWord 55 = .ok (.aload_n 0, 1) := by decide +kernel
theorem dX7_isWord_56 : decode cX7_isWord 56 = .ok (.getfield 257, 3) := by decide +kernel
theorem dX7_isWord_59 : decode cX7_isWord 59 = .ok (.iload_n 3, 1) := by decide +kernel
theorem dX7_isWord_60 : decode cX7_isWord 60 = .ok (.iadd, 1) := by decide +kernel
theorem dX7_isWord_61 : decode cX7_isWord 61 = .ok (.iaload, 1) := by decide +kernel
theorem dX7_isWord_62 : decode cX7_isWord 62 = .ok (.aload_n 1, 1) := by decide +kernel
theorem dX7_isWord_63 : decode cX7_isWord 63 = .ok (.iload_n 3, 1) := by decide +kernel
theorem dX7_isWord_64 : decode cX7_isWord 64 = .ok (.invokevirtual 279, 3) := by decide +kernel
theorem dX7_isWord_67 : decode cX7_isWord 67 = .ok (.if_icmp .ne 7, 3) := by decide +kernel
theorem dX7_isWord_70 : decode cX7_isWord 70 = .ok (.iconst 1, 1) := by decide +kernel
theorem dX7_isWord_71 : decode cX7_isWord 71 = .ok (.goto 4, 3) := by decide +kernel
theorem dX7_isWord_74 : decode cX7_isWord 74 = .ok (.iconst 0, 1) := by decide +kernel
theorem dX7_isWord_75 : decode cX7_isWord 75 = .ok (.istore_n 2, 1) := by decide +kernel
theorem dX7_isWord_76 : decode cX7_isWord 76 = .ok (.iinc 3 1, 3) := by decide +kernel
theorem dX7_isWord_79 : decode cX7_isWord 79 = .ok (.goto (-40), 3) := by decide +kernel
theorem dX7_isWord_82 : decode cX7_isWord 82 = .ok (.iload_n 2, 1) := by decide +kernel
theorem dX7_isWord_83 : decode cX7_isWord 83 = .ok (.ireturn, 1) := by decide +kernel
set_option maxRecDepth 20000 in
theorem ggX7_takes_X7_isWord : GoodIn wsX7_takes wsX7_isWord := goodIn_r _ [5, 6, 7, 8, 9, 10, 11, 12, 13, 14, 15, 16, 17, 18, 19, 20, 21, 22, 23, 24, 25, 26, 27, 28, 29, 30, 31, 32, 33, 34, 35, 36, 37, 38, 39, 40, 41, 42, 43, 44, 45, 46, 47, 48, 49, 50, 51, 52, 53, 54, 55, 56, 57, 58, 59, 73, 74, 75, 76, 77, 78, 79, 80, 81, 82, 83, 84, 85, 86, 87, 88, 89, 90] (by decide +kernel) (by decide +kernel)
set_option maxRecDepth 20000 in
theorem gX7_takes_X7_isWord : GoodIn wsX7_takes (wsV RX7 283 RX7 yX7_isWord wsX7_isWord) := goodIn_app (goodIn_of _ (by decide +kernel)) ggX7_takes_X7_isWord
set_option maxRecDepth 20000 in
theorem ggX7_takes_X7_token : GoodIn wsX7_takes wsX7_token := goodIn_r _ [63, 8, 9, 64, 65, 7, 10, 66, 67, 68, 4, 69, 70, 71, 72, 73, 74, 75, 76, 77, 78, 79, 80, 81, 82, 83, 84, 85, 86, 87, 88, 89, 90] (by decide +kernel) (by decide +kernel)
set_option maxRecDepth 20000 in
theorem gX7_takes_X7_token : GoodIn wsX7_takes (wsV RX7 287 RX7 yX7_token wsX7_token) := goodIn_app (goodIn_of _ (by decide +kernel)) ggX7_takes_X7_token
theorem dX7_takes_0 : decode cX7_takes 0 = .ok (.aload_n 0, 1) := by decide +kernel
theorem dX7_takes_1 : decode cX7_takes 1 = .ok (.aload_n 1, 1) := by decide +kernel
theorem dX7_takes_2 : decode cX7_takes 2 = .ok (.invokevirtual 283, 3) := by decide +kernel
theorem dX7_takes_5 : decode cX7_takes 5 = .ok (.ifCond .ne 5, 3) := by decide +kernel
theorem dX7_takes_8 : decode cX7_takes 8 = .ok (.iconst 0, 1) := by decide +kernel
theorem dX7_takes_9 : decode cX7_takes 9 = .ok (.ireturn, 1) := by decide +kernel
theorem dX7_takes_10 : decode cX7_takes 10 = .ok (.aload_n 0, 1) := by decide +kernel
theorem dX7_takes_11 : decode cX7_takes 11 = .ok (.invokevirtual 287, 3) := by decide +kernel
theorem dX7_takes_14 : decode cX7_takes 14 = .ok (.iconst 1, 1) := by decide +kernel
theorem dX7_takes_15 : decode cX7_takes 15 = .ok (.ireturn, 1) := by decide +kernel
theorem dX7_isSign_0 : decode cX7_isSign 0 = .ok (.aload_n 0, 1) := by decide +kernel
theorem dX7_isSign_1 : decode cX7_isSign 1 = .ok (.getfield 270, 3) := by decide +kernel
theorem dX7_isSign_4 : decode cX7_isSign 4 = .ok (.ifCond .ne 28, 3) := by decide +kernel
theorem dX7_isSign_7 : decode cX7_isSign 7 = .ok (.aload_n 0, 1) := by decide +kernel
theorem dX7_isSign_8 : decode cX7_isSign 8 = .ok (.getfield 267, 3) := by decide +kernel
theorem dX7_isSign_11 : decode cX7_isSign 11 = .ok (.iconst 3, 1) := by decide +kernel
theorem dX7_isSign_12 : decode cX7_isSign 12 = .ok (.if_icmp .ne 20, 3) := by decide +kernel
theorem dX7_isSign_15 : decode cX7_isSign 15 = .ok (.aload_n 0, 1) := by decide +kernel
theorem dX7_isSign_16 : decode cX7_isSign 16 = .ok (.getfield 31, 3) := by decide +kernel
theorem dX7_isSign_19 : decode cX7_isSign 19 = .ok (.aload_n 0, 1) := by decide +kernel
theorem dX7_isSign_20 : decode cX7_isSign 20 = .ok (.getfield 257, 3) := by decide +kernel
theorem dX7_isSign_23 : decode cX7_isSign 23 = .ok (.iaload, 1) := by decide +kernel
theorem dX7_isSign_24 : decode cX7_isSign 24 = .ok (.iload_n 1, 1) := by decide +kernel
theorem dX7_isSign_25 : decode cX7_isSign 25 = .ok (.if_icmp .ne 7, 3) := by decide +kernel
theorem dX7_isSign_28 : decode cX7_isSign 28 = .ok (.iconst 1, 1) := by decide +kernel
theorem dX7_isSign_29 : decode cX7_isSign 29 = .ok (.goto 4, 3) := by decide +kernel
theorem dX7_isSign_32 : decode cX7_isSign 32 = .ok (.iconst 0, 1) := by decide +kernel
theorem dX7_isSign_33 : decode cX7_isSign 33 = .ok (.ireturn, 1) := by decide +kernel
set_option maxRecDepth 20000 in
theorem ggX7_number_X7_in : GoodIn wsX7_number wsX7_in := goodIn_r _ [7] (by decide +kernel) (by decide +kernel)
set_option maxRecDepth 20000 in
theorem gX7_number_X7_in : GoodIn wsX7_number (va_wsS RX7 51 yX7_in wsX7_in) := goodIn_app (goodIn_of _ (by decide +kernel)) ggX7_number_X7_in
set_option maxRecDepth 20000 in
theorem ggX7_number_X7_token : GoodIn wsX7_number wsX7_token := goodIn_r _ [11, 12, 13, 3, 14, 2, 15, 16, 17, 18, 6, 19, 4, 5, 7, 20, 21, 22, 23, 24, 25, 26, 27, 28, 29, 30, 31, 32, 33, 34, 35, 36, 37] (by decide +kernel) (by decide +kernel)
set_option maxRecDepth 20000 in
theorem gX7_number_X7_token : GoodIn wsX7_number (wsV RX7 287 RX7 yX7_token wsX7_token) := goodIn_app (goodIn_of _ (by decide +kernel)) ggX7_number_X7_token
theorem dX7_number_0 : decode cX7_number 0 = .ok (.aload_n 0, 1) := by decide +kernel
theorem dX7_number_1 : decode cX7_number 1 = .ok (.aload_n 0, 1) := by decide +kernel
theorem dX7_number_2 : decode cX7_number 2 = .ok (.getfield 270, 3) := by decide +kernel
theorem dX7_number_5 : decode cX7_number 5 = .ok (.ifCond .ne 30, 3) := by decide +kernel
theorem dX7_number_8 : decode cX7_number 8 = .ok (.iload_n 3, 1) := by decide +kernel
theorem dX7_number_9 : decode cX7_number 9 = .ok (.ifCond .eq 26, 3) := by decide +kernel
theorem dX7_number_12 : decode cX7_number 12 = .ok (.aload_n 0, 1) := by decide +kernel
theorem dX7_number_13 : decode cX7_number 13 = .ok (.getfield 267, 3) := by decide +kernel
theorem dX7_number_16 : decode cX7_number 16 = .ok (.iconst 2, 1) := by decide +kernel
theorem dX7_number_17 : decode cX7_number 17 = .ok (.if_icmp .ne 18, 3) := by decide +kernel
theorem dX7_number_20 : decode cX7_number 20 = .ok (.aload_n 0, 1) := by decide +kernel
theorem dX7_number_21 : decode cX7_number 21 = .ok (.getfield 264, 3) := by decide +kernel
theorem dX7_number_24 : decode cX7_number 24 = .ok (.i2l, 1) := by decide +kernel
theorem dX7_number_25 : decode cX7_number 25 = .ok (.iload_n 1, 1) := by decide +kernel
theorem dX7_number_26 : decode cX7_number 26 = .ok (.i2l, 1) := by decide +kernel
theorem dX7_number_27 : decode cX7_number 27 = .ok (.iload_n 2, 1) := by decide +kernel
theorem dX7_number_28 : decode cX7_number 28 = .ok (.i2l, 1) := by decide +kernel
theorem dX7_number_29 : decode cX7_number 29 = .ok (.invokestatic 51, 3) := by decide +kernel
theorem dX7_number_32 : decode cX7_number 32 = .ok (.ifCond .ne 7, 3) := by decide +kernel
theorem dX7_number_35 : decode cX7_number 35 = .ok (.iconst 1, 1) := by decide +kernel
theorem dX7_number_36 : decode cX7_number 36 = .ok (.goto 4, 3) := by decide +kernel
theorem dX7_number_39 : decode cX7_number 39 = .ok (.iconst 0, 1) := by decide +kernel
theorem dX7_number_40 : decode cX7_number 40 = .ok (.putfield 270, 3) := by decide +kernel
theorem dX7_number_43 : decode cX7_number 43 = .ok (.aload_n 0, 1) := by decide +kernel
theorem dX7_number_44 : decode cX7_number 44 = .ok (.getfield 264, 3) := by decide +kernel
theorem dX7_number_47 : decode cX7_number 47 = .ok (.istore 4, 2) := by decide +kernel
theorem dX7_number_49 : decode cX7_number 49 = .ok (.aload_n 0, 1) := by decide +kernel
theorem dX7_number_50 : decode cX7_number 50 = .ok (.getfield 270, 3) := by decide +kernel
theorem dX7_number_53 : decode cX7_number 53 = .ok (.ifCond .ne 7, 3) := by decide +kernel
theorem dX7_number_56 : decode cX7_number 56 = .ok (.aload_n 0, 1) := by decide +kernel
theorem dX7_number_57 : decode cX7_number 57 = .ok (.invokevirtual 287, 3) := by decide +kernel
theorem dX7_number_60 : decode cX7_number 60 = .ok (.iload 4, 2) := by decide +kernel
theorem dX7_number_62 : decode cX7_number 62 = .ok (.ireturn, 1) := by decide +kernel
set_option maxRecDepth 20000 in
theorem ggX7_kindHere_X7_isWord : GoodIn wsX7_kindHere wsX7_isWord := goodIn_r _ [5, 6, 7, 8, 9, 10, 11, 12, 13, 14, 15, 16, 17, 18, 19, 20, 21, 22, 23, 24, 25, 26, 27, 28, 29, 30, 31, 32, 33, 34, 35, 36, 37, 38, 39, 40, 41, 42, 43, 44, 45, 46, 47, 48, 49, 50, 51, 52, 53, 54, 55, 56, 57, 58, 59, 60, 61, 62, 63, 64, 65, 66, 67, 68, 69, 70, 71, 72, 73, 74, 75, 76, 77] (by decide +kernel) (by decide +kernel)
set_option maxRecDepth 20000 in
theorem gX7_kindHere_X7_isWord : GoodIn wsX7_kindHere (wsV RX7 283 RX7 yX7_isWord wsX7_isWord) := goodIn_app (goodIn_of _ (by decide +kernel)) ggX7_kindHere_X7_isWord
theorem dX7_kindHere_0 : decode cX7_kindHere 0 = .ok (.aload_n 0, 1) := by decide +kernel
theorem dX7_kindHere_1 : decode cX7_kindHere 1 = .ok (.ldc_w 290, 3) := by decide +kernel
theorem dX7_kindHere_4 : decode cX7_kindHere 4 = .ok (.invokevirtual 283, 3) := by decide +kernel
theorem dX7_kindHere_7 : decode cX7_kindHere 7 = .ok (.ifCond .eq 5, 3) := by decide +kernel
theorem dX7_kindHere_10 : decode cX7_kindHere 10 = .ok (.iconst 0, 1) := by decide +kernel
theorem dX7_kindHere_11 : decode cX7_kindHere 11 = .ok (.ireturn, 1) := by decide +kernel
theorem dX7_kindHere_12 : decode cX7_kindHere 12 = .ok (.aload_n 0, 1) := by decide +kernel
theorem dX7_kindHere_13 : decode cX7_kindHere 13 = .ok (.ldc_w 292, 3) := by decide +kernel
theorem dX7_kindHere_16 : decode cX7_kindHere 16 = .ok (.invokevirtual 283, 3) := by decide +kernel
theorem dX7_kindHere_19 : decode cX7_kindHere 19 = .ok (.ifCond .eq 5, 3) := by decide +kernel
theorem dX7_kindHere_22 : decode cX7_kindHere 22 = .ok (.iconst 1, 1) := by decide +kernel
theorem dX7_kindHere_23 : decode cX7_kindHere 23 = .ok (.ireturn, 1) := by decide +kernel
theorem dX7_kindHere_24 : decode cX7_kindHere 24 = .ok (.aload_n 0, 1) := by decide +kernel
theorem dX7_kindHere_25 : decode cX7_kindHere 25 = .ok (.ldc_w 294, 3) := by decide +kernel
theorem dX7_kindHere_28 : decode cX7_kindHere 28 = .ok (.invokevirtual 283, 3) := by decide +kernel
theorem dX7_kindHere_31 : decode cX7_kindHere 31 = .ok (.ifCond .eq 5, 3) := by decide +kernel
theorem dX7_kindHere_34 : decode cX7_kindHere 34 = .ok (.iconst 2, 1) := by decide +kernel
theorem dX7_kindHere_35 : decode cX7_kindHere 35 = .ok (.ireturn, 1) := by decide +kernel
theorem dX7_kindHere_36 : decode cX7_kindHere 36 = .ok (.aload_n 0, 1) := by decide +kernel
theorem dX7_kindHere_37 : decode cX7_kindHere 37 = .ok (.ldc_w 296, 3) := by decide +kernel
theorem dX7_kindHere_40 : decode cX7_kindHere 40 = .ok (.invokevirtual 283, 3) := by decide +kernel
theorem dX7_kindHere_43 : decode cX7_kindHere 43 = .ok (.ifCond .eq 5, 3) := by decide +kernel
theorem dX7_kindHere_46 : decode cX7_kindHere 46 = .ok (.iconst 3, 1) := by decide +kernel
theorem dX7_kindHere_47 : decode cX7_kindHere 47 = .ok (.ireturn, 1) := by decide +kernel
theorem dX7_kindHere_48 : decode cX7_kindHere 48 = .ok (.aload_n 0, 1) := by decide +kernel
theorem dX7_kindHere_49 : decode cX7_kindHere 49 = .ok (.ldc_w 298, 3) := by decide +kernel
theorem dX7_kindHere_52 : decode cX7_kindHere 52 = .ok (.invokevirtual 283, 3) := by decide +kernel
theorem dX7_kindHere_55 : decode cX7_kindHere 55 = .ok (.ifCond .eq 5, 3) := by decide +kernel
theorem dX7_kindHere_58 : decode cX7_kindHere 58 = .ok (.iconst 4, 1) := by decide +kernel
theorem dX7_kindHere_59 : decode cX7_kindHere 59 = .ok (.ireturn, 1) := by decide +kernel
theorem dX7_kindHere_60 : decode cX7_kindHere 60 = .ok (.aload_n 0, 1) := by decide +kernel
theorem dX7_kindHere_61 : decode cX7_kindHere 61 = .ok (.ldc_w 300, 3) := by decide +kernel
theorem dX7_kindHere_64 : decode cX7_kindHere 64 = .ok (.invokevirtual 283, 3) := by decide +kernel
theorem dX7_kindHere_67 : decode cX7_kindHere 67 = .ok (.ifCond .eq 7, 3) := by decide +kernel
theorem dX7_kindHere_70 : decode cX7_kindHere 70 = .ok (.iconst 5, 1) := by decide +kernel
theorem dX7_kindHere_71 : decode cX7_kindHere 71 = .ok (.goto 19, 3) := by decide +kernel
theorem dX7_kindHere_74 : decode cX7_kindHere 74 = .ok (.aload_n 0, 1) := by decide +kernel
theorem dX7_kindHere_75 : decode cX7_kindHere 75 = .ok (.ldc_w 302, 3) := by decide +kernel
theorem dX7_kindHere_78 : decode cX7_kindHere 78 = .ok (.invokevirtual 283, 3) := by decide +kernel
theorem dX7_kindHere_81 : decode cX7_kindHere 81 = .ok (.ifCond .eq 8, 3) := by decide +kernel
theorem dX7_kindHere_84 : decode cX7_kindHere 84 = .ok (.bipush 6, 2) := by decide +kernel
theorem dX7_kindHere_86 : decode cX7_kindHere 86 = .ok (.goto 4, 3) := by decide +kernel
theorem dX7_kindHere_89 : decode cX7_kindHere 89 = .ok (.iconst (-1), 1) := by decide +kernel
theorem dX7_kindHere_90 : decode cX7_kindHere 90 = .ok (.ireturn, 1) := by decide +kernel
theorem dX7_tells_0 : decode cX7_tells 0 = .ok (.aload_n 0, 1) := by decide +kernel
theorem dX7_tells_1 : decode cX7_tells 1 = .ok (.getfield 270, 3) := by decide +kernel
theorem dX7_tells_4 : decode cX7_tells 4 = .ok (.ifCond .ne 10, 3) := by decide +kernel
theorem dX7_tells_7 : decode cX7_tells 7 = .ok (.aload_n 0, 1) := by decide +kernel
theorem dX7_tells_8 : decode cX7_tells 8 = .ok (.getfield 9, 3) := by decide +kernel
theorem dX7_tells_11 : decode cX7_tells 11 = .ok (.iload_n 1, 1) := by decide +kernel
theorem dX7_tells_12 : decode cX7_tells 12 = .ok (.iload_n 2, 1) := by decide +kernel
theorem dX7_tells_13 : decode cX7_tells 13 = .ok (.iastore, 1) := by decide +kernel
theorem dX7_tells_14 : decode cX7_tells 14 = .ok (.return_, 1) := by decide +kernel
set_option maxRecDepth 20000 in
theorem ggX7_candleItem_X7_number : GoodIn wsX7_candleItem wsX7_number := goodIn_r _ [6, 1, 7, 8, 9, 10, 5, 11, 12, 13, 14, 15, 16, 17, 18, 19, 20, 21, 22, 23, 86, 87, 88, 89, 90, 91, 92, 93, 94, 95, 96, 97, 98, 99, 100, 101, 102, 103] (by decide +kernel) (by decide +kernel)
set_option maxRecDepth 20000 in
theorem gX7_candleItem_X7_number : GoodIn wsX7_candleItem (wsV RX7 304 RX7 yX7_number wsX7_number) := goodIn_app (goodIn_of _ (by decide +kernel)) ggX7_candleItem_X7_number
set_option maxRecDepth 20000 in
theorem ggX7_candleItem_X7_takes : GoodIn wsX7_candleItem wsX7_takes := goodIn_r _ [27, 28, 29, 30, 5, 31, 1, 7, 16, 17, 19, 32, 33, 34, 35, 36, 37, 38, 39, 40, 41, 42, 43, 44, 45, 46, 47, 48, 49, 50, 51, 52, 53, 54, 55, 56, 57, 58, 59, 60, 61, 62, 63, 64, 65, 66, 67, 68, 69, 70, 71, 72, 73, 74, 75, 76, 77, 78, 79, 80, 12, 13, 14, 15, 8, 18, 20, 21, 22, 23, 9, 10, 11, 86, 87, 88, 89, 90, 91, 92, 93, 94, 95, 96, 97, 98, 99, 100, 101, 102, 103] (by decide +kernel) (by decide +kernel)
set_option maxRecDepth 20000 in
theorem gX7_candleItem_X7_takes : GoodIn wsX7_candleItem (wsV RX7 308 RX7 yX7_takes wsX7_takes) := goodIn_app (goodIn_of _ (by decide +kernel)) ggX7_candleItem_X7_takes
set_option maxRecDepth 20000 in
theorem ggX7_candleItem_X7_tells : GoodIn wsX7_candleItem wsX7_tells := goodIn_r _ [84, 1, 85, 86, 87, 88, 89, 90, 91, 92, 93, 94, 95, 96, 97, 98, 99, 100, 101, 102, 103] (by decide +kernel) (by decide +kernel)
set_option maxRecDepth 20000 in
theorem gX7_candleItem_X7_tells : GoodIn wsX7_candleItem (wsV RX7 311 RX7 yX7_tells wsX7_tells) := goodIn_app (goodIn_of _ (by decide +kernel)) ggX7_candleItem_X7_tells
theorem dX7_candleItem_0 : decode cX7_candleItem 0 = .ok (.aload_n 0, 1) := by decide +kernel
theorem dX7_candleItem_1 : decode cX7_candleItem 1 = .ok (.iconst 0, 1) := by decide +kernel
theorem dX7_candleItem_2 : decode cX7_candleItem 2 = .ok (.iconst 5, 1) := by decide +kernel
theorem dX7_candleItem_3 : decode cX7_candleItem 3 = .ok (.iconst 1, 1) := by decide +kernel
theorem dX7_candleItem_4 : decode cX7_candleItem 4 = .ok (.invokevirtual 304, 3) := by decide +kernel
theorem dX7_candleItem_7 : decode cX7_candleItem 7 = .ok (.istore_n 1, 1) := by decide +kernel
theorem dX7_candleItem_8 : decode cX7_candleItem 8 = .ok (.aload_n 0, 1) := by decide +kernel
theorem dX7_candleItem_9 : decode cX7_candleItem 9 = .ok (.aload_n 0, 1) := by decide +kernel
theorem dX7_candleItem_10 : decode cX7_candleItem 10 = .ok (.getfield 270, 3) := by decide +kernel
theorem dX7_candleItem_13 : decode cX7_candleItem 13 = .ok (.ifCond .ne 13, 3) := by decide +kernel
theorem dX7_candleItem_16 : decode cX7_candleItem 16 = .ok (.aload_n 0, 1) := by decide +kernel
theorem dX7_candleItem_17 : decode cX7_candleItem 17 = .ok (.ldc_w 306, 3) := by decide +kernel
theorem dX7_candleItem_20 : decode cX7_candleItem 20 = .ok (.invokevirtual 308, 3) := by decide +kernel
theorem dX7_candleItem_23 : decode cX7_candleItem 23 = .ok (.ifCond .ne 7, 3) := by decide +kernel
theorem dX7_candleItem_26 : decode cX7_candleItem 26 = .ok (.iconst 1, 1) := by decide +kernel
theorem dX7_candleItem_27 : decode cX7_candleItem 27 = .ok (.goto 4, 3) := by decide +kernel
theorem dX7_candleItem_30 : decode cX7_candleItem 30 = .ok (.iconst 0, 1) := by decide +kernel
theorem dX7_candleItem_31 : decode cX7_candleItem 31 = .ok (.putfield 270, 3) := by decide +kernel
theorem dX7_candleItem_34 : decode cX7_candleItem 34 = .ok (.aload_n 0, 1) := by decide +kernel
theorem dX7_candleItem_35 : decode cX7_candleItem 35 = .ok (.bipush 6, 2) := by decide +kernel
theorem dX7_candleItem_37 : decode cX7_candleItem 37 = .ok (.iconst 3, 1) := by decide +kernel
theorem dX7_candleItem_38 : decode cX7_candleItem 38 = .ok (.iload_n 1, 1) := by decide +kernel
theorem dX7_candleItem_39 : decode cX7_candleItem 39 = .ok (.imul, 1) := by decide +kernel
theorem dX7_candleItem_40 : decode cX7_candleItem 40 = .ok (.iadd, 1) := by decide +kernel
theorem dX7_candleItem_41 : decode cX7_candleItem 41 = .ok (.aload_n 0, 1) := by decide +kernel
theorem dX7_candleItem_42 : decode cX7_candleItem 42 = .ok (.iconst 0, 1) := by decide +kernel
theorem dX7_candleItem_43 : decode cX7_candleItem 43 = .ok (.bipush 47, 2) := by decide +kernel
theorem dX7_candleItem_45 : decode cX7_candleItem 45 = .ok (.iconst 1, 1) := by decide +kernel
theorem dX7_candleItem_46 : decode cX7_candleItem 46 = .ok (.invokevirtual 304, 3) := by decide +kernel
theorem dX7_candleItem_49 : decode cX7_candleItem 49 = .ok (.invokevirtual 311, 3) := by decide +kernel
theorem dX7_candleItem_52 : decode cX7_candleItem 52 = .ok (.aload_n 0, 1) := by decide +kernel
theorem dX7_candleItem_53 : decode cX7_candleItem 53 = .ok (.ldc_w 314, 3) := by decide +kernel
theorem dX7_candleItem_56 : decode cX7_candleItem 56 = .ok (.invokevirtual 308, 3) := by decide +kernel
theorem dX7_candleItem_59 : decode cX7_candleItem 59 = .ok (.ifCond .eq 23, 3) := by decide +kernel
theorem dX7_candleItem_62 : decode cX7_candleItem 62 = .ok (.aload_n 0, 1) := by decide +kernel
theorem dX7_candleItem_63 : decode cX7_candleItem 63 = .ok (.bipush 6, 2) := by decide +kernel
theorem dX7_candleItem_65 : decode cX7_candleItem 65 = .ok (.iconst 3, 1) := by decide +kernel
theorem dX7_candleItem_66 : decode cX7_candleItem 66 = .ok (.iload_n 1, 1) := by decide +kernel
theorem dX7_candleItem_67 : decode cX7_candleItem 67 = .ok (.imul, 1) := by decide +kernel
theorem dX7_candleItem_68 : decode cX7_candleItem 68 = .ok (.iadd, 1) := by decide +kernel
theorem dX7_candleItem_69 : decode cX7_candleItem 69 = .ok (.iconst 1, 1) := by decide +kernel
theorem dX7_candleItem_70 : decode cX7_candleItem 70 = .ok (.iadd, 1) := by decide +kernel
theorem dX7_candleItem_71 : decode cX7_candleItem 71 = .ok (.aload_n 0, 1) := by decide +kernel
theorem dX7_candleItem_72 : decode cX7_candleItem 72 = .ok (.iconst 0, 1) := by decide +kernel
theorem dX7_candleItem_73 : decode cX7_candleItem 73 = .ok (.bipush 30, 2) := by decide +kernel
theorem dX7_candleItem_75 : decode cX7_candleItem 75 = .ok (.iconst 1, 1) := by decide +kernel
theorem dX7_candleItem_76 : decode cX7_candleItem 76 = .ok (.invokevirtual 304, 3) := by decide +kernel
theorem dX7_candleItem_79 : decode cX7_candleItem 79 = .ok (.invokevirtual 311, 3) := by decide +kernel
theorem dX7_candleItem_82 : decode cX7_candleItem 82 = .ok (.aload_n 0, 1) := by decide +kernel
theorem dX7_candleItem_83 : decode cX7_candleItem 83 = .ok (.bipush 6, 2) := by decide +kernel
theorem dX7_candleItem_85 : decode cX7_candleItem 85 = .ok (.iconst 3, 1) := by decide +kernel
theorem dX7_candleItem_86 : decode cX7_candleItem 86 = .ok (.iload_n 1, 1) := by decide +kernel
theorem dX7_candleItem_87 : decode cX7_candleItem 87 = .ok (.imul, 1) := by decide +kernel
theorem dX7_candleItem_88 : decode cX7_candleItem 88 = .ok (.iadd, 1) := by decide +kernel
theorem dX7_candleItem_89 : decode cX7_candleItem 89 = .ok (.iconst 2, 1) := by decide +kernel
theorem dX7_candleItem_90 : decode cX7_candleItem 90 = .ok (.iadd, 1) := by decide +kernel
theorem dX7_candleItem_91 : decode cX7_candleItem 91 = .ok (.aload_n 0, 1) := by decide +kernel
theorem dX7_candleItem_92 : decode cX7_candleItem 92 = .ok (.ldc_w 316, 3) := by decide +kernel
theorem dX7_candleItem_95 : decode cX7_candleItem 95 = .ok (.invokevirtual 308, 3) := by decide +kernel
theorem dX7_candleItem_98 : decode cX7_candleItem 98 = .ok (.ifCond .eq 7, 3) := by decide +kernel
theorem dX7_candleItem_101 : decode cX7_candleItem 101 = .ok (.iconst 1, 1) := by decide +kernel
theorem dX7_candleItem_102 : decode cX7_candleItem 102 = .ok (.goto 4, 3) := by decide +kernel
theorem dX7_candleItem_105 : decode cX7_candleItem 105 = .ok (.iconst 0, 1) := by decide +kernel
theorem dX7_candleItem_106 : decode cX7_candleItem 106 = .ok (.invokevirtual 311, 3) := by decide +kernel
theorem dX7_candleItem_109 : decode cX7_candleItem 109 = .ok (.return_, 1) := by decide +kernel
set_option maxRecDepth 20000 in
theorem ggX7_coldItem_X7_isSign : GoodIn wsX7_coldItem wsX7_isSign := goodIn_r _ [5, 6, 7, 8, 9, 33, 34, 35, 36, 37, 38, 39, 40, 41, 42, 43, 44, 45, 46, 47, 48, 49, 50] (by decide +kernel) (by decide +kernel)
set_option maxRecDepth 20000 in
theorem gX7_coldItem_X7_isSign : GoodIn wsX7_coldItem (wsV RX7 318 RX7 yX7_isSign wsX7_isSign) := goodIn_app (goodIn_of _ (by decide +kernel)) ggX7_coldItem_X7_isSign
set_option maxRecDepth 20000 in
theorem ggX7_coldItem_X7_token : GoodIn wsX7_coldItem wsX7_token := goodIn_r _ [13, 14, 9, 15, 16, 7, 8, 17, 18, 19, 4, 20, 21, 22, 23, 33, 34, 35, 36, 37, 38, 39, 40, 41, 42, 43, 44, 45, 46, 47, 48, 49, 50] (by decide +kernel) (by decide +kernel)
set_option maxRecDepth 20000 in
theorem gX7_coldItem_X7_token : GoodIn wsX7_coldItem (wsV RX7 287 RX7 yX7_token wsX7_token) := goodIn_app (goodIn_of _ (by decide +kernel)) ggX7_coldItem_X7_token
set_option maxRecDepth 20000 in
theorem ggX7_coldItem_X7_number : GoodIn wsX7_coldItem wsX7_number := goodIn_r _ [27, 6, 7, 15, 21, 22, 4, 23, 10, 11, 12, 13, 14, 9, 16, 8, 17, 18, 19, 20, 33, 34, 35, 36, 37, 38, 39, 40, 41, 42, 43, 44, 45, 46, 47, 48, 49, 50] (by decide +kernel) (by decide +kernel)
set_option maxRecDepth 20000 in
theorem gX7_coldItem_X7_number : GoodIn wsX7_coldItem (wsV RX7 304 RX7 yX7_number wsX7_number) := goodIn_app (goodIn_of _ (by decide +kernel)) ggX7_coldItem_X7_number
set_option maxRecDepth 20000 in
theorem ggX7_coldItem_X7_tells : GoodIn wsX7_coldItem wsX7_tells := goodIn_r _ [31, 6, 32, 33, 34, 35, 36, 37, 38, 39, 40, 41, 42, 43, 44, 45, 46, 47, 48, 49, 50] (by decide +kernel) (by decide +kernel)
set_option maxRecDepth 20000 in
theorem gX7_coldItem_X7_tells : GoodIn wsX7_coldItem (wsV RX7 311 RX7 yX7_tells wsX7_tells) := goodIn_app (goodIn_of _ (by decide +kernel)) ggX7_coldItem_X7_tells
theorem dX7_coldItem_0 : decode cX7_coldItem 0 = .ok (.aload_n 0, 1) := by decide +kernel
theorem dX7_coldItem_1 : decode cX7_coldItem 1 = .ok (.bipush 45, 2) := by decide +kernel
theorem dX7_coldItem_3 : decode cX7_coldItem 3 = .ok (.invokevirtual 318, 3) := by decide +kernel
theorem dX7_coldItem_6 : decode cX7_coldItem 6 = .ok (.istore_n 1, 1) := by decide +kernel
theorem dX7_coldItem_7 : decode cX7_coldItem 7 = .ok (.iload_n 1, 1) := by decide +kernel
theorem dX7_coldItem_8 : decode cX7_coldItem 8 = .ok (.ifCond .eq 7, 3) := by decide +kernel
theorem dX7_coldItem_11 : decode cX7_coldItem 11 = .ok (.aload_n 0, 1) := by decide +kernel
theorem dX7_coldItem_12 : decode cX7_coldItem 12 = .ok (.invokevirtual 287, 3) := by decide +kernel
theorem dX7_coldItem_15 : decode cX7_coldItem 15 = .ok (.aload_n 0, 1) := by decide +kernel
theorem dX7_coldItem_16 : decode cX7_coldItem 16 = .ok (.iconst 0, 1) := by decide +kernel
theorem dX7_coldItem_17 : decode cX7_coldItem 17 = .ok (.bipush 20, 2) := by decide +kernel
theorem dX7_coldItem_19 : decode cX7_coldItem 19 = .ok (.iconst 1, 1) := by decide +kernel
theorem dX7_coldItem_20 : decode cX7_coldItem 20 = .ok (.invokevirtual 304, 3) := by decide +kernel
theorem dX7_coldItem_23 : decode cX7_coldItem 23 = .ok (.istore_n 2, 1) := by decide +kernel
theorem dX7_coldItem_24 : decode cX7_coldItem 24 = .ok (.aload_n 0, 1) := by decide +kernel
theorem dX7_coldItem_25 : decode cX7_coldItem 25 = .ok (.iconst 1, 1) := by decide +kernel
theorem dX7_coldItem_26 : decode cX7_coldItem 26 = .ok (.iload_n 1, 1) := by decide +kernel
theorem dX7_coldItem_27 : decode cX7_coldItem 27 = .ok (.ifCond .eq 8, 3) := by decide +kernel
theorem dX7_coldItem_30 : decode cX7_coldItem 30 = .ok (.iload_n 2, 1) := by decide +kernel
theorem dX7_coldItem_31 : decode cX7_coldItem 31 = .ok (.ineg, 1) := by decide +kernel
theorem dX7_coldItem_32 : decode cX7_coldItem 32 = .ok (.goto 4, 3) := by decide +kernel
theorem dX7_coldItem_35 : decode cX7_coldItem 35 = .ok (.iload_n 2, 1) := by decide +kernel
theorem dX7_coldItem_36 : decode cX7_coldItem 36 = .ok (.invokevirtual 311, 3) := by decide +kernel
theorem dX7_coldItem_39 : decode cX7_coldItem 39 = .ok (.return_, 1) := by decide +kernel
set_option maxRecDepth 20000 in
theorem ggX7_blockItem_X7_token : GoodIn wsX7_blockItem wsX7_token := goodIn_r _ [8, 9, 10, 3, 11, 12, 13, 14, 15, 16, 7, 17, 18, 19, 20, 98, 99, 100, 101, 102, 103, 104, 105, 106, 107, 108, 109, 110, 111, 112, 113, 114, 115] (by decide +kernel) (by decide +kernel)
set_option maxRecDepth 20000 in
theorem gX7_blockItem_X7_token : GoodIn wsX7_blockItem (wsV RX7 287 RX7 yX7_token wsX7_token) := goodIn_app (goodIn_of _ (by decide +kernel)) ggX7_blockItem_X7_token
set_option maxRecDepth 20000 in
theorem ggX7_blockItem_X7_isCell : GoodIn wsX7_blockItem wsX7_isCell := goodIn_r _ [23, 24, 18, 19, 7, 20] (by decide +kernel) (by decide +kernel)
set_option maxRecDepth 20000 in
theorem gX7_blockItem_X7_isCell : GoodIn wsX7_blockItem (va_wsS RX7 68 yX7_isCell wsX7_isCell) := goodIn_app (goodIn_of _ (by decide +kernel)) ggX7_blockItem_X7_isCell
set_option maxRecDepth 20000 in
theorem ggX7_blockItem_X7_blockOn : GoodIn wsX7_blockItem wsX7_blockOn := goodIn_r _ [28, 2, 29, 30, 31, 7, 32, 98, 99, 100, 101, 102, 103, 104, 105, 106, 107, 108, 109, 110, 111, 112, 113, 114, 115] (by decide +kernel) (by decide +kernel)
set_option maxRecDepth 20000 in
theorem gX7_blockItem_X7_blockOn : GoodIn wsX7_blockItem (wsV RX7 75 RX7 yX7_blockOn wsX7_blockOn) := goodIn_app (goodIn_of _ (by decide +kernel)) ggX7_blockItem_X7_blockOn
set_option maxRecDepth 20000 in
theorem ggX7_blockItem_X7_number : GoodIn wsX7_blockItem wsX7_number := goodIn_r _ [36, 1, 12, 3, 18, 19, 7, 20, 4, 5, 6, 8, 9, 10, 11, 13, 14, 15, 16, 17, 98, 99, 100, 101, 102, 103, 104, 105, 106, 107, 108, 109, 110, 111, 112, 113, 114, 115] (by decide +kernel) (by decide +kernel)
set_option maxRecDepth 20000 in
theorem gX7_blockItem_X7_number : GoodIn wsX7_blockItem (wsV RX7 304 RX7 yX7_number wsX7_number) := goodIn_app (goodIn_of _ (by decide +kernel)) ggX7_blockItem_X7_number
set_option maxRecDepth 20000 in
theorem ggX7_blockItem_X7_takes : GoodIn wsX7_blockItem wsX7_takes := goodIn_r _ [40, 41, 42, 43, 7, 44, 1, 12, 9, 10, 13, 45, 46, 47, 48, 49, 50, 51, 52, 53, 54, 55, 56, 57, 58, 59, 60, 61, 62, 63, 64, 65, 66, 67, 68, 69, 70, 71, 72, 73, 74, 75, 76, 77, 78, 79, 80, 81, 82, 83, 84, 85, 86, 87, 88, 89, 90, 91, 92, 93, 4, 5, 6, 8, 3, 11, 14, 15, 16, 17, 18, 19, 20, 98, 99, 100, 101, 102, 103, 104, 105, 106, 107, 108, 109, 110, 111, 112, 113, 114, 115] (by decide +kernel) (by decide +kernel)
set_option maxRecDepth 20000 in
theorem gX7_blockItem_X7_takes : GoodIn wsX7_blockItem (wsV RX7 308 RX7 yX7_takes wsX7_takes) := goodIn_app (goodIn_of _ (by decide +kernel)) ggX7_blockItem_X7_takes
set_option maxRecDepth 20000 in
theorem ggX7_blockItem_X7_comes : GoodIn wsX7_blockItem wsX7_comes := goodIn_r _ [97, 2, 98, 99, 100, 101, 102, 103, 104, 105, 106, 107, 108, 109, 110, 111, 112, 113, 114, 115] (by decide +kernel) (by decide +kernel)
set_option maxRecDepth 20000 in
theorem gX7_blockItem_X7_comes : GoodIn wsX7_blockItem (wsV RX7 79 RX7 yX7_comes wsX7_comes) := goodIn_app (goodIn_of _ (by decide +kernel)) ggX7_blockItem_X7_comes
theorem dX7_blockItem_0 : decode cX7_blockItem 0 = .ok (.aload_n 0, 1) := by decide +kernel
theorem dX7_blockItem_1 : decode cX7_blockItem 1 = .ok (.aload_n 0, 1) := by decide +kernel
theorem dX7_blockItem_2 : decode cX7_blockItem 2 = .ok (.getfield 270, 3) := by decide +kernel
theorem dX7_blockItem_5 : decode cX7_blockItem 5 = .ok (.ifCond .ne 18, 3) := by decide +kernel
theorem dX7_blockItem_8 : decode cX7_blockItem 8 = .ok (.iload_n 1, 1) := by decide +kernel
theorem dX7_blockItem_9 : decode cX7_blockItem 9 = .ok (.ifCond .lt 14, 3) := by decide +kernel
theorem dX7_blockItem_12 : decode cX7_blockItem 12 = .ok (.aload_n 0, 1) := by decide +kernel
theorem dX7_blockItem_13 : decode cX7_blockItem 13 = .ok (.getfield 9, 3) := by decide +kernel
theorem dX7_blockItem_16 : decode cX7_blockItem 16 = .ok (.iconst 5, 1) := by decide +kernel
theorem dX7_blockItem_17 : decode cX7_blockItem 17 = .ok (.iaload, 1) := by decide +kernel
theorem dX7_blockItem_18 : decode cX7_blockItem 18 = .ok (.bipush 16, 2) := by decide +kernel
theorem dX7_blockItem_20 : decode cX7_blockItem 20 = .ok (.if_icmp .ne 7, 3) := by decide +kernel
theorem dX7_blockItem_23 : decode cX7_blockItem 23 = .ok (.iconst 1, 1) := by decide +kernel
theorem dX7_blockItem_24 : decode cX7_blockItem 24 = .ok (.goto 4, 3) := by decide +kernel
theorem dX7_blockItem_27 : decode cX7_blockItem 27 = .ok (.iconst 0, 1) := by decide +kernel
theorem dX7_blockItem_28 : decode cX7_blockItem 28 = .ok (.putfield 270, 3) := by decide +kernel
theorem dX7_blockItem_31 : decode cX7_blockItem 31 = .ok (.aload_n 0, 1) := by decide +kernel
theorem dX7_blockItem_32 : decode cX7_blockItem 32 = .ok (.getfield 270, 3) := by decide +kernel
theorem dX7_blockItem_35 : decode cX7_blockItem 35 = .ok (.ifCond .eq 4, 3) := by decide +kernel
theorem dX7_blockItem_38 : decode cX7_blockItem 38 = .ok (.return_, 1) := by decide +kernel
theorem dX7_blockItem_39 : decode cX7_blockItem 39 = .ok (.aload_n 0, 1) := by decide +kernel
theorem dX7_blockItem_40 : decode cX7_blockItem 40 = .ok (.invokevirtual 287, 3) := by decide +kernel
theorem dX7_blockItem_43 : decode cX7_blockItem 43 = .ok (.aload_n 0, 1) := by decide +kernel
theorem dX7_blockItem_44 : decode cX7_blockItem 44 = .ok (.iconst 0, 1) := by decide +kernel
theorem dX7_blockItem_45 : decode cX7_blockItem 45 = .ok (.bipush 47, 2) := by decide +kernel
theorem dX7_blockItem_47 : decode cX7_blockItem 47 = .ok (.aload_n 0, 1) := by decide +kernel
theorem dX7_blockItem_48 : decode cX7_blockItem 48 = .ok (.getfield 264, 3) := by decide +kernel
theorem dX7_blockItem_51 : decode cX7_blockItem 51 = .ok (.invokestatic 68, 3) := by decide +kernel
theorem dX7_blockItem_54 : decode cX7_blockItem 54 = .ok (.ifCond .eq 14, 3) := by decide +kernel
theorem dX7_blockItem_57 : decode cX7_blockItem 57 = .ok (.aload_n 0, 1) := by decide +kernel
theorem dX7_blockItem_58 : decode cX7_blockItem 58 = .ok (.aload_n 0, 1) := by decide +kernel
theorem dX7_blockItem_59 : decode cX7_blockItem 59 = .ok (.getfield 264, 3) := by decide +kernel
theorem dX7_blockItem_62 : decode cX7_blockItem 62 = .ok (.invokevirtual 75, 3) := by decide +kernel
theorem dX7_blockItem_65 : decode cX7_blockItem 65 = .ok (.ifCond .ge 7, 3) := by decide +kernel
theorem dX7_blockItem_68 : decode cX7_blockItem 68 = .ok (.iconst 1, 1) := by decide +kernel
theorem dX7_blockItem_69 : decode cX7_blockItem 69 = .ok (.goto 4, 3) := by decide +kernel
theorem dX7_blockItem_72 : decode cX7_blockItem 72 = .ok (.iconst 0, 1) := by decide +kernel
theorem dX7_blockItem_73 : decode cX7_blockItem 73 = .ok (.invokevirtual 304, 3) := by decide +kernel
theorem dX7_blockItem_76 : decode cX7_blockItem 76 = .ok (.istore_n 2, 1) := by decide +kernel
theorem dX7_blockItem_77 : decode cX7_blockItem 77 = .ok (.aload_n 0, 1) := by decide +kernel
theorem dX7_blockItem_78 : decode cX7_blockItem 78 = .ok (.ldc_w 321, 3) := by decide +kernel
theorem dX7_blockItem_81 : decode cX7_blockItem 81 = .ok (.invokevirtual 308, 3) := by decide +kernel
theorem dX7_blockItem_84 : decode cX7_blockItem 84 = .ok (.ifCond .eq 14, 3) := by decide +kernel
theorem dX7_blockItem_87 : decode cX7_blockItem 87 = .ok (.aload_n 0, 1) := by decide +kernel
theorem dX7_blockItem_88 : decode cX7_blockItem 88 = .ok (.iconst 1, 1) := by decide +kernel
theorem dX7_blockItem_89 : decode cX7_blockItem 89 = .ok (.bipush 99, 2) := by decide +kernel
theorem dX7_blockItem_91 : decode cX7_blockItem 91 = .ok (.iconst 1, 1) := by decide +kernel
theorem dX7_blockItem_92 : decode cX7_blockItem 92 = .ok (.invokevirtual 304, 3) := by decide +kernel
theorem dX7_blockItem_95 : decode cX7_blockItem 95 = .ok (.goto 5, 3) := by decide +kernel
theorem dX7_blockItem_98 : decode cX7_blockItem 98 = .ok (.bipush 20, 2) := by decide +kernel
theorem dX7_blockItem_100 : decode cX7_blockItem 100 = .ok (.istore_n 3, 1) := by decide +kernel
theorem dX7_blockItem_101 : decode cX7_blockItem 101 = .ok (.aload_n 0, 1) := by decide +kernel
theorem dX7_blockItem_102 : decode cX7_blockItem 102 = .ok (.getfield 270, 3) := by decide +kernel
theorem dX7_blockItem_105 : decode cX7_blockItem 105 = .ok (.ifCond .ne 11, 3) := by decide +kernel
theorem dX7_blockItem_108 : decode cX7_blockItem 108 = .ok (.aload_n 0, 1) := by decide +kernel
theorem dX7_blockItem_109 : decode cX7_blockItem 109 = .ok (.iload_n 1, 1) := by decide +kernel
theorem dX7_blockItem_110 : decode cX7_blockItem 110 = .ok (.iload_n 2, 1) := by decide +kernel
theorem dX7_blockItem_111 : decode cX7_blockItem 111 = .ok (.iload_n 3, 1) := by decide +kernel
theorem dX7_blockItem_112 : decode cX7_blockItem 112 = .ok (.invokevirtual 79, 3) := by decide +kernel
theorem dX7_blockItem_115 : decode cX7_blockItem 115 = .ok (.pop, 1) := by decide +kernel
theorem dX7_blockItem_116 : decode cX7_blockItem 116 = .ok (.return_, 1) := by decide +kernel
set_option maxRecDepth 20000 in
theorem ggX7_item_X7_takes : GoodIn wsX7_item wsX7_takes := goodIn_r _ [5, 6, 7, 8, 4, 9, 10, 11, 12, 13, 14, 15, 16, 17, 18, 19, 20, 21, 22, 23, 24, 25, 26, 27, 28, 29, 30, 31, 32, 33, 34, 35, 36, 37, 38, 39, 40, 41, 42, 43, 44, 45, 46, 47, 48, 49, 50, 51, 52, 53, 54, 55, 56, 57, 58, 59, 60, 61, 62, 63, 64, 65, 66, 67, 68, 69, 70, 71, 72, 73, 74, 75, 76, 122, 123, 124, 125, 126, 127, 128, 129, 130, 131, 132, 133, 134, 135, 136, 137, 138, 139] (by decide +kernel) (by decide +kernel)
set_option maxRecDepth 20000 in
theorem gX7_item_X7_takes : GoodIn wsX7_item (wsV RX7 308 RX7 yX7_takes wsX7_takes) := goodIn_app (goodIn_of _ (by decide +kernel)) ggX7_item_X7_takes
set_option maxRecDepth 20000 in
theorem ggX7_item_X7_candleItem : GoodIn wsX7_item wsX7_candleItem := goodIn_r _ [80, 10, 81, 82, 83, 4, 84, 11, 68, 74, 75, 76, 64, 65, 66, 67, 12, 13, 69, 14, 70, 71, 72, 73, 1, 2, 3, 5, 6, 7, 8, 9, 15, 16, 17, 18, 19, 20, 21, 22, 23, 24, 25, 26, 27, 28, 29, 30, 31, 32, 33, 34, 35, 36, 37, 38, 39, 40, 41, 42, 43, 44, 45, 46, 47, 48, 49, 50, 51, 52, 53, 54, 55, 56, 57, 58, 59, 60, 61, 62, 63, 85, 86, 87, 88, 89, 122, 123, 124, 125, 126, 127, 128, 129, 130, 131, 132, 133, 134, 135, 136, 137, 138, 139] (by decide +kernel) (by decide +kernel)
set_option maxRecDepth 20000 in
theorem gX7_item_X7_candleItem : GoodIn wsX7_item (wsV RX7 324 RX7 yX7_candleItem wsX7_candleItem) := goodIn_app (goodIn_of _ (by decide +kernel)) ggX7_item_X7_candleItem
set_option maxRecDepth 20000 in
theorem ggX7_item_X7_coldItem : GoodIn wsX7_item wsX7_coldItem := goodIn_r _ [93, 94, 95, 96, 4, 97, 10, 11, 14, 13, 64, 65, 66, 67, 12, 68, 69, 70, 71, 72, 73, 74, 75, 76, 81, 82, 83, 84, 85, 86, 87, 88, 89, 122, 123, 124, 125, 126, 127, 128, 129, 130, 131, 132, 133, 134, 135, 136, 137, 138, 139] (by decide +kernel) (by decide +kernel)
set_option maxRecDepth 20000 in
theorem gX7_item_X7_coldItem : GoodIn wsX7_item (wsV RX7 329 RX7 yX7_coldItem wsX7_coldItem) := goodIn_app (goodIn_of _ (by decide +kernel)) ggX7_item_X7_coldItem
set_option maxRecDepth 20000 in
theorem ggX7_item_X7_kindHere : GoodIn wsX7_item wsX7_kindHere := goodIn_r _ [101, 6, 7, 8, 4, 9, 10, 11, 12, 13, 14, 15, 16, 17, 18, 19, 20, 21, 22, 23, 24, 25, 26, 27, 28, 29, 30, 31, 32, 33, 34, 35, 36, 37, 38, 39, 40, 41, 42, 43, 44, 45, 46, 47, 48, 49, 50, 51, 52, 53, 54, 55, 56, 57, 58, 59, 60, 61, 62, 63, 122, 123, 124, 125, 126, 127, 128, 129, 130, 131, 132, 133, 134, 135, 136, 137, 138, 139] (by decide +kernel) (by decide +kernel)
set_option maxRecDepth 20000 in
theorem gX7_item_X7_kindHere : GoodIn wsX7_item (wsV RX7 332 RX7 yX7_kindHere wsX7_kindHere) := goodIn_app (goodIn_of _ (by decide +kernel)) ggX7_item_X7_kindHere
set_option maxRecDepth 20000 in
theorem ggX7_item_X7_blockItem : GoodIn wsX7_item wsX7_blockItem := goodIn_r _ [105, 10, 89, 68, 64, 65, 66, 4, 67, 12, 13, 69, 11, 14, 70, 71, 72, 73, 74, 75, 76, 106, 107, 108, 109, 110, 111, 112, 113, 114, 115, 116, 117, 81, 82, 83, 84, 1, 2, 3, 5, 6, 7, 8, 9, 15, 16, 17, 18, 19, 20, 21, 22, 23, 24, 25, 26, 27, 28, 29, 30, 31, 32, 33, 34, 35, 36, 37, 38, 39, 40, 41, 42, 43, 44, 45, 46, 47, 48, 49, 50, 51, 52, 53, 54, 55, 56, 57, 58, 59, 60, 61, 62, 63, 118, 119, 120, 121, 122, 123, 124, 125, 126, 127, 128, 129, 130, 131, 132, 133, 134, 135, 136, 137, 138, 139] (by decide +kernel) (by decide +kernel)
set_option maxRecDepth 20000 in
theorem gX7_item_X7_blockItem : GoodIn wsX7_item (wsV RX7 335 RX7 yX7_blockItem wsX7_blockItem) := goodIn_app (goodIn_of _ (by decide +kernel)) ggX7_item_X7_blockItem
theorem dX7_item_0 : decode cX7_item 0 = .ok (.aload_n 0, 1) := by decide +kernel
theorem dX7_item_1 : decode cX7_item 1 = .ok (.ldc_w 322, 3) := by decide +kernel
theorem dX7_item_4 : decode cX7_item 4 = .ok (.invokevirtual 308, 3) := by decide +kernel
theorem dX7_item_7 : decode cX7_item 7 = .ok (.ifCond .eq 10, 3) := by decide +kernel
theorem dX7_item_10 : decode cX7_item 10 = .ok (.aload_n 0, 1) := by decide +kernel
theorem dX7_item_11 : decode cX7_item 11 = .ok (.invokevirtual 324, 3) := by decide +kernel
theorem dX7_item_14 : decode cX7_item 14 = .ok (.goto 28, 3) := by decide +kernel
theorem dX7_item_17 : decode cX7_item 17 = .ok (.aload_n 0, 1) := by decide +kernel
theorem dX7_item_18 : decode cX7_item 18 = .ok (.ldc_w 327, 3) := by decide +kernel
theorem dX7_item_21 : decode cX7_item 21 = .ok (.invokevirtual 308, 3) := by decide +kernel
theorem dX7_item_24 : decode cX7_item 24 = .ok (.ifCond .eq 10, 3) := by decide +kernel
theorem dX7_item_27 : decode cX7_item 27 = .ok (.aload_n 0, 1) := by decide +kernel
theorem dX7_item_28 : decode cX7_item 28 = .ok (.invokevirtual 329, 3) := by decide +kernel
theorem dX7_item_31 : decode cX7_item 31 = .ok (.goto 11, 3) := by decide +kernel
theorem dX7_item_34 : decode cX7_item 34 = .ok (.aload_n 0, 1) := by decide +kernel
theorem dX7_item_35 : decode cX7_item 35 = .ok (.aload_n 0, 1) := by decide +kernel
theorem dX7_item_36 : decode cX7_item 36 = .ok (.invokevirtual 332, 3) := by decide +kernel
theorem dX7_item_39 : decode cX7_item 39 = .ok (.invokevirtual 335, 3) := by decide +kernel
theorem dX7_item_42 : decode cX7_item 42 = .ok (.return_, 1) := by decide +kernel
set_option maxRecDepth 20000 in
theorem ggX7_text_X7_row : GoodIn wsX7_text wsX7_row := goodIn_r _ [11] (by decide +kernel) (by decide +kernel)
set_option maxRecDepth 20000 in
theorem gX7_text_X7_row : GoodIn wsX7_text (va_wsS RX7 187 yX7_row wsX7_row) := goodIn_app (goodIn_of _ (by decide +kernel)) ggX7_text_X7_row
set_option maxRecDepth 20000 in
theorem ggX7_text_X7_token : GoodIn wsX7_text wsX7_token := goodIn_r _ [15, 3, 6, 16, 7, 5, 17, 18, 19, 20, 10, 21, 22, 23, 24, 130, 131, 132, 133, 134, 135, 136, 137, 138, 139, 140, 141, 142, 143, 144, 145, 146, 147] (by decide +kernel) (by decide +kernel)
set_option maxRecDepth 20000 in
theorem gX7_text_X7_token : GoodIn wsX7_text (wsV RX7 287 RX7 yX7_token wsX7_token) := goodIn_app (goodIn_of _ (by decide +kernel)) ggX7_text_X7_token
set_option maxRecDepth 20000 in
theorem ggX7_text_X7_item : GoodIn wsX7_text wsX7_item := goodIn_r _ [28, 29, 30, 31, 10, 32, 33, 34, 35, 36, 4, 5, 3, 6, 17, 37, 38, 39, 40, 41, 42, 43, 44, 45, 46, 47, 48, 49, 50, 51, 52, 53, 54, 55, 56, 57, 58, 59, 60, 61, 62, 63, 64, 65, 66, 67, 68, 69, 70, 71, 72, 73, 74, 75, 76, 77, 78, 79, 80, 81, 82, 83, 84, 85, 12, 13, 14, 15, 16, 7, 18, 19, 20, 21, 22, 23, 24, 86, 87, 88, 89, 90, 91, 92, 93, 94, 95, 96, 97, 1, 98, 99, 100, 101, 102, 103, 104, 105, 106, 107, 108, 109, 110, 111, 112, 113, 114, 115, 116, 117, 118, 119, 120, 121, 122, 123, 124, 125, 126, 127, 128, 129, 130, 131, 132, 133, 134, 135, 136, 137, 138, 139, 140, 141, 142, 143, 144, 145, 146, 147] (by decide +kernel) (by decide +kernel)
set_option maxRecDepth 20000 in
theorem gX7_text_X7_item : GoodIn wsX7_text (wsV RX7 338 RX7 yX7_item wsX7_item) := goodIn_app (goodIn_of _ (by decide +kernel)) ggX7_text_X7_item
set_option maxRecDepth 20000 in
theorem ggX7_text_X7_isSign : GoodIn wsX7_text wsX7_isSign := goodIn_r _ [105, 4, 5, 17, 6, 130, 131, 132, 133, 134, 135, 136, 137, 138, 139, 140, 141, 142, 143, 144, 145, 146, 147] (by decide +kernel) (by decide +kernel)
set_option maxRecDepth 20000 in
theorem gX7_text_X7_isSign : GoodIn wsX7_text (wsV RX7 318 RX7 yX7_isSign wsX7_isSign) := goodIn_app (goodIn_of _ (by decide +kernel)) ggX7_text_X7_isSign
theorem dX7_text_0 : decode cX7_text 0 = .ok (.aload_n 0, 1) := by decide +kernel
theorem dX7_text_1 : decode cX7_text 1 = .ok (.getfield 9, 3) := by decide +kernel
theorem dX7_text_4 : decode cX7_text 4 = .ok (.aload_n 0, 1) := by decide +kernel
theorem dX7_text_5 : decode cX7_text 5 = .ok (.getfield 16, 3) := by decide +kernel
theorem dX7_text_8 : decode cX7_text 8 = .ok (.invokestatic 187, 3) := by decide +kernel
theorem dX7_text_11 : decode cX7_text 11 = .ok (.aload_n 0, 1) := by decide +kernel
theorem dX7_text_12 : decode cX7_text 12 = .ok (.iconst 0, 1) := by decide +kernel
theorem dX7_text_13 : decode cX7_text 13 = .ok (.putfield 254, 3) := by decide +kernel
theorem dX7_text_16 : decode cX7_text 16 = .ok (.aload_n 0, 1) := by decide +kernel
theorem dX7_text_17 : decode cX7_text 17 = .ok (.iconst 0, 1) := by decide +kernel
theorem dX7_text_18 : decode cX7_text 18 = .ok (.putfield 270, 3) := by decide +kernel
theorem dX7_text_21 : decode cX7_text 21 = .ok (.aload_n 0, 1) := by decide +kernel
theorem dX7_text_22 : decode cX7_text 22 = .ok (.invokevirtual 287, 3) := by decide +kernel
theorem dX7_text_25 : decode cX7_text 25 = .ok (.iconst 0, 1) := by decide +kernel
theorem dX7_text_26 : decode cX7_text 26 = .ok (.istore_n 1, 1) := by decide +kernel
theorem dX7_text_27 : decode cX7_text 27 = .ok (.iconst 1, 1) := by decide +kernel
theorem dX7_text_28 : decode cX7_text 28 = .ok (.istore_n 2, 1) := by decide +kernel
theorem dX7_text_29 : decode cX7_text 29 = .ok (.iload_n 2, 1) := by decide +kernel
theorem dX7_text_30 : decode cX7_text 30 = .ok (.ifCond .eq 28, 3) := by decide +kernel
theorem dX7_text_33 : decode cX7_text 33 = .ok (.aload_n 0, 1) := by decide +kernel
theorem dX7_text_34 : decode cX7_text 34 = .ok (.invokevirtual 338, 3) := by decide +kernel
theorem dX7_text_37 : decode cX7_text 37 = .ok (.iinc 1 1, 3) := by decide +kernel
theorem dX7_text_40 : decode cX7_text 40 = .ok (.aload_n 0, 1) := by decide +kernel
theorem dX7_text_41 : decode cX7_text 41 = .ok (.bipush 59, 2) := by decide +kernel
theorem dX7_text_43 : decode cX7_text 43 = .ok (.invokevirtual 318, 3) := by decide +kernel
theorem dX7_text_46 : decode cX7_text 46 = .ok (.istore_n 2, 1) := by decide +kernel
theorem dX7_text_47 : decode cX7_text 47 = .ok (.iload_n 2, 1) := by decide +kernel
theorem dX7_text_48 : decode cX7_text 48 = .ok (.ifCond .eq (-19), 3) := by decide +kernel
theorem dX7_text_51 : decode cX7_text 51 = .ok (.aload_n 0, 1) := by decide +kernel
theorem dX7_text_52 : decode cX7_text 52 = .ok (.invokevirtual 287, 3) := by decide +kernel
theorem dX7_text_55 : decode cX7_text 55 = .ok (.goto (-26), 3) := by decide +kernel
theorem dX7_text_58 : decode cX7_text 58 = .ok (.aload_n 0, 1) := by decide +kernel
theorem dX7_text_59 : decode cX7_text 59 = .ok (.aload_n 0, 1) := by decide +kernel
theorem dX7_text_60 : decode cX7_text 60 = .ok (.getfield 270, 3) := by decide +kernel
theorem dX7_text_63 : decode cX7_text 63 = .ok (.ifCond .ne 10, 3) := by decide +kernel
theorem dX7_text_66 : decode cX7_text 66 = .ok (.aload_n 0, 1) := by decide +kernel
theorem dX7_text_67 : decode cX7_text 67 = .ok (.getfield 267, 3) := by decide +kernel
theorem dX7_text_70 : decode cX7_text 70 = .ok (.ifCond .eq 7, 3) := by decide +kernel
theorem dX7_text_73 : decode cX7_text 73 = .ok (.iconst 1, 1) := by decide +kernel
theorem dX7_text_74 : decode cX7_text 74 = .ok (.goto 4, 3) := by decide +kernel
theorem dX7_text_77 : decode cX7_text 77 = .ok (.iconst 0, 1) := by decide +kernel
theorem dX7_text_78 : decode cX7_text 78 = .ok (.putfield 270, 3) := by decide +kernel
theorem dX7_text_81 : decode cX7_text 81 = .ok (.aload_n 0, 1) := by decide +kernel
theorem dX7_text_82 : decode cX7_text 82 = .ok (.getfield 257, 3) := by decide +kernel
theorem dX7_text_85 : decode cX7_text 85 = .ok (.istore_n 3, 1) := by decide +kernel
theorem dX7_text_86 : decode cX7_text 86 = .ok (.aload_n 0, 1) := by decide +kernel
theorem dX7_text_87 : decode cX7_text 87 = .ok (.iconst 0, 1) := by decide +kernel
theorem dX7_text_88 : decode cX7_text 88 = .ok (.putfield 250, 3) := by decide +kernel
theorem dX7_text_91 : decode cX7_text 91 = .ok (.aload_n 0, 1) := by decide +kernel
theorem dX7_text_92 : decode cX7_text 92 = .ok (.getfield 270, 3) := by decide +kernel
theorem dX7_text_95 : decode cX7_text 95 = .ok (.ifCond .ne 5, 3) := by decide +kernel
theorem dX7_text_98 : decode cX7_text 98 = .ok (.iload_n 1, 1) := by decide +kernel
theorem dX7_text_99 : decode cX7_text 99 = .ok (.ireturn, 1) := by decide +kernel
theorem dX7_text_100 : decode cX7_text 100 = .ok (.aload_n 0, 1) := by decide +kernel
theorem dX7_text_101 : decode cX7_text 101 = .ok (.getfield 16, 3) := by decide +kernel
theorem dX7_text_104 : decode cX7_text 104 = .ok (.aload_n 0, 1) := by decide +kernel
theorem dX7_text_105 : decode cX7_text 105 = .ok (.getfield 9, 3) := by decide +kernel
theorem dX7_text_108 : decode cX7_text 108 = .ok (.invokestatic 187, 3) := by decide +kernel
theorem dX7_text_111 : decode cX7_text 111 = .ok (.iconst (-1), 1) := by decide +kernel
theorem dX7_text_112 : decode cX7_text 112 = .ok (.iload_n 3, 1) := by decide +kernel
theorem dX7_text_113 : decode cX7_text 113 = .ok (.isub, 1) := by decide +kernel
theorem dX7_text_114 : decode cX7_text 114 = .ok (.ireturn, 1) := by decide +kernel
set_option maxRecDepth 20000 in
theorem ggX7_hold_X7_in : GoodIn wsX7_hold wsX7_in := goodIn_r _ [7] (by decide +kernel) (by decide +kernel)
set_option maxRecDepth 20000 in
theorem gX7_hold_X7_in : GoodIn wsX7_hold (va_wsS RX7 51 yX7_in wsX7_in) := goodIn_app (goodIn_of _ (by decide +kernel)) ggX7_hold_X7_in
set_option maxRecDepth 20000 in
theorem ggX7_hold_X7_isBlock : GoodIn wsX7_hold wsX7_isBlock := goodIn_r _ [11, 3, 4, 5, 6, 7, 17, 18, 19, 20, 21, 22, 23, 24, 25, 26, 27, 28, 29, 30, 31, 32, 33, 34] (by decide +kernel) (by decide +kernel)
set_option maxRecDepth 20000 in
theorem gX7_hold_X7_isBlock : GoodIn wsX7_hold (wsV RX7 114 RX7 yX7_isBlock wsX7_isBlock) := goodIn_app (goodIn_of _ (by decide +kernel)) ggX7_hold_X7_isBlock
set_option maxRecDepth 20000 in
theorem ggX7_hold_X7_finds : GoodIn wsX7_hold wsX7_finds := goodIn_r _ [15, 16, 2, 17, 18, 19, 20, 21, 22, 23, 24, 25, 26, 27, 28, 29, 30, 31, 32, 33, 34] (by decide +kernel) (by decide +kernel)
set_option maxRecDepth 20000 in
theorem gX7_hold_X7_finds : GoodIn wsX7_hold (wsV RX7 45 RX7 yX7_finds wsX7_finds) := goodIn_app (goodIn_of _ (by decide +kernel)) ggX7_hold_X7_finds
theorem dX7_hold_0 : decode cX7_hold 0 = .ok (.iload_n 1, 1) := by decide +kernel
theorem dX7_hold_1 : decode cX7_hold 1 = .ok (.i2l, 1) := by decide +kernel
theorem dX7_hold_2 : decode cX7_hold 2 = .ok (.lconst 0, 1) := by decide +kernel
theorem dX7_hold_3 : decode cX7_hold 3 = .ok (.ldc2_w 235, 3) := by decide +kernel
theorem dX7_hold_6 : decode cX7_hold 6 = .ok (.invokestatic 51, 3) := by decide +kernel
theorem dX7_hold_9 : decode cX7_hold 9 = .ok (.ifCond .eq 16, 3) := by decide +kernel
theorem dX7_hold_12 : decode cX7_hold 12 = .ok (.iload_n 2, 1) := by decide +kernel
theorem dX7_hold_13 : decode cX7_hold 13 = .ok (.iconst (-1), 1) := by decide +kernel
theorem dX7_hold_14 : decode cX7_hold 14 = .ok (.if_icmp .eq 18, 3) := by decide +kernel
theorem dX7_hold_17 : decode cX7_hold 17 = .ok (.aload_n 0, 1) := by decide +kernel
theorem dX7_hold_18 : decode cX7_hold 18 = .ok (.iload_n 2, 1) := by decide +kernel
theorem dX7_hold_19 : decode cX7_hold 19 = .ok (.invokevirtual 114, 3) := by decide +kernel
theorem dX7_hold_22 : decode cX7_hold 22 = .ok (.ifCond .ne 10, 3) := by decide +kernel
theorem dX7_hold_25 : decode cX7_hold 25 = .ok (.aload_n 0, 1) := by decide +kernel
theorem dX7_hold_26 : decode cX7_hold 26 = .ok (.ldc 43, 2) := by decide +kernel
theorem dX7_hold_28 : decode cX7_hold 28 = .ok (.invokevirtual 45, 3) := by decide +kernel
theorem dX7_hold_31 : decode cX7_hold 31 = .ok (.ireturn, 1) := by decide +kernel
theorem dX7_hold_32 : decode cX7_hold 32 = .ok (.aload_n 0, 1) := by decide +kernel
theorem dX7_hold_33 : decode cX7_hold 33 = .ok (.getfield 9, 3) := by decide +kernel
theorem dX7_hold_36 : decode cX7_hold 36 = .ok (.bipush 72, 2) := by decide +kernel
theorem dX7_hold_38 : decode cX7_hold 38 = .ok (.iload_n 1, 1) := by decide +kernel
theorem dX7_hold_39 : decode cX7_hold 39 = .ok (.iadd, 1) := by decide +kernel
theorem dX7_hold_40 : decode cX7_hold 40 = .ok (.iload_n 2, 1) := by decide +kernel
theorem dX7_hold_41 : decode cX7_hold 41 = .ok (.iastore, 1) := by decide +kernel
theorem dX7_hold_42 : decode cX7_hold 42 = .ok (.iconst 1, 1) := by decide +kernel
theorem dX7_hold_43 : decode cX7_hold 43 = .ok (.ireturn, 1) := by decide +kernel
theorem dX7_under_0 : decode cX7_under 0 = .ok (.iload_n 0, 1) := by decide +kernel
theorem dX7_under_1 : decode cX7_under 1 = .ok (.ifCond .ne 7, 3) := by decide +kernel
theorem dX7_under_4 : decode cX7_under 4 = .ok (.iconst (-1), 1) := by decide +kernel
theorem dX7_under_5 : decode cX7_under 5 = .ok (.goto 22, 3) := by decide +kernel
theorem dX7_under_8 : decode cX7_under 8 = .ok (.iload_n 0, 1) := by decide +kernel
theorem dX7_under_9 : decode cX7_under 9 = .ok (.iconst 3, 1) := by decide +kernel
theorem dX7_under_10 : decode cX7_under 10 = .ok (.if_icmp .ne 7, 3) := by decide +kernel
theorem dX7_under_13 : decode cX7_under 13 = .ok (.iconst 1, 1) := by decide +kernel
theorem dX7_under_14 : decode cX7_under 14 = .ok (.goto 13, 3) := by decide +kernel
theorem dX7_under_17 : decode cX7_under 17 = .ok (.iload_n 0, 1) := by decide +kernel
theorem dX7_under_18 : decode cX7_under 18 = .ok (.iconst 5, 1) := by decide +kernel
theorem dX7_under_19 : decode cX7_under 19 = .ok (.if_icmp .ne 7, 3) := by decide +kernel
theorem dX7_under_22 : decode cX7_under 22 = .ok (.iconst 2, 1) := by decide +kernel
theorem dX7_under_23 : decode cX7_under 23 = .ok (.goto 4, 3) := by decide +kernel
theorem dX7_under_26 : decode cX7_under 26 = .ok (.iconst 0, 1) := by decide +kernel
theorem dX7_under_27 : decode cX7_under 27 = .ok (.ireturn, 1) := by decide +kernel
set_option maxRecDepth 20000 in
theorem ggX7_as_X7_in : GoodIn wsX7_as wsX7_in := goodIn_r _ [9] (by decide +kernel) (by decide +kernel)
set_option maxRecDepth 20000 in
theorem gX7_as_X7_in : GoodIn wsX7_as (va_wsS RX7 51 yX7_in wsX7_in) := goodIn_app (goodIn_of _ (by decide +kernel)) ggX7_as_X7_in
set_option maxRecDepth 20000 in
theorem ggX7_as_X7_isKind : GoodIn wsX7_as wsX7_isKind := goodIn_r _ [12, 13, 6, 7, 8, 9] (by decide +kernel) (by decide +kernel)
set_option maxRecDepth 20000 in
theorem gX7_as_X7_isKind : GoodIn wsX7_as (va_wsS RX7 64 yX7_isKind wsX7_isKind) := goodIn_app (goodIn_of _ (by decide +kernel)) ggX7_as_X7_isKind
set_option maxRecDepth 20000 in
theorem ggX7_as_X7_finds : GoodIn wsX7_as wsX7_finds := goodIn_r _ [17, 18, 2, 26, 27, 28, 29, 30, 31, 32, 33, 34, 35, 36, 37, 38, 39, 40, 41, 42, 43] (by decide +kernel) (by decide +kernel)
set_option maxRecDepth 20000 in
theorem gX7_as_X7_finds : GoodIn wsX7_as (wsV RX7 45 RX7 yX7_finds wsX7_finds) := goodIn_app (goodIn_of _ (by decide +kernel)) ggX7_as_X7_finds
set_option maxRecDepth 20000 in
theorem ggX7_as_X7_kindOf : GoodIn wsX7_as wsX7_kindOf := goodIn_r _ [22, 3, 26, 27, 28, 29, 30, 31, 32, 33, 34, 35, 36, 37, 38, 39, 40, 41, 42, 43] (by decide +kernel) (by decide +kernel)
set_option maxRecDepth 20000 in
theorem gX7_as_X7_kindOf : GoodIn wsX7_as (wsV RX7 87 RX7 yX7_kindOf wsX7_kindOf) := goodIn_app (goodIn_of _ (by decide +kernel)) ggX7_as_X7_kindOf
set_option maxRecDepth 20000 in
theorem ggX7_as_X7_under : GoodIn wsX7_as wsX7_under := goodIn_r _ [25] (by decide +kernel) (by decide +kernel)
set_option maxRecDepth 20000 in
theorem gX7_as_X7_under : GoodIn wsX7_as (va_wsS RX7 342 yX7_under wsX7_under) := goodIn_app (goodIn_of _ (by decide +kernel)) ggX7_as_X7_under
theorem dX7_as_0 : decode cX7_as 0 = .ok (.iload_n 1, 1) := by decide +kernel
theorem dX7_as_1 : decode cX7_as 1 = .ok (.i2l, 1) := by decide +kernel
theorem dX7_as_2 : decode cX7_as 2 = .ok (.lconst 0, 1) := by decide +kernel
theorem dX7_as_3 : decode cX7_as 3 = .ok (.ldc2_w 235, 3) := by decide +kernel
theorem dX7_as_6 : decode cX7_as 6 = .ok (.invokestatic 51, 3) := by decide +kernel
theorem dX7_as_9 : decode cX7_as 9 = .ok (.ifCond .eq 10, 3) := by decide +kernel
theorem dX7_as_12 : decode cX7_as 12 = .ok (.iload_n 2, 1) := by decide +kernel
theorem dX7_as_13 : decode cX7_as 13 = .ok (.invokestatic 64, 3) := by decide +kernel
theorem dX7_as_16 : decode cX7_as 16 = .ok (.ifCond .ne 10, 3) := by decide +kernel
theorem dX7_as_19 : decode cX7_as 19 = .ok (.aload_n 0, 1) := by decide +kernel
theorem dX7_as_20 : decode cX7_as 20 = .ok (.ldc 43, 2) := by decide +kernel
theorem dX7_as_22 : decode cX7_as 22 = .ok (.invokevirtual 45, 3) := by decide +kernel
theorem dX7_as_25 : decode cX7_as 25 = .ok (.ireturn, 1) := by decide +kernel
theorem dX7_as_26 : decode cX7_as 26 = .ok (.aload_n 0, 1) := by decide +kernel
theorem dX7_as_27 : decode cX7_as 27 = .ok (.getfield 9, 3) := by decide +kernel
theorem dX7_as_30 : decode cX7_as 30 = .ok (.bipush 72, 2) := by decide +kernel
theorem dX7_as_32 : decode cX7_as 32 = .ok (.iload_n 1, 1) := by decide +kernel
theorem dX7_as_33 : decode cX7_as 33 = .ok (.iadd, 1) := by decide +kernel
theorem dX7_as_34 : decode cX7_as 34 = .ok (.iaload, 1) := by decide +kernel
theorem dX7_as_35 : decode cX7_as 35 = .ok (.istore_n 3, 1) := by decide +kernel
theorem dX7_as_36 : decode cX7_as 36 = .ok (.iload_n 3, 1) := by decide +kernel
theorem dX7_as_37 : decode cX7_as 37 = .ok (.ifCond .ge 11, 3) := by decide +kernel
theorem dX7_as_40 : decode cX7_as 40 = .ok (.aload_n 0, 1) := by decide +kernel
theorem dX7_as_41 : decode cX7_as 41 = .ok (.ldc_w 341, 3) := by decide +kernel
theorem dX7_as_44 : decode cX7_as 44 = .ok (.invokevirtual 45, 3) := by decide +kernel
theorem dX7_as_47 : decode cX7_as 47 = .ok (.ireturn, 1) := by decide +kernel
theorem dX7_as_48 : decode cX7_as 48 = .ok (.aload_n 0, 1) := by decide +kernel
theorem dX7_as_49 : decode cX7_as 49 = .ok (.iload_n 3, 1) := by decide +kernel
theorem dX7_as_50 : decode cX7_as 50 = .ok (.invokevirtual 87, 3) := by decide +kernel
theorem dX7_as_53 : decode cX7_as 53 = .ok (.istore 4, 2) := by decide +kernel
theorem dX7_as_55 : decode cX7_as 55 = .ok (.iload 4, 2) := by decide +kernel
theorem dX7_as_57 : decode cX7_as 57 = .ok (.ifCond .lt 21, 3) := by decide +kernel
theorem dX7_as_60 : decode cX7_as 60 = .ok (.iload 4, 2) := by decide +kernel
theorem dX7_as_62 : decode cX7_as 62 = .ok (.iload_n 2, 1) := by decide +kernel
theorem dX7_as_63 : decode cX7_as 63 = .ok (.if_icmp .ne 5, 3) := by decide +kernel
theorem dX7_as_66 : decode cX7_as 66 = .ok (.iload_n 3, 1) := by decide +kernel
theorem dX7_as_67 : decode cX7_as 67 = .ok (.ireturn, 1) := by decide +kernel
theorem dX7_as_68 : decode cX7_as 68 = .ok (.iload 4, 2) := by decide +kernel
theorem dX7_as_70 : decode cX7_as 70 = .ok (.invokestatic 342, 3) := by decide +kernel
theorem dX7_as_73 : decode cX7_as 73 = .ok (.istore 4, 2) := by decide +kernel
theorem dX7_as_75 : decode cX7_as 75 = .ok (.goto (-20), 3) := by decide +kernel
theorem dX7_as_78 : decode cX7_as 78 = .ok (.aload_n 0, 1) := by decide +kernel
theorem dX7_as_79 : decode cX7_as 79 = .ok (.ldc_w 345, 3) := by decide +kernel
theorem dX7_as_82 : decode cX7_as 82 = .ok (.invokevirtual 45, 3) := by decide +kernel
theorem dX7_as_85 : decode cX7_as 85 = .ok (.ireturn, 1) := by decide +kernel
set_option maxRecDepth 20000 in
theorem ggX7_isSheet_X7_in : GoodIn wsX7_isSheet wsX7_in := goodIn_r _ [5] (by decide +kernel) (by decide +kernel)
set_option maxRecDepth 20000 in
theorem gX7_isSheet_X7_in : GoodIn wsX7_isSheet (va_wsS RX7 51 yX7_in wsX7_in) := goodIn_app (goodIn_of _ (by decide +kernel)) ggX7_isSheet_X7_in
theorem dX7_isSheet_0 : decode cX7_isSheet 0 = .ok (.iload_n 0, 1) := by decide +kernel
theorem dX7_isSheet_1 : decode cX7_isSheet 1 = .ok (.i2l, 1) := by decide +kernel
theorem dX7_isSheet_2 : decode cX7_isSheet 2 = .ok (.lconst 0, 1) := by decide +kernel
theorem dX7_isSheet_3 : decode cX7_isSheet 3 = .ok (.ldc2_w 346, 3) := by decide +kernel
theorem dX7_isSheet_6 : decode cX7_isSheet 6 = .ok (.invokestatic 51, 3) := by decide +kernel
theorem dX7_isSheet_9 : decode cX7_isSheet 9 = .ok (.ireturn, 1) := by decide +kernel
set_option maxRecDepth 20000 in
theorem ggX7_sheet_X7_isSheet : GoodIn wsX7_sheet wsX7_isSheet := goodIn_r _ [9, 10, 11, 12, 8, 13] (by decide +kernel) (by decide +kernel)
set_option maxRecDepth 20000 in
theorem gX7_sheet_X7_isSheet : GoodIn wsX7_sheet (va_wsS RX7 348 yX7_isSheet wsX7_isSheet) := goodIn_app (goodIn_of _ (by decide +kernel)) ggX7_sheet_X7_isSheet
set_option maxRecDepth 20000 in
theorem ggX7_sheet_X7_finds : GoodIn wsX7_sheet wsX7_finds := goodIn_r _ [17, 18, 1, 19, 20, 21, 22, 23, 24, 25, 26, 27, 28, 29, 30, 31, 32, 33, 34, 35, 36] (by decide +kernel) (by decide +kernel)
set_option maxRecDepth 20000 in
theorem gX7_sheet_X7_finds : GoodIn wsX7_sheet (wsV RX7 45 RX7 yX7_finds wsX7_finds) := goodIn_app (goodIn_of _ (by decide +kernel)) ggX7_sheet_X7_finds
theorem dX7_sheet_0 : decode cX7_sheet 0 = .ok (.iload_n 1, 1) := by decide +kernel
theorem dX7_sheet_1 : decode cX7_sheet 1 = .ok (.invokestatic 348, 3) := by decide +kernel
theorem dX7_sheet_4 : decode cX7_sheet 4 = .ok (.ifCond .eq 25, 3) := by decide +kernel
theorem dX7_sheet_7 : decode cX7_sheet 7 = .ok (.iload_n 2, 1) := by decide +kernel
theorem dX7_sheet_8 : decode cX7_sheet 8 = .ok (.ifCond .eq 28, 3) := by decide +kernel
theorem dX7_sheet_11 : decode cX7_sheet 11 = .ok (.iload_n 2, 1) := by decide +kernel
theorem dX7_sheet_12 : decode cX7_sheet 12 = .ok (.bipush 8, 2) := by decide +kernel
theorem dX7_sheet_14 : decode cX7_sheet 14 = .ok (.if_icmp .eq 22, 3) := by decide +kernel
theorem dX7_sheet_17 : decode cX7_sheet 17 = .ok (.iload_n 2, 1) := by decide +kernel
theorem dX7_sheet_18 : decode cX7_sheet 18 = .ok (.bipush 16, 2) := by decide +kernel
theorem dX7_sheet_20 : decode cX7_sheet 20 = .ok (.if_icmp .eq 16, 3) := by decide +kernel
theorem dX7_sheet_23 : decode cX7_sheet 23 = .ok (.iload_n 2, 1) := by decide +kernel
theorem dX7_sheet_24 : decode cX7_sheet 24 = .ok (.bipush 32, 2) := by decide +kernel
theorem dX7_sheet_26 : decode cX7_sheet 26 = .ok (.if_icmp .eq 10, 3) := by decide +kernel
theorem dX7_sheet_29 : decode cX7_sheet 29 = .ok (.aload_n 0, 1) := by decide +kernel
theorem dX7_sheet_30 : decode cX7_sheet 30 = .ok (.ldc 43, 2) := by decide +kernel
theorem dX7_sheet_32 : decode cX7_sheet 32 = .ok (.invokevirtual 45, 3) := by decide +kernel
theorem dX7_sheet_35 : decode cX7_sheet 35 = .ok (.ireturn, 1) := by decide +kernel
theorem dX7_sheet_36 : decode cX7_sheet 36 = .ok (.iload_n 3, 1) := by decide +kernel
theorem dX7_sheet_37 : decode cX7_sheet 37 = .ok (.ifCond .ge 11, 3) := by decide +kernel
theorem dX7_sheet_40 : decode cX7_sheet 40 = .ok (.aload_n 0, 1) := by decide +kernel
theorem dX7_sheet_41 : decode cX7_sheet 41 = .ok (.ldc_w 351, 3) := by decide +kernel
theorem dX7_sheet_44 : decode cX7_sheet 44 = .ok (.invokevirtual 45, 3) := by decide +kernel
theorem dX7_sheet_47 : decode cX7_sheet 47 = .ok (.ireturn, 1) := by decide +kernel
theorem dX7_sheet_48 : decode cX7_sheet 48 = .ok (.iload_n 3, 1) := by decide +kernel
theorem dX7_sheet_49 : decode cX7_sheet 49 = .ok (.bipush 40, 2) := by decide +kernel
theorem dX7_sheet_51 : decode cX7_sheet 51 = .ok (.if_icmp .le 10, 3) := by decide +kernel
theorem dX7_sheet_54 : decode cX7_sheet 54 = .ok (.aload_n 0, 1) := by decide +kernel
theorem dX7_sheet_55 : decode cX7_sheet 55 = .ok (.ldc 43, 2) := by decide +kernel
theorem dX7_sheet_57 : decode cX7_sheet 57 = .ok (.invokevirtual 45, 3) := by decide +kernel
theorem dX7_sheet_60 : decode cX7_sheet 60 = .ok (.ireturn, 1) := by decide +kernel
theorem dX7_sheet_61 : decode cX7_sheet 61 = .ok (.aload_n 0, 1) := by decide +kernel
theorem dX7_sheet_62 : decode cX7_sheet 62 = .ok (.getfield 34, 3) := by decide +kernel
theorem dX7_sheet_65 : decode cX7_sheet 65 = .ok (.iload_n 1, 1) := by decide +kernel
theorem dX7_sheet_66 : decode cX7_sheet 66 = .ok (.iload_n 2, 1) := by decide +kernel
theorem dX7_sheet_67 : decode cX7_sheet 67 = .ok (.iastore, 1) := by decide +kernel
theorem dX7_sheet_68 : decode cX7_sheet 68 = .ok (.aload_n 0, 1) := by decide +kernel
theorem dX7_sheet_69 : decode cX7_sheet 69 = .ok (.getfield 37, 3) := by decide +kernel
theorem dX7_sheet_72 : decode cX7_sheet 72 = .ok (.iload_n 1, 1) := by decide +kernel
theorem dX7_sheet_73 : decode cX7_sheet 73 = .ok (.iload_n 2, 1) := by decide +kernel
theorem dX7_sheet_74 : decode cX7_sheet 74 = .ok (.ifCond .ne 7, 3) := by decide +kernel
theorem dX7_sheet_77 : decode cX7_sheet 77 = .ok (.iconst 0, 1) := by decide +kernel
theorem dX7_sheet_78 : decode cX7_sheet 78 = .ok (.goto 4, 3) := by decide +kernel
theorem dX7_sheet_81 : decode cX7_sheet 81 = .ok (.iload_n 3, 1) := by decide +kernel
theorem dX7_sheet_82 : decode cX7_sheet 82 = .ok (.iastore, 1) := by decide +kernel
theorem dX7_sheet_83 : decode cX7_sheet 83 = .ok (.iconst 0, 1) := by decide +kernel
theorem dX7_sheet_84 : decode cX7_sheet 84 = .ok (.istore 4, 2) := by decide +kernel
theorem dX7_sheet_86 : decode cX7_sheet 86 = .ok (.iload 4, 2) := by decide +kernel
theorem dX7_sheet_88 : decode cX7_sheet 88 = .ok (.bipush 40, 2) := by decide +kernel
theorem dX7_sheet_90 : decode cX7_sheet 90 = .ok (.if_icmp .ge 22, 3) := by decide +kernel
theorem dX7_sheet_93 : decode cX7_sheet 93 = .ok (.aload_n 0, 1) := by decide +kernel
theorem dX7_sheet_94 : decode cX7_sheet 94 = .ok (.getfield 40, 3) := by decide +kernel
theorem dX7_sheet_97 : decode cX7_sheet 97 = .ok (.bipush 40, 2) := by decide +kernel
theorem dX7_sheet_99 : decode cX7_sheet 99 = .ok (.iload_n 1, 1) := by decide +kernel
theorem dX7_sheet_100 : decode cX7_sheet 100 = .ok (.imul, 1) := by decide +kernel
theorem dX7_sheet_101 : decode cX7_sheet 101 = .ok (.iload 4, 2) := by decide +kernel
theorem dX7_sheet_103 : decode cX7_sheet 103 = .ok (.iadd, 1) := by decide +kernel
theorem dX7_sheet_104 : decode cX7_sheet 104 = .ok (.iconst 0, 1) := by decide +kernel
theorem dX7_sheet_105 : decode cX7_sheet 105 = .ok (.iastore, 1) := by decide +kernel
theorem dX7_sheet_106 : decode cX7_sheet 106 = .ok (.iinc 4 1, 3) := by decide +kernel
theorem dX7_sheet_109 : decode cX7_sheet 109 = .ok (.goto (-23), 3) := by decide +kernel
theorem dX7_sheet_112 : decode cX7_sheet 112 = .ok (.aload_n 0, 1) := by decide +kernel
theorem dX7_sheet_113 : decode cX7_sheet 113 = .ok (.getfield 37, 3) := by decide +kernel
theorem dX7_sheet_116 : decode cX7_sheet 116 = .ok (.iload_n 1, 1) := by decide +kernel
theorem dX7_sheet_117 : decode cX7_sheet 117 = .ok (.iaload, 1) := by decide +kernel
theorem dX7_sheet_118 : decode cX7_sheet 118 = .ok (.ireturn, 1) := by decide +kernel
set_option maxRecDepth 20000 in
theorem ggX7_write_X7_isSheet : GoodIn wsX7_write wsX7_isSheet := goodIn_r _ [9, 10, 11, 12, 8, 13] (by decide +kernel) (by decide +kernel)
set_option maxRecDepth 20000 in
theorem gX7_write_X7_isSheet : GoodIn wsX7_write (va_wsS RX7 348 yX7_isSheet wsX7_isSheet) := goodIn_app (goodIn_of _ (by decide +kernel)) ggX7_write_X7_isSheet
set_option maxRecDepth 20000 in
theorem ggX7_write_X7_finds : GoodIn wsX7_write wsX7_finds := goodIn_r _ [17, 18, 1, 19, 20, 21, 22, 23, 24, 25, 26, 27, 28, 29, 30, 31, 32, 33, 34, 35, 36] (by decide +kernel) (by decide +kernel)
set_option maxRecDepth 20000 in
theorem gX7_write_X7_finds : GoodIn wsX7_write (wsV RX7 45 RX7 yX7_finds wsX7_finds) := goodIn_app (goodIn_of _ (by decide +kernel)) ggX7_write_X7_finds
set_option maxRecDepth 20000 in
theorem ggX7_write_X7_in : GoodIn wsX7_write wsX7_in := goodIn_r _ [13] (by decide +kernel) (by decide +kernel)
set_option maxRecDepth 20000 in
theorem gX7_write_X7_in : GoodIn wsX7_write (va_wsS RX7 51 yX7_in wsX7_in) := goodIn_app (goodIn_of _ (by decide +kernel)) ggX7_write_X7_in
theorem dX7_write_0 : decode cX7_write 0 = .ok (.iload_n 1, 1) := by decide +kernel
theorem dX7_write_1 : decode cX7_write 1 = .ok (.invokestatic 348, 3) := by decide +kernel
theorem dX7_write_4 : decode cX7_write 4 = .ok (.ifCond .ne 10, 3) := by decide +kernel
theorem dX7_write_7 : decode cX7_write 7 = .ok (.aload_n 0, 1) := by decide +kernel
theorem dX7_write_8 : decode cX7_write 8 = .ok (.ldc 43, 2) := by decide +kernel
theorem dX7_write_10 : decode cX7_write 10 = .ok (.invokevirtual 45, 3) := by decide +kernel
theorem dX7_write_13 : decode cX7_write 13 = .ok (.ireturn, 1) := by decide +kernel
theorem dX7_write_14 : decode cX7_write 14 = .ok (.aload_n 0, 1) := by decide +kernel
theorem dX7_write_15 : decode cX7_write 15 = .ok (.getfield 34, 3) := by decide +kernel
theorem dX7_write_18 : decode cX7_write 18 = .ok (.iload_n 1, 1) := by decide +kernel
theorem dX7_write_19 : decode cX7_write 19 = .ok (.iaload, 1) := by decide +kernel
theorem dX7_write_20 : decode cX7_write 20 = .ok (.ifCond .ne 11, 3) := by decide +kernel
theorem dX7_write_23 : decode cX7_write 23 = .ok (.aload_n 0, 1) := by decide +kernel
theorem dX7_write_24 : decode cX7_write 24 = .ok (.ldc_w 341, 3) := by decide +kernel
theorem dX7_write_27 : decode cX7_write 27 = .ok (.invokevirtual 45, 3) := by decide +kernel
theorem dX7_write_30 : decode cX7_write 30 = .ok (.ireturn, 1) := by decide +kernel
theorem dX7_write_31 : decode cX7_write 31 = .ok (.iload_n 2, 1) := by decide +kernel
theorem dX7_write_32 : decode cX7_write 32 = .ok (.i2l, 1) := by decide +kernel
theorem dX7_write_33 : decode cX7_write 33 = .ok (.lconst 0, 1) := by decide +kernel
theorem dX7_write_34 : decode cX7_write 34 = .ok (.aload_n 0, 1) := by decide +kernel
theorem dX7_write_35 : decode cX7_write 35 = .ok (.getfield 37, 3) := by decide +kernel
theorem dX7_write_38 : decode cX7_write 38 = .ok (.iload_n 1, 1) := by decide +kernel
theorem dX7_write_39 : decode cX7_write 39 = .ok (.iaload, 1) := by decide +kernel
theorem dX7_write_40 : decode cX7_write 40 = .ok (.iconst 1, 1) := by decide +kernel
theorem dX7_write_41 : decode cX7_write 41 = .ok (.isub, 1) := by decide +kernel
theorem dX7_write_42 : decode cX7_write 42 = .ok (.i2l, 1) := by decide +kernel
theorem dX7_write_43 : decode cX7_write 43 = .ok (.invokestatic 51, 3) := by decide +kernel
theorem dX7_write_46 : decode cX7_write 46 = .ok (.ifCond .ne 10, 3) := by decide +kernel
theorem dX7_write_49 : decode cX7_write 49 = .ok (.aload_n 0, 1) := by decide +kernel
theorem dX7_write_50 : decode cX7_write 50 = .ok (.ldc 43, 2) := by decide +kernel
theorem dX7_write_52 : decode cX7_write 52 = .ok (.invokevirtual 45, 3) := by decide +kernel
theorem dX7_write_55 : decode cX7_write 55 = .ok (.ireturn, 1) := by decide +kernel
theorem dX7_write_56 : decode cX7_write 56 = .ok (.aload_n 0, 1) := by decide +kernel
theorem dX7_write_57 : decode cX7_write 57 = .ok (.getfield 40, 3) := by decide +kernel
theorem dX7_write_60 : decode cX7_write 60 = .ok (.bipush 40, 2) := by decide +kernel
theorem dX7_write_62 : decode cX7_write 62 = .ok (.iload_n 1, 1) := by decide +kernel
theorem dX7_write_63 : decode cX7_write 63 = .ok (.imul, 1) := by decide +kernel
theorem dX7_write_64 : decode cX7_write 64 = .ok (.iload_n 2, 1) := by decide +kernel
theorem dX7_write_65 : decode cX7_write 65 = .ok (.iadd, 1) := by decide +kernel
theorem dX7_write_66 : decode cX7_write 66 = .ok (.aload_n 0, 1) := by decide +kernel
theorem dX7_write_67 : decode cX7_write 67 = .ok (.getfield 34, 3) := by decide +kernel
theorem dX7_write_70 : decode cX7_write 70 = .ok (.iload_n 1, 1) := by decide +kernel
theorem dX7_write_71 : decode cX7_write 71 = .ok (.iaload, 1) := by decide +kernel
theorem dX7_write_72 : decode cX7_write 72 = .ok (.bipush 8, 2) := by decide +kernel
theorem dX7_write_74 : decode cX7_write 74 = .ok (.if_icmp .ne 8, 3) := by decide +kernel
theorem dX7_write_77 : decode cX7_write 77 = .ok (.iload_n 3, 1) := by decide +kernel
theorem dX7_write_78 : decode cX7_write 78 = .ok (.i2b, 1) := by decide +kernel
theorem dX7_write_79 : decode cX7_write 79 = .ok (.goto 20, 3) := by decide +kernel
theorem dX7_write_82 : decode cX7_write 82 = .ok (.aload_n 0, 1) := by decide +kernel
theorem dX7_write_83 : decode cX7_write 83 = .ok (.getfield 34, 3) := by decide +kernel
theorem dX7_write_86 : decode cX7_write 86 = .ok (.iload_n 1, 1) := by decide +kernel
theorem dX7_write_87 : decode cX7_write 87 = .ok (.iaload, 1) := by decide +kernel
theorem dX7_write_88 : decode cX7_write 88 = .ok (.bipush 16, 2) := by decide +kernel
theorem dX7_write_90 : decode cX7_write 90 = .ok (.if_icmp .ne 8, 3) := by decide +kernel
theorem dX7_write_93 : decode cX7_write 93 = .ok (.iload_n 3, 1) := by decide +kernel
theorem dX7_write_94 : decode cX7_write 94 = .ok (.i2s, 1) := by decide +kernel
theorem dX7_write_95 : decode cX7_write 95 = .ok (.goto 4, 3) := by decide +kernel
theorem dX7_write_98 : decode cX7_write 98 = .ok (.iload_n 3, 1) := by decide +kernel
theorem dX7_write_99 : decode cX7_write 99 = .ok (.iastore, 1) := by decide +kernel
theorem dX7_write_100 : decode cX7_write 100 = .ok (.iconst 1, 1) := by decide +kernel
theorem dX7_write_101 : decode cX7_write 101 = .ok (.ireturn, 1) := by decide +kernel
set_option maxRecDepth 20000 in
theorem ggX7_copy_X7_isSheet : GoodIn wsX7_copy wsX7_isSheet := goodIn_r _ [10, 11, 12, 13, 9, 14] (by decide +kernel) (by decide +kernel)
set_option maxRecDepth 20000 in
theorem gX7_copy_X7_isSheet : GoodIn wsX7_copy (va_wsS RX7 348 yX7_isSheet wsX7_isSheet) := goodIn_app (goodIn_of _ (by decide +kernel)) ggX7_copy_X7_isSheet
set_option maxRecDepth 20000 in
theorem ggX7_copy_X7_finds : GoodIn wsX7_copy wsX7_finds := goodIn_r _ [18, 19, 1, 20, 21, 22, 23, 24, 25, 26, 27, 28, 29, 30, 31, 32, 33, 34, 35, 36, 37] (by decide +kernel) (by decide +kernel)
set_option maxRecDepth 20000 in
theorem gX7_copy_X7_finds : GoodIn wsX7_copy (wsV RX7 45 RX7 yX7_finds wsX7_finds) := goodIn_app (goodIn_of _ (by decide +kernel)) ggX7_copy_X7_finds
theorem dX7_copy_0 : decode cX7_copy 0 = .ok (.iload_n 1, 1) := by decide +kernel
theorem dX7_copy_1 : decode cX7_copy 1 = .ok (.invokestatic 348, 3) := by decide +kernel
theorem dX7_copy_4 : decode cX7_copy 4 = .ok (.ifCond .eq 10, 3) := by decide +kernel
theorem dX7_copy_7 : decode cX7_copy 7 = .ok (.iload_n 3, 1) := by decide +kernel
theorem dX7_copy_8 : decode cX7_copy 8 = .ok (.invokestatic 348, 3) := by decide +kernel
theorem dX7_copy_11 : decode cX7_copy 11 = .ok (.ifCond .ne 10, 3) := by decide +kernel
theorem dX7_copy_14 : decode cX7_copy 14 = .ok (.aload_n 0, 1) := by decide +kernel
theorem dX7_copy_15 : decode cX7_copy 15 = .ok (.ldc 43, 2) := by decide +kernel
theorem dX7_copy_17 : decode cX7_copy 17 = .ok (.invokevirtual 45, 3) := by decide +kernel
theorem dX7_copy_20 : decode cX7_copy 20 = .ok (.ireturn, 1) := by decide +kernel
theorem dX7_copy_21 : decode cX7_copy 21 = .ok (.aload_n 0, 1) := by decide +kernel
theorem dX7_copy_22 : decode cX7_copy 22 = .ok (.getfield 34, 3) := by decide +kernel
theorem dX7_copy_25 : decode cX7_copy 25 = .ok (.iload_n 1, 1) := by decide +kernel
theorem dX7_copy_26 : decode cX7_copy 26 = .ok (.iaload, 1) := by decide +kernel
theorem dX7_copy_27 : decode cX7_copy 27 = .ok (.ifCond .eq 12, 3) := by decide +kernel
theorem dX7_copy_30 : decode cX7_copy 30 = .ok (.aload_n 0, 1) := by decide +kernel
theorem dX7_copy_31 : decode cX7_copy 31 = .ok (.getfield 34, 3) := by decide +kernel
theorem dX7_copy_34 : decode cX7_copy 34 = .ok (.iload_n 3, 1) := by decide +kernel
theorem dX7_copy_35 : decode cX7_copy 35 = .ok (.iaload, 1) := by decide +kernel
theorem dX7_copy_36 : decode cX7_copy 36 = .ok (.ifCond .ne 11, 3) := by decide +kernel
theorem dX7_copy_39 : decode cX7_copy 39 = .ok (.aload_n 0, 1) := by decide +kernel
theorem dX7_copy_40 : decode cX7_copy 40 = .ok (.ldc_w 341, 3) := by decide +kernel
theorem dX7_copy_43 : decode cX7_copy 43 = .ok (.invokevirtual 45, 3) := by decide +kernel
theorem dX7_copy_46 : decode cX7_copy 46 = .ok (.ireturn, 1) := by decide +kernel
theorem dX7_copy_47 : decode cX7_copy 47 = .ok (.aload_n 0, 1) := by decide +kernel
theorem dX7_copy_48 : decode cX7_copy 48 = .ok (.getfield 34, 3) := by decide +kernel
theorem dX7_copy_51 : decode cX7_copy 51 = .ok (.iload_n 1, 1) := by decide +kernel
theorem dX7_copy_52 : decode cX7_copy 52 = .ok (.iaload, 1) := by decide +kernel
theorem dX7_copy_53 : decode cX7_copy 53 = .ok (.aload_n 0, 1) := by decide +kernel
theorem dX7_copy_54 : decode cX7_copy 54 = .ok (.getfield 34, 3) := by decide +kernel
theorem dX7_copy_57 : decode cX7_copy 57 = .ok (.iload_n 3, 1) := by decide +kernel
theorem dX7_copy_58 : decode cX7_copy 58 = .ok (.iaload, 1) := by decide +kernel
theorem dX7_copy_59 : decode cX7_copy 59 = .ok (.if_icmp .eq 11, 3) := by decide +kernel
theorem dX7_copy_62 : decode cX7_copy 62 = .ok (.aload_n 0, 1) := by decide +kernel
theorem dX7_copy_63 : decode cX7_copy 63 = .ok (.ldc_w 345, 3) := by decide +kernel
theorem dX7_copy_66 : decode cX7_copy 66 = .ok (.invokevirtual 45, 3) := by decide +kernel
theorem dX7_copy_69 : decode cX7_copy 69 = .ok (.ireturn, 1) := by decide +kernel
theorem dX7_copy_70 : decode cX7_copy 70 = .ok (.iload 5, 2) := by decide +kernel
theorem dX7_copy_72 : decode cX7_copy 72 = .ok (.ifCond .lt 39, 3) := by decide +kernel
theorem dX7_copy_75 : decode cX7_copy 75 = .ok (.iload_n 2, 1) := by decide +kernel
theorem dX7_copy_76 : decode cX7_copy 76 = .ok (.ifCond .lt 35, 3) := by decide +kernel
theorem dX7_copy_79 : decode cX7_copy 79 = .ok (.iload 4, 2) := by decide +kernel
theorem dX7_copy_81 : decode cX7_copy 81 = .ok (.ifCond .lt 30, 3) := by decide +kernel
theorem dX7_copy_84 : decode cX7_copy 84 = .ok (.iload 5, 2) := by decide +kernel
theorem dX7_copy_86 : decode cX7_copy 86 = .ok (.aload_n 0, 1) := by decide +kernel
theorem dX7_copy_87 : decode cX7_copy 87 = .ok (.getfield 37, 3) := by decide +kernel
theorem dX7_copy_90 : decode cX7_copy 90 = .ok (.iload_n 1, 1) := by decide +kernel
theorem dX7_copy_91 : decode cX7_copy 91 = .ok (.iaload, 1) := by decide +kernel
theorem dX7_copy_92 : decode cX7_copy 92 = .ok (.iload_n 2, 1) := by decide +kernel
theorem dX7_copy_93 : decode cX7_copy 93 = .ok (.isub, 1) := by decide +kernel
theorem dX7_copy_94 : decode cX7_copy 94 = .ok (.if_icmp .gt 17, 3) := by decide +kernel
theorem dX7_copy_97 : decode cX7_copy 97 = .ok (.iload 5, 2) := by decide +kernel
theorem dX7_copy_99 : decode cX7_copy 99 = .ok (.aload_n 0, 1) := by decide +kernel
theorem dX7_copy_100 : decode cX7_copy 100 = .ok (.getfield 37, 3) := by decide +kernel
theorem dX7_copy_103 : decode cX7_copy 103 = .ok (.iload_n 3, 1) := by decide +kernel
theorem dX7_copy_104 : decode cX7_copy 104 = .ok (.iaload, 1) := by decide +kernel
theorem dX7_copy_105 : decode cX7_copy 105 = .ok (.iload 4, 2) := by decide +kernel
theorem dX7_copy_107 : decode cX7_copy 107 = .ok (.isub, 1) := by decide +kernel
theorem dX7_copy_108 : decode cX7_copy 108 = .ok (.if_icmp .le 10, 3) := by decide +kernel
theorem dX7_copy_111 : decode cX7_copy 111 = .ok (.aload_n 0, 1) := by decide +kernel
theorem dX7_copy_112 : decode cX7_copy 112 = .ok (.ldc 43, 2) := by decide +kernel
theorem dX7_copy_114 : decode cX7_copy 114 = .ok (.invokevirtual 45, 3) := by decide +kernel
theorem dX7_copy_117 : decode cX7_copy 117 = .ok (.ireturn, 1) := by decide +kernel
theorem dX7_copy_118 : decode cX7_copy 118 = .ok (.iload_n 1, 1) := by decide +kernel
theorem dX7_copy_119 : decode cX7_copy 119 = .ok (.iload_n 3, 1) := by decide +kernel
theorem dX7_copy_120 : decode cX7_copy 120 = .ok (.if_icmp .ne 13, 3) := by decide +kernel
theorem dX7_copy_123 : decode cX7_copy 123 = .ok (.iload_n 2, 1) := by decide +kernel
theorem dX7_copy_124 : decode cX7_copy 124 = .ok (.iload 4, 2) := by decide +kernel
theorem dX7_copy_126 : decode cX7_copy 126 = .ok (.if_icmp .ge 7, 3) := by decide +kernel
theorem dX7_copy_129 : decode cX7_copy 129 = .ok (.iconst 1, 1) := by decide +kernel
theorem dX7_copy_130 : decode cX7_copy 130 = .ok (.goto 4, 3) := by decide +kernel
theorem dX7_copy_133 : decode cX7_copy 133 = .ok (.iconst 0, 1) := by decide +kernel
theorem dX7_copy_134 : decode cX7_copy 134 = .ok (.istore 6, 2) := by decide +kernel
theorem dX7_copy_136 : decode cX7_copy 136 = .ok (.iconst 0, 1) := by decide +kernel
theorem dX7_copy_137 : decode cX7_copy 137 = .ok (.istore 7, 2) := by decide +kernel
theorem dX7_copy_139 : decode cX7_copy 139 = .ok (.iload 7, 2) := by decide +kernel
theorem dX7_copy_141 : decode cX7_copy 141 = .ok (.iload 5, 2) := by decide +kernel
theorem dX7_copy_143 : decode cX7_copy 143 = .ok (.if_icmp .ge 57, 3) := by decide +kernel
theorem dX7_copy_146 : decode cX7_copy 146 = .ok (.iload 6, 2) := by decide +kernel
theorem dX7_copy_148 : decode cX7_copy 148 = .ok (.ifCond .eq 13, 3) := by decide +kernel
theorem dX7_copy_151 : decode cX7_copy 151 = .ok (.iload 5, 2) := by decide +kernel
theorem dX7_copy_153 : decode cX7_copy 153 = .ok (.iconst 1, 1) := by decide +kernel
theorem dX7_copy_154 : decode cX7_copy 154 = .ok (.isub, 1) := by decide +kernel
theorem dX7_copy_155 : decode cX7_copy 155 = .ok (.iload 7, 2) := by decide +kernel
theorem dX7_copy_157 : decode cX7_copy 157 = .ok (.isub, 1) := by decide +kernel
theorem dX7_copy_158 : decode cX7_copy 158 = .ok (.goto 5, 3) := by decide +kernel
theorem dX7_copy_161 : decode cX7_copy 161 = .ok (.iload 7, 2) := by decide +kernel
theorem dX7_copy_163 : decode cX7_copy 163 = .ok (.istore 8, 2) := by decide +kernel
theorem dX7_copy_165 : decode cX7_copy 165 = .ok (.aload_n 0, 1) := by decide +kernel
theorem dX7_copy_166 : decode cX7_copy 166 = .ok (.getfield 40, 3) := by decide +kernel
theorem dX7_copy_169 : decode cX7_copy 169 = .ok (.bipush 40, 2) := by decide +kernel
theorem dX7_copy_171 : decode cX7_copy 171 = .ok (.iload_n 3, 1) := by decide +kernel
theorem dX7_copy_172 : decode cX7_copy 172 = .ok (.imul, 1) := by decide +kernel
theorem dX7_copy_173 : decode cX7_copy 173 = .ok (.iload 4, 2) := by decide +kernel
theorem dX7_copy_175 : decode cX7_copy 175 = .ok (.iadd, 1) := by decide +kernel
theorem dX7_copy_176 : decode cX7_copy 176 = .ok (.iload 8, 2) := by decide +kernel
theorem dX7_copy_178 : decode cX7_copy 178 = .ok (.iadd, 1) := by decide +kernel
theorem dX7_copy_179 : decode cX7_copy 179 = .ok (.aload_n 0, 1) := by decide +kernel
theorem dX7_copy_180 : decode cX7_copy 180 = .ok (.getfield 40, 3) := by decide +kernel
theorem dX7_copy_183 : decode cX7_copy 183 = .ok (.bipush 40, 2) := by decide +kernel
theorem dX7_copy_185 : decode cX7_copy 185 = .ok (.iload_n 1, 1) := by decide +kernel
theorem dX7_copy_186 : decode cX7_copy 186 = .ok (.imul, 1) := by decide +kernel
theorem dX7_copy_187 : decode cX7_copy 187 = .ok (.iload_n 2, 1) := by decide +kernel
theorem dX7_copy_188 : decode cX7_copy 188 = .ok (.iadd, 1) := by decide +kernel
theorem dX7_copy_189 : decode cX7_copy 189 = .ok (.iload 8, 2) := by decide +kernel
theorem dX7_copy_191 : decode cX7_copy 191 = .ok (.iadd, 1) := by decide +kernel
theorem dX7_copy_192 : decode cX7_copy 192 = .ok (.iaload, 1) := by decide +kernel
theorem dX7_copy_193 : decode cX7_copy 193 = .ok (.iastore, 1) := by decide +kernel
theorem dX7_copy_194 : decode cX7_copy 194 = .ok (.iinc 7 1, 3) := by decide +kernel
theorem dX7_copy_197 : decode cX7_copy 197 = .ok (.goto (-58), 3) := by decide +kernel
theorem dX7_copy_200 : decode cX7_copy 200 = .ok (.iload 5, 2) := by decide +kernel
theorem dX7_copy_202 : decode cX7_copy 202 = .ok (.ireturn, 1) := by decide +kernel
set_option maxRecDepth 20000 in
theorem ggX7_load_X7_isSheet : GoodIn wsX7_load wsX7_isSheet := goodIn_r _ [9, 10, 11, 12, 8, 13] (by decide +kernel) (by decide +kernel)
set_option maxRecDepth 20000 in
theorem gX7_load_X7_isSheet : GoodIn wsX7_load (va_wsS RX7 348 yX7_isSheet wsX7_isSheet) := goodIn_app (goodIn_of _ (by decide +kernel)) ggX7_load_X7_isSheet
set_option maxRecDepth 20000 in
theorem ggX7_load_X7_finds : GoodIn wsX7_load wsX7_finds := goodIn_r _ [17, 18, 1, 40, 41, 42, 43, 44, 45, 46, 47, 48, 49, 50, 51, 52, 53, 54, 55, 56, 57] (by decide +kernel) (by decide +kernel)
set_option maxRecDepth 20000 in
theorem gX7_load_X7_finds : GoodIn wsX7_load (wsV RX7 45 RX7 yX7_finds wsX7_finds) := goodIn_app (goodIn_of _ (by decide +kernel)) ggX7_load_X7_finds
set_option maxRecDepth 20000 in
theorem ggX7_load_X7_isBlock : GoodIn wsX7_load wsX7_isBlock := goodIn_r _ [22, 23, 11, 12, 8, 13, 40, 41, 42, 43, 44, 45, 46, 47, 48, 49, 50, 51, 52, 53, 54, 55, 56, 57] (by decide +kernel) (by decide +kernel)
set_option maxRecDepth 20000 in
theorem gX7_load_X7_isBlock : GoodIn wsX7_load (wsV RX7 114 RX7 yX7_isBlock wsX7_isBlock) := goodIn_app (goodIn_of _ (by decide +kernel)) ggX7_load_X7_isBlock
set_option maxRecDepth 20000 in
theorem ggX7_load_X7_isSome : GoodIn wsX7_load wsX7_isSome := goodIn_r _ [26, 27, 11, 12, 8, 13] (by decide +kernel) (by decide +kernel)
set_option maxRecDepth 20000 in
theorem gX7_load_X7_isSome : GoodIn wsX7_load (va_wsS RX7 71 yX7_isSome wsX7_isSome) := goodIn_app (goodIn_of _ (by decide +kernel)) ggX7_load_X7_isSome
set_option maxRecDepth 20000 in
theorem ggX7_load_X7_isGone : GoodIn wsX7_load wsX7_isGone := goodIn_r _ [31, 32, 33, 34, 8, 35, 23, 40, 41, 42, 43, 44, 45, 46, 47, 48, 49, 50, 51, 52, 53, 54, 55, 56, 57] (by decide +kernel) (by decide +kernel)
set_option maxRecDepth 20000 in
theorem gX7_load_X7_isGone : GoodIn wsX7_load (wsV RX7 105 RX7 yX7_isGone wsX7_isGone) := goodIn_app (goodIn_of _ (by decide +kernel)) ggX7_load_X7_isGone
set_option maxRecDepth 20000 in
theorem ggX7_load_X7_makes : GoodIn wsX7_load wsX7_makes := goodIn_r _ [39, 23, 40, 41, 42, 43, 44, 45, 46, 47, 48, 49, 50, 51, 52, 53, 54, 55, 56, 57] (by decide +kernel) (by decide +kernel)
set_option maxRecDepth 20000 in
theorem gX7_load_X7_makes : GoodIn wsX7_load (wsV RX7 140 RX7 yX7_makes wsX7_makes) := goodIn_app (goodIn_of _ (by decide +kernel)) ggX7_load_X7_makes
theorem dX7_load_0 : decode cX7_load 0 = .ok (.iload_n 1, 1) := by decide +kernel
theorem dX7_load_1 : decode cX7_load 1 = .ok (.invokestatic 348, 3) := by decide +kernel
theorem dX7_load_4 : decode cX7_load 4 = .ok (.ifCond .ne 10, 3) := by decide +kernel
theorem dX7_load_7 : decode cX7_load 7 = .ok (.aload_n 0, 1) := by decide +kernel
theorem dX7_load_8 : decode cX7_load 8 = .ok (.ldc 43, 2) := by decide +kernel
theorem dX7_load_10 : decode cX7_load 10 = .ok (.invokevirtual 45, 3) := by decide +kernel
theorem dX7_load_13 : decode cX7_load 13 = .ok (.ireturn, 1) := by decide +kernel
theorem dX7_load_14 : decode cX7_load 14 = .ok (.aload_n 0, 1) := by decide +kernel
theorem dX7_load_15 : decode cX7_load 15 = .ok (.getfield 34, 3) := by decide +kernel
theorem dX7_load_18 : decode cX7_load 18 = .ok (.iload_n 1, 1) := by decide +kernel
theorem dX7_load_19 : decode cX7_load 19 = .ok (.iaload, 1) := by decide +kernel
theorem dX7_load_20 : decode cX7_load 20 = .ok (.ifCond .ne 11, 3) := by decide +kernel
theorem dX7_load_23 : decode cX7_load 23 = .ok (.aload_n 0, 1) := by decide +kernel
theorem dX7_load_24 : decode cX7_load 24 = .ok (.ldc_w 341, 3) := by decide +kernel
theorem dX7_load_27 : decode cX7_load 27 = .ok (.invokevirtual 45, 3) := by decide +kernel
theorem dX7_load_30 : decode cX7_load 30 = .ok (.ireturn, 1) := by decide +kernel
theorem dX7_load_31 : decode cX7_load 31 = .ok (.iconst 0, 1) := by decide +kernel
theorem dX7_load_32 : decode cX7_load 32 = .ok (.istore_n 2, 1) := by decide +kernel
theorem dX7_load_33 : decode cX7_load 33 = .ok (.iload_n 2, 1) := by decide +kernel
theorem dX7_load_34 : decode cX7_load 34 = .ok (.aload_n 0, 1) := by decide +kernel
theorem dX7_load_35 : decode cX7_load 35 = .ok (.getfield 37, 3) := by decide +kernel
theorem dX7_load_38 : decode cX7_load 38 = .ok (.iload_n 1, 1) := by decide +kernel
theorem dX7_load_39 : decode cX7_load 39 = .ok (.iaload, 1) := by decide +kernel
theorem dX7_load_40 : decode cX7_load 40 = .ok (.if_icmp .ge 58, 3) := by decide +kernel
theorem dX7_load_43 : decode cX7_load 43 = .ok (.aload_n 0, 1) := by decide +kernel
theorem dX7_load_44 : decode cX7_load 44 = .ok (.iload_n 2, 1) := by decide +kernel
theorem dX7_load_45 : decode cX7_load 45 = .ok (.invokevirtual 114, 3) := by decide +kernel
theorem dX7_load_48 : decode cX7_load 48 = .ok (.ifCond .eq 50, 3) := by decide +kernel
theorem dX7_load_51 : decode cX7_load 51 = .ok (.aload_n 0, 1) := by decide +kernel
theorem dX7_load_52 : decode cX7_load 52 = .ok (.getfield 40, 3) := by decide +kernel
theorem dX7_load_55 : decode cX7_load 55 = .ok (.bipush 40, 2) := by decide +kernel
theorem dX7_load_57 : decode cX7_load 57 = .ok (.iload_n 1, 1) := by decide +kernel
theorem dX7_load_58 : decode cX7_load 58 = .ok (.imul, 1) := by decide +kernel
theorem dX7_load_59 : decode cX7_load 59 = .ok (.iload_n 2, 1) := by decide +kernel
theorem dX7_load_60 : decode cX7_load 60 = .ok (.iadd, 1) := by decide +kernel
theorem dX7_load_61 : decode cX7_load 61 = .ok (.iaload, 1) := by decide +kernel
theorem dX7_load_62 : decode cX7_load 62 = .ok (.invokestatic 71, 3) := by decide +kernel
theorem dX7_load_65 : decode cX7_load 65 = .ok (.ifCond .eq 33, 3) := by decide +kernel
theorem dX7_load_68 : decode cX7_load 68 = .ok (.aload_n 0, 1) := by decide +kernel
theorem dX7_load_69 : decode cX7_load 69 = .ok (.iload_n 2, 1) := by decide +kernel
theorem dX7_load_70 : decode cX7_load 70 = .ok (.invokevirtual 105, 3) := by decide +kernel
theorem dX7_load_73 : decode cX7_load 73 = .ok (.ifCond .ne 19, 3) := by decide +kernel
theorem dX7_load_76 : decode cX7_load 76 = .ok (.aload_n 0, 1) := by decide +kernel
theorem dX7_load_77 : decode cX7_load 77 = .ok (.iload_n 2, 1) := by decide +kernel
theorem dX7_load_78 : decode cX7_load 78 = .ok (.aload_n 0, 1) := by decide +kernel
theorem dX7_load_79 : decode cX7_load 79 = .ok (.getfield 40, 3) := by decide +kernel
theorem dX7_load_82 : decode cX7_load 82 = .ok (.bipush 40, 2) := by decide +kernel
theorem dX7_load_84 : decode cX7_load 84 = .ok (.iload_n 1, 1) := by decide +kernel
theorem dX7_load_85 : decode cX7_load 85 = .ok (.imul, 1) := by decide +kernel
theorem dX7_load_86 : decode cX7_load 86 = .ok (.iload_n 2, 1) := by decide +kernel
theorem dX7_load_87 : decode cX7_load 87 = .ok (.iadd, 1) := by decide +kernel
theorem dX7_load_88 : decode cX7_load 88 = .ok (.iaload, 1) := by decide +kernel
theorem dX7_load_89 : decode cX7_load 89 = .ok (.invokevirtual 140, 3) := by decide +kernel
theorem dX7_load_92 : decode cX7_load 92 = .ok (.iinc 2 1, 3) := by decide +kernel
theorem dX7_load_95 : decode cX7_load 95 = .ok (.goto (-62), 3) := by decide +kernel
theorem dX7_load_98 : decode cX7_load 98 = .ok (.iload_n 2, 1) := by decide +kernel
theorem dX7_load_99 : decode cX7_load 99 = .ok (.ireturn, 1) := by decide +kernel
set_option maxRecDepth 20000 in
theorem ggX7_judge_X7_isSheet : GoodIn wsX7_judge wsX7_isSheet := goodIn_r _ [9, 10, 11, 12, 8, 13] (by decide +kernel) (by decide +kernel)
set_option maxRecDepth 20000 in
theorem gX7_judge_X7_isSheet : GoodIn wsX7_judge (va_wsS RX7 348 yX7_isSheet wsX7_isSheet) := goodIn_app (goodIn_of _ (by decide +kernel)) ggX7_judge_X7_isSheet
set_option maxRecDepth 20000 in
theorem ggX7_judge_X7_finds : GoodIn wsX7_judge wsX7_finds := goodIn_r _ [17, 18, 1, 71, 72, 73, 74, 75, 76, 77, 78, 79, 80, 81, 82, 83, 84, 85, 86, 87, 88] (by decide +kernel) (by decide +kernel)
set_option maxRecDepth 20000 in
theorem gX7_judge_X7_finds : GoodIn wsX7_judge (wsV RX7 45 RX7 yX7_finds wsX7_finds) := goodIn_app (goodIn_of _ (by decide +kernel)) ggX7_judge_X7_finds
set_option maxRecDepth 20000 in
theorem ggX7_judge_X7_isBlock : GoodIn wsX7_judge wsX7_isBlock := goodIn_r _ [22, 23, 11, 12, 8, 13, 71, 72, 73, 74, 75, 76, 77, 78, 79, 80, 81, 82, 83, 84, 85, 86, 87, 88] (by decide +kernel) (by decide +kernel)
set_option maxRecDepth 20000 in
theorem gX7_judge_X7_isBlock : GoodIn wsX7_judge (wsV RX7 114 RX7 yX7_isBlock wsX7_isBlock) := goodIn_app (goodIn_of _ (by decide +kernel)) ggX7_judge_X7_isBlock
set_option maxRecDepth 20000 in
theorem ggX7_judge_X7_isGone : GoodIn wsX7_judge wsX7_isGone := goodIn_r _ [27, 28, 29, 30, 8, 31, 23, 71, 72, 73, 74, 75, 76, 77, 78, 79, 80, 81, 82, 83, 84, 85, 86, 87, 88] (by decide +kernel) (by decide +kernel)
set_option maxRecDepth 20000 in
theorem gX7_judge_X7_isGone : GoodIn wsX7_judge (wsV RX7 105 RX7 yX7_isGone wsX7_isGone) := goodIn_app (goodIn_of _ (by decide +kernel)) ggX7_judge_X7_isGone
set_option maxRecDepth 20000 in
theorem ggX7_judge_X7_has : GoodIn wsX7_judge wsX7_has := goodIn_r _ [34] (by decide +kernel) (by decide +kernel)
set_option maxRecDepth 20000 in
theorem gX7_judge_X7_has : GoodIn wsX7_judge (va_wsS RX7 83 yX7_has wsX7_has) := goodIn_app (goodIn_of _ (by decide +kernel)) ggX7_judge_X7_has
set_option maxRecDepth 20000 in
theorem ggX7_judge_X7_standsBy : GoodIn wsX7_judge wsX7_standsBy := goodIn_r _ [38, 28, 29, 30, 8, 31, 23, 39, 40, 41, 42, 43, 44, 45, 46, 47, 48, 49, 50, 51, 52, 53, 32, 33, 34, 54, 55, 56, 57, 58, 59, 60, 61, 62, 71, 72, 73, 74, 75, 76, 77, 78, 79, 80, 81, 82, 83, 84, 85, 86, 87, 88] (by decide +kernel) (by decide +kernel)
set_option maxRecDepth 20000 in
theorem gX7_judge_X7_standsBy : GoodIn wsX7_judge (wsV RX7 108 RX7 yX7_standsBy wsX7_standsBy) := goodIn_app (goodIn_of _ (by decide +kernel)) ggX7_judge_X7_standsBy
set_option maxRecDepth 20000 in
theorem ggX7_judge_X7_there : GoodIn wsX7_judge wsX7_there := goodIn_r _ [66, 23, 67, 68, 69, 8, 70, 24, 25, 26, 27, 28, 29, 30, 31, 71, 72, 73, 74, 75, 76, 77, 78, 79, 80, 81, 82, 83, 84, 85, 86, 87, 88] (by decide +kernel) (by decide +kernel)
set_option maxRecDepth 20000 in
theorem gX7_judge_X7_there : GoodIn wsX7_judge (wsV RX7 228 RX7 yX7_there wsX7_there) := goodIn_app (goodIn_of _ (by decide +kernel)) ggX7_judge_X7_there
theorem dX7_judge_0 : decode cX7_judge 0 = .ok (.iload_n 1, 1) := by decide +kernel
theorem dX7_judge_1 : decode cX7_judge 1 = .ok (.invokestatic 348, 3) := by decide +kernel
theorem dX7_judge_4 : decode cX7_judge 4 = .ok (.ifCond .ne 10, 3) := by decide +kernel
theorem dX7_judge_7 : decode cX7_judge 7 = .ok (.aload_n 0, 1) := by decide +kernel
theorem dX7_judge_8 : decode cX7_judge 8 = .ok (.ldc 43, 2) := by decide +kernel
theorem dX7_judge_10 : decode cX7_judge 10 = .ok (.invokevirtual 45, 3) := by decide +kernel
theorem dX7_judge_13 : decode cX7_judge 13 = .ok (.ireturn, 1) := by decide +kernel
theorem dX7_judge_14 : decode cX7_judge 14 = .ok (.aload_n 0, 1) := by decide +kernel
theorem dX7_judge_15 : decode cX7_judge 15 = .ok (.getfield 34, 3) := by decide +kernel
theorem dX7_judge_18 : decode cX7_judge 18 = .ok (.iload_n 1, 1) := by decide +kernel
theorem dX7_judge_19 : decode cX7_judge 19 = .ok (.iaload, 1) := by decide +kernel
theorem dX7_judge_20 : decode cX7_judge 20 = .ok (.ifCond .ne 11, 3) := by decide +kernel
theorem dX7_judge_23 : decode cX7_judge 23 = .ok (.aload_n 0, 1) := by decide +kernel
theorem dX7_judge_24 : decode cX7_judge 24 = .ok (.ldc_w 341, 3) := by decide +kernel
theorem dX7_judge_27 : decode cX7_judge 27 = .ok (.invokevirtual 45, 3) := by decide +kernel
theorem dX7_judge_30 : decode cX7_judge 30 = .ok (.ireturn, 1) := by decide +kernel
theorem dX7_judge_31 : decode cX7_judge 31 = .ok (.iconst 0, 1) := by decide +kernel
theorem dX7_judge_32 : decode cX7_judge 32 = .ok (.istore_n 2, 1) := by decide +kernel
theorem dX7_judge_33 : decode cX7_judge 33 = .ok (.iconst 0, 1) := by decide +kernel
theorem dX7_judge_34 : decode cX7_judge 34 = .ok (.istore_n 3, 1) := by decide +kernel
theorem dX7_judge_35 : decode cX7_judge 35 = .ok (.iload_n 3, 1) := by decide +kernel
theorem dX7_judge_36 : decode cX7_judge 36 = .ok (.aload_n 0, 1) := by decide +kernel
theorem dX7_judge_37 : decode cX7_judge 37 = .ok (.getfield 37, 3) := by decide +kernel
theorem dX7_judge_40 : decode cX7_judge 40 = .ok (.iload_n 1, 1) := by decide +kernel
theorem dX7_judge_41 : decode cX7_judge 41 = .ok (.iaload, 1) := by decide +kernel
theorem dX7_judge_42 : decode cX7_judge 42 = .ok (.if_icmp .ge 70, 3) := by decide +kernel
theorem dX7_judge_45 : decode cX7_judge 45 = .ok (.aload_n 0, 1) := by decide +kernel
theorem dX7_judge_46 : decode cX7_judge 46 = .ok (.getfield 40, 3) := by decide +kernel
theorem dX7_judge_49 : decode cX7_judge 49 = .ok (.bipush 40, 2) := by decide +kernel
theorem dX7_judge_51 : decode cX7_judge 51 = .ok (.iload_n 1, 1) := by decide +kernel
theorem dX7_judge_52 : decode cX7_judge 52 = .ok (.imul, 1) := by decide +kernel
theorem dX7_judge_53 : decode cX7_judge 53 = .ok (.iload_n 3, 1) := by decide +kernel
theorem dX7_judge_54 : decode cX7_judge 54 = .ok (.iadd, 1) := by decide +kernel
theorem dX7_judge_55 : decode cX7_judge 55 = .ok (.iaload, 1) := by decide +kernel
theorem dX7_judge_56 : decode cX7_judge 56 = .ok (.istore 4, 2) := by decide +kernel
theorem dX7_judge_58 : decode cX7_judge 58 = .ok (.aload_n 0, 1) := by decide +kernel
theorem dX7_judge_59 : decode cX7_judge 59 = .ok (.iload 4, 2) := by decide +kernel
theorem dX7_judge_61 : decode cX7_judge 61 = .ok (.invokevirtual 114, 3) := by decide +kernel
theorem dX7_judge_64 : decode cX7_judge 64 = .ok (.ifCond .eq 31, 3) := by decide +kernel
theorem dX7_judge_67 : decode cX7_judge 67 = .ok (.aload_n 0, 1) := by decide +kernel
theorem dX7_judge_68 : decode cX7_judge 68 = .ok (.iload 4, 2) := by decide +kernel
theorem dX7_judge_70 : decode cX7_judge 70 = .ok (.invokevirtual 105, 3) := by decide +kernel
theorem dX7_judge_73 : decode cX7_judge 73 = .ok (.ifCond .ne 22, 3) := by decide +kernel
theorem dX7_judge_76 : decode cX7_judge 76 = .ok (.iload_n 2, 1) := by decide +kernel
theorem dX7_judge_77 : decode cX7_judge 77 = .ok (.iload 4, 2) := by decide +kernel
theorem dX7_judge_79 : decode cX7_judge 79 = .ok (.invokestatic 83, 3) := by decide +kernel
theorem dX7_judge_82 : decode cX7_judge 82 = .ok (.ifCond .ne 13, 3) := by decide +kernel
theorem dX7_judge_85 : decode cX7_judge 85 = .ok (.aload_n 0, 1) := by decide +kernel
theorem dX7_judge_86 : decode cX7_judge 86 = .ok (.iload 4, 2) := by decide +kernel
theorem dX7_judge_88 : decode cX7_judge 88 = .ok (.iload_n 2, 1) := by decide +kernel
theorem dX7_judge_89 : decode cX7_judge 89 = .ok (.invokevirtual 108, 3) := by decide +kernel
theorem dX7_judge_92 : decode cX7_judge 92 = .ok (.ifCond .ne 7, 3) := by decide +kernel
theorem dX7_judge_95 : decode cX7_judge 95 = .ok (.iconst 1, 1) := by decide +kernel
theorem dX7_judge_96 : decode cX7_judge 96 = .ok (.iload_n 3, 1) := by decide +kernel
theorem dX7_judge_97 : decode cX7_judge 97 = .ok (.iadd, 1) := by decide +kernel
theorem dX7_judge_98 : decode cX7_judge 98 = .ok (.ireturn, 1) := by decide +kernel
theorem dX7_judge_99 : decode cX7_judge 99 = .ok (.iload_n 2, 1) := by decide +kernel
theorem dX7_judge_100 : decode cX7_judge 100 = .ok (.iconst 1, 1) := by decide +kernel
theorem dX7_judge_101 : decode cX7_judge 101 = .ok (.iload 4, 2) := by decide +kernel
theorem dX7_judge_103 : decode cX7_judge 103 = .ok (.ishl, 1) := by decide +kernel
theorem dX7_judge_104 : decode cX7_judge 104 = .ok (.ior, 1) := by decide +kernel
theorem dX7_judge_105 : decode cX7_judge 105 = .ok (.istore_n 2, 1) := by decide +kernel
theorem dX7_judge_106 : decode cX7_judge 106 = .ok (.iinc 3 1, 3) := by decide +kernel
theorem dX7_judge_109 : decode cX7_judge 109 = .ok (.goto (-74), 3) := by decide +kernel
theorem dX7_judge_112 : decode cX7_judge 112 = .ok (.iload_n 2, 1) := by decide +kernel
theorem dX7_judge_113 : decode cX7_judge 113 = .ok (.aload_n 0, 1) := by decide +kernel
theorem dX7_judge_114 : decode cX7_judge 114 = .ok (.invokevirtual 228, 3) := by decide +kernel
theorem dX7_judge_117 : decode cX7_judge 117 = .ok (.if_icmp .ne 7, 3) := by decide +kernel
theorem dX7_judge_120 : decode cX7_judge 120 = .ok (.iconst 0, 1) := by decide +kernel
theorem dX7_judge_121 : decode cX7_judge 121 = .ok (.goto 5, 3) := by decide +kernel
theorem dX7_judge_124 : decode cX7_judge 124 = .ok (.bipush 41, 2) := by decide +kernel
theorem dX7_judge_126 : decode cX7_judge 126 = .ok (.ireturn, 1) := by decide +kernel
set_option maxRecDepth 20000 in
theorem ggX7_image_X7_row : GoodIn wsX7_image wsX7_row := goodIn_r _ [7] (by decide +kernel) (by decide +kernel)
set_option maxRecDepth 20000 in
theorem gX7_image_X7_row : GoodIn wsX7_image (va_wsS RX7 187 yX7_row wsX7_row) := goodIn_app (goodIn_of _ (by decide +kernel)) ggX7_image_X7_row
theorem dX7_image_0 : decode cX7_image 0 = .ok (.aload_n 0, 1) := by decide +kernel
theorem dX7_image_1 : decode cX7_image 1 = .ok (.getfield 9, 3) := by decide +kernel
theorem dX7_image_4 : decode cX7_image 4 = .ok (.aload_n 0, 1) := by decide +kernel
theorem dX7_image_5 : decode cX7_image 5 = .ok (.getfield 13, 3) := by decide +kernel
theorem dX7_image_8 : decode cX7_image 8 = .ok (.invokestatic 187, 3) := by decide +kernel
theorem dX7_image_11 : decode cX7_image 11 = .ok (.aload_n 0, 1) := by decide +kernel
theorem dX7_image_12 : decode cX7_image 12 = .ok (.iconst 1, 1) := by decide +kernel
theorem dX7_image_13 : decode cX7_image 13 = .ok (.putfield 352, 3) := by decide +kernel
theorem dX7_image_16 : decode cX7_image 16 = .ok (.iconst 1, 1) := by decide +kernel
theorem dX7_image_17 : decode cX7_image 17 = .ok (.ireturn, 1) := by decide +kernel
set_option maxRecDepth 20000 in
theorem ggX7_undo_X7_finds : GoodIn wsX7_undo wsX7_finds := goodIn_r _ [9, 10, 11, 15, 16, 17, 18, 19, 20, 21, 22, 23, 24, 25, 26, 27, 28, 29, 30, 31, 32] (by decide +kernel) (by decide +kernel)
set_option maxRecDepth 20000 in
theorem gX7_undo_X7_finds : GoodIn wsX7_undo (wsV RX7 45 RX7 yX7_finds wsX7_finds) := goodIn_app (goodIn_of _ (by decide +kernel)) ggX7_undo_X7_finds
set_option maxRecDepth 20000 in
theorem ggX7_undo_X7_row : GoodIn wsX7_undo wsX7_row := goodIn_r _ [14] (by decide +kernel) (by decide +kernel)
set_option maxRecDepth 20000 in
theorem gX7_undo_X7_row : GoodIn wsX7_undo (va_wsS RX7 187 yX7_row wsX7_row) := goodIn_app (goodIn_of _ (by decide +kernel)) ggX7_undo_X7_row
theorem dX7_undo_0 : decode cX7_undo 0 = .ok (.aload_n 0, 1) := by decide +kernel
theorem dX7_undo_1 : decode cX7_undo 1 = .ok (.getfield 352, 3) := by decide +kernel
theorem dX7_undo_4 : decode cX7_undo 4 = .ok (.ifCond .ne 10, 3) := by decide +kernel
theorem dX7_undo_7 : decode cX7_undo 7 = .ok (.aload_n 0, 1) := by decide +kernel
theorem dX7_undo_8 : decode cX7_undo 8 = .ok (.ldc 44, 2) := by decide +kernel
theorem dX7_undo_10 : decode cX7_undo 10 = .ok (.invokevirtual 45, 3) := by decide +kernel
theorem dX7_undo_13 : decode cX7_undo 13 = .ok (.ireturn, 1) := by decide +kernel
theorem dX7_undo_14 : decode cX7_undo 14 = .ok (.aload_n 0, 1) := by decide +kernel
theorem dX7_undo_15 : decode cX7_undo 15 = .ok (.getfield 13, 3) := by decide +kernel
theorem dX7_undo_18 : decode cX7_undo 18 = .ok (.aload_n 0, 1) := by decide +kernel
theorem dX7_undo_19 : decode cX7_undo 19 = .ok (.getfield 9, 3) := by decide +kernel
theorem dX7_undo_22 : decode cX7_undo 22 = .ok (.invokestatic 187, 3) := by decide +kernel
theorem dX7_undo_25 : decode cX7_undo 25 = .ok (.aload_n 0, 1) := by decide +kernel
theorem dX7_undo_26 : decode cX7_undo 26 = .ok (.getfield 9, 3) := by decide +kernel
theorem dX7_undo_29 : decode cX7_undo 29 = .ok (.iconst 0, 1) := by decide +kernel
theorem dX7_undo_30 : decode cX7_undo 30 = .ok (.iaload, 1) := by decide +kernel
theorem dX7_undo_31 : decode cX7_undo 31 = .ok (.ireturn, 1) := by decide +kernel
theorem dX7_tear_0 : decode cX7_tear 0 = .ok (.aload_n 0, 1) := by decide +kernel
theorem dX7_tear_1 : decode cX7_tear 1 = .ok (.getfield 352, 3) := by decide +kernel
theorem dX7_tear_4 : decode cX7_tear 4 = .ok (.ifCond .eq 7, 3) := by decide +kernel
theorem dX7_tear_7 : decode cX7_tear 7 = .ok (.iconst 1, 1) := by decide +kernel
theorem dX7_tear_8 : decode cX7_tear 8 = .ok (.goto 4, 3) := by decide +kernel
theorem dX7_tear_11 : decode cX7_tear 11 = .ok (.iconst 0, 1) := by decide +kernel
theorem dX7_tear_12 : decode cX7_tear 12 = .ok (.istore_n 1, 1) := by decide +kernel
theorem dX7_tear_13 : decode cX7_tear 13 = .ok (.aload_n 0, 1) := by decide +kernel
theorem dX7_tear_14 : decode cX7_tear 14 = .ok (.iconst 0, 1) := by decide +kernel
theorem dX7_tear_15 : decode cX7_tear 15 = .ok (.putfield 352, 3) := by decide +kernel
theorem dX7_tear_18 : decode cX7_tear 18 = .ok (.iload_n 1, 1) := by decide +kernel
theorem dX7_tear_19 : decode cX7_tear 19 = .ok (.ireturn, 1) := by decide +kernel
set_option maxRecDepth 20000 in
theorem ggX7_count_X7_goneNow : GoodIn wsX7_count wsX7_goneNow := goodIn_r _ [8, 1, 9, 10, 11, 7, 12, 13, 14, 15, 16, 33, 34, 35, 36, 37, 38, 39, 40, 41, 42, 43, 44, 45, 46, 47, 48, 49, 50] (by decide +kernel) (by decide +kernel)
set_option maxRecDepth 20000 in
theorem gX7_count_X7_goneNow : GoodIn wsX7_count (wsV RX7 174 RX7 yX7_goneNow wsX7_goneNow) := goodIn_app (goodIn_of _ (by decide +kernel)) ggX7_count_X7_goneNow
set_option maxRecDepth 20000 in
theorem ggX7_count_X7_many : GoodIn wsX7_count wsX7_many := goodIn_r _ [19] (by decide +kernel) (by decide +kernel)
set_option maxRecDepth 20000 in
theorem gX7_count_X7_many : GoodIn wsX7_count (va_wsS RX7 180 yX7_many wsX7_many) := goodIn_app (goodIn_of _ (by decide +kernel)) ggX7_count_X7_many
set_option maxRecDepth 20000 in
theorem ggX7_count_X7_allGrains : GoodIn wsX7_count wsX7_allGrains := goodIn_r _ [23, 1, 24, 25, 26, 7, 27, 33, 34, 35, 36, 37, 38, 39, 40, 41, 42, 43, 44, 45, 46, 47, 48, 49, 50] (by decide +kernel) (by decide +kernel)
set_option maxRecDepth 20000 in
theorem gX7_count_X7_allGrains : GoodIn wsX7_count (wsV RX7 191 RX7 yX7_allGrains wsX7_allGrains) := goodIn_app (goodIn_of _ (by decide +kernel)) ggX7_count_X7_allGrains
set_option maxRecDepth 20000 in
theorem ggX7_count_X7_finds : GoodIn wsX7_count wsX7_finds := goodIn_r _ [31, 32, 3, 33, 34, 35, 36, 37, 38, 39, 40, 41, 42, 43, 44, 45, 46, 47, 48, 49, 50] (by decide +kernel) (by decide +kernel)
set_option maxRecDepth 20000 in
theorem gX7_count_X7_finds : GoodIn wsX7_count (wsV RX7 45 RX7 yX7_finds wsX7_finds) := goodIn_app (goodIn_of _ (by decide +kernel)) ggX7_count_X7_finds
theorem dX7_count_0 : decode cX7_count 0 = .ok (.iload_n 1, 1) := by decide +kernel
theorem dX7_count_1 : decode cX7_count 1 = .ok (.tableswitch 100 0 7 #[47, 54, 61, 69, 74, 81, 88, 93], 47) := by decide +kernel
theorem dX7_count_48 : decode cX7_count 48 = .ok (.aload_n 0, 1) := by decide +kernel
theorem dX7_count_49 : decode cX7_count 49 = .ok (.getfield 9, 3) := by decide +kernel
theorem dX7_count_52 : decode cX7_count 52 = .ok (.iconst 0, 1) := by decide +kernel
theorem dX7_count_53 : decode cX7_count 53 = .ok (.iaload, 1) := by decide +kernel
theorem dX7_count_54 : decode cX7_count 54 = .ok (.ireturn, 1) := by decide +kernel
theorem dX7_count_55 : decode cX7_count 55 = .ok (.aload_n 0, 1) := by decide +kernel
theorem dX7_count_56 : decode cX7_count 56 = .ok (.getfield 9, 3) := by decide +kernel
theorem dX7_count_59 : decode cX7_count 59 = .ok (.iconst 5, 1) := by decide +kernel
theorem dX7_count_60 : decode cX7_count 60 = .ok (.iaload, 1) := by decide +kernel
