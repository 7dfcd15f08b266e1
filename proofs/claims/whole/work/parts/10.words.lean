set_option maxRecDepth 20000 in
theorem lwk_1 : GoodIn lw_tbl wsL_law_r1 := goodIn_p _ [87, 90] (by decide +kernel) (by decide +kernel)
set_option maxRecDepth 20000 in
theorem lwk_2 : GoodIn lw_tbl wsL_law_r2 := goodIn_p _ [95] (by decide +kernel) (by decide +kernel)
set_option maxRecDepth 20000 in
theorem lwk_3 : GoodIn lw_tbl wsL_law_r3 := goodIn_p _ [101, 105, 135, 199] (by decide +kernel) (by decide +kernel)
set_option maxRecDepth 20000 in
theorem lwk_4 : GoodIn lw_tbl wsL_law_r4 := goodIn_p _ [205, 238, 851] (by decide +kernel) (by decide +kernel)
set_option maxRecDepth 20000 in
theorem lwk_5 : GoodIn lw_tbl wsL_law_r5 := goodIn_p _ [281, 284, 287, 290, 295, 299] (by decide +kernel) (by decide +kernel)
set_option maxRecDepth 20000 in
theorem lwk_6 : GoodIn lw_tbl wsL_law_r6 := goodIn_p _ [304, 310, 911, 914, 918] (by decide +kernel) (by decide +kernel)
set_option maxRecDepth 20000 in
theorem lwk_7 : GoodIn lw_tbl wsL_law_r7 := goodIn_p _ [921, 925, 931, 936, 940, 945] (by decide +kernel) (by decide +kernel)
set_option maxRecDepth 20000 in
theorem lwk_8 : GoodIn lw_tbl wsL_law_r8 := goodIn_p _ [315, 319, 323, 327, 331] (by decide +kernel) (by decide +kernel)
set_option maxRecDepth 20000 in
theorem lwk_9 : GoodIn lw_tbl wsL_law_r9 := goodIn_p _ [335, 340, 345, 949, 953] (by decide +kernel) (by decide +kernel)
set_option maxRecDepth 20000 in
theorem lwk_10 : GoodIn lw_tbl wsL_law_r10 := goodIn_p _ [957, 961, 965, 969, 973, 976, 980] (by decide +kernel) (by decide +kernel)
set_option maxRecDepth 20000 in
theorem lwk_11 : GoodIn lw_tbl wsL_law_r11 := goodIn_p _ [983, 986, 989, 992, 996, 1000, 349] (by decide +kernel) (by decide +kernel)
set_option maxRecDepth 20000 in
theorem lwk_12 : GoodIn lw_tbl wsL_law_r12 := goodIn_p _ [1004, 1008, 353, 357, 1012, 361] (by decide +kernel) (by decide +kernel)
set_option maxRecDepth 20000 in
theorem lwk_13 : GoodIn lw_tbl wsL_law_r13 := goodIn_p _ [1016, 365, 369, 373, 376] (by decide +kernel) (by decide +kernel)
set_option maxRecDepth 20000 in
theorem lwk_14 : GoodIn lw_tbl wsL_law_r14 := goodIn_p _ [379, 383, 386, 1020, 1024, 1028, 1031] (by decide +kernel) (by decide +kernel)
set_option maxRecDepth 20000 in
theorem lwk_15 : GoodIn lw_tbl wsL_law_r15 := goodIn_p _ [1035, 390, 393, 1039, 1043] (by decide +kernel) (by decide +kernel)
set_option maxRecDepth 20000 in
theorem lwk_16 : GoodIn lw_tbl wsL_law_r16 := goodIn_p _ [397, 402, 1048, 406, 1052] (by decide +kernel) (by decide +kernel)
set_option maxRecDepth 20000 in
theorem lwk_17 : GoodIn lw_tbl wsL_law_r17 := goodIn_p _ [410, 1058, 414, 418, 1062, 422] (by decide +kernel) (by decide +kernel)
set_option maxRecDepth 20000 in
theorem lwk_18 : GoodIn lw_tbl wsL_law_r18 := goodIn_p _ [426, 430, 434, 440, 444] (by decide +kernel) (by decide +kernel)
set_option maxRecDepth 20000 in
theorem lwk_19 : GoodIn lw_tbl wsL_law_r19 := goodIn_p _ [450, 454, 458, 462] (by decide +kernel) (by decide +kernel)
set_option maxRecDepth 20000 in
theorem lwk_20 : GoodIn lw_tbl wsL_law_r20 := goodIn_p _ [466, 471, 1066, 1071, 1075] (by decide +kernel) (by decide +kernel)
set_option maxRecDepth 20000 in
theorem lwk_21 : GoodIn lw_tbl wsL_law_r21 := goodIn_p _ [1079, 1083, 1087, 1091, 1095, 1099] (by decide +kernel) (by decide +kernel)
set_option maxRecDepth 20000 in
theorem lwk_22 : GoodIn lw_tbl wsL_law_r22 := goodIn_p _ [1102, 477, 1106, 482, 1110, 487] (by decide +kernel) (by decide +kernel)
set_option maxRecDepth 20000 in
theorem lwk_23 : GoodIn lw_tbl wsL_law_r23 := goodIn_p _ [1114, 492, 496, 500] (by decide +kernel) (by decide +kernel)
set_option maxRecDepth 20000 in
theorem lwk_24 : GoodIn lw_tbl wsL_law_r24 := goodIn_p _ [504, 511, 517, 521, 1118] (by decide +kernel) (by decide +kernel)
set_option maxRecDepth 20000 in
theorem lwk_25 : GoodIn lw_tbl wsL_law_r25 := goodIn_p _ [1123, 1127, 525, 529, 1131, 1135] (by decide +kernel) (by decide +kernel)
set_option maxRecDepth 20000 in
theorem lwk_26 : GoodIn lw_tbl wsL_law_r26 := goodIn_p _ [1139, 534, 538, 1144, 1148, 542] (by decide +kernel) (by decide +kernel)
set_option maxRecDepth 20000 in
theorem lwk_27 : GoodIn lw_tbl wsL_law_r27 := goodIn_p _ [1152, 1156, 1161, 546, 1165, 550] (by decide +kernel) (by decide +kernel)
set_option maxRecDepth 20000 in
theorem lwk_28 : GoodIn lw_tbl wsL_law_r28 := goodIn_p _ [1169, 1173, 1176, 554, 1180] (by decide +kernel) (by decide +kernel)
set_option maxRecDepth 20000 in
theorem lwk_29 : GoodIn lw_tbl wsL_law_r29 := goodIn_p _ [558, 1185, 562, 1189, 1194, 566] (by decide +kernel) (by decide +kernel)
set_option maxRecDepth 20000 in
theorem lwk_30 : GoodIn lw_tbl wsL_law_r30 := goodIn_p _ [570, 574, 578, 1198, 1203, 582] (by decide +kernel) (by decide +kernel)
set_option maxRecDepth 20000 in
theorem lwk_31 : GoodIn lw_tbl wsL_law_r31 := goodIn_p _ [586, 1207, 591, 594, 598, 1212] (by decide +kernel) (by decide +kernel)
set_option maxRecDepth 20000 in
theorem lwk_32 : GoodIn lw_tbl wsL_law_r32 := goodIn_p _ [1215, 1221, 602, 606, 1225] (by decide +kernel) (by decide +kernel)
set_option maxRecDepth 20000 in
theorem lwk_33 : GoodIn lw_tbl wsL_law_r33 := goodIn_p _ [1229, 611, 1233, 615, 619, 1237] (by decide +kernel) (by decide +kernel)
set_option maxRecDepth 20000 in
theorem lwk_34 : GoodIn lw_tbl wsL_law_r34 := goodIn_p _ [1241, 624, 1246, 628, 632] (by decide +kernel) (by decide +kernel)
set_option maxRecDepth 20000 in
theorem lwk_35 : GoodIn lw_tbl wsL_law_r35 := goodIn_p _ [1250, 636, 1254, 640, 644] (by decide +kernel) (by decide +kernel)
set_option maxRecDepth 20000 in
theorem lwk_36 : GoodIn lw_tbl wsL_law_r36 := goodIn_p _ [648, 652, 655, 658, 662, 667] (by decide +kernel) (by decide +kernel)
set_option maxRecDepth 20000 in
theorem lwk_37 : GoodIn lw_tbl wsL_law_r37 := goodIn_p _ [671, 676, 680, 684] (by decide +kernel) (by decide +kernel)
set_option maxRecDepth 20000 in
theorem lwk_38 : GoodIn lw_tbl wsL_law_r38 := goodIn_p _ [690, 694, 697, 700, 705, 708] (by decide +kernel) (by decide +kernel)
set_option maxRecDepth 20000 in
theorem lwk_39 : GoodIn lw_tbl wsL_law_r39 := goodIn_p _ [711, 714, 718, 734, 739] (by decide +kernel) (by decide +kernel)
set_option maxRecDepth 20000 in
theorem lwk_40 : GoodIn lw_tbl wsL_law_r40 := goodIn_p _ [748, 757, 1258, 1262] (by decide +kernel) (by decide +kernel)
set_option maxRecDepth 20000 in
theorem lwk_41 : GoodIn lw_tbl wsL_law_r41 := goodIn_p _ [1266, 1270, 1275, 1279, 1285] (by decide +kernel) (by decide +kernel)
set_option maxRecDepth 20000 in
theorem lwk_42 : GoodIn lw_tbl wsL_law_r42 := goodIn_p _ [1289, 1294, 1301, 1305, 1309, 1320] (by decide +kernel) (by decide +kernel)
set_option maxRecDepth 20000 in
theorem lwk_43 : GoodIn lw_tbl wsL_law_r43 := goodIn_p _ [762, 765, 1325, 769, 773, 1329] (by decide +kernel) (by decide +kernel)
set_option maxRecDepth 20000 in
theorem lwk_44 : GoodIn lw_tbl wsL_law_r44 := goodIn_p _ [1333, 780, 783, 788, 1338] (by decide +kernel) (by decide +kernel)
set_option maxRecDepth 20000 in
theorem lwk_45 : GoodIn lw_tbl wsL_law_r45 := goodIn_p _ [1341, 793, 797, 801, 1347] (by decide +kernel) (by decide +kernel)
set_option maxRecDepth 20000 in
theorem lwk_46 : GoodIn lw_tbl wsL_law_r46 := goodIn_p _ [805, 809, 1351, 814, 1355] (by decide +kernel) (by decide +kernel)
set_option maxRecDepth 20000 in
theorem lwk_47 : GoodIn lw_tbl wsL_law_r47 := goodIn_p _ [819, 1359, 824, 1363, 828, 1367] (by decide +kernel) (by decide +kernel)
set_option maxRecDepth 20000 in
theorem lwk_48 : GoodIn lw_tbl wsL_law_r48 := goodIn_p _ [832, 1371, 836, 839, 1375] (by decide +kernel) (by decide +kernel)
set_option maxRecDepth 20000 in
theorem lwk_49 : GoodIn lw_tbl wsL_law_r49 := goodIn_p _ [846, 1379] (by decide +kernel) (by decide +kernel)
set_option maxRecDepth 20000 in
theorem lwx_0 : GoodIn lw_tbl wsX00 := goodIn_p _ [] (by decide +kernel) (by decide +kernel)
set_option maxRecDepth 20000 in
theorem lwx_1 : GoodIn lw_tbl wsX10 := goodIn_p _ [] (by decide +kernel) (by decide +kernel)
set_option maxRecDepth 20000 in
theorem lwx_2 : GoodIn lw_tbl wsX20 := goodIn_p _ [] (by decide +kernel) (by decide +kernel)
set_option maxRecDepth 20000 in
theorem lwx_3 : GoodIn lw_tbl wsX30 := goodIn_p _ [] (by decide +kernel) (by decide +kernel)
set_option maxRecDepth 20000 in
theorem lwx_4 : GoodIn lw_tbl wsX40 := goodIn_p _ [] (by decide +kernel) (by decide +kernel)
set_option maxRecDepth 20000 in
theorem lwx_5 : GoodIn lw_tbl wsX50 := goodIn_p _ [] (by decide +kernel) (by decide +kernel)
set_option maxRecDepth 20000 in
theorem lwx_6 : GoodIn lw_tbl wsX60 := goodIn_p _ [] (by decide +kernel) (by decide +kernel)
set_option maxRecDepth 20000 in
theorem lwx_7 : GoodIn lw_tbl wsX70 := goodIn_p _ [] (by decide +kernel) (by decide +kernel)
theorem wsL_law_in : ∀ w ∈ wsL_law, w ∈ lw_tbl := fun w => (fun h => (List.mem_append.mp h).elim (fun h => (List.mem_append.mp h).elim (fun h => (List.mem_append.mp h).elim (fun h => (List.mem_append.mp h).elim (fun h => (List.mem_append.mp h).elim (fun h => (List.mem_append.mp h).elim (fun h => (List.mem_append.mp h).elim (fun h => (List.mem_append.mp h).elim (fun h => (List.mem_append.mp h).elim (fun h => (List.mem_append.mp h).elim (fun h => (lwk_1 w h).1) (fun h => (List.mem_append.mp h).elim (fun h => (lwk_2 w h).1) (fun h => (List.mem_append.mp h).elim (fun h => (lwk_3 w h).1) (fun h => (List.mem_append.mp h).elim (fun h => (lwk_4 w h).1) (fun h => (List.mem_append.mp h).elim (fun h => (lwk_5 w h).1) (fun h => (List.mem_append.mp h).elim (fun h => (lwk_6 w h).1) (fun h => (List.mem_append.mp h).elim (fun h => (lwk_7 w h).1) (fun h => (List.mem_append.mp h).elim (fun h => (lwk_8 w h).1) (fun h => (List.mem_append.mp h).elim (fun h => (lwk_9 w h).1) (fun h => (List.mem_append.mp h).elim (fun h => (lwk_10 w h).1) (fun h => (List.mem_append.mp h).elim (fun h => (lwk_11 w h).1) (fun h => (List.mem_append.mp h).elim (fun h => (lwk_12 w h).1) (fun h => (List.mem_append.mp h).elim (fun h => (lwk_13 w h).1) (fun h => (List.mem_append.mp h).elim (fun h => (lwk_14 w h).1) (fun h => (List.mem_append.mp h).elim (fun h => (lwk_15 w h).1) (fun h => (List.mem_append.mp h).elim (fun h => (lwk_16 w h).1) (fun h => (List.mem_append.mp h).elim (fun h => (lwk_17 w h).1) (fun h => (List.mem_append.mp h).elim (fun h => (lwk_18 w h).1) (fun h => (List.mem_append.mp h).elim (fun h => (lwk_19 w h).1) (fun h => (List.mem_append.mp h).elim (fun h => (lwk_20 w h).1) (fun h => (List.mem_append.mp h).elim (fun h => (lwk_21 w h).1) (fun h => (List.mem_append.mp h).elim (fun h => (lwk_22 w h).1) (fun h => (List.mem_append.mp h).elim (fun h => (lwk_23 w h).1) (fun h => (List.mem_append.mp h).elim (fun h => (lwk_24 w h).1) (fun h => (List.mem_append.mp h).elim (fun h => (lwk_25 w h).1) (fun h => (List.mem_append.mp h).elim (fun h => (lwk_26 w h).1) (fun h => (List.mem_append.mp h).elim (fun h => (lwk_27 w h).1) (fun h => (List.mem_append.mp h).elim (fun h => (lwk_28 w h).1) (fun h => (List.mem_append.mp h).elim (fun h => (lwk_29 w h).1) (fun h => (List.mem_append.mp h).elim (fun h => (lwk_30 w h).1) (fun h => (List.mem_append.mp h).elim (fun h => (lwk_31 w h).1) (fun h => (List.mem_append.mp h).elim (fun h => (lwk_32 w h).1) (fun h => (List.mem_append.mp h).elim (fun h => (lwk_33 w h).1) (fun h => (List.mem_append.mp h).elim (fun h => (lwk_34 w h).1) (fun h => (List.mem_append.mp h).elim (fun h => (lwk_35 w h).1) (fun h => (List.mem_append.mp h).elim (fun h => (lwk_36 w h).1) (fun h => (List.mem_append.mp h).elim (fun h => (lwk_37 w h).1) (fun h => (List.mem_append.mp h).elim (fun h => (lwk_38 w h).1) (fun h => (List.mem_append.mp h).elim (fun h => (lwk_39 w h).1) (fun h => (List.mem_append.mp h).elim (fun h => (lwk_40 w h).1) (fun h => (List.mem_append.mp h).elim (fun h => (lwk_41 w h).1) (fun h => (List.mem_append.mp h).elim (fun h => (lwk_42 w h).1) (fun h => (List.mem_append.mp h).elim (fun h => (lwk_43 w h).1) (fun h => (List.mem_append.mp h).elim (fun h => (lwk_44 w h).1) (fun h => (List.mem_append.mp h).elim (fun h => (lwk_45 w h).1) (fun h => (List.mem_append.mp h).elim (fun h => (lwk_46 w h).1) (fun h => (List.mem_append.mp h).elim (fun h => (lwk_47 w h).1) (fun h => (List.mem_append.mp h).elim (fun h => (lwk_48 w h).1) (fun h => (lwk_49 w h).1))))))))))))))))))))))))))))))))))))))))))))))))) (fun h => (lwx_6 w h).1)) (fun h => (lwx_7 w h).1)) (fun h => (lwx_1 w h).1)) (fun h => (lwx_4 w h).1)) (fun h => (lwx_2 w h).1)) (fun h => (lwx_5 w h).1)) (fun h => (lwx_0 w h).1)) (fun h => (lwx_3 w h).1)) (fun h => absurd h List.not_mem_nil))
