theorem ms_X7_isCandle : ik_S yX7_isCandle RX7 cX7_isCandle 1 (some .boolean) 1 := ⟨wl_15_18, wl_1_5, wl_15_19, by decide +kernel⟩
set_option maxHeartbeats 4000000 in
set_option maxRecDepth 100000 in
theorem c_X7_isCandle (l : Launch) (D : va_G) (cI cS : ClassId) (x0 : Int32) (R : Int32) (hf : f_X7_isCandle x0 = some (R)) : Met l yX7_isCandle (ik_ws yX7_isCandle cX7_isCandle 1 (some .boolean)) ({ frames := 1, cells := 0, slots := 0, locals := 25 } : Room) (ik_P D cI cS [.int x0] (wz_none cI cS)) (ik_R (some (.int R))) 0 0 ik_no := by
  refine ik_metR RX7 rfl (by decide) (Nat.le_of_ble_eq_true rfl) [(0, .int x0)] rfl ?_
  intro p e s m below meth c C hr hlk
  unfold f_X7_isCandle at hf
  refine ik_iload_n C 0 rfl rfl dX7_isCandle_0 ?_
  refine ik_i2l C dX7_isCandle_1 ?_
  refine ik_lconst (v := (0 : Int64)) C (by decide) dX7_isCandle_2 ?_
  refine ik_ldc2 C wl_15_20 dX7_isCandle_3 ?_
  obtain ⟨r1, hc1, hf⟩ := ik_b1s hf
  have hM := (c_X7_in l D cI cS (x0).toInt64 (0 : Int64) (5 : Int64) r1 hc1)
  refine ik_goR (ik_runS (st := []) (As := [.long (x0).toInt64, .long (0 : Int64), .long (5 : Int64)]) C hM ms_X7_in wl_6_21 ⟨rfl, rfl, Nat.le_of_ble_eq_true rfl, Nat.le_of_ble_eq_true rfl⟩ [] rfl (by decide +kernel) rfl rfl (Nat.le_of_ble_eq_true rfl) dX7_isCandle_6 ⟨Nat.zero_le _, Nat.zero_le _⟩) rfl ?_
  have hz := ik_gzi hf
  have hf := ik_gzk hf
  obtain rfl := Option.some.inj hf
  exact ik_zretR C hr hz.1 hlk dX7_isCandle_9
theorem ms_X7_isKind : ik_S yX7_isKind RX7 cX7_isKind 1 (some .boolean) 1 := ⟨wl_6_18, wl_1_5, wl_6_19, by decide +kernel⟩
set_option maxHeartbeats 4000000 in
set_option maxRecDepth 100000 in
theorem c_X7_isKind (l : Launch) (D : va_G) (cI cS : ClassId) (x0 : Int32) (R : Int32) (hf : f_X7_isKind x0 = some (R)) : Met l yX7_isKind (ik_ws yX7_isKind cX7_isKind 1 (some .boolean)) ({ frames := 1, cells := 0, slots := 0, locals := 25 } : Room) (ik_P D cI cS [.int x0] (wz_none cI cS)) (ik_R (some (.int R))) 0 0 ik_no := by
  refine ik_metR RX7 rfl (by decide) (Nat.le_of_ble_eq_true rfl) [(0, .int x0)] rfl ?_
  intro p e s m below meth c C hr hlk
  unfold f_X7_isKind at hf
  refine ik_iload_n C 0 rfl rfl dX7_isKind_0 ?_
  refine ik_i2l C dX7_isKind_1 ?_
  refine ik_lconst (v := (0 : Int64)) C (by decide) dX7_isKind_2 ?_
  refine ik_ldc2 C wl_6_20 dX7_isKind_3 ?_
  obtain ⟨r1, hc1, hf⟩ := ik_b1s hf
  have hM := (c_X7_in l D cI cS (x0).toInt64 (0 : Int64) (6 : Int64) r1 hc1)
  refine ik_goR (ik_runS (st := []) (As := [.long (x0).toInt64, .long (0 : Int64), .long (6 : Int64)]) C hM ms_X7_in wl_6_21 ⟨rfl, rfl, Nat.le_of_ble_eq_true rfl, Nat.le_of_ble_eq_true rfl⟩ [] rfl (by decide +kernel) rfl rfl (Nat.le_of_ble_eq_true rfl) dX7_isKind_6 ⟨Nat.zero_le _, Nat.zero_le _⟩) rfl ?_
  have hz := ik_gzi hf
  have hf := ik_gzk hf
  obtain rfl := Option.some.inj hf
  exact ik_zretR C hr hz.1 hlk dX7_isKind_9
theorem ms_X7_isSome : ik_S yX7_isSome RX7 cX7_isSome 1 (some .boolean) 1 := ⟨wl_7_5, wl_1_5, wl_7_6, by decide +kernel⟩
set_option maxHeartbeats 4000000 in
set_option maxRecDepth 100000 in
theorem c_X7_isSome (l : Launch) (D : va_G) (cI cS : ClassId) (x0 : Int32) (R : Int32) (hf : f_X7_isSome x0 = some (R)) : Met l yX7_isSome (ik_ws yX7_isSome cX7_isSome 1 (some .boolean)) ({ frames := 1, cells := 0, slots := 0, locals := 25 } : Room) (ik_P D cI cS [.int x0] (wz_none cI cS)) (ik_R (some (.int R))) 0 0 ik_no := by
  refine ik_metR RX7 rfl (by decide) (Nat.le_of_ble_eq_true rfl) [(0, .int x0)] rfl ?_
  intro p e s m below meth c C hr hlk
  unfold f_X7_isSome at hf
  refine ik_iload_n C 0 rfl rfl dX7_isSome_0 ?_
  refine ik_i2l C dX7_isSome_1 ?_
  refine ik_lconst (v := (1 : Int64)) C (by decide) dX7_isSome_2 ?_
  refine ik_ldc2 C wl_7_7 dX7_isSome_3 ?_
  obtain ⟨r1, hc1, hf⟩ := ik_b1s hf
  have hM := (c_X7_in l D cI cS (x0).toInt64 (1 : Int64) (99 : Int64) r1 hc1)
  refine ik_goR (ik_runS (st := []) (As := [.long (x0).toInt64, .long (1 : Int64), .long (99 : Int64)]) C hM ms_X7_in wl_6_21 ⟨rfl, rfl, Nat.le_of_ble_eq_true rfl, Nat.le_of_ble_eq_true rfl⟩ [] rfl (by decide +kernel) rfl rfl (Nat.le_of_ble_eq_true rfl) dX7_isSome_6 ⟨Nat.zero_le _, Nat.zero_le _⟩) rfl ?_
  have hz := ik_gzi hf
  have hf := ik_gzk hf
  obtain rfl := Option.some.inj hf
  exact ik_zretR C hr hz.1 hlk dX7_isSome_9
theorem mv_X7_kindOf : ik_V yX7_kindOf RX7 cX7_kindOf 2 (some .int) 1 := ⟨wl_9_22, wl_9_23, wl_1_5, wl_10_0, by decide +kernel⟩
set_option maxHeartbeats 4000000 in
set_option maxRecDepth 100000 in
theorem c_X7_kindOf (l : Launch) (D : va_G) (cI cS : ClassId) (h0 h1 h2 h3 h4 h5 h6 h7 h8 h9 h10 h11 : Nat) (misKept : Int32) (mtaped : Int32) (msort : Int32) (mfrom : Int32) (mto : Int32) (mvalue : Int32) (mbad : Int32) (mm : Nat → Int32) (mkept : Nat → Int32) (mwas : Nat → Int32) (mother : Nat → Int32) (mfound : Nat → Int32) (mwarm : Nat → Int32) (mdrip : Nat → Int32) (mtape : Nat → Int32) (mbits : Nat → Int32) (msize : Nat → Int32) (mnumber : Nat → Int32) (x1 : Int32) (R : Int32) (hf : f_X7_kindOf mm x1 = some (R)) : Met l yX7_kindOf (ik_ws yX7_kindOf cX7_kindOf 2 (some .int)) ({ frames := 0, cells := 0, slots := 0, locals := 0 } : Room) (ik_P D cI cS [.ref h0, .int x1] (wz_X7 cI cS h0 h1 h2 h3 h4 h5 h6 h7 h8 h9 h10 h11 misKept mtaped msort mfrom mto mvalue mbad mm mkept mwas mother mfound mwarm mdrip mtape mbits msize mnumber)) (ik_R (some (.int R))) 0 0 ik_no := by
  refine ik_metR RX7 rfl (by decide) (Nat.le_of_ble_eq_true rfl) [(0, .ref h0), (1, .int x1)] rfl ?_
  intro p e s m below meth c C hr hlk
  unfold f_X7_kindOf at hf
  refine ik_aload_n C 0 rfl rfl dX7_kindOf_0 ?_
  refine ik_get C inlX7 0 rfl rfl 0 (by decide) wl_4_12 rfl (v := .ref h1) rfl dX7_kindOf_1 ?_
  refine ik_bipush (v := (24 : Int32)) C (by decide) dX7_kindOf_4 ?_
  refine ik_iconst (v := (3 : Int32)) C (by decide) dX7_kindOf_6 ?_
  refine ik_iload_n C 1 rfl rfl dX7_kindOf_7 ?_
  refine ik_imul C dX7_kindOf_8 ?_
  refine ik_iadd C dX7_kindOf_9 ?_
  have hg := ik_gdi hf
  have hf := ik_gdk hf
  refine ik_iald C 1 rfl hg dX7_kindOf_10 ?_
  obtain rfl := Option.some.inj hf
  exact ik_iretR C hr hlk dX7_kindOf_11
theorem mv_X7_cellOf : ik_V yX7_cellOf RX7 cX7_cellOf 2 (some .int) 1 := ⟨wl_7_17, wl_7_18, wl_1_5, wl_7_19, by decide +kernel⟩
set_option maxHeartbeats 4000000 in
set_option maxRecDepth 100000 in
theorem c_X7_cellOf (l : Launch) (D : va_G) (cI cS : ClassId) (h0 h1 h2 h3 h4 h5 h6 h7 h8 h9 h10 h11 : Nat) (misKept : Int32) (mtaped : Int32) (msort : Int32) (mfrom : Int32) (mto : Int32) (mvalue : Int32) (mbad : Int32) (mm : Nat → Int32) (mkept : Nat → Int32) (mwas : Nat → Int32) (mother : Nat → Int32) (mfound : Nat → Int32) (mwarm : Nat → Int32) (mdrip : Nat → Int32) (mtape : Nat → Int32) (mbits : Nat → Int32) (msize : Nat → Int32) (mnumber : Nat → Int32) (x1 : Int32) (R : Int32) (hf : f_X7_cellOf mm x1 = some (R)) : Met l yX7_cellOf (ik_ws yX7_cellOf cX7_cellOf 2 (some .int)) ({ frames := 0, cells := 0, slots := 0, locals := 0 } : Room) (ik_P D cI cS [.ref h0, .int x1] (wz_X7 cI cS h0 h1 h2 h3 h4 h5 h6 h7 h8 h9 h10 h11 misKept mtaped msort mfrom mto mvalue mbad mm mkept mwas mother mfound mwarm mdrip mtape mbits msize mnumber)) (ik_R (some (.int R))) 0 0 ik_no := by
  refine ik_metR RX7 rfl (by decide) (Nat.le_of_ble_eq_true rfl) [(0, .ref h0), (1, .int x1)] rfl ?_
  intro p e s m below meth c C hr hlk
  unfold f_X7_cellOf at hf
  refine ik_aload_n C 0 rfl rfl dX7_cellOf_0 ?_
  refine ik_get C inlX7 0 rfl rfl 0 (by decide) wl_4_12 rfl (v := .ref h1) rfl dX7_cellOf_1 ?_
  refine ik_bipush (v := (24 : Int32)) C (by decide) dX7_cellOf_4 ?_
  refine ik_iconst (v := (3 : Int32)) C (by decide) dX7_cellOf_6 ?_
  refine ik_iload_n C 1 rfl rfl dX7_cellOf_7 ?_
  refine ik_imul C dX7_cellOf_8 ?_
  refine ik_iadd C dX7_cellOf_9 ?_
  refine ik_iconst (v := (1 : Int32)) C (by decide) dX7_cellOf_10 ?_
  refine ik_iadd C dX7_cellOf_11 ?_
  have hg := ik_gdi hf
  have hf := ik_gdk hf
  refine ik_iald C 1 rfl hg dX7_cellOf_12 ?_
  obtain rfl := Option.some.inj hf
  exact ik_iretR C hr hlk dX7_cellOf_13
theorem mv_X7_grains : ik_V yX7_grains RX7 cX7_grains 2 (some .int) 1 := ⟨wl_10_2, wl_10_3, wl_1_5, wl_10_4, by decide +kernel⟩
set_option maxHeartbeats 4000000 in
set_option maxRecDepth 100000 in
theorem c_X7_grains (l : Launch) (D : va_G) (cI cS : ClassId) (h0 h1 h2 h3 h4 h5 h6 h7 h8 h9 h10 h11 : Nat) (misKept : Int32) (mtaped : Int32) (msort : Int32) (mfrom : Int32) (mto : Int32) (mvalue : Int32) (mbad : Int32) (mm : Nat → Int32) (mkept : Nat → Int32) (mwas : Nat → Int32) (mother : Nat → Int32) (mfound : Nat → Int32) (mwarm : Nat → Int32) (mdrip : Nat → Int32) (mtape : Nat → Int32) (mbits : Nat → Int32) (msize : Nat → Int32) (mnumber : Nat → Int32) (x1 : Int32) (R : Int32) (hf : f_X7_grains mm x1 = some (R)) : Met l yX7_grains (ik_ws yX7_grains cX7_grains 2 (some .int)) ({ frames := 0, cells := 0, slots := 0, locals := 0 } : Room) (ik_P D cI cS [.ref h0, .int x1] (wz_X7 cI cS h0 h1 h2 h3 h4 h5 h6 h7 h8 h9 h10 h11 misKept mtaped msort mfrom mto mvalue mbad mm mkept mwas mother mfound mwarm mdrip mtape mbits msize mnumber)) (ik_R (some (.int R))) 0 0 ik_no := by
  refine ik_metR RX7 rfl (by decide) (Nat.le_of_ble_eq_true rfl) [(0, .ref h0), (1, .int x1)] rfl ?_
  intro p e s m below meth c C hr hlk
  unfold f_X7_grains at hf
  refine ik_aload_n C 0 rfl rfl dX7_grains_0 ?_
  refine ik_get C inlX7 0 rfl rfl 0 (by decide) wl_4_12 rfl (v := .ref h1) rfl dX7_grains_1 ?_
  refine ik_bipush (v := (24 : Int32)) C (by decide) dX7_grains_4 ?_
  refine ik_iconst (v := (3 : Int32)) C (by decide) dX7_grains_6 ?_
  refine ik_iload_n C 1 rfl rfl dX7_grains_7 ?_
  refine ik_imul C dX7_grains_8 ?_
  refine ik_iadd C dX7_grains_9 ?_
  refine ik_iconst (v := (2 : Int32)) C (by decide) dX7_grains_10 ?_
  refine ik_iadd C dX7_grains_11 ?_
  have hg := ik_gdi hf
  have hf := ik_gdk hf
  refine ik_iald C 1 rfl hg dX7_grains_12 ?_
  obtain rfl := Option.some.inj hf
  exact ik_iretR C hr hlk dX7_grains_13
theorem mv_X7_makes : ik_V yX7_makes RX7 cX7_makes 3 none 2 := ⟨wl_15_0, wl_15_1, wl_1_5, wl_15_2, by decide +kernel⟩
set_option maxHeartbeats 4000000 in
set_option maxRecDepth 100000 in
theorem c_X7_makes (l : Launch) (D : va_G) (cI cS : ClassId) (h0 h1 h2 h3 h4 h5 h6 h7 h8 h9 h10 h11 : Nat) (misKept : Int32) (mtaped : Int32) (msort : Int32) (mfrom : Int32) (mto : Int32) (mvalue : Int32) (mbad : Int32) (mm : Nat → Int32) (mkept : Nat → Int32) (mwas : Nat → Int32) (mother : Nat → Int32) (mfound : Nat → Int32) (mwarm : Nat → Int32) (mdrip : Nat → Int32) (mtape : Nat → Int32) (mbits : Nat → Int32) (msize : Nat → Int32) (mnumber : Nat → Int32) (x1 : Int32) (x2 : Int32) (mm_r : Nat → Int32) (hf : f_X7_makes mm x1 x2 = some (mm_r)) : Met l yX7_makes (ik_ws yX7_makes cX7_makes 3 none) ({ frames := 0, cells := 0, slots := 0, locals := 0 } : Room) (ik_P D cI cS [.ref h0, .int x1, .int x2] (wz_X7 cI cS h0 h1 h2 h3 h4 h5 h6 h7 h8 h9 h10 h11 misKept mtaped msort mfrom mto mvalue mbad mm mkept mwas mother mfound mwarm mdrip mtape mbits msize mnumber)) (ik_Q none D (wz_X7 cI cS h0 h1 h2 h3 h4 h5 h6 h7 h8 h9 h10 h11 misKept mtaped msort mfrom mto mvalue mbad mm_r mkept mwas mother mfound mwarm mdrip mtape mbits msize mnumber) (wz_X7 cI cS h0 h1 h2 h3 h4 h5 h6 h7 h8 h9 h10 h11 misKept mtaped msort mfrom mto mvalue mbad mm mkept mwas mother mfound mwarm mdrip mtape mbits msize mnumber)) 0 0 (ik_in (wz_X7 cI cS h0 h1 h2 h3 h4 h5 h6 h7 h8 h9 h10 h11 misKept mtaped msort mfrom mto mvalue mbad mm mkept mwas mother mfound mwarm mdrip mtape mbits msize mnumber)) := by
  refine ik_metW RX7 rfl (by decide) (Nat.le_of_ble_eq_true rfl) [(0, .ref h0), (1, .int x1), (2, .int x2)] rfl ?_
  intro p e s m below meth c C hr hlk
  unfold f_X7_makes at hf
  refine ik_aload_n C 0 rfl rfl dX7_makes_0 ?_
  refine ik_get C inlX7 0 rfl rfl 0 (by decide) wl_4_12 rfl (v := .ref h1) rfl dX7_makes_1 ?_
  refine ik_bipush (v := (24 : Int32)) C (by decide) dX7_makes_4 ?_
  refine ik_iconst (v := (3 : Int32)) C (by decide) dX7_makes_6 ?_
  refine ik_iload_n C 1 rfl rfl dX7_makes_7 ?_
  refine ik_imul C dX7_makes_8 ?_
  refine ik_iadd C dX7_makes_9 ?_
  refine ik_iconst (v := (2 : Int32)) C (by decide) dX7_makes_10 ?_
  refine ik_iadd C dX7_makes_11 ?_
  refine ik_iload_n C 2 rfl rfl dX7_makes_12 ?_
  have hg := ik_gdi hf
  have hf := ik_gdk hf
  refine ik_iast C 1 rfl hg (wz_X7 cI cS h0 h1 h2 h3 h4 h5 h6 h7 h8 h9 h10 h11 misKept mtaped msort mfrom mto mvalue mbad (upd mm ((((24 : Int32) + ((3 : Int32) * x1)) + (2 : Int32))).toNatClampNeg x2) mkept mwas mother mfound mwarm mdrip mtape mbits msize mnumber) rfl dX7_makes_13 ?_
  obtain rfl := Option.some.inj hf
  exact ik_vretW C hr hlk dX7_makes_14
theorem mv_X7_isGone : ik_V yX7_isGone RX7 cX7_isGone 2 (some .boolean) 1 := ⟨wl_10_6, wl_10_7, wl_1_5, wl_10_8, by decide +kernel⟩
set_option maxHeartbeats 4000000 in
set_option maxRecDepth 100000 in
theorem c_X7_isGone (l : Launch) (D : va_G) (cI cS : ClassId) (h0 h1 h2 h3 h4 h5 h6 h7 h8 h9 h10 h11 : Nat) (misKept : Int32) (mtaped : Int32) (msort : Int32) (mfrom : Int32) (mto : Int32) (mvalue : Int32) (mbad : Int32) (mm : Nat → Int32) (mkept : Nat → Int32) (mwas : Nat → Int32) (mother : Nat → Int32) (mfound : Nat → Int32) (mwarm : Nat → Int32) (mdrip : Nat → Int32) (mtape : Nat → Int32) (mbits : Nat → Int32) (msize : Nat → Int32) (mnumber : Nat → Int32) (x1 : Int32) (R : Int32) (hf : f_X7_isGone mm x1 = some (R)) : Met l yX7_isGone (ik_ws yX7_isGone cX7_isGone 2 (some .boolean)) ({ frames := 1, cells := 0, slots := 0, locals := 21 } : Room) (ik_P D cI cS [.ref h0, .int x1] (wz_X7 cI cS h0 h1 h2 h3 h4 h5 h6 h7 h8 h9 h10 h11 misKept mtaped msort mfrom mto mvalue mbad mm mkept mwas mother mfound mwarm mdrip mtape mbits msize mnumber)) (ik_R (some (.int R))) 0 0 ik_no := by
  refine ik_metR RX7 rfl (by decide) (Nat.le_of_ble_eq_true rfl) [(0, .ref h0), (1, .int x1)] rfl ?_
  intro p e s m below meth c C hr hlk
  unfold f_X7_isGone at hf
  refine ik_aload_n C 0 rfl rfl dX7_isGone_0 ?_
  refine ik_iload_n C 1 rfl rfl dX7_isGone_1 ?_
  obtain ⟨r1, hc1, hf⟩ := ik_b1s hf
  have hM := (c_X7_cellOf l D cI cS h0 h1 h2 h3 h4 h5 h6 h7 h8 h9 h10 h11 misKept mtaped msort mfrom mto mvalue mbad mm mkept mwas mother mfound mwarm mdrip mtape mbits msize mnumber x1 r1 hc1)
  refine ik_goR (ik_runV (st := []) (As := [.int x1]) C hM mv_X7_cellOf wl_7_16 ⟨rfl, rfl, Nat.le_of_ble_eq_true rfl, Nat.le_of_ble_eq_true rfl⟩ [0, 1, 2, 3, 4, 5, 6, 7, 8, 9, 10, 11] rfl (by decide +kernel) 0 rfl rfl rfl rfl (Nat.le_of_ble_eq_true rfl) dX7_isGone_2 ⟨Nat.zero_le _, Nat.zero_le _⟩) rfl ?_
  refine ik_if_ge C 12 dX7_isGone_5 (by decide) (fun hc => ?_) (fun hc => ?_)
  · have hf := ik_pos hc hf
    refine ik_iconst (v := (0 : Int32)) C (by decide) dX7_isGone_12 ?_
    obtain rfl := Option.some.inj hf
    exact ik_zretR C hr (by decide) hlk dX7_isGone_13
  · have hf := ik_neg hc hf
    refine ik_iconst (v := (1 : Int32)) C (by decide) dX7_isGone_8 ?_
    refine ik_goto C 13 dX7_isGone_9 (by decide) ?_
    obtain rfl := Option.some.inj hf
    exact ik_zretR C hr (by decide) hlk dX7_isGone_13
theorem mv_X7_blockOn : ik_V yX7_blockOn RX7 cX7_blockOn 3 (some .int) 1 := ⟨wl_7_13, wl_7_14, wl_1_5, wl_7_15, by decide +kernel⟩
set_option maxHeartbeats 4000000 in
set_option maxRecDepth 100000 in
theorem c_X7_blockOn (l : Launch) (D : va_G) (cI cS : ClassId) (h0 h1 h2 h3 h4 h5 h6 h7 h8 h9 h10 h11 : Nat) (misKept : Int32) (mtaped : Int32) (msort : Int32) (mfrom : Int32) (mto : Int32) (mvalue : Int32) (mbad : Int32) (mm : Nat → Int32) (mkept : Nat → Int32) (mwas : Nat → Int32) (mother : Nat → Int32) (mfound : Nat → Int32) (mwarm : Nat → Int32) (mdrip : Nat → Int32) (mtape : Nat → Int32) (mbits : Nat → Int32) (msize : Nat → Int32) (mnumber : Nat → Int32) (x1 : Int32) (R : Int32) (hf : f_X7_blockOn mm x1 = some (R)) : Met l yX7_blockOn (ik_ws yX7_blockOn cX7_blockOn 3 (some .int)) ({ frames := 1, cells := 0, slots := 0, locals := 21 } : Room) (ik_P D cI cS [.ref h0, .int x1] (wz_X7 cI cS h0 h1 h2 h3 h4 h5 h6 h7 h8 h9 h10 h11 misKept mtaped msort mfrom mto mvalue mbad mm mkept mwas mother mfound mwarm mdrip mtape mbits msize mnumber)) (ik_R (some (.int R))) 0 0 ik_no := by
  refine ik_metR RX7 rfl (by decide) (Nat.le_of_ble_eq_true rfl) [(0, .ref h0), (1, .int x1)] rfl ?_
  intro p e s m below meth c C hr hlk
  unfold f_X7_blockOn at hf
  refine ik_iconst (v := (0 : Int32)) C (by decide) dX7_blockOn_0 ?_
  refine ik_istore_n C [(2, .int (0 : Int32)), (0, .ref h0), (1, .int x1)] rfl (by decide) rfl dX7_blockOn_1 ?_
  have hL_2 : ∀ (n_2 : Nat) (x2_2 : Int32), ik_lp1 (b_X7_blockOn_2 mm x1) n_2 x2_2 = some (R) → ik_G p l e ({ frames := 1, cells := 0, slots := 0, locals := 21 } : Room) s m ([.ref h0, .int x1] : List Value).toArray below meth c D ik_no (fun _ => True) 3 0 0 (MQ below (ik_R (some (.int R))) ([.ref h0, .int x1] : List Value).toArray s 0 0 ik_no) 2 [(2, .int x2_2), (0, .ref h0), (1, .int x1)] [] (wz_X7 cI cS h0 h1 h2 h3 h4 h5 h6 h7 h8 h9 h10 h11 misKept mtaped msort mfrom mto mvalue mbad mm mkept mwas mother mfound mwarm mdrip mtape mbits msize mnumber) := by
    intro n_2
    induction n_2 with
    | zero => intro _ hf; exact nomatch hf
    | succ n_2 ih_2 =>
      intro x2_2 hf
      replace hf : b_X7_blockOn_2 mm x1 (ik_lp1 (b_X7_blockOn_2 mm x1) n_2) x2_2 = some (R) := hf
      unfold b_X7_blockOn_2 at hf
      refine ik_iload_n C 0 rfl rfl dX7_blockOn_2 ?_
      refine ik_aload_n C 1 rfl rfl dX7_blockOn_3 ?_
      refine ik_get C inlX7 0 rfl rfl 0 (by decide) wl_4_12 rfl (v := .ref h1) rfl dX7_blockOn_4 ?_
      refine ik_iconst (v := (5 : Int32)) C (by decide) dX7_blockOn_7 ?_
      refine ik_iald C 1 rfl (ik_vin (by decide)) dX7_blockOn_8 ?_
      refine ik_icmp_ge C 33 dX7_blockOn_9 (by decide) (fun hc => ?_) (fun hc => ?_)
      · have hf := ik_pos hc hf
        refine ik_iconst (v := (-1 : Int32)) C (by decide) dX7_blockOn_33 ?_
        obtain rfl := Option.some.inj hf
        exact ik_iretR C hr hlk dX7_blockOn_34
      · have hf := ik_neg hc hf
        refine ik_iload_n C 2 rfl rfl dX7_blockOn_12 ?_
        refine ik_if_lt C 33 dX7_blockOn_13 (by decide) (fun hc => ?_) (fun hc => ?_)
        · have hf := ik_pos hc hf
          refine ik_iconst (v := (-1 : Int32)) C (by decide) dX7_blockOn_33 ?_
          obtain rfl := Option.some.inj hf
          exact ik_iretR C hr hlk dX7_blockOn_34
        · have hf := ik_neg hc hf
          refine ik_aload_n C 1 rfl rfl dX7_blockOn_16 ?_
          refine ik_iload_n C 0 rfl rfl dX7_blockOn_17 ?_
          obtain ⟨r1, hc1, hf⟩ := ik_b1s hf
          have hM := (c_X7_cellOf l D cI cS h0 h1 h2 h3 h4 h5 h6 h7 h8 h9 h10 h11 misKept mtaped msort mfrom mto mvalue mbad mm mkept mwas mother mfound mwarm mdrip mtape mbits msize mnumber x2_2 r1 hc1)
          refine ik_goR (ik_runV (st := []) (As := [.int x2_2]) C hM mv_X7_cellOf wl_7_16 ⟨rfl, rfl, Nat.le_of_ble_eq_true rfl, Nat.le_of_ble_eq_true rfl⟩ [0, 1, 2, 3, 4, 5, 6, 7, 8, 9, 10, 11] rfl (by decide +kernel) 0 rfl rfl rfl rfl (Nat.le_of_ble_eq_true rfl) dX7_blockOn_18 ⟨Nat.zero_le _, Nat.zero_le _⟩) rfl ?_
          refine ik_iload_n C 2 rfl rfl dX7_blockOn_21 ?_
          refine ik_icmp_ne C 27 dX7_blockOn_22 (by decide) (fun hc => ?_) (fun hc => ?_)
          · have hf := ik_neg hc hf
            refine ik_iinc C [(2, .int (x2_2 + (1 : Int32))), (0, .ref h0), (1, .int x1)] 0 rfl rfl (by decide) rfl dX7_blockOn_27 ?_
            refine ik_goto C 2 dX7_blockOn_30 (by decide) ?_
            exact ik_sub [0, 1, 2] [(2, .int (x2_2 + (1 : Int32))), (0, .ref h0), (1, .int x1)] rfl (ih_2 (x2_2 + (1 : Int32)) hf)
          · have hf := ik_pos hc hf
            refine ik_iload_n C 0 rfl rfl dX7_blockOn_25 ?_
            obtain rfl := Option.some.inj hf
            exact ik_iretR C hr hlk dX7_blockOn_26
  exact hL_2 ik_fu (0 : Int32) hf
theorem mv_X7_comes : ik_V yX7_comes RX7 cX7_comes 5 (some .int) 3 := ⟨wl_7_21, wl_7_22, wl_1_5, wl_7_23, by decide +kernel⟩
set_option maxHeartbeats 4000000 in
set_option maxRecDepth 100000 in
theorem c_X7_comes (l : Launch) (D : va_G) (cI cS : ClassId) (h0 h1 h2 h3 h4 h5 h6 h7 h8 h9 h10 h11 : Nat) (misKept : Int32) (mtaped : Int32) (msort : Int32) (mfrom : Int32) (mto : Int32) (mvalue : Int32) (mbad : Int32) (mm : Nat → Int32) (mkept : Nat → Int32) (mwas : Nat → Int32) (mother : Nat → Int32) (mfound : Nat → Int32) (mwarm : Nat → Int32) (mdrip : Nat → Int32) (mtape : Nat → Int32) (mbits : Nat → Int32) (msize : Nat → Int32) (mnumber : Nat → Int32) (x1 : Int32) (x2 : Int32) (x3 : Int32) (R : Int32) (mm_r : Nat → Int32) (hf : f_X7_comes mm x1 x2 x3 = some (R, mm_r)) : Met l yX7_comes (ik_ws yX7_comes cX7_comes 5 (some .int)) ({ frames := 0, cells := 0, slots := 0, locals := 0 } : Room) (ik_P D cI cS [.ref h0, .int x1, .int x2, .int x3] (wz_X7 cI cS h0 h1 h2 h3 h4 h5 h6 h7 h8 h9 h10 h11 misKept mtaped msort mfrom mto mvalue mbad mm mkept mwas mother mfound mwarm mdrip mtape mbits msize mnumber)) (ik_Q (some (.int R)) D (wz_X7 cI cS h0 h1 h2 h3 h4 h5 h6 h7 h8 h9 h10 h11 misKept mtaped msort mfrom mto mvalue mbad mm_r mkept mwas mother mfound mwarm mdrip mtape mbits msize mnumber) (wz_X7 cI cS h0 h1 h2 h3 h4 h5 h6 h7 h8 h9 h10 h11 misKept mtaped msort mfrom mto mvalue mbad mm mkept mwas mother mfound mwarm mdrip mtape mbits msize mnumber)) 0 0 (ik_in (wz_X7 cI cS h0 h1 h2 h3 h4 h5 h6 h7 h8 h9 h10 h11 misKept mtaped msort mfrom mto mvalue mbad mm mkept mwas mother mfound mwarm mdrip mtape mbits msize mnumber)) := by
  refine ik_metW RX7 rfl (by decide) (Nat.le_of_ble_eq_true rfl) [(0, .ref h0), (1, .int x1), (2, .int x2), (3, .int x3)] rfl ?_
  intro p e s m below meth c C hr hlk
  unfold f_X7_comes at hf
  refine ik_aload_n C 0 rfl rfl dX7_comes_0 ?_
  refine ik_get C inlX7 0 rfl rfl 0 (by decide) wl_4_12 rfl (v := .ref h1) rfl dX7_comes_1 ?_
  refine ik_iconst (v := (5 : Int32)) C (by decide) dX7_comes_4 ?_
  refine ik_iald C 1 rfl (ik_vin (by decide)) dX7_comes_5 ?_
  refine ik_istore C [(4, .int (mm ((5 : Int32)).toNatClampNeg)), (0, .ref h0), (1, .int x1), (2, .int x2), (3, .int x3)] (by decide) rfl dX7_comes_6 ?_
  refine ik_aload_n C 1 rfl rfl dX7_comes_8 ?_
  refine ik_get C inlX7 0 rfl rfl 0 (by decide) wl_4_12 rfl (v := .ref h1) rfl dX7_comes_9 ?_
  refine ik_bipush (v := (24 : Int32)) C (by decide) dX7_comes_12 ?_
  refine ik_iconst (v := (3 : Int32)) C (by decide) dX7_comes_14 ?_
  refine ik_iload C 0 rfl dX7_comes_15 ?_
  refine ik_imul C dX7_comes_17 ?_
  refine ik_iadd C dX7_comes_18 ?_
  refine ik_iload_n C 2 rfl rfl dX7_comes_19 ?_
  have hg := ik_gdi hf
  have hf := ik_gdk hf
  refine ik_iast C 1 rfl hg (wz_X7 cI cS h0 h1 h2 h3 h4 h5 h6 h7 h8 h9 h10 h11 misKept mtaped msort mfrom mto mvalue mbad (upd mm (((24 : Int32) + ((3 : Int32) * (mm ((5 : Int32)).toNatClampNeg)))).toNatClampNeg x1) mkept mwas mother mfound mwarm mdrip mtape mbits msize mnumber) rfl dX7_comes_20 ?_
  refine ik_aload_n C 1 rfl rfl dX7_comes_21 ?_
  refine ik_get C inlX7 0 rfl rfl 0 (by decide) wl_4_12 rfl (v := .ref h1) rfl dX7_comes_22 ?_
  refine ik_bipush (v := (24 : Int32)) C (by decide) dX7_comes_25 ?_
  refine ik_iconst (v := (3 : Int32)) C (by decide) dX7_comes_27 ?_
  refine ik_iload C 0 rfl dX7_comes_28 ?_
  refine ik_imul C dX7_comes_30 ?_
  refine ik_iadd C dX7_comes_31 ?_
  refine ik_iconst (v := (1 : Int32)) C (by decide) dX7_comes_32 ?_
  refine ik_iadd C dX7_comes_33 ?_
  refine ik_iload_n C 3 rfl rfl dX7_comes_34 ?_
  have hg := ik_gdi hf
  have hf := ik_gdk hf
  refine ik_iast C 1 rfl hg (wz_X7 cI cS h0 h1 h2 h3 h4 h5 h6 h7 h8 h9 h10 h11 misKept mtaped msort mfrom mto mvalue mbad (upd (upd mm (((24 : Int32) + ((3 : Int32) * (mm ((5 : Int32)).toNatClampNeg)))).toNatClampNeg x1) ((((24 : Int32) + ((3 : Int32) * (mm ((5 : Int32)).toNatClampNeg))) + (1 : Int32))).toNatClampNeg x2) mkept mwas mother mfound mwarm mdrip mtape mbits msize mnumber) rfl dX7_comes_35 ?_
  refine ik_aload_n C 1 rfl rfl dX7_comes_36 ?_
  refine ik_get C inlX7 0 rfl rfl 0 (by decide) wl_4_12 rfl (v := .ref h1) rfl dX7_comes_37 ?_
  refine ik_bipush (v := (24 : Int32)) C (by decide) dX7_comes_40 ?_
  refine ik_iconst (v := (3 : Int32)) C (by decide) dX7_comes_42 ?_
  refine ik_iload C 0 rfl dX7_comes_43 ?_
  refine ik_imul C dX7_comes_45 ?_
  refine ik_iadd C dX7_comes_46 ?_
  refine ik_iconst (v := (2 : Int32)) C (by decide) dX7_comes_47 ?_
  refine ik_iadd C dX7_comes_48 ?_
  refine ik_iload_n C 4 rfl rfl dX7_comes_49 ?_
  have hg := ik_gdi hf
  have hf := ik_gdk hf
  refine ik_iast C 1 rfl hg (wz_X7 cI cS h0 h1 h2 h3 h4 h5 h6 h7 h8 h9 h10 h11 misKept mtaped msort mfrom mto mvalue mbad (upd (upd (upd mm (((24 : Int32) + ((3 : Int32) * (mm ((5 : Int32)).toNatClampNeg)))).toNatClampNeg x1) ((((24 : Int32) + ((3 : Int32) * (mm ((5 : Int32)).toNatClampNeg))) + (1 : Int32))).toNatClampNeg x2) ((((24 : Int32) + ((3 : Int32) * (mm ((5 : Int32)).toNatClampNeg))) + (2 : Int32))).toNatClampNeg x3) mkept mwas mother mfound mwarm mdrip mtape mbits msize mnumber) rfl dX7_comes_50 ?_
  refine ik_aload_n C 1 rfl rfl dX7_comes_51 ?_
  refine ik_get C inlX7 0 rfl rfl 0 (by decide) wl_4_12 rfl (v := .ref h1) rfl dX7_comes_52 ?_
  refine ik_iconst (v := (5 : Int32)) C (by decide) dX7_comes_55 ?_
  refine ik_dup2 C rfl rfl dX7_comes_56 ?_
  refine ik_iald C 1 rfl (ik_vin (by decide)) dX7_comes_57 ?_
  refine ik_iconst (v := (1 : Int32)) C (by decide) dX7_comes_58 ?_
  refine ik_iadd C dX7_comes_59 ?_
  refine ik_iast C 1 rfl (ik_vin (by decide)) (wz_X7 cI cS h0 h1 h2 h3 h4 h5 h6 h7 h8 h9 h10 h11 misKept mtaped msort mfrom mto mvalue mbad (upd (upd (upd (upd mm (((24 : Int32) + ((3 : Int32) * (mm ((5 : Int32)).toNatClampNeg)))).toNatClampNeg x1) ((((24 : Int32) + ((3 : Int32) * (mm ((5 : Int32)).toNatClampNeg))) + (1 : Int32))).toNatClampNeg x2) ((((24 : Int32) + ((3 : Int32) * (mm ((5 : Int32)).toNatClampNeg))) + (2 : Int32))).toNatClampNeg x3) ((5 : Int32)).toNatClampNeg (((upd (upd (upd mm (((24 : Int32) + ((3 : Int32) * (mm ((5 : Int32)).toNatClampNeg)))).toNatClampNeg x1) ((((24 : Int32) + ((3 : Int32) * (mm ((5 : Int32)).toNatClampNeg))) + (1 : Int32))).toNatClampNeg x2) ((((24 : Int32) + ((3 : Int32) * (mm ((5 : Int32)).toNatClampNeg))) + (2 : Int32))).toNatClampNeg x3) ((5 : Int32)).toNatClampNeg) + (1 : Int32))) mkept mwas mother mfound mwarm mdrip mtape mbits msize mnumber) rfl dX7_comes_60 ?_
  refine ik_iload C 0 rfl dX7_comes_61 ?_
  obtain ⟨rfl, rfl⟩ := ik_e2 hf
  exact ik_iretW C hr hlk dX7_comes_63
theorem mv_X7_block : ik_V yX7_block RX7 cX7_block 4 (some .int) 3 := ⟨wl_6_11, wl_6_12, wl_1_5, wl_6_13, by decide +kernel⟩
set_option maxHeartbeats 4000000 in
set_option maxRecDepth 100000 in
theorem c_X7_block (l : Launch) (D : va_G) (cI cS : ClassId) (h0 h1 h2 h3 h4 h5 h6 h7 h8 h9 h10 h11 : Nat) (misKept : Int32) (mtaped : Int32) (msort : Int32) (mfrom : Int32) (mto : Int32) (mvalue : Int32) (mbad : Int32) (mm : Nat → Int32) (mkept : Nat → Int32) (mwas : Nat → Int32) (mother : Nat → Int32) (mfound : Nat → Int32) (mwarm : Nat → Int32) (mdrip : Nat → Int32) (mtape : Nat → Int32) (mbits : Nat → Int32) (msize : Nat → Int32) (mnumber : Nat → Int32) (x1 : Int32) (x2 : Int32) (x3 : Int32) (R : Int32) (mm_r : Nat → Int32) (mfound_r : Nat → Int32) (hf : f_X7_block mm mfound x1 x2 x3 = some (R, mm_r, mfound_r)) : Met l yX7_block (ik_ws yX7_block cX7_block 4 (some .int)) ({ frames := 2, cells := 0, slots := 0, locals := 45 } : Room) (ik_P D cI cS [.ref h0, .int x1, .int x2, .int x3] (wz_X7 cI cS h0 h1 h2 h3 h4 h5 h6 h7 h8 h9 h10 h11 misKept mtaped msort mfrom mto mvalue mbad mm mkept mwas mother mfound mwarm mdrip mtape mbits msize mnumber)) (ik_Q (some (.int R)) D (wz_X7 cI cS h0 h1 h2 h3 h4 h5 h6 h7 h8 h9 h10 h11 misKept mtaped msort mfrom mto mvalue mbad mm_r mkept mwas mother mfound_r mwarm mdrip mtape mbits msize mnumber) (wz_X7 cI cS h0 h1 h2 h3 h4 h5 h6 h7 h8 h9 h10 h11 misKept mtaped msort mfrom mto mvalue mbad mm mkept mwas mother mfound mwarm mdrip mtape mbits msize mnumber)) 0 0 (ik_in (wz_X7 cI cS h0 h1 h2 h3 h4 h5 h6 h7 h8 h9 h10 h11 misKept mtaped msort mfrom mto mvalue mbad mm mkept mwas mother mfound mwarm mdrip mtape mbits msize mnumber)) := by
  refine ik_metW RX7 rfl (by decide) (Nat.le_of_ble_eq_true rfl) [(0, .ref h0), (1, .int x1), (2, .int x2), (3, .int x3)] rfl ?_
  intro p e s m below meth c C hr hlk
  unfold f_X7_block at hf
  refine ik_iload_n C 1 rfl rfl dX7_block_0 ?_
  obtain ⟨r1, hc1, hf⟩ := ik_b1s hf
  have hM := (c_X7_isKind l D cI cS x1 r1 hc1)
  refine ik_goR (ik_runS (st := []) (As := [.int x1]) C hM ms_X7_isKind wl_6_17 ⟨rfl, rfl, Nat.le_of_ble_eq_true rfl, Nat.le_of_ble_eq_true rfl⟩ [] rfl (by decide +kernel) rfl rfl (Nat.le_of_ble_eq_true rfl) dX7_block_1 ⟨Nat.zero_le _, Nat.zero_le _⟩) rfl ?_
  refine ik_if_eq C 21 dX7_block_4 (by decide) (fun hc => ?_) (fun hc => ?_)
  · have hf := ik_pos hc hf
    refine ik_aload_n C 0 rfl rfl dX7_block_21 ?_
    refine ik_ldc C wl_6_14 dX7_block_22 ?_
    obtain ⟨r2, g3, hc3, hf⟩ := ik_b2s hf
    have hM := (c_X7_finds l D cI cS h0 h1 h2 h3 h4 h5 h6 h7 h8 h9 h10 h11 misKept mtaped msort mfrom mto mvalue mbad mm mkept mwas mother mfound mwarm mdrip mtape mbits msize mnumber (-1000001 : Int32) r2 g3 hc3)
    refine ik_goW (v := (some (.int r2))) (wc := (wz_X7 cI cS h0 h1 h2 h3 h4 h5 h6 h7 h8 h9 h10 h11 misKept mtaped msort mfrom mto mvalue mbad mm mkept mwas mother mfound mwarm mdrip mtape mbits msize mnumber)) (w1 := (wz_X7 cI cS h0 h1 h2 h3 h4 h5 h6 h7 h8 h9 h10 h11 misKept mtaped msort mfrom mto mvalue mbad mm mkept mwas mother g3 mwarm mdrip mtape mbits msize mnumber)) [0, 1, 2, 3, 4, 5, 6, 7, 8, 9, 10, 11] [] 12 rfl rfl (wz_X7 cI cS h0 h1 h2 h3 h4 h5 h6 h7 h8 h9 h10 h11 misKept mtaped msort mfrom mto mvalue mbad mm mkept mwas mother g3 mwarm mdrip mtape mbits msize mnumber) rfl [] rfl rfl rfl (by decide +kernel) (ik_runV (st := []) (As := [.int (-1000001 : Int32)]) C hM mv_X7_finds wl_7_8 ⟨rfl, rfl, Nat.le_of_ble_eq_true rfl, Nat.le_of_ble_eq_true rfl⟩ [0, 1, 2, 3, 4, 5, 6, 7, 8, 9, 10, 11] rfl (by decide +kernel) 0 rfl rfl rfl rfl (Nat.le_of_ble_eq_true rfl) dX7_block_24 ⟨Nat.zero_le _, Nat.zero_le _⟩) rfl ?_
    obtain ⟨rfl, rfl, rfl⟩ := ik_e3 hf
    exact ik_iretW C hr hlk dX7_block_27
  · have hf := ik_neg hc hf
    refine ik_iload_n C 2 rfl rfl dX7_block_7 ?_
    obtain ⟨r2, hc2, hf⟩ := ik_b1s hf
    have hM := (c_X7_isCell l D cI cS x2 r2 hc2)
    refine ik_goR (ik_runS (st := []) (As := [.int x2]) C hM ms_X7_isCell wl_7_0 ⟨rfl, rfl, Nat.le_of_ble_eq_true rfl, Nat.le_of_ble_eq_true rfl⟩ [] rfl (by decide +kernel) rfl rfl (Nat.le_of_ble_eq_true rfl) dX7_block_8 ⟨Nat.zero_le _, Nat.zero_le _⟩) rfl ?_
    refine ik_if_eq C 21 dX7_block_11 (by decide) (fun hc => ?_) (fun hc => ?_)
    · have hf := ik_pos hc hf
      refine ik_aload_n C 0 rfl rfl dX7_block_21 ?_
      refine ik_ldc C wl_6_14 dX7_block_22 ?_
      obtain ⟨r3, g4, hc4, hf⟩ := ik_b2s hf
      have hM := (c_X7_finds l D cI cS h0 h1 h2 h3 h4 h5 h6 h7 h8 h9 h10 h11 misKept mtaped msort mfrom mto mvalue mbad mm mkept mwas mother mfound mwarm mdrip mtape mbits msize mnumber (-1000001 : Int32) r3 g4 hc4)
      refine ik_goW (v := (some (.int r3))) (wc := (wz_X7 cI cS h0 h1 h2 h3 h4 h5 h6 h7 h8 h9 h10 h11 misKept mtaped msort mfrom mto mvalue mbad mm mkept mwas mother mfound mwarm mdrip mtape mbits msize mnumber)) (w1 := (wz_X7 cI cS h0 h1 h2 h3 h4 h5 h6 h7 h8 h9 h10 h11 misKept mtaped msort mfrom mto mvalue mbad mm mkept mwas mother g4 mwarm mdrip mtape mbits msize mnumber)) [0, 1, 2, 3, 4, 5, 6, 7, 8, 9, 10, 11] [] 12 rfl rfl (wz_X7 cI cS h0 h1 h2 h3 h4 h5 h6 h7 h8 h9 h10 h11 misKept mtaped msort mfrom mto mvalue mbad mm mkept mwas mother g4 mwarm mdrip mtape mbits msize mnumber) rfl [] rfl rfl rfl (by decide +kernel) (ik_runV (st := []) (As := [.int (-1000001 : Int32)]) C hM mv_X7_finds wl_7_8 ⟨rfl, rfl, Nat.le_of_ble_eq_true rfl, Nat.le_of_ble_eq_true rfl⟩ [0, 1, 2, 3, 4, 5, 6, 7, 8, 9, 10, 11] rfl (by decide +kernel) 0 rfl rfl rfl rfl (Nat.le_of_ble_eq_true rfl) dX7_block_24 ⟨Nat.zero_le _, Nat.zero_le _⟩) rfl ?_
      obtain ⟨rfl, rfl, rfl⟩ := ik_e3 hf
      exact ik_iretW C hr hlk dX7_block_27
    · have hf := ik_neg hc hf
      refine ik_iload_n C 3 rfl rfl dX7_block_14 ?_
      obtain ⟨r3, hc3, hf⟩ := ik_b1s hf
      have hM := (c_X7_isSome l D cI cS x3 r3 hc3)
      refine ik_goR (ik_runS (st := []) (As := [.int x3]) C hM ms_X7_isSome wl_7_4 ⟨rfl, rfl, Nat.le_of_ble_eq_true rfl, Nat.le_of_ble_eq_true rfl⟩ [] rfl (by decide +kernel) rfl rfl (Nat.le_of_ble_eq_true rfl) dX7_block_15 ⟨Nat.zero_le _, Nat.zero_le _⟩) rfl ?_
      refine ik_if_ne C 28 dX7_block_18 (by decide) (fun hc => ?_) (fun hc => ?_)
      · have hf := ik_neg hc hf
        refine ik_aload_n C 0 rfl rfl dX7_block_28 ?_
        refine ik_get C inlX7 0 rfl rfl 0 (by decide) wl_4_12 rfl (v := .ref h1) rfl dX7_block_29 ?_
        refine ik_iconst (v := (5 : Int32)) C (by decide) dX7_block_32 ?_
        refine ik_iald C 1 rfl (ik_vin (by decide)) dX7_block_33 ?_
        refine ik_bipush (v := (16 : Int32)) C (by decide) dX7_block_34 ?_
        refine ik_icmp_ne C 46 dX7_block_36 (by decide) (fun hc => ?_) (fun hc => ?_)
        · have hf := ik_neg hc hf
          refine ik_aload_n C 0 rfl rfl dX7_block_46 ?_
          refine ik_iload_n C 2 rfl rfl dX7_block_47 ?_
          obtain ⟨r4, hc4, hf⟩ := ik_b1s hf
          have hM := (c_X7_blockOn l D cI cS h0 h1 h2 h3 h4 h5 h6 h7 h8 h9 h10 h11 misKept mtaped msort mfrom mto mvalue mbad mm mkept mwas mother mfound mwarm mdrip mtape mbits msize mnumber x2 r4 hc4)
          refine ik_goR (ik_runV (st := []) (As := [.int x2]) C hM mv_X7_blockOn wl_7_12 ⟨rfl, rfl, Nat.le_of_ble_eq_true rfl, Nat.le_of_ble_eq_true rfl⟩ [0, 1, 2, 3, 4, 5, 6, 7, 8, 9, 10, 11] rfl (by decide +kernel) 0 rfl rfl rfl rfl (Nat.le_of_ble_eq_true rfl) dX7_block_48 ⟨Nat.zero_le _, Nat.zero_le _⟩) rfl ?_
          refine ik_if_lt C 63 dX7_block_51 (by decide) (fun hc => ?_) (fun hc => ?_)
          · have hf := ik_pos hc hf
            refine ik_aload_n C 0 rfl rfl dX7_block_63 ?_
            refine ik_iload_n C 1 rfl rfl dX7_block_64 ?_
            refine ik_iload_n C 2 rfl rfl dX7_block_65 ?_
            refine ik_iload_n C 3 rfl rfl dX7_block_66 ?_
            obtain ⟨r5, g6, hc6, hf⟩ := ik_b2s hf
            have hM := (c_X7_comes l D cI cS h0 h1 h2 h3 h4 h5 h6 h7 h8 h9 h10 h11 misKept mtaped msort mfrom mto mvalue mbad mm mkept mwas mother mfound mwarm mdrip mtape mbits msize mnumber x1 x2 x3 r5 g6 hc6)
            refine ik_goW (v := (some (.int r5))) (wc := (wz_X7 cI cS h0 h1 h2 h3 h4 h5 h6 h7 h8 h9 h10 h11 misKept mtaped msort mfrom mto mvalue mbad mm mkept mwas mother mfound mwarm mdrip mtape mbits msize mnumber)) (w1 := (wz_X7 cI cS h0 h1 h2 h3 h4 h5 h6 h7 h8 h9 h10 h11 misKept mtaped msort mfrom mto mvalue mbad g6 mkept mwas mother mfound mwarm mdrip mtape mbits msize mnumber)) [0, 1, 2, 3, 4, 5, 6, 7, 8, 9, 10, 11] [] 12 rfl rfl (wz_X7 cI cS h0 h1 h2 h3 h4 h5 h6 h7 h8 h9 h10 h11 misKept mtaped msort mfrom mto mvalue mbad g6 mkept mwas mother mfound mwarm mdrip mtape mbits msize mnumber) rfl [] rfl rfl rfl (by decide +kernel) (ik_runV (st := []) (As := [.int x1, .int x2, .int x3]) C hM mv_X7_comes wl_7_20 ⟨rfl, rfl, Nat.le_of_ble_eq_true rfl, Nat.le_of_ble_eq_true rfl⟩ [0, 1, 2, 3, 4, 5, 6, 7, 8, 9, 10, 11] rfl (by decide +kernel) 0 rfl rfl rfl rfl (Nat.le_of_ble_eq_true rfl) dX7_block_67 ⟨Nat.zero_le _, Nat.zero_le _⟩) rfl ?_
            obtain ⟨rfl, rfl, rfl⟩ := ik_e3 hf
            exact ik_iretW C hr hlk dX7_block_70
          · have hf := ik_neg hc hf
            refine ik_aload_n C 0 rfl rfl dX7_block_54 ?_
            refine ik_ldc C wl_6_16 dX7_block_55 ?_
            obtain ⟨r5, g6, hc6, hf⟩ := ik_b2s hf
            have hM := (c_X7_finds l D cI cS h0 h1 h2 h3 h4 h5 h6 h7 h8 h9 h10 h11 misKept mtaped msort mfrom mto mvalue mbad mm mkept mwas mother mfound mwarm mdrip mtape mbits msize mnumber (-1000005 : Int32) r5 g6 hc6)
            refine ik_goW (v := (some (.int r5))) (wc := (wz_X7 cI cS h0 h1 h2 h3 h4 h5 h6 h7 h8 h9 h10 h11 misKept mtaped msort mfrom mto mvalue mbad mm mkept mwas mother mfound mwarm mdrip mtape mbits msize mnumber)) (w1 := (wz_X7 cI cS h0 h1 h2 h3 h4 h5 h6 h7 h8 h9 h10 h11 misKept mtaped msort mfrom mto mvalue mbad mm mkept mwas mother g6 mwarm mdrip mtape mbits msize mnumber)) [0, 1, 2, 3, 4, 5, 6, 7, 8, 9, 10, 11] [] 12 rfl rfl (wz_X7 cI cS h0 h1 h2 h3 h4 h5 h6 h7 h8 h9 h10 h11 misKept mtaped msort mfrom mto mvalue mbad mm mkept mwas mother g6 mwarm mdrip mtape mbits msize mnumber) rfl [] rfl rfl rfl (by decide +kernel) (ik_runV (st := []) (As := [.int (-1000005 : Int32)]) C hM mv_X7_finds wl_7_8 ⟨rfl, rfl, Nat.le_of_ble_eq_true rfl, Nat.le_of_ble_eq_true rfl⟩ [0, 1, 2, 3, 4, 5, 6, 7, 8, 9, 10, 11] rfl (by decide +kernel) 0 rfl rfl rfl rfl (Nat.le_of_ble_eq_true rfl) dX7_block_57 ⟨Nat.zero_le _, Nat.zero_le _⟩) rfl ?_
            refine ik_goto C 70 dX7_block_60 (by decide) ?_
            obtain ⟨rfl, rfl, rfl⟩ := ik_e3 hf
            exact ik_iretW C hr hlk dX7_block_70
        · have hf := ik_pos hc hf
          refine ik_aload_n C 0 rfl rfl dX7_block_39 ?_
          refine ik_ldc C wl_6_15 dX7_block_40 ?_
          obtain ⟨r4, g5, hc5, hf⟩ := ik_b2s hf
          have hM := (c_X7_finds l D cI cS h0 h1 h2 h3 h4 h5 h6 h7 h8 h9 h10 h11 misKept mtaped msort mfrom mto mvalue mbad mm mkept mwas mother mfound mwarm mdrip mtape mbits msize mnumber (-1000002 : Int32) r4 g5 hc5)
          refine ik_goW (v := (some (.int r4))) (wc := (wz_X7 cI cS h0 h1 h2 h3 h4 h5 h6 h7 h8 h9 h10 h11 misKept mtaped msort mfrom mto mvalue mbad mm mkept mwas mother mfound mwarm mdrip mtape mbits msize mnumber)) (w1 := (wz_X7 cI cS h0 h1 h2 h3 h4 h5 h6 h7 h8 h9 h10 h11 misKept mtaped msort mfrom mto mvalue mbad mm mkept mwas mother g5 mwarm mdrip mtape mbits msize mnumber)) [0, 1, 2, 3, 4, 5, 6, 7, 8, 9, 10, 11] [] 12 rfl rfl (wz_X7 cI cS h0 h1 h2 h3 h4 h5 h6 h7 h8 h9 h10 h11 misKept mtaped msort mfrom mto mvalue mbad mm mkept mwas mother g5 mwarm mdrip mtape mbits msize mnumber) rfl [] rfl rfl rfl (by decide +kernel) (ik_runV (st := []) (As := [.int (-1000002 : Int32)]) C hM mv_X7_finds wl_7_8 ⟨rfl, rfl, Nat.le_of_ble_eq_true rfl, Nat.le_of_ble_eq_true rfl⟩ [0, 1, 2, 3, 4, 5, 6, 7, 8, 9, 10, 11] rfl (by decide +kernel) 0 rfl rfl rfl rfl (Nat.le_of_ble_eq_true rfl) dX7_block_42 ⟨Nat.zero_le _, Nat.zero_le _⟩) rfl ?_
          obtain ⟨rfl, rfl, rfl⟩ := ik_e3 hf
          exact ik_iretW C hr hlk dX7_block_45
      · have hf := ik_pos hc hf
        refine ik_aload_n C 0 rfl rfl dX7_block_21 ?_
        refine ik_ldc C wl_6_14 dX7_block_22 ?_
        obtain ⟨r4, g5, hc5, hf⟩ := ik_b2s hf
        have hM := (c_X7_finds l D cI cS h0 h1 h2 h3 h4 h5 h6 h7 h8 h9 h10 h11 misKept mtaped msort mfrom mto mvalue mbad mm mkept mwas mother mfound mwarm mdrip mtape mbits msize mnumber (-1000001 : Int32) r4 g5 hc5)
        refine ik_goW (v := (some (.int r4))) (wc := (wz_X7 cI cS h0 h1 h2 h3 h4 h5 h6 h7 h8 h9 h10 h11 misKept mtaped msort mfrom mto mvalue mbad mm mkept mwas mother mfound mwarm mdrip mtape mbits msize mnumber)) (w1 := (wz_X7 cI cS h0 h1 h2 h3 h4 h5 h6 h7 h8 h9 h10 h11 misKept mtaped msort mfrom mto mvalue mbad mm mkept mwas mother g5 mwarm mdrip mtape mbits msize mnumber)) [0, 1, 2, 3, 4, 5, 6, 7, 8, 9, 10, 11] [] 12 rfl rfl (wz_X7 cI cS h0 h1 h2 h3 h4 h5 h6 h7 h8 h9 h10 h11 misKept mtaped msort mfrom mto mvalue mbad mm mkept mwas mother g5 mwarm mdrip mtape mbits msize mnumber) rfl [] rfl rfl rfl (by decide +kernel) (ik_runV (st := []) (As := [.int (-1000001 : Int32)]) C hM mv_X7_finds wl_7_8 ⟨rfl, rfl, Nat.le_of_ble_eq_true rfl, Nat.le_of_ble_eq_true rfl⟩ [0, 1, 2, 3, 4, 5, 6, 7, 8, 9, 10, 11] rfl (by decide +kernel) 0 rfl rfl rfl rfl (Nat.le_of_ble_eq_true rfl) dX7_block_24 ⟨Nat.zero_le _, Nat.zero_le _⟩) rfl ?_
        obtain ⟨rfl, rfl, rfl⟩ := ik_e3 hf
        exact ik_iretW C hr hlk dX7_block_27
theorem ms_X7_below : ik_S yX7_below RX7 cX7_below 1 (some .int) 1 := ⟨wl_11_10, wl_1_5, wl_11_11, by decide +kernel⟩
set_option maxHeartbeats 4000000 in
set_option maxRecDepth 100000 in
theorem c_X7_below (l : Launch) (D : va_G) (cI cS : ClassId) (x0 : Int32) (R : Int32) (hf : f_X7_below x0 = some (R)) : Met l yX7_below (ik_ws yX7_below cX7_below 1 (some .int)) ({ frames := 0, cells := 0, slots := 0, locals := 0 } : Room) (ik_P D cI cS [.int x0] (wz_none cI cS)) (ik_R (some (.int R))) 0 0 ik_no := by
  refine ik_metR RX7 rfl (by decide) (Nat.le_of_ble_eq_true rfl) [(0, .int x0)] rfl ?_
  intro p e s m below meth c C hr hlk
  unfold f_X7_below at hf
  refine ik_iload_n C 0 rfl rfl dX7_below_0 ?_
  refine ik_bipush (v := (8 : Int32)) C (by decide) dX7_below_1 ?_
  refine ik_icmp_ge C 10 dX7_below_3 (by decide) (fun hc => ?_) (fun hc => ?_)
  · have hf := ik_pos hc hf
    refine ik_iload_n C 0 rfl rfl dX7_below_10 ?_
    refine ik_bipush (v := (8 : Int32)) C (by decide) dX7_below_11 ?_
    refine ik_isub C dX7_below_13 ?_
    obtain rfl := Option.some.inj hf
    exact ik_iretR C hr hlk dX7_below_14
  · have hf := ik_neg hc hf
    refine ik_iconst (v := (-1 : Int32)) C (by decide) dX7_below_6 ?_
    refine ik_goto C 14 dX7_below_7 (by decide) ?_
    obtain rfl := Option.some.inj hf
    exact ik_iretR C hr hlk dX7_below_14
theorem ms_X7_above : ik_S yX7_above RX7 cX7_above 1 (some .int) 1 := ⟨wl_10_18, wl_1_5, wl_10_19, by decide +kernel⟩
set_option maxHeartbeats 4000000 in
set_option maxRecDepth 100000 in
theorem c_X7_above (l : Launch) (D : va_G) (cI cS : ClassId) (x0 : Int32) (R : Int32) (hf : f_X7_above x0 = some (R)) : Met l yX7_above (ik_ws yX7_above cX7_above 1 (some .int)) ({ frames := 0, cells := 0, slots := 0, locals := 0 } : Room) (ik_P D cI cS [.int x0] (wz_none cI cS)) (ik_R (some (.int R))) 0 0 ik_no := by
  refine ik_metR RX7 rfl (by decide) (Nat.le_of_ble_eq_true rfl) [(0, .int x0)] rfl ?_
  intro p e s m below meth c C hr hlk
  unfold f_X7_above at hf
  refine ik_iload_n C 0 rfl rfl dX7_above_0 ?_
  refine ik_bipush (v := (40 : Int32)) C (by decide) dX7_above_1 ?_
  refine ik_icmp_ge C 13 dX7_above_3 (by decide) (fun hc => ?_) (fun hc => ?_)
  · have hf := ik_pos hc hf
    refine ik_iconst (v := (-1 : Int32)) C (by decide) dX7_above_13 ?_
    obtain rfl := Option.some.inj hf
    exact ik_iretR C hr hlk dX7_above_14
  · have hf := ik_neg hc hf
    refine ik_iload_n C 0 rfl rfl dX7_above_6 ?_
    refine ik_bipush (v := (8 : Int32)) C (by decide) dX7_above_7 ?_
    refine ik_iadd C dX7_above_9 ?_
    refine ik_goto C 14 dX7_above_10 (by decide) ?_
    obtain rfl := Option.some.inj hf
    exact ik_iretR C hr hlk dX7_above_14
theorem ms_X7_left : ik_S yX7_left RX7 cX7_left 1 (some .int) 1 := ⟨wl_11_4, wl_1_5, wl_11_5, by decide +kernel⟩
set_option maxHeartbeats 4000000 in
set_option maxRecDepth 100000 in
theorem c_X7_left (l : Launch) (D : va_G) (cI cS : ClassId) (x0 : Int32) (R : Int32) (hf : f_X7_left x0 = some (R)) : Met l yX7_left (ik_ws yX7_left cX7_left 1 (some .int)) ({ frames := 0, cells := 0, slots := 0, locals := 0 } : Room) (ik_P D cI cS [.int x0] (wz_none cI cS)) (ik_R (some (.int R))) 0 0 ik_no := by
  refine ik_metR RX7 rfl (by decide) (Nat.le_of_ble_eq_true rfl) [(0, .int x0)] rfl ?_
  intro p e s m below meth c C hr hlk
  unfold f_X7_left at hf
  refine ik_iload_n C 0 rfl rfl dX7_left_0 ?_
  refine ik_bipush (v := (8 : Int32)) C (by decide) dX7_left_1 ?_
  refine ik_irem C (by decide) dX7_left_3 ?_
  refine ik_if_ne C 11 dX7_left_4 (by decide) (fun hc => ?_) (fun hc => ?_)
  · have hf := ik_neg hc hf
    refine ik_iload_n C 0 rfl rfl dX7_left_11 ?_
    refine ik_iconst (v := (1 : Int32)) C (by decide) dX7_left_12 ?_
    refine ik_isub C dX7_left_13 ?_
    obtain rfl := Option.some.inj hf
    exact ik_iretR C hr hlk dX7_left_14
  · have hf := ik_pos hc hf
    refine ik_iconst (v := (-1 : Int32)) C (by decide) dX7_left_7 ?_
    refine ik_goto C 14 dX7_left_8 (by decide) ?_
    obtain rfl := Option.some.inj hf
    exact ik_iretR C hr hlk dX7_left_14
theorem ms_X7_right : ik_S yX7_right RX7 cX7_right 1 (some .int) 1 := ⟨wl_11_7, wl_1_5, wl_11_8, by decide +kernel⟩
set_option maxHeartbeats 4000000 in
set_option maxRecDepth 100000 in
theorem c_X7_right (l : Launch) (D : va_G) (cI cS : ClassId) (x0 : Int32) (R : Int32) (hf : f_X7_right x0 = some (R)) : Met l yX7_right (ik_ws yX7_right cX7_right 1 (some .int)) ({ frames := 0, cells := 0, slots := 0, locals := 0 } : Room) (ik_P D cI cS [.int x0] (wz_none cI cS)) (ik_R (some (.int R))) 0 0 ik_no := by
  refine ik_metR RX7 rfl (by decide) (Nat.le_of_ble_eq_true rfl) [(0, .int x0)] rfl ?_
  intro p e s m below meth c C hr hlk
  unfold f_X7_right at hf
  refine ik_iload_n C 0 rfl rfl dX7_right_0 ?_
  refine ik_bipush (v := (8 : Int32)) C (by decide) dX7_right_1 ?_
  refine ik_irem C (by decide) dX7_right_3 ?_
  refine ik_bipush (v := (7 : Int32)) C (by decide) dX7_right_4 ?_
  refine ik_icmp_ne C 13 dX7_right_6 (by decide) (fun hc => ?_) (fun hc => ?_)
  · have hf := ik_neg hc hf
    refine ik_iload_n C 0 rfl rfl dX7_right_13 ?_
    refine ik_iconst (v := (1 : Int32)) C (by decide) dX7_right_14 ?_
    refine ik_iadd C dX7_right_15 ?_
    obtain rfl := Option.some.inj hf
    exact ik_iretR C hr hlk dX7_right_16
  · have hf := ik_pos hc hf
    refine ik_iconst (v := (-1 : Int32)) C (by decide) dX7_right_9 ?_
    refine ik_goto C 16 dX7_right_10 (by decide) ?_
    obtain rfl := Option.some.inj hf
    exact ik_iretR C hr hlk dX7_right_16
theorem mv_X7_isOf : ik_V yX7_isOf RX7 cX7_isOf 4 (some .boolean) 2 := ⟨wl_10_21, wl_10_22, wl_1_5, wl_10_23, by decide +kernel⟩
set_option maxHeartbeats 4000000 in
set_option maxRecDepth 100000 in
theorem c_X7_isOf (l : Launch) (D : va_G) (cI cS : ClassId) (h0 h1 h2 h3 h4 h5 h6 h7 h8 h9 h10 h11 : Nat) (misKept : Int32) (mtaped : Int32) (msort : Int32) (mfrom : Int32) (mto : Int32) (mvalue : Int32) (mbad : Int32) (mm : Nat → Int32) (mkept : Nat → Int32) (mwas : Nat → Int32) (mother : Nat → Int32) (mfound : Nat → Int32) (mwarm : Nat → Int32) (mdrip : Nat → Int32) (mtape : Nat → Int32) (mbits : Nat → Int32) (msize : Nat → Int32) (mnumber : Nat → Int32) (x1 : Int32) (x2 : Int32) (R : Int32) (hf : f_X7_isOf mm x1 x2 = some (R)) : Met l yX7_isOf (ik_ws yX7_isOf cX7_isOf 4 (some .boolean)) ({ frames := 2, cells := 0, slots := 0, locals := 43 } : Room) (ik_P D cI cS [.ref h0, .int x1, .int x2] (wz_X7 cI cS h0 h1 h2 h3 h4 h5 h6 h7 h8 h9 h10 h11 misKept mtaped msort mfrom mto mvalue mbad mm mkept mwas mother mfound mwarm mdrip mtape mbits msize mnumber)) (ik_R (some (.int R))) 0 0 ik_no := by
  refine ik_metR RX7 rfl (by decide) (Nat.le_of_ble_eq_true rfl) [(0, .ref h0), (1, .int x1), (2, .int x2)] rfl ?_
  intro p e s m below meth c C hr hlk
  unfold f_X7_isOf at hf
  refine ik_aload_n C 0 rfl rfl dX7_isOf_0 ?_
  refine ik_iload_n C 2 rfl rfl dX7_isOf_1 ?_
  obtain ⟨r1, hc1, hf⟩ := ik_b1s hf
  have hM := (c_X7_blockOn l D cI cS h0 h1 h2 h3 h4 h5 h6 h7 h8 h9 h10 h11 misKept mtaped msort mfrom mto mvalue mbad mm mkept mwas mother mfound mwarm mdrip mtape mbits msize mnumber x2 r1 hc1)
  refine ik_goR (ik_runV (st := []) (As := [.int x2]) C hM mv_X7_blockOn wl_7_12 ⟨rfl, rfl, Nat.le_of_ble_eq_true rfl, Nat.le_of_ble_eq_true rfl⟩ [0, 1, 2, 3, 4, 5, 6, 7, 8, 9, 10, 11] rfl (by decide +kernel) 0 rfl rfl rfl rfl (Nat.le_of_ble_eq_true rfl) dX7_isOf_2 ⟨Nat.zero_le _, Nat.zero_le _⟩) rfl ?_
  refine ik_istore_n C [(3, .int r1), (0, .ref h0), (1, .int x1), (2, .int x2)] rfl (by decide) rfl dX7_isOf_5 ?_
  refine ik_iload_n C 0 rfl rfl dX7_isOf_6 ?_
  refine ik_if_lt C 22 dX7_isOf_7 (by decide) (fun hc => ?_) (fun hc => ?_)
  · have hf := ik_pos hc hf
    refine ik_iconst (v := (0 : Int32)) C (by decide) dX7_isOf_22 ?_
    obtain rfl := Option.some.inj hf
    exact ik_zretR C hr (by decide) hlk dX7_isOf_23
  · have hf := ik_neg hc hf
    refine ik_iload_n C 2 rfl rfl dX7_isOf_10 ?_
    refine ik_iload_n C 0 rfl rfl dX7_isOf_11 ?_
    obtain ⟨r2, hc2, hf⟩ := ik_b1s hf
    have hM := (c_X7_has l D cI cS x1 r1 r2 hc2)
    refine ik_goR (ik_runS (st := []) (As := [.int x1, .int r1]) C hM ms_X7_has wl_11_0 ⟨rfl, rfl, Nat.le_of_ble_eq_true rfl, Nat.le_of_ble_eq_true rfl⟩ [] rfl (by decide +kernel) rfl rfl (Nat.le_of_ble_eq_true rfl) dX7_isOf_12 ⟨Nat.zero_le _, Nat.zero_le _⟩) rfl ?_
    refine ik_if_eq C 22 dX7_isOf_15 (by decide) (fun hc => ?_) (fun hc => ?_)
    · have hf := ik_pos hc hf
      refine ik_iconst (v := (0 : Int32)) C (by decide) dX7_isOf_22 ?_
      obtain rfl := Option.some.inj hf
      exact ik_zretR C hr (by decide) hlk dX7_isOf_23
    · have hf := ik_neg hc hf
      refine ik_iconst (v := (1 : Int32)) C (by decide) dX7_isOf_18 ?_
      refine ik_goto C 23 dX7_isOf_19 (by decide) ?_
      obtain rfl := Option.some.inj hf
      exact ik_zretR C hr (by decide) hlk dX7_isOf_23
theorem mv_X7_standsBy : ik_V yX7_standsBy RX7 cX7_standsBy 6 (some .boolean) 2 := ⟨wl_10_14, wl_10_15, wl_1_5, wl_10_16, by decide +kernel⟩
set_option maxHeartbeats 4000000 in
set_option maxRecDepth 100000 in
theorem c_X7_standsBy (l : Launch) (D : va_G) (cI cS : ClassId) (h0 h1 h2 h3 h4 h5 h6 h7 h8 h9 h10 h11 : Nat) (misKept : Int32) (mtaped : Int32) (msort : Int32) (mfrom : Int32) (mto : Int32) (mvalue : Int32) (mbad : Int32) (mm : Nat → Int32) (mkept : Nat → Int32) (mwas : Nat → Int32) (mother : Nat → Int32) (mfound : Nat → Int32) (mwarm : Nat → Int32) (mdrip : Nat → Int32) (mtape : Nat → Int32) (mbits : Nat → Int32) (msize : Nat → Int32) (mnumber : Nat → Int32) (x1 : Int32) (x2 : Int32) (R : Int32) (hf : f_X7_standsBy mm x1 x2 = some (R)) : Met l yX7_standsBy (ik_ws yX7_standsBy cX7_standsBy 6 (some .boolean)) ({ frames := 3, cells := 0, slots := 0, locals := 66 } : Room) (ik_P D cI cS [.ref h0, .int x1, .int x2] (wz_X7 cI cS h0 h1 h2 h3 h4 h5 h6 h7 h8 h9 h10 h11 misKept mtaped msort mfrom mto mvalue mbad mm mkept mwas mother mfound mwarm mdrip mtape mbits msize mnumber)) (ik_R (some (.int R))) 0 0 ik_no := by
  refine ik_metR RX7 rfl (by decide) (Nat.le_of_ble_eq_true rfl) [(0, .ref h0), (1, .int x1), (2, .int x2)] rfl ?_
  intro p e s m below meth c C hr hlk
  unfold f_X7_standsBy at hf
  refine ik_aload_n C 0 rfl rfl dX7_standsBy_0 ?_
  refine ik_iload_n C 1 rfl rfl dX7_standsBy_1 ?_
  obtain ⟨r1, hc1, hf⟩ := ik_b1s hf
  have hM := (c_X7_cellOf l D cI cS h0 h1 h2 h3 h4 h5 h6 h7 h8 h9 h10 h11 misKept mtaped msort mfrom mto mvalue mbad mm mkept mwas mother mfound mwarm mdrip mtape mbits msize mnumber x1 r1 hc1)
  refine ik_goR (ik_runV (st := []) (As := [.int x1]) C hM mv_X7_cellOf wl_7_16 ⟨rfl, rfl, Nat.le_of_ble_eq_true rfl, Nat.le_of_ble_eq_true rfl⟩ [0, 1, 2, 3, 4, 5, 6, 7, 8, 9, 10, 11] rfl (by decide +kernel) 0 rfl rfl rfl rfl (Nat.le_of_ble_eq_true rfl) dX7_standsBy_2 ⟨Nat.zero_le _, Nat.zero_le _⟩) rfl ?_
  refine ik_istore_n C [(3, .int r1), (0, .ref h0), (1, .int x1), (2, .int x2)] rfl (by decide) rfl dX7_standsBy_5 ?_
  refine ik_iload_n C 0 rfl rfl dX7_standsBy_6 ?_
  refine ik_bipush (v := (8 : Int32)) C (by decide) dX7_standsBy_7 ?_
  refine ik_icmp_ge C 14 dX7_standsBy_9 (by decide) (fun hc => ?_) (fun hc => ?_)
  · have hf := ik_pos hc hf
    refine ik_aload_n C 1 rfl rfl dX7_standsBy_14 ?_
    refine ik_iload_n C 2 rfl rfl dX7_standsBy_15 ?_
    obtain ⟨r2, hc2, hf⟩ := ik_b1s hf
    have hM := (c_X7_kindOf l D cI cS h0 h1 h2 h3 h4 h5 h6 h7 h8 h9 h10 h11 misKept mtaped msort mfrom mto mvalue mbad mm mkept mwas mother mfound mwarm mdrip mtape mbits msize mnumber x1 r2 hc2)
    refine ik_goR (ik_runV (st := []) (As := [.int x1]) C hM mv_X7_kindOf wl_9_21 ⟨rfl, rfl, Nat.le_of_ble_eq_true rfl, Nat.le_of_ble_eq_true rfl⟩ [0, 1, 2, 3, 4, 5, 6, 7, 8, 9, 10, 11] rfl (by decide +kernel) 0 rfl rfl rfl rfl (Nat.le_of_ble_eq_true rfl) dX7_standsBy_16 ⟨Nat.zero_le _, Nat.zero_le _⟩) rfl ?_
    refine ik_bipush (v := (6 : Int32)) C (by decide) dX7_standsBy_19 ?_
    refine ik_icmp_ne C 34 dX7_standsBy_21 (by decide) (fun hc => ?_) (fun hc => ?_)
    · have hf := ik_neg hc hf
      refine ik_aload_n C 1 rfl rfl dX7_standsBy_34 ?_
      refine ik_iload_n C 3 rfl rfl dX7_standsBy_35 ?_
      refine ik_iload_n C 0 rfl rfl dX7_standsBy_36 ?_
      obtain ⟨r3, hc3, hf⟩ := ik_b1s hf
      have hM := (c_X7_left l D cI cS r1 r3 hc3)
      refine ik_goR (ik_runS (st := [.int x2, .ref h0]) (As := [.int r1]) C hM ms_X7_left wl_11_3 ⟨rfl, rfl, Nat.le_of_ble_eq_true rfl, Nat.le_of_ble_eq_true rfl⟩ [] rfl (by decide +kernel) rfl rfl (Nat.le_of_ble_eq_true rfl) dX7_standsBy_37 ⟨Nat.zero_le _, Nat.zero_le _⟩) rfl ?_
      obtain ⟨r4, hc4, hf⟩ := ik_b1s hf
      have hM := (c_X7_isOf l D cI cS h0 h1 h2 h3 h4 h5 h6 h7 h8 h9 h10 h11 misKept mtaped msort mfrom mto mvalue mbad mm mkept mwas mother mfound mwarm mdrip mtape mbits msize mnumber x2 r3 r4 hc4)
      refine ik_goR (ik_runV (st := []) (As := [.int x2, .int r3]) C hM mv_X7_isOf wl_10_20 ⟨rfl, rfl, Nat.le_of_ble_eq_true rfl, Nat.le_of_ble_eq_true rfl⟩ [0, 1, 2, 3, 4, 5, 6, 7, 8, 9, 10, 11] rfl (by decide +kernel) 0 rfl rfl rfl rfl (Nat.le_of_ble_eq_true rfl) dX7_standsBy_40 ⟨Nat.zero_le _, Nat.zero_le _⟩) rfl ?_
      refine ik_istore C [(4, .int r4), (3, .int r1), (0, .ref h0), (1, .int x1), (2, .int x2)] (by decide) rfl dX7_standsBy_43 ?_
      refine ik_aload_n C 2 rfl rfl dX7_standsBy_45 ?_
      refine ik_iload_n C 4 rfl rfl dX7_standsBy_46 ?_
      refine ik_iload_n C 1 rfl rfl dX7_standsBy_47 ?_
      obtain ⟨r5, hc5, hf⟩ := ik_b1s hf
      have hM := (c_X7_right l D cI cS r1 r5 hc5)
      refine ik_goR (ik_runS (st := [.int x2, .ref h0]) (As := [.int r1]) C hM ms_X7_right wl_11_6 ⟨rfl, rfl, Nat.le_of_ble_eq_true rfl, Nat.le_of_ble_eq_true rfl⟩ [] rfl (by decide +kernel) rfl rfl (Nat.le_of_ble_eq_true rfl) dX7_standsBy_48 ⟨Nat.zero_le _, Nat.zero_le _⟩) rfl ?_
      obtain ⟨r6, hc6, hf⟩ := ik_b1s hf
      have hM := (c_X7_isOf l D cI cS h0 h1 h2 h3 h4 h5 h6 h7 h8 h9 h10 h11 misKept mtaped msort mfrom mto mvalue mbad mm mkept mwas mother mfound mwarm mdrip mtape mbits msize mnumber x2 r5 r6 hc6)
      refine ik_goR (ik_runV (st := []) (As := [.int x2, .int r5]) C hM mv_X7_isOf wl_10_20 ⟨rfl, rfl, Nat.le_of_ble_eq_true rfl, Nat.le_of_ble_eq_true rfl⟩ [0, 1, 2, 3, 4, 5, 6, 7, 8, 9, 10, 11] rfl (by decide +kernel) 0 rfl rfl rfl rfl (Nat.le_of_ble_eq_true rfl) dX7_standsBy_51 ⟨Nat.zero_le _, Nat.zero_le _⟩) rfl ?_
      refine ik_istore C [(5, .int r6), (4, .int r4), (3, .int r1), (0, .ref h0), (1, .int x1), (2, .int x2)] (by decide) rfl dX7_standsBy_54 ?_
      refine ik_aload_n C 3 rfl rfl dX7_standsBy_56 ?_
      refine ik_iload_n C 4 rfl rfl dX7_standsBy_57 ?_
      obtain ⟨r7, hc7, hf⟩ := ik_b1s hf
      have hM := (c_X7_kindOf l D cI cS h0 h1 h2 h3 h4 h5 h6 h7 h8 h9 h10 h11 misKept mtaped msort mfrom mto mvalue mbad mm mkept mwas mother mfound mwarm mdrip mtape mbits msize mnumber x1 r7 hc7)
      refine ik_goR (ik_runV (st := []) (As := [.int x1]) C hM mv_X7_kindOf wl_9_21 ⟨rfl, rfl, Nat.le_of_ble_eq_true rfl, Nat.le_of_ble_eq_true rfl⟩ [0, 1, 2, 3, 4, 5, 6, 7, 8, 9, 10, 11] rfl (by decide +kernel) 0 rfl rfl rfl rfl (Nat.le_of_ble_eq_true rfl) dX7_standsBy_58 ⟨Nat.zero_le _, Nat.zero_le _⟩) rfl ?_
      by_cases hn1 : r7 = (1 : Int32)
      · have hf := ik_pos hn1 hf
        refine ik_tcase C (1 : Int32) hn1 96 dX7_standsBy_61 (by decide) (by decide) rfl (by decide) ?_
        refine ik_aload_n C 3 rfl rfl dX7_standsBy_96 ?_
        refine ik_iload_n C 5 rfl rfl dX7_standsBy_97 ?_
        refine ik_iload_n C 2 rfl rfl dX7_standsBy_98 ?_
        obtain ⟨r8, hc8, hf⟩ := ik_b1s hf
        have hM := (c_X7_below l D cI cS r1 r8 hc8)
        refine ik_goR (ik_runS (st := [.int x2, .ref h0]) (As := [.int r1]) C hM ms_X7_below wl_11_9 ⟨rfl, rfl, Nat.le_of_ble_eq_true rfl, Nat.le_of_ble_eq_true rfl⟩ [] rfl (by decide +kernel) rfl rfl (Nat.le_of_ble_eq_true rfl) dX7_standsBy_99 ⟨Nat.zero_le _, Nat.zero_le _⟩) rfl ?_
        obtain ⟨r9, hc9, hf⟩ := ik_b1s hf
        have hM := (c_X7_isOf l D cI cS h0 h1 h2 h3 h4 h5 h6 h7 h8 h9 h10 h11 misKept mtaped msort mfrom mto mvalue mbad mm mkept mwas mother mfound mwarm mdrip mtape mbits msize mnumber x2 r8 r9 hc9)
        refine ik_goR (ik_runV (st := []) (As := [.int x2, .int r8]) C hM mv_X7_isOf wl_10_20 ⟨rfl, rfl, Nat.le_of_ble_eq_true rfl, Nat.le_of_ble_eq_true rfl⟩ [0, 1, 2, 3, 4, 5, 6, 7, 8, 9, 10, 11] rfl (by decide +kernel) 0 rfl rfl rfl rfl (Nat.le_of_ble_eq_true rfl) dX7_standsBy_102 ⟨Nat.zero_le _, Nat.zero_le _⟩) rfl ?_
        refine ik_if_ne C 118 dX7_standsBy_105 (by decide) (fun hc => ?_) (fun hc => ?_)
        · have hf := ik_neg hc hf
          refine ik_iconst (v := (1 : Int32)) C (by decide) dX7_standsBy_118 ?_
          refine ik_goto C 123 dX7_standsBy_119 (by decide) ?_
          obtain rfl := Option.some.inj hf
          exact ik_zretR C hr (by decide) hlk dX7_standsBy_123
        · have hf := ik_pos hc hf
          refine ik_iload C 1 rfl dX7_standsBy_108 ?_
          refine ik_if_eq C 122 dX7_standsBy_110 (by decide) (fun hc => ?_) (fun hc => ?_)
          · have hf := ik_pos hc hf
            refine ik_iconst (v := (0 : Int32)) C (by decide) dX7_standsBy_122 ?_
            obtain rfl := Option.some.inj hf
            exact ik_zretR C hr (by decide) hlk dX7_standsBy_123
          · have hf := ik_neg hc hf
            refine ik_iload C 0 rfl dX7_standsBy_113 ?_
            refine ik_if_eq C 122 dX7_standsBy_115 (by decide) (fun hc => ?_) (fun hc => ?_)
            · have hf := ik_pos hc hf
              refine ik_iconst (v := (0 : Int32)) C (by decide) dX7_standsBy_122 ?_
              obtain rfl := Option.some.inj hf
              exact ik_zretR C hr (by decide) hlk dX7_standsBy_123
            · have hf := ik_neg hc hf
              refine ik_iconst (v := (1 : Int32)) C (by decide) dX7_standsBy_118 ?_
              refine ik_goto C 123 dX7_standsBy_119 (by decide) ?_
              obtain rfl := Option.some.inj hf
              exact ik_zretR C hr (by decide) hlk dX7_standsBy_123
      · have hf := ik_neg hn1 hf
        by_cases hn2 : r7 = (2 : Int32)
        · have hf := ik_pos hn2 hf
          refine ik_tcase C (2 : Int32) hn2 124 dX7_standsBy_61 (by decide) (by decide) rfl (by decide) ?_
          refine ik_aload_n C 3 rfl rfl dX7_standsBy_124 ?_
          refine ik_iload_n C 5 rfl rfl dX7_standsBy_125 ?_
          refine ik_iload_n C 2 rfl rfl dX7_standsBy_126 ?_
          obtain ⟨r8, hc8, hf⟩ := ik_b1s hf
          have hM := (c_X7_below l D cI cS r1 r8 hc8)
          refine ik_goR (ik_runS (st := [.int x2, .ref h0]) (As := [.int r1]) C hM ms_X7_below wl_11_9 ⟨rfl, rfl, Nat.le_of_ble_eq_true rfl, Nat.le_of_ble_eq_true rfl⟩ [] rfl (by decide +kernel) rfl rfl (Nat.le_of_ble_eq_true rfl) dX7_standsBy_127 ⟨Nat.zero_le _, Nat.zero_le _⟩) rfl ?_
          obtain ⟨r9, hc9, hf⟩ := ik_b1s hf
          have hM := (c_X7_isOf l D cI cS h0 h1 h2 h3 h4 h5 h6 h7 h8 h9 h10 h11 misKept mtaped msort mfrom mto mvalue mbad mm mkept mwas mother mfound mwarm mdrip mtape mbits msize mnumber x2 r8 r9 hc9)
          refine ik_goR (ik_runV (st := []) (As := [.int x2, .int r8]) C hM mv_X7_isOf wl_10_20 ⟨rfl, rfl, Nat.le_of_ble_eq_true rfl, Nat.le_of_ble_eq_true rfl⟩ [0, 1, 2, 3, 4, 5, 6, 7, 8, 9, 10, 11] rfl (by decide +kernel) 0 rfl rfl rfl rfl (Nat.le_of_ble_eq_true rfl) dX7_standsBy_130 ⟨Nat.zero_le _, Nat.zero_le _⟩) rfl ?_
          refine ik_if_ne C 146 dX7_standsBy_133 (by decide) (fun hc => ?_) (fun hc => ?_)
          · have hf := ik_neg hc hf
            refine ik_iconst (v := (1 : Int32)) C (by decide) dX7_standsBy_146 ?_
            refine ik_goto C 151 dX7_standsBy_147 (by decide) ?_
            obtain rfl := Option.some.inj hf
            exact ik_zretR C hr (by decide) hlk dX7_standsBy_151
          · have hf := ik_pos hc hf
            refine ik_iload C 1 rfl dX7_standsBy_136 ?_
            refine ik_if_ne C 146 dX7_standsBy_138 (by decide) (fun hc => ?_) (fun hc => ?_)
            · have hf := ik_neg hc hf
              refine ik_iconst (v := (1 : Int32)) C (by decide) dX7_standsBy_146 ?_
              refine ik_goto C 151 dX7_standsBy_147 (by decide) ?_
              obtain rfl := Option.some.inj hf
              exact ik_zretR C hr (by decide) hlk dX7_standsBy_151
            · have hf := ik_pos hc hf
              refine ik_iload C 0 rfl dX7_standsBy_141 ?_
              refine ik_if_eq C 150 dX7_standsBy_143 (by decide) (fun hc => ?_) (fun hc => ?_)
              · have hf := ik_pos hc hf
                refine ik_iconst (v := (0 : Int32)) C (by decide) dX7_standsBy_150 ?_
                obtain rfl := Option.some.inj hf
                exact ik_zretR C hr (by decide) hlk dX7_standsBy_151
              · have hf := ik_neg hc hf
                refine ik_iconst (v := (1 : Int32)) C (by decide) dX7_standsBy_146 ?_
                refine ik_goto C 151 dX7_standsBy_147 (by decide) ?_
                obtain rfl := Option.some.inj hf
                exact ik_zretR C hr (by decide) hlk dX7_standsBy_151
        · have hf := ik_neg hn2 hf
          by_cases hn3 : r7 = (3 : Int32)
          · have hf := ik_pos hn3 hf
            refine ik_tcase C (3 : Int32) hn3 96 dX7_standsBy_61 (by decide) (by decide) rfl (by decide) ?_
            refine ik_aload_n C 3 rfl rfl dX7_standsBy_96 ?_
            refine ik_iload_n C 5 rfl rfl dX7_standsBy_97 ?_
            refine ik_iload_n C 2 rfl rfl dX7_standsBy_98 ?_
            obtain ⟨r8, hc8, hf⟩ := ik_b1s hf
            have hM := (c_X7_below l D cI cS r1 r8 hc8)
            refine ik_goR (ik_runS (st := [.int x2, .ref h0]) (As := [.int r1]) C hM ms_X7_below wl_11_9 ⟨rfl, rfl, Nat.le_of_ble_eq_true rfl, Nat.le_of_ble_eq_true rfl⟩ [] rfl (by decide +kernel) rfl rfl (Nat.le_of_ble_eq_true rfl) dX7_standsBy_99 ⟨Nat.zero_le _, Nat.zero_le _⟩) rfl ?_
            obtain ⟨r9, hc9, hf⟩ := ik_b1s hf
            have hM := (c_X7_isOf l D cI cS h0 h1 h2 h3 h4 h5 h6 h7 h8 h9 h10 h11 misKept mtaped msort mfrom mto mvalue mbad mm mkept mwas mother mfound mwarm mdrip mtape mbits msize mnumber x2 r8 r9 hc9)
            refine ik_goR (ik_runV (st := []) (As := [.int x2, .int r8]) C hM mv_X7_isOf wl_10_20 ⟨rfl, rfl, Nat.le_of_ble_eq_true rfl, Nat.le_of_ble_eq_true rfl⟩ [0, 1, 2, 3, 4, 5, 6, 7, 8, 9, 10, 11] rfl (by decide +kernel) 0 rfl rfl rfl rfl (Nat.le_of_ble_eq_true rfl) dX7_standsBy_102 ⟨Nat.zero_le _, Nat.zero_le _⟩) rfl ?_
            refine ik_if_ne C 118 dX7_standsBy_105 (by decide) (fun hc => ?_) (fun hc => ?_)
            · have hf := ik_neg hc hf
              refine ik_iconst (v := (1 : Int32)) C (by decide) dX7_standsBy_118 ?_
              refine ik_goto C 123 dX7_standsBy_119 (by decide) ?_
              obtain rfl := Option.some.inj hf
              exact ik_zretR C hr (by decide) hlk dX7_standsBy_123
            · have hf := ik_pos hc hf
              refine ik_iload C 1 rfl dX7_standsBy_108 ?_
              refine ik_if_eq C 122 dX7_standsBy_110 (by decide) (fun hc => ?_) (fun hc => ?_)
              · have hf := ik_pos hc hf
                refine ik_iconst (v := (0 : Int32)) C (by decide) dX7_standsBy_122 ?_
                obtain rfl := Option.some.inj hf
                exact ik_zretR C hr (by decide) hlk dX7_standsBy_123
              · have hf := ik_neg hc hf
                refine ik_iload C 0 rfl dX7_standsBy_113 ?_
                refine ik_if_eq C 122 dX7_standsBy_115 (by decide) (fun hc => ?_) (fun hc => ?_)
                · have hf := ik_pos hc hf
                  refine ik_iconst (v := (0 : Int32)) C (by decide) dX7_standsBy_122 ?_
                  obtain rfl := Option.some.inj hf
                  exact ik_zretR C hr (by decide) hlk dX7_standsBy_123
                · have hf := ik_neg hc hf
                  refine ik_iconst (v := (1 : Int32)) C (by decide) dX7_standsBy_118 ?_
                  refine ik_goto C 123 dX7_standsBy_119 (by decide) ?_
                  obtain rfl := Option.some.inj hf
                  exact ik_zretR C hr (by decide) hlk dX7_standsBy_123
          · have hf := ik_neg hn3 hf
            by_cases hn4 : r7 = (4 : Int32)
            · have hf := ik_pos hn4 hf
              refine ik_tcase C (4 : Int32) hn4 152 dX7_standsBy_61 (by decide) (by decide) rfl (by decide) ?_
              refine ik_aload_n C 3 rfl rfl dX7_standsBy_152 ?_
              refine ik_iload_n C 5 rfl rfl dX7_standsBy_153 ?_
              refine ik_iload_n C 2 rfl rfl dX7_standsBy_154 ?_
              obtain ⟨r8, hc8, hf⟩ := ik_b1s hf
              have hM := (c_X7_below l D cI cS r1 r8 hc8)
              refine ik_goR (ik_runS (st := [.int x2, .ref h0]) (As := [.int r1]) C hM ms_X7_below wl_11_9 ⟨rfl, rfl, Nat.le_of_ble_eq_true rfl, Nat.le_of_ble_eq_true rfl⟩ [] rfl (by decide +kernel) rfl rfl (Nat.le_of_ble_eq_true rfl) dX7_standsBy_155 ⟨Nat.zero_le _, Nat.zero_le _⟩) rfl ?_
              obtain ⟨r9, hc9, hf⟩ := ik_b1s hf
              have hM := (c_X7_isOf l D cI cS h0 h1 h2 h3 h4 h5 h6 h7 h8 h9 h10 h11 misKept mtaped msort mfrom mto mvalue mbad mm mkept mwas mother mfound mwarm mdrip mtape mbits msize mnumber x2 r8 r9 hc9)
              refine ik_goR (ik_runV (st := []) (As := [.int x2, .int r8]) C hM mv_X7_isOf wl_10_20 ⟨rfl, rfl, Nat.le_of_ble_eq_true rfl, Nat.le_of_ble_eq_true rfl⟩ [0, 1, 2, 3, 4, 5, 6, 7, 8, 9, 10, 11] rfl (by decide +kernel) 0 rfl rfl rfl rfl (Nat.le_of_ble_eq_true rfl) dX7_standsBy_158 ⟨Nat.zero_le _, Nat.zero_le _⟩) rfl ?_
              have hz := ik_gzi hf
              have hf := ik_gzk hf
              obtain rfl := Option.some.inj hf
              exact ik_zretR C hr hz.1 hlk dX7_standsBy_161
            · have hf := ik_neg hn4 hf
              by_cases hn5 : r7 = (5 : Int32)
              · have hf := ik_pos hn5 hf
                refine ik_tcase C (5 : Int32) hn5 124 dX7_standsBy_61 (by decide) (by decide) rfl (by decide) ?_
                refine ik_aload_n C 3 rfl rfl dX7_standsBy_124 ?_
                refine ik_iload_n C 5 rfl rfl dX7_standsBy_125 ?_
                refine ik_iload_n C 2 rfl rfl dX7_standsBy_126 ?_
                obtain ⟨r8, hc8, hf⟩ := ik_b1s hf
                have hM := (c_X7_below l D cI cS r1 r8 hc8)
                refine ik_goR (ik_runS (st := [.int x2, .ref h0]) (As := [.int r1]) C hM ms_X7_below wl_11_9 ⟨rfl, rfl, Nat.le_of_ble_eq_true rfl, Nat.le_of_ble_eq_true rfl⟩ [] rfl (by decide +kernel) rfl rfl (Nat.le_of_ble_eq_true rfl) dX7_standsBy_127 ⟨Nat.zero_le _, Nat.zero_le _⟩) rfl ?_
                obtain ⟨r9, hc9, hf⟩ := ik_b1s hf
                have hM := (c_X7_isOf l D cI cS h0 h1 h2 h3 h4 h5 h6 h7 h8 h9 h10 h11 misKept mtaped msort mfrom mto mvalue mbad mm mkept mwas mother mfound mwarm mdrip mtape mbits msize mnumber x2 r8 r9 hc9)
                refine ik_goR (ik_runV (st := []) (As := [.int x2, .int r8]) C hM mv_X7_isOf wl_10_20 ⟨rfl, rfl, Nat.le_of_ble_eq_true rfl, Nat.le_of_ble_eq_true rfl⟩ [0, 1, 2, 3, 4, 5, 6, 7, 8, 9, 10, 11] rfl (by decide +kernel) 0 rfl rfl rfl rfl (Nat.le_of_ble_eq_true rfl) dX7_standsBy_130 ⟨Nat.zero_le _, Nat.zero_le _⟩) rfl ?_
                refine ik_if_ne C 146 dX7_standsBy_133 (by decide) (fun hc => ?_) (fun hc => ?_)
                · have hf := ik_neg hc hf
                  refine ik_iconst (v := (1 : Int32)) C (by decide) dX7_standsBy_146 ?_
                  refine ik_goto C 151 dX7_standsBy_147 (by decide) ?_
                  obtain rfl := Option.some.inj hf
                  exact ik_zretR C hr (by decide) hlk dX7_standsBy_151
                · have hf := ik_pos hc hf
                  refine ik_iload C 1 rfl dX7_standsBy_136 ?_
                  refine ik_if_ne C 146 dX7_standsBy_138 (by decide) (fun hc => ?_) (fun hc => ?_)
                  · have hf := ik_neg hc hf
                    refine ik_iconst (v := (1 : Int32)) C (by decide) dX7_standsBy_146 ?_
                    refine ik_goto C 151 dX7_standsBy_147 (by decide) ?_
                    obtain rfl := Option.some.inj hf
                    exact ik_zretR C hr (by decide) hlk dX7_standsBy_151
                  · have hf := ik_pos hc hf
                    refine ik_iload C 0 rfl dX7_standsBy_141 ?_
                    refine ik_if_eq C 150 dX7_standsBy_143 (by decide) (fun hc => ?_) (fun hc => ?_)
                    · have hf := ik_pos hc hf
                      refine ik_iconst (v := (0 : Int32)) C (by decide) dX7_standsBy_150 ?_
                      obtain rfl := Option.some.inj hf
                      exact ik_zretR C hr (by decide) hlk dX7_standsBy_151
                    · have hf := ik_neg hc hf
                      refine ik_iconst (v := (1 : Int32)) C (by decide) dX7_standsBy_146 ?_
                      refine ik_goto C 151 dX7_standsBy_147 (by decide) ?_
                      obtain rfl := Option.some.inj hf
                      exact ik_zretR C hr (by decide) hlk dX7_standsBy_151
              · have hf := ik_neg hn5 hf
                refine ik_tout C 152 dX7_standsBy_61 (by have ehn1 : (r7).toInt ≠ 1 := fun h => hn1 (Int32.toInt_inj.mp h); have ehn2 : (r7).toInt ≠ 2 := fun h => hn2 (Int32.toInt_inj.mp h); have ehn3 : (r7).toInt ≠ 3 := fun h => hn3 (Int32.toInt_inj.mp h); have ehn4 : (r7).toInt ≠ 4 := fun h => hn4 (Int32.toInt_inj.mp h); have ehn5 : (r7).toInt ≠ 5 := fun h => hn5 (Int32.toInt_inj.mp h); omega) (by decide) ?_
                refine ik_aload_n C 3 rfl rfl dX7_standsBy_152 ?_
                refine ik_iload_n C 5 rfl rfl dX7_standsBy_153 ?_
                refine ik_iload_n C 2 rfl rfl dX7_standsBy_154 ?_
                obtain ⟨r8, hc8, hf⟩ := ik_b1s hf
                have hM := (c_X7_below l D cI cS r1 r8 hc8)
                refine ik_goR (ik_runS (st := [.int x2, .ref h0]) (As := [.int r1]) C hM ms_X7_below wl_11_9 ⟨rfl, rfl, Nat.le_of_ble_eq_true rfl, Nat.le_of_ble_eq_true rfl⟩ [] rfl (by decide +kernel) rfl rfl (Nat.le_of_ble_eq_true rfl) dX7_standsBy_155 ⟨Nat.zero_le _, Nat.zero_le _⟩) rfl ?_
                obtain ⟨r9, hc9, hf⟩ := ik_b1s hf
                have hM := (c_X7_isOf l D cI cS h0 h1 h2 h3 h4 h5 h6 h7 h8 h9 h10 h11 misKept mtaped msort mfrom mto mvalue mbad mm mkept mwas mother mfound mwarm mdrip mtape mbits msize mnumber x2 r8 r9 hc9)
                refine ik_goR (ik_runV (st := []) (As := [.int x2, .int r8]) C hM mv_X7_isOf wl_10_20 ⟨rfl, rfl, Nat.le_of_ble_eq_true rfl, Nat.le_of_ble_eq_true rfl⟩ [0, 1, 2, 3, 4, 5, 6, 7, 8, 9, 10, 11] rfl (by decide +kernel) 0 rfl rfl rfl rfl (Nat.le_of_ble_eq_true rfl) dX7_standsBy_158 ⟨Nat.zero_le _, Nat.zero_le _⟩) rfl ?_
                have hz := ik_gzi hf
                have hf := ik_gzk hf
                obtain rfl := Option.some.inj hf
                exact ik_zretR C hr hz.1 hlk dX7_standsBy_161
    · have hf := ik_pos hc hf
      refine ik_aload_n C 1 rfl rfl dX7_standsBy_24 ?_
      refine ik_iload_n C 3 rfl rfl dX7_standsBy_25 ?_
      refine ik_iload_n C 0 rfl rfl dX7_standsBy_26 ?_
      obtain ⟨r3, hc3, hf⟩ := ik_b1s hf
      have hM := (c_X7_above l D cI cS r1 r3 hc3)
      refine ik_goR (ik_runS (st := [.int x2, .ref h0]) (As := [.int r1]) C hM ms_X7_above wl_10_17 ⟨rfl, rfl, Nat.le_of_ble_eq_true rfl, Nat.le_of_ble_eq_true rfl⟩ [] rfl (by decide +kernel) rfl rfl (Nat.le_of_ble_eq_true rfl) dX7_standsBy_27 ⟨Nat.zero_le _, Nat.zero_le _⟩) rfl ?_
      obtain ⟨r4, hc4, hf⟩ := ik_b1s hf
      have hM := (c_X7_isOf l D cI cS h0 h1 h2 h3 h4 h5 h6 h7 h8 h9 h10 h11 misKept mtaped msort mfrom mto mvalue mbad mm mkept mwas mother mfound mwarm mdrip mtape mbits msize mnumber x2 r3 r4 hc4)
      refine ik_goR (ik_runV (st := []) (As := [.int x2, .int r3]) C hM mv_X7_isOf wl_10_20 ⟨rfl, rfl, Nat.le_of_ble_eq_true rfl, Nat.le_of_ble_eq_true rfl⟩ [0, 1, 2, 3, 4, 5, 6, 7, 8, 9, 10, 11] rfl (by decide +kernel) 0 rfl rfl rfl rfl (Nat.le_of_ble_eq_true rfl) dX7_standsBy_30 ⟨Nat.zero_le _, Nat.zero_le _⟩) rfl ?_
      have hz := ik_gzi hf
      have hf := ik_gzk hf
      obtain rfl := Option.some.inj hf
      exact ik_zretR C hr hz.1 hlk dX7_standsBy_33
  · have hf := ik_neg hc hf
    refine ik_iconst (v := (1 : Int32)) C (by decide) dX7_standsBy_12 ?_
    obtain rfl := Option.some.inj hf
    exact ik_zretR C hr (by decide) hlk dX7_standsBy_13
theorem mv_X7_standing : ik_V yX7_standing RX7 cX7_standing 4 (some .int) 0 := ⟨wl_10_10, wl_10_11, wl_1_5, wl_10_12, by decide +kernel⟩
set_option maxHeartbeats 4000000 in
set_option maxRecDepth 100000 in
theorem c_X7_standing (l : Launch) (D : va_G) (cI cS : ClassId) (h0 h1 h2 h3 h4 h5 h6 h7 h8 h9 h10 h11 : Nat) (misKept : Int32) (mtaped : Int32) (msort : Int32) (mfrom : Int32) (mto : Int32) (mvalue : Int32) (mbad : Int32) (mm : Nat → Int32) (mkept : Nat → Int32) (mwas : Nat → Int32) (mother : Nat → Int32) (mfound : Nat → Int32) (mwarm : Nat → Int32) (mdrip : Nat → Int32) (mtape : Nat → Int32) (mbits : Nat → Int32) (msize : Nat → Int32) (mnumber : Nat → Int32) (R : Int32) (hf : f_X7_standing mm = some (R)) : Met l yX7_standing (ik_ws yX7_standing cX7_standing 4 (some .int)) ({ frames := 4, cells := 0, slots := 0, locals := 91 } : Room) (ik_P D cI cS [.ref h0] (wz_X7 cI cS h0 h1 h2 h3 h4 h5 h6 h7 h8 h9 h10 h11 misKept mtaped msort mfrom mto mvalue mbad mm mkept mwas mother mfound mwarm mdrip mtape mbits msize mnumber)) (ik_R (some (.int R))) 0 0 ik_no := by
  refine ik_metR RX7 rfl (by decide) (Nat.le_of_ble_eq_true rfl) [(0, .ref h0)] rfl ?_
  intro p e s m below meth c C hr hlk
  unfold f_X7_standing at hf
  refine ik_iconst (v := (0 : Int32)) C (by decide) dX7_standing_0 ?_
  refine ik_istore_n C [(1, .int (0 : Int32)), (0, .ref h0)] rfl (by decide) rfl dX7_standing_1 ?_
  refine ik_iconst (v := (-1 : Int32)) C (by decide) dX7_standing_2 ?_
  refine ik_istore_n C [(2, .int (-1 : Int32)), (1, .int (0 : Int32)), (0, .ref h0)] rfl (by decide) rfl dX7_standing_3 ?_
  have hL_4 : ∀ (n_4 : Nat) (x1_4 : Int32) (x2_4 : Int32), ik_lp2 (b_X7_standing_4 mm) n_4 x1_4 x2_4 = some (R) → ik_G p l e ({ frames := 4, cells := 0, slots := 0, locals := 91 } : Room) s m ([.ref h0] : List Value).toArray below meth c D ik_no (fun _ => True) 4 0 0 (MQ below (ik_R (some (.int R))) ([.ref h0] : List Value).toArray s 0 0 ik_no) 4 [(2, .int x2_4), (1, .int x1_4), (0, .ref h0)] [] (wz_X7 cI cS h0 h1 h2 h3 h4 h5 h6 h7 h8 h9 h10 h11 misKept mtaped msort mfrom mto mvalue mbad mm mkept mwas mother mfound mwarm mdrip mtape mbits msize mnumber) := by
    intro n_4
    induction n_4 with
    | zero => intro _ _ hf; exact nomatch hf
    | succ n_4 ih_4 =>
      intro x1_4 x2_4 hf
      replace hf : b_X7_standing_4 mm (ik_lp2 (b_X7_standing_4 mm) n_4) x1_4 x2_4 = some (R) := hf
      unfold b_X7_standing_4 at hf
      refine ik_iload_n C 1 rfl rfl dX7_standing_4 ?_
      refine ik_iload_n C 0 rfl rfl dX7_standing_5 ?_
      refine ik_icmp_eq C 59 dX7_standing_6 (by decide) (fun hc => ?_) (fun hc => ?_)
      · have hf := ik_pos hc hf
        refine ik_iload_n C 1 rfl rfl dX7_standing_59 ?_
        obtain rfl := Option.some.inj hf
        exact ik_iretR C hr hlk dX7_standing_60
      · have hf := ik_neg hc hf
        refine ik_iload_n C 1 rfl rfl dX7_standing_9 ?_
        refine ik_istore_n C [(2, .int x1_4), (1, .int x1_4), (0, .ref h0)] rfl (by decide) rfl dX7_standing_10 ?_
        refine ik_iconst (v := (0 : Int32)) C (by decide) dX7_standing_11 ?_
        refine ik_istore_n C [(3, .int (0 : Int32)), (2, .int x1_4), (1, .int x1_4), (0, .ref h0)] rfl (by decide) rfl dX7_standing_12 ?_
        have hL_13 : ∀ (n_13 : Nat) (x1_13 : Int32) (x3_13 : Int32), ik_lp2 (b_X7_standing_13 mm x1_4 (ik_lp2 (b_X7_standing_4 mm) n_4)) n_13 x1_13 x3_13 = some (R) → ik_G p l e ({ frames := 4, cells := 0, slots := 0, locals := 91 } : Room) s m ([.ref h0] : List Value).toArray below meth c D ik_no (fun _ => True) 4 0 0 (MQ below (ik_R (some (.int R))) ([.ref h0] : List Value).toArray s 0 0 ik_no) 13 [(3, .int x3_13), (2, .int x1_4), (1, .int x1_13), (0, .ref h0)] [] (wz_X7 cI cS h0 h1 h2 h3 h4 h5 h6 h7 h8 h9 h10 h11 misKept mtaped msort mfrom mto mvalue mbad mm mkept mwas mother mfound mwarm mdrip mtape mbits msize mnumber) := by
          intro n_13
          induction n_13 with
          | zero => intro _ _ hf; exact nomatch hf
          | succ n_13 ih_13 =>
            intro x1_13 x3_13 hf
            replace hf : b_X7_standing_13 mm x1_4 (ik_lp2 (b_X7_standing_4 mm) n_4) (ik_lp2 (b_X7_standing_13 mm x1_4 (ik_lp2 (b_X7_standing_4 mm) n_4)) n_13) x1_13 x3_13 = some (R) := hf
            unfold b_X7_standing_13 at hf
            refine ik_iload_n C 0 rfl rfl dX7_standing_13 ?_
            refine ik_aload_n C 3 rfl rfl dX7_standing_14 ?_
            refine ik_get C inlX7 0 rfl rfl 0 (by decide) wl_4_12 rfl (v := .ref h1) rfl dX7_standing_15 ?_
            refine ik_iconst (v := (5 : Int32)) C (by decide) dX7_standing_18 ?_
            refine ik_iald C 1 rfl (ik_vin (by decide)) dX7_standing_19 ?_
            refine ik_icmp_ge C 56 dX7_standing_20 (by decide) (fun hc => ?_) (fun hc => ?_)
            · have hf := ik_pos hc hf
              refine ik_goto C 4 dX7_standing_56 (by decide) ?_
              exact ik_sub [1, 2, 3] [(2, .int x1_4), (1, .int x1_13), (0, .ref h0)] rfl (ih_4 x1_13 x1_4 hf)
            · have hf := ik_neg hc hf
              refine ik_iload_n C 2 rfl rfl dX7_standing_23 ?_
              refine ik_aload_n C 3 rfl rfl dX7_standing_24 ?_
              refine ik_iload_n C 0 rfl rfl dX7_standing_25 ?_
              obtain ⟨r1, hc1, hf⟩ := ik_b1s hf
              have hM := (c_X7_isGone l D cI cS h0 h1 h2 h3 h4 h5 h6 h7 h8 h9 h10 h11 misKept mtaped msort mfrom mto mvalue mbad mm mkept mwas mother mfound mwarm mdrip mtape mbits msize mnumber x3_13 r1 hc1)
              refine ik_goR (ik_runV (st := [.int x1_13]) (As := [.int x3_13]) C hM mv_X7_isGone wl_10_5 ⟨rfl, rfl, Nat.le_of_ble_eq_true rfl, Nat.le_of_ble_eq_true rfl⟩ [0, 1, 2, 3, 4, 5, 6, 7, 8, 9, 10, 11] rfl (by decide +kernel) 0 rfl rfl rfl rfl (Nat.le_of_ble_eq_true rfl) dX7_standing_26 ⟨Nat.zero_le _, Nat.zero_le _⟩) rfl ?_
              refine ik_if_ne C 47 dX7_standing_29 (by decide) (fun hc => ?_) (fun hc => ?_)
              · have hf := ik_neg hc hf
                refine ik_iconst (v := (0 : Int32)) C (by decide) dX7_standing_47 ?_
                refine ik_ior C dX7_standing_48 ?_
                refine ik_istore_n C [(1, .int (x1_13 ||| (0 : Int32))), (3, .int x3_13), (2, .int x1_4), (0, .ref h0)] rfl (by decide) rfl dX7_standing_49 ?_
                refine ik_iinc C [(3, .int (x3_13 + (1 : Int32))), (1, .int (x1_13 ||| (0 : Int32))), (2, .int x1_4), (0, .ref h0)] 1 rfl rfl (by decide) rfl dX7_standing_50 ?_
                refine ik_goto C 13 dX7_standing_53 (by decide) ?_
                exact ik_sub [0, 2, 1, 3] [(3, .int (x3_13 + (1 : Int32))), (2, .int x1_4), (1, .int (x1_13 ||| (0 : Int32))), (0, .ref h0)] rfl (ih_13 (x1_13 ||| (0 : Int32)) (x3_13 + (1 : Int32)) hf)
              · have hf := ik_pos hc hf
                refine ik_aload_n C 3 rfl rfl dX7_standing_32 ?_
                refine ik_iload_n C 0 rfl rfl dX7_standing_33 ?_
                refine ik_iload_n C 2 rfl rfl dX7_standing_34 ?_
                obtain ⟨r2, hc2, hf⟩ := ik_b1s hf
                have hM := (c_X7_standsBy l D cI cS h0 h1 h2 h3 h4 h5 h6 h7 h8 h9 h10 h11 misKept mtaped msort mfrom mto mvalue mbad mm mkept mwas mother mfound mwarm mdrip mtape mbits msize mnumber x3_13 x1_13 r2 hc2)
                refine ik_goR (ik_runV (st := [.int x1_13]) (As := [.int x3_13, .int x1_13]) C hM mv_X7_standsBy wl_10_13 ⟨rfl, rfl, Nat.le_of_ble_eq_true rfl, Nat.le_of_ble_eq_true rfl⟩ [0, 1, 2, 3, 4, 5, 6, 7, 8, 9, 10, 11] rfl (by decide +kernel) 0 rfl rfl rfl rfl (Nat.le_of_ble_eq_true rfl) dX7_standing_35 ⟨Nat.zero_le _, Nat.zero_le _⟩) rfl ?_
                refine ik_if_eq C 47 dX7_standing_38 (by decide) (fun hc => ?_) (fun hc => ?_)
                · have hf := ik_pos hc hf
                  refine ik_iconst (v := (0 : Int32)) C (by decide) dX7_standing_47 ?_
                  refine ik_ior C dX7_standing_48 ?_
                  refine ik_istore_n C [(1, .int (x1_13 ||| (0 : Int32))), (3, .int x3_13), (2, .int x1_4), (0, .ref h0)] rfl (by decide) rfl dX7_standing_49 ?_
                  refine ik_iinc C [(3, .int (x3_13 + (1 : Int32))), (1, .int (x1_13 ||| (0 : Int32))), (2, .int x1_4), (0, .ref h0)] 1 rfl rfl (by decide) rfl dX7_standing_50 ?_
                  refine ik_goto C 13 dX7_standing_53 (by decide) ?_
                  exact ik_sub [0, 2, 1, 3] [(3, .int (x3_13 + (1 : Int32))), (2, .int x1_4), (1, .int (x1_13 ||| (0 : Int32))), (0, .ref h0)] rfl (ih_13 (x1_13 ||| (0 : Int32)) (x3_13 + (1 : Int32)) hf)
                · have hf := ik_neg hc hf
                  refine ik_iconst (v := (1 : Int32)) C (by decide) dX7_standing_41 ?_
                  refine ik_iload_n C 0 rfl rfl dX7_standing_42 ?_
                  refine ik_ishl C dX7_standing_43 ?_
                  refine ik_goto C 48 dX7_standing_44 (by decide) ?_
                  refine ik_ior C dX7_standing_48 ?_
                  refine ik_istore_n C [(1, .int (x1_13 ||| ((1 : Int32) <<< (x3_13 &&& 31)))), (3, .int x3_13), (2, .int x1_4), (0, .ref h0)] rfl (by decide) rfl dX7_standing_49 ?_
                  refine ik_iinc C [(3, .int (x3_13 + (1 : Int32))), (1, .int (x1_13 ||| ((1 : Int32) <<< (x3_13 &&& 31)))), (2, .int x1_4), (0, .ref h0)] 1 rfl rfl (by decide) rfl dX7_standing_50 ?_
                  refine ik_goto C 13 dX7_standing_53 (by decide) ?_
                  exact ik_sub [0, 2, 1, 3] [(3, .int (x3_13 + (1 : Int32))), (2, .int x1_4), (1, .int (x1_13 ||| ((1 : Int32) <<< (x3_13 &&& 31)))), (0, .ref h0)] rfl (ih_13 (x1_13 ||| ((1 : Int32) <<< (x3_13 &&& 31))) (x3_13 + (1 : Int32)) hf)
        exact hL_13 ik_fu x1_4 (0 : Int32) hf
  exact hL_4 ik_fu (0 : Int32) (-1 : Int32) hf
theorem mv_X7_loadOf : ik_V yX7_loadOf RX7 cX7_loadOf 4 (some .int) 1 := ⟨wl_11_13, wl_11_14, wl_1_5, wl_11_15, by decide +kernel⟩
set_option maxHeartbeats 4000000 in
set_option maxRecDepth 100000 in
theorem c_X7_loadOf (l : Launch) (D : va_G) (cI cS : ClassId) (h0 h1 h2 h3 h4 h5 h6 h7 h8 h9 h10 h11 : Nat) (misKept : Int32) (mtaped : Int32) (msort : Int32) (mfrom : Int32) (mto : Int32) (mvalue : Int32) (mbad : Int32) (mm : Nat → Int32) (mkept : Nat → Int32) (mwas : Nat → Int32) (mother : Nat → Int32) (mfound : Nat → Int32) (mwarm : Nat → Int32) (mdrip : Nat → Int32) (mtape : Nat → Int32) (mbits : Nat → Int32) (msize : Nat → Int32) (mnumber : Nat → Int32) (x1 : Int32) (R : Int32) (hf : f_X7_loadOf mm x1 = some (R)) : Met l yX7_loadOf (ik_ws yX7_loadOf cX7_loadOf 4 (some .int)) ({ frames := 2, cells := 0, slots := 0, locals := 43 } : Room) (ik_P D cI cS [.ref h0, .int x1] (wz_X7 cI cS h0 h1 h2 h3 h4 h5 h6 h7 h8 h9 h10 h11 misKept mtaped msort mfrom mto mvalue mbad mm mkept mwas mother mfound mwarm mdrip mtape mbits msize mnumber)) (ik_R (some (.int R))) 0 0 ik_no := by
  refine ik_metR RX7 rfl (by decide) (Nat.le_of_ble_eq_true rfl) [(0, .ref h0), (1, .int x1)] rfl ?_
  intro p e s m below meth c C hr hlk
  unfold f_X7_loadOf at hf
  refine ik_iconst (v := (0 : Int32)) C (by decide) dX7_loadOf_0 ?_
  refine ik_istore_n C [(2, .int (0 : Int32)), (0, .ref h0), (1, .int x1)] rfl (by decide) rfl dX7_loadOf_1 ?_
  refine ik_aload_n C 1 rfl rfl dX7_loadOf_2 ?_
  refine ik_iload_n C 2 rfl rfl dX7_loadOf_3 ?_
  obtain ⟨r1, hc1, hf⟩ := ik_b1s hf
  have hM := (c_X7_cellOf l D cI cS h0 h1 h2 h3 h4 h5 h6 h7 h8 h9 h10 h11 misKept mtaped msort mfrom mto mvalue mbad mm mkept mwas mother mfound mwarm mdrip mtape mbits msize mnumber x1 r1 hc1)
  refine ik_goR (ik_runV (st := []) (As := [.int x1]) C hM mv_X7_cellOf wl_7_16 ⟨rfl, rfl, Nat.le_of_ble_eq_true rfl, Nat.le_of_ble_eq_true rfl⟩ [0, 1, 2, 3, 4, 5, 6, 7, 8, 9, 10, 11] rfl (by decide +kernel) 0 rfl rfl rfl rfl (Nat.le_of_ble_eq_true rfl) dX7_loadOf_4 ⟨Nat.zero_le _, Nat.zero_le _⟩) rfl ?_
  obtain ⟨r2, hc2, hf⟩ := ik_b1s hf
  have hM := (c_X7_above l D cI cS r1 r2 hc2)
  refine ik_goR (ik_runS (st := []) (As := [.int r1]) C hM ms_X7_above wl_10_17 ⟨rfl, rfl, Nat.le_of_ble_eq_true rfl, Nat.le_of_ble_eq_true rfl⟩ [] rfl (by decide +kernel) rfl rfl (Nat.le_of_ble_eq_true rfl) dX7_loadOf_7 ⟨Nat.zero_le _, Nat.zero_le _⟩) rfl ?_
  refine ik_istore_n C [(3, .int r2), (2, .int (0 : Int32)), (0, .ref h0), (1, .int x1)] rfl (by decide) rfl dX7_loadOf_10 ?_
  have hL_11 : ∀ (n_11 : Nat) (x2_11 : Int32) (x3_11 : Int32), ik_lp2 (b_X7_loadOf_11 mm) n_11 x2_11 x3_11 = some (R) → ik_G p l e ({ frames := 2, cells := 0, slots := 0, locals := 43 } : Room) s m ([.ref h0, .int x1] : List Value).toArray below meth c D ik_no (fun _ => True) 4 0 0 (MQ below (ik_R (some (.int R))) ([.ref h0, .int x1] : List Value).toArray s 0 0 ik_no) 11 [(3, .int x3_11), (2, .int x2_11), (0, .ref h0), (1, .int x1)] [] (wz_X7 cI cS h0 h1 h2 h3 h4 h5 h6 h7 h8 h9 h10 h11 misKept mtaped msort mfrom mto mvalue mbad mm mkept mwas mother mfound mwarm mdrip mtape mbits msize mnumber) := by
    intro n_11
    induction n_11 with
    | zero => intro _ _ hf; exact nomatch hf
    | succ n_11 ih_11 =>
      intro x2_11 x3_11 hf
      replace hf : b_X7_loadOf_11 mm (ik_lp2 (b_X7_loadOf_11 mm) n_11) x2_11 x3_11 = some (R) := hf
      unfold b_X7_loadOf_11 at hf
      refine ik_aload_n C 2 rfl rfl dX7_loadOf_11 ?_
      refine ik_iload_n C 0 rfl rfl dX7_loadOf_12 ?_
      obtain ⟨r3, hc3, hf⟩ := ik_b1s hf
      have hM := (c_X7_blockOn l D cI cS h0 h1 h2 h3 h4 h5 h6 h7 h8 h9 h10 h11 misKept mtaped msort mfrom mto mvalue mbad mm mkept mwas mother mfound mwarm mdrip mtape mbits msize mnumber x3_11 r3 hc3)
      refine ik_goR (ik_runV (st := []) (As := [.int x3_11]) C hM mv_X7_blockOn wl_7_12 ⟨rfl, rfl, Nat.le_of_ble_eq_true rfl, Nat.le_of_ble_eq_true rfl⟩ [0, 1, 2, 3, 4, 5, 6, 7, 8, 9, 10, 11] rfl (by decide +kernel) 0 rfl rfl rfl rfl (Nat.le_of_ble_eq_true rfl) dX7_loadOf_13 ⟨Nat.zero_le _, Nat.zero_le _⟩) rfl ?_
      refine ik_if_lt C 39 dX7_loadOf_16 (by decide) (fun hc => ?_) (fun hc => ?_)
      · have hf := ik_pos hc hf
        refine ik_iload_n C 1 rfl rfl dX7_loadOf_39 ?_
        obtain rfl := Option.some.inj hf
        exact ik_iretR C hr hlk dX7_loadOf_40
      · have hf := ik_neg hc hf
        refine ik_iload_n C 1 rfl rfl dX7_loadOf_19 ?_
        refine ik_aload_n C 2 rfl rfl dX7_loadOf_20 ?_
        refine ik_aload_n C 2 rfl rfl dX7_loadOf_21 ?_
        refine ik_iload_n C 0 rfl rfl dX7_loadOf_22 ?_
        obtain ⟨r4, hc4, hf⟩ := ik_b1s hf
        have hM := (c_X7_blockOn l D cI cS h0 h1 h2 h3 h4 h5 h6 h7 h8 h9 h10 h11 misKept mtaped msort mfrom mto mvalue mbad mm mkept mwas mother mfound mwarm mdrip mtape mbits msize mnumber x3_11 r4 hc4)
        refine ik_goR (ik_runV (st := [.ref h0, .int x2_11]) (As := [.int x3_11]) C hM mv_X7_blockOn wl_7_12 ⟨rfl, rfl, Nat.le_of_ble_eq_true rfl, Nat.le_of_ble_eq_true rfl⟩ [0, 1, 2, 3, 4, 5, 6, 7, 8, 9, 10, 11] rfl (by decide +kernel) 0 rfl rfl rfl rfl (Nat.le_of_ble_eq_true rfl) dX7_loadOf_23 ⟨Nat.zero_le _, Nat.zero_le _⟩) rfl ?_
        obtain ⟨r5, hc5, hf⟩ := ik_b1s hf
        have hM := (c_X7_grains l D cI cS h0 h1 h2 h3 h4 h5 h6 h7 h8 h9 h10 h11 misKept mtaped msort mfrom mto mvalue mbad mm mkept mwas mother mfound mwarm mdrip mtape mbits msize mnumber r4 r5 hc5)
        refine ik_goR (ik_runV (st := [.int x2_11]) (As := [.int r4]) C hM mv_X7_grains wl_10_1 ⟨rfl, rfl, Nat.le_of_ble_eq_true rfl, Nat.le_of_ble_eq_true rfl⟩ [0, 1, 2, 3, 4, 5, 6, 7, 8, 9, 10, 11] rfl (by decide +kernel) 0 rfl rfl rfl rfl (Nat.le_of_ble_eq_true rfl) dX7_loadOf_26 ⟨Nat.zero_le _, Nat.zero_le _⟩) rfl ?_
        refine ik_iadd C dX7_loadOf_29 ?_
        refine ik_istore_n C [(2, .int (x2_11 + r5)), (3, .int x3_11), (0, .ref h0), (1, .int x1)] rfl (by decide) rfl dX7_loadOf_30 ?_
        refine ik_iload_n C 1 rfl rfl dX7_loadOf_31 ?_
        obtain ⟨r6, hc6, hf⟩ := ik_b1s hf
        have hM := (c_X7_above l D cI cS x3_11 r6 hc6)
        refine ik_goR (ik_runS (st := []) (As := [.int x3_11]) C hM ms_X7_above wl_10_17 ⟨rfl, rfl, Nat.le_of_ble_eq_true rfl, Nat.le_of_ble_eq_true rfl⟩ [] rfl (by decide +kernel) rfl rfl (Nat.le_of_ble_eq_true rfl) dX7_loadOf_32 ⟨Nat.zero_le _, Nat.zero_le _⟩) rfl ?_
        refine ik_istore_n C [(3, .int r6), (2, .int (x2_11 + r5)), (0, .ref h0), (1, .int x1)] rfl (by decide) rfl dX7_loadOf_35 ?_
        refine ik_goto C 11 dX7_loadOf_36 (by decide) ?_
        exact ik_sub [0, 1, 2, 3] [(3, .int r6), (2, .int (x2_11 + r5)), (0, .ref h0), (1, .int x1)] rfl (ih_11 (x2_11 + r5) r6 hf)
  exact hL_11 ik_fu (0 : Int32) r2 hf
theorem mv_X7_strongOf : ik_V yX7_strongOf RX7 cX7_strongOf 3 (some .int) 1 := ⟨wl_11_17, wl_11_18, wl_1_5, wl_11_19, by decide +kernel⟩
set_option maxHeartbeats 4000000 in
set_option maxRecDepth 100000 in
theorem c_X7_strongOf (l : Launch) (D : va_G) (cI cS : ClassId) (h0 h1 h2 h3 h4 h5 h6 h7 h8 h9 h10 h11 : Nat) (misKept : Int32) (mtaped : Int32) (msort : Int32) (mfrom : Int32) (mto : Int32) (mvalue : Int32) (mbad : Int32) (mm : Nat → Int32) (mkept : Nat → Int32) (mwas : Nat → Int32) (mother : Nat → Int32) (mfound : Nat → Int32) (mwarm : Nat → Int32) (mdrip : Nat → Int32) (mtape : Nat → Int32) (mbits : Nat → Int32) (msize : Nat → Int32) (mnumber : Nat → Int32) (x1 : Int32) (R : Int32) (hf : f_X7_strongOf mm x1 = some (R)) : Met l yX7_strongOf (ik_ws yX7_strongOf cX7_strongOf 3 (some .int)) ({ frames := 1, cells := 0, slots := 0, locals := 21 } : Room) (ik_P D cI cS [.ref h0, .int x1] (wz_X7 cI cS h0 h1 h2 h3 h4 h5 h6 h7 h8 h9 h10 h11 misKept mtaped msort mfrom mto mvalue mbad mm mkept mwas mother mfound mwarm mdrip mtape mbits msize mnumber)) (ik_R (some (.int R))) 0 0 ik_no := by
  refine ik_metR RX7 rfl (by decide) (Nat.le_of_ble_eq_true rfl) [(0, .ref h0), (1, .int x1)] rfl ?_
  intro p e s m below meth c C hr hlk
  unfold f_X7_strongOf at hf
  refine ik_iconst (v := (4 : Int32)) C (by decide) dX7_strongOf_0 ?_
  refine ik_aload_n C 0 rfl rfl dX7_strongOf_1 ?_
  refine ik_iload_n C 1 rfl rfl dX7_strongOf_2 ?_
  obtain ⟨r1, hc1, hf⟩ := ik_b1s hf
  have hM := (c_X7_grains l D cI cS h0 h1 h2 h3 h4 h5 h6 h7 h8 h9 h10 h11 misKept mtaped msort mfrom mto mvalue mbad mm mkept mwas mother mfound mwarm mdrip mtape mbits msize mnumber x1 r1 hc1)
  refine ik_goR (ik_runV (st := [.int (4 : Int32)]) (As := [.int x1]) C hM mv_X7_grains wl_10_1 ⟨rfl, rfl, Nat.le_of_ble_eq_true rfl, Nat.le_of_ble_eq_true rfl⟩ [0, 1, 2, 3, 4, 5, 6, 7, 8, 9, 10, 11] rfl (by decide +kernel) 0 rfl rfl rfl rfl (Nat.le_of_ble_eq_true rfl) dX7_strongOf_3 ⟨Nat.zero_le _, Nat.zero_le _⟩) rfl ?_
  refine ik_imul C dX7_strongOf_6 ?_
  refine ik_istore_n C [(2, .int ((4 : Int32) * r1)), (0, .ref h0), (1, .int x1)] rfl (by decide) rfl dX7_strongOf_7 ?_
  refine ik_aload_n C 1 rfl rfl dX7_strongOf_8 ?_
  refine ik_iload_n C 2 rfl rfl dX7_strongOf_9 ?_
  obtain ⟨r2, hc2, hf⟩ := ik_b1s hf
  have hM := (c_X7_kindOf l D cI cS h0 h1 h2 h3 h4 h5 h6 h7 h8 h9 h10 h11 misKept mtaped msort mfrom mto mvalue mbad mm mkept mwas mother mfound mwarm mdrip mtape mbits msize mnumber x1 r2 hc2)
  refine ik_goR (ik_runV (st := []) (As := [.int x1]) C hM mv_X7_kindOf wl_9_21 ⟨rfl, rfl, Nat.le_of_ble_eq_true rfl, Nat.le_of_ble_eq_true rfl⟩ [0, 1, 2, 3, 4, 5, 6, 7, 8, 9, 10, 11] rfl (by decide +kernel) 0 rfl rfl rfl rfl (Nat.le_of_ble_eq_true rfl) dX7_strongOf_10 ⟨Nat.zero_le _, Nat.zero_le _⟩) rfl ?_
  by_cases hn3 : r2 = (3 : Int32)
  · have hf := ik_pos hn3 hf
    refine ik_tcase C (3 : Int32) hn3 40 dX7_strongOf_13 (by decide) (by decide) rfl (by decide) ?_
    refine ik_iload_n C 0 rfl rfl dX7_strongOf_40 ?_
    refine ik_bipush (v := (20 : Int32)) C (by decide) dX7_strongOf_41 ?_
    refine ik_iadd C dX7_strongOf_43 ?_
    obtain rfl := Option.some.inj hf
    exact ik_iretR C hr hlk dX7_strongOf_44
  · have hf := ik_neg hn3 hf
    by_cases hn4 : r2 = (4 : Int32)
    · have hf := ik_pos hn4 hf
      refine ik_tcase C (4 : Int32) hn4 45 dX7_strongOf_13 (by decide) (by decide) rfl (by decide) ?_
      refine ik_iconst (v := (3 : Int32)) C (by decide) dX7_strongOf_45 ?_
      refine ik_iload_n C 0 rfl rfl dX7_strongOf_46 ?_
      refine ik_imul C dX7_strongOf_47 ?_
      obtain rfl := Option.some.inj hf
      exact ik_iretR C hr hlk dX7_strongOf_48
    · have hf := ik_neg hn4 hf
      by_cases hn5 : r2 = (5 : Int32)
      · have hf := ik_pos hn5 hf
        refine ik_tcase C (5 : Int32) hn5 49 dX7_strongOf_13 (by decide) (by decide) rfl (by decide) ?_
        refine ik_iconst (v := (2 : Int32)) C (by decide) dX7_strongOf_49 ?_
        refine ik_iload_n C 0 rfl rfl dX7_strongOf_50 ?_
        refine ik_imul C dX7_strongOf_51 ?_
        obtain rfl := Option.some.inj hf
        exact ik_iretR C hr hlk dX7_strongOf_52
      · have hf := ik_neg hn5 hf
        refine ik_tout C 53 dX7_strongOf_13 (by have ehn3 : (r2).toInt ≠ 3 := fun h => hn3 (Int32.toInt_inj.mp h); have ehn4 : (r2).toInt ≠ 4 := fun h => hn4 (Int32.toInt_inj.mp h); have ehn5 : (r2).toInt ≠ 5 := fun h => hn5 (Int32.toInt_inj.mp h); omega) (by decide) ?_
        refine ik_iload_n C 0 rfl rfl dX7_strongOf_53 ?_
        obtain rfl := Option.some.inj hf
        exact ik_iretR C hr hlk dX7_strongOf_54
theorem mv_X7_blockOf : ik_V yX7_blockOf RX7 cX7_blockOf 3 (some .int) 2 := ⟨wl_9_14, wl_9_15, wl_1_5, wl_9_16, by decide +kernel⟩
set_option maxHeartbeats 4000000 in
set_option maxRecDepth 100000 in
theorem c_X7_blockOf (l : Launch) (D : va_G) (cI cS : ClassId) (h0 h1 h2 h3 h4 h5 h6 h7 h8 h9 h10 h11 : Nat) (misKept : Int32) (mtaped : Int32) (msort : Int32) (mfrom : Int32) (mto : Int32) (mvalue : Int32) (mbad : Int32) (mm : Nat → Int32) (mkept : Nat → Int32) (mwas : Nat → Int32) (mother : Nat → Int32) (mfound : Nat → Int32) (mwarm : Nat → Int32) (mdrip : Nat → Int32) (mtape : Nat → Int32) (mbits : Nat → Int32) (msize : Nat → Int32) (mnumber : Nat → Int32) (x1 : Int32) (x2 : Int32) (R : Int32) (mfound_r : Nat → Int32) (hf : f_X7_blockOf mm mfound x1 x2 = some (R, mfound_r)) : Met l yX7_blockOf (ik_ws yX7_blockOf cX7_blockOf 3 (some .int)) ({ frames := 5, cells := 0, slots := 0, locals := 114 } : Room) (ik_P D cI cS [.ref h0, .int x1, .int x2] (wz_X7 cI cS h0 h1 h2 h3 h4 h5 h6 h7 h8 h9 h10 h11 misKept mtaped msort mfrom mto mvalue mbad mm mkept mwas mother mfound mwarm mdrip mtape mbits msize mnumber)) (ik_Q (some (.int R)) D (wz_X7 cI cS h0 h1 h2 h3 h4 h5 h6 h7 h8 h9 h10 h11 misKept mtaped msort mfrom mto mvalue mbad mm mkept mwas mother mfound_r mwarm mdrip mtape mbits msize mnumber) (wz_X7 cI cS h0 h1 h2 h3 h4 h5 h6 h7 h8 h9 h10 h11 misKept mtaped msort mfrom mto mvalue mbad mm mkept mwas mother mfound mwarm mdrip mtape mbits msize mnumber)) 0 0 (ik_in (wz_X7 cI cS h0 h1 h2 h3 h4 h5 h6 h7 h8 h9 h10 h11 misKept mtaped msort mfrom mto mvalue mbad mm mkept mwas mother mfound mwarm mdrip mtape mbits msize mnumber)) := by
  refine ik_metW RX7 rfl (by decide) (Nat.le_of_ble_eq_true rfl) [(0, .ref h0), (1, .int x1), (2, .int x2)] rfl ?_
  intro p e s m below meth c C hr hlk
  unfold f_X7_blockOf at hf
  refine ik_aload_n C 0 rfl rfl dX7_blockOf_0 ?_
  refine ik_iload_n C 1 rfl rfl dX7_blockOf_1 ?_
  obtain ⟨r1, hc1, hf⟩ := ik_b1s hf
  have hM := (c_X7_isBlock l D cI cS h0 h1 h2 h3 h4 h5 h6 h7 h8 h9 h10 h11 misKept mtaped msort mfrom mto mvalue mbad mm mkept mwas mother mfound mwarm mdrip mtape mbits msize mnumber x1 r1 hc1)
  refine ik_goR (ik_runV (st := []) (As := [.int x1]) C hM mv_X7_isBlock wl_9_17 ⟨rfl, rfl, Nat.le_of_ble_eq_true rfl, Nat.le_of_ble_eq_true rfl⟩ [0, 1, 2, 3, 4, 5, 6, 7, 8, 9, 10, 11] rfl (by decide +kernel) 0 rfl rfl rfl rfl (Nat.le_of_ble_eq_true rfl) dX7_blockOf_2 ⟨Nat.zero_le _, Nat.zero_le _⟩) rfl ?_
  refine ik_if_eq C 20 dX7_blockOf_5 (by decide) (fun hc => ?_) (fun hc => ?_)
  · have hf := ik_pos hc hf
    refine ik_aload_n C 0 rfl rfl dX7_blockOf_20 ?_
    refine ik_ldc C wl_6_14 dX7_blockOf_21 ?_
    obtain ⟨r2, g3, hc3, hf⟩ := ik_b2s hf
    have hM := (c_X7_finds l D cI cS h0 h1 h2 h3 h4 h5 h6 h7 h8 h9 h10 h11 misKept mtaped msort mfrom mto mvalue mbad mm mkept mwas mother mfound mwarm mdrip mtape mbits msize mnumber (-1000001 : Int32) r2 g3 hc3)
    refine ik_goW (v := (some (.int r2))) (wc := (wz_X7 cI cS h0 h1 h2 h3 h4 h5 h6 h7 h8 h9 h10 h11 misKept mtaped msort mfrom mto mvalue mbad mm mkept mwas mother mfound mwarm mdrip mtape mbits msize mnumber)) (w1 := (wz_X7 cI cS h0 h1 h2 h3 h4 h5 h6 h7 h8 h9 h10 h11 misKept mtaped msort mfrom mto mvalue mbad mm mkept mwas mother g3 mwarm mdrip mtape mbits msize mnumber)) [0, 1, 2, 3, 4, 5, 6, 7, 8, 9, 10, 11] [] 12 rfl rfl (wz_X7 cI cS h0 h1 h2 h3 h4 h5 h6 h7 h8 h9 h10 h11 misKept mtaped msort mfrom mto mvalue mbad mm mkept mwas mother g3 mwarm mdrip mtape mbits msize mnumber) rfl [] rfl rfl rfl (by decide +kernel) (ik_runV (st := []) (As := [.int (-1000001 : Int32)]) C hM mv_X7_finds wl_7_8 ⟨rfl, rfl, Nat.le_of_ble_eq_true rfl, Nat.le_of_ble_eq_true rfl⟩ [0, 1, 2, 3, 4, 5, 6, 7, 8, 9, 10, 11] rfl (by decide +kernel) 0 rfl rfl rfl rfl (Nat.le_of_ble_eq_true rfl) dX7_blockOf_23 ⟨Nat.zero_le _, Nat.zero_le _⟩) rfl ?_
    obtain ⟨rfl, rfl⟩ := ik_e2 hf
    exact ik_iretW C hr hlk dX7_blockOf_26
  · have hf := ik_neg hc hf
    refine ik_iload_n C 2 rfl rfl dX7_blockOf_8 ?_
    refine ik_i2l C dX7_blockOf_9 ?_
    refine ik_lconst (v := (0 : Int64)) C (by decide) dX7_blockOf_10 ?_
    refine ik_ldc2 C wl_6_20 dX7_blockOf_11 ?_
    obtain ⟨r2, hc2, hf⟩ := ik_b1s hf
    have hM := (c_X7_in l D cI cS (x2).toInt64 (0 : Int64) (6 : Int64) r2 hc2)
    refine ik_goR (ik_runS (st := []) (As := [.long (x2).toInt64, .long (0 : Int64), .long (6 : Int64)]) C hM ms_X7_in wl_6_21 ⟨rfl, rfl, Nat.le_of_ble_eq_true rfl, Nat.le_of_ble_eq_true rfl⟩ [] rfl (by decide +kernel) rfl rfl (Nat.le_of_ble_eq_true rfl) dX7_blockOf_14 ⟨Nat.zero_le _, Nat.zero_le _⟩) rfl ?_
    refine ik_if_ne C 27 dX7_blockOf_17 (by decide) (fun hc => ?_) (fun hc => ?_)
    · have hf := ik_neg hc hf
      refine ik_iload_n C 2 rfl rfl dX7_blockOf_27 ?_
      by_cases hn0 : x2 = (0 : Int32)
      · have hf := ik_pos hn0 hf
        refine ik_tcase C (0 : Int32) hn0 68 dX7_blockOf_28 (by decide) (by decide) rfl (by decide) ?_
        refine ik_aload_n C 0 rfl rfl dX7_blockOf_68 ?_
        refine ik_iload_n C 1 rfl rfl dX7_blockOf_69 ?_
        obtain ⟨r3, hc3, hf⟩ := ik_b1s hf
        have hM := (c_X7_kindOf l D cI cS h0 h1 h2 h3 h4 h5 h6 h7 h8 h9 h10 h11 misKept mtaped msort mfrom mto mvalue mbad mm mkept mwas mother mfound mwarm mdrip mtape mbits msize mnumber x1 r3 hc3)
        refine ik_goR (ik_runV (st := []) (As := [.int x1]) C hM mv_X7_kindOf wl_9_21 ⟨rfl, rfl, Nat.le_of_ble_eq_true rfl, Nat.le_of_ble_eq_true rfl⟩ [0, 1, 2, 3, 4, 5, 6, 7, 8, 9, 10, 11] rfl (by decide +kernel) 0 rfl rfl rfl rfl (Nat.le_of_ble_eq_true rfl) dX7_blockOf_70 ⟨Nat.zero_le _, Nat.zero_le _⟩) rfl ?_
        obtain ⟨rfl, rfl⟩ := ik_e2 hf
        exact ik_iretW C hr hlk dX7_blockOf_73
      · have hf := ik_neg hn0 hf
        by_cases hn1 : x2 = (1 : Int32)
        · have hf := ik_pos hn1 hf
          refine ik_tcase C (1 : Int32) hn1 74 dX7_blockOf_28 (by decide) (by decide) rfl (by decide) ?_
          refine ik_aload_n C 0 rfl rfl dX7_blockOf_74 ?_
          refine ik_iload_n C 1 rfl rfl dX7_blockOf_75 ?_
          obtain ⟨r3, hc3, hf⟩ := ik_b1s hf
          have hM := (c_X7_cellOf l D cI cS h0 h1 h2 h3 h4 h5 h6 h7 h8 h9 h10 h11 misKept mtaped msort mfrom mto mvalue mbad mm mkept mwas mother mfound mwarm mdrip mtape mbits msize mnumber x1 r3 hc3)
          refine ik_goR (ik_runV (st := []) (As := [.int x1]) C hM mv_X7_cellOf wl_7_16 ⟨rfl, rfl, Nat.le_of_ble_eq_true rfl, Nat.le_of_ble_eq_true rfl⟩ [0, 1, 2, 3, 4, 5, 6, 7, 8, 9, 10, 11] rfl (by decide +kernel) 0 rfl rfl rfl rfl (Nat.le_of_ble_eq_true rfl) dX7_blockOf_76 ⟨Nat.zero_le _, Nat.zero_le _⟩) rfl ?_
          obtain ⟨rfl, rfl⟩ := ik_e2 hf
          exact ik_iretW C hr hlk dX7_blockOf_79
        · have hf := ik_neg hn1 hf
          by_cases hn2 : x2 = (2 : Int32)
          · have hf := ik_pos hn2 hf
            refine ik_tcase C (2 : Int32) hn2 80 dX7_blockOf_28 (by decide) (by decide) rfl (by decide) ?_
            refine ik_aload_n C 0 rfl rfl dX7_blockOf_80 ?_
            refine ik_iload_n C 1 rfl rfl dX7_blockOf_81 ?_
            obtain ⟨r3, hc3, hf⟩ := ik_b1s hf
            have hM := (c_X7_grains l D cI cS h0 h1 h2 h3 h4 h5 h6 h7 h8 h9 h10 h11 misKept mtaped msort mfrom mto mvalue mbad mm mkept mwas mother mfound mwarm mdrip mtape mbits msize mnumber x1 r3 hc3)
            refine ik_goR (ik_runV (st := []) (As := [.int x1]) C hM mv_X7_grains wl_10_1 ⟨rfl, rfl, Nat.le_of_ble_eq_true rfl, Nat.le_of_ble_eq_true rfl⟩ [0, 1, 2, 3, 4, 5, 6, 7, 8, 9, 10, 11] rfl (by decide +kernel) 0 rfl rfl rfl rfl (Nat.le_of_ble_eq_true rfl) dX7_blockOf_82 ⟨Nat.zero_le _, Nat.zero_le _⟩) rfl ?_
            obtain ⟨rfl, rfl⟩ := ik_e2 hf
            exact ik_iretW C hr hlk dX7_blockOf_85
          · have hf := ik_neg hn2 hf
            by_cases hn3 : x2 = (3 : Int32)
            · have hf := ik_pos hn3 hf
              refine ik_tcase C (3 : Int32) hn3 86 dX7_blockOf_28 (by decide) (by decide) rfl (by decide) ?_
              refine ik_aload_n C 0 rfl rfl dX7_blockOf_86 ?_
              refine ik_iload_n C 1 rfl rfl dX7_blockOf_87 ?_
              obtain ⟨r3, hc3, hf⟩ := ik_b1s hf
              have hM := (c_X7_isGone l D cI cS h0 h1 h2 h3 h4 h5 h6 h7 h8 h9 h10 h11 misKept mtaped msort mfrom mto mvalue mbad mm mkept mwas mother mfound mwarm mdrip mtape mbits msize mnumber x1 r3 hc3)
              refine ik_goR (ik_runV (st := []) (As := [.int x1]) C hM mv_X7_isGone wl_10_5 ⟨rfl, rfl, Nat.le_of_ble_eq_true rfl, Nat.le_of_ble_eq_true rfl⟩ [0, 1, 2, 3, 4, 5, 6, 7, 8, 9, 10, 11] rfl (by decide +kernel) 0 rfl rfl rfl rfl (Nat.le_of_ble_eq_true rfl) dX7_blockOf_88 ⟨Nat.zero_le _, Nat.zero_le _⟩) rfl ?_
              refine ik_if_eq C 98 dX7_blockOf_91 (by decide) (fun hc => ?_) (fun hc => ?_)
              · have hf := ik_pos hc hf
                refine ik_iconst (v := (0 : Int32)) C (by decide) dX7_blockOf_98 ?_
                obtain ⟨rfl, rfl⟩ := ik_e2 hf
                exact ik_iretW C hr hlk dX7_blockOf_99
              · have hf := ik_neg hc hf
                refine ik_iconst (v := (1 : Int32)) C (by decide) dX7_blockOf_94 ?_
                refine ik_goto C 99 dX7_blockOf_95 (by decide) ?_
                obtain ⟨rfl, rfl⟩ := ik_e2 hf
                exact ik_iretW C hr hlk dX7_blockOf_99
            · have hf := ik_neg hn3 hf
              by_cases hn4 : x2 = (4 : Int32)
              · have hf := ik_pos hn4 hf
                refine ik_tcase C (4 : Int32) hn4 100 dX7_blockOf_28 (by decide) (by decide) rfl (by decide) ?_
                refine ik_aload_n C 0 rfl rfl dX7_blockOf_100 ?_
                obtain ⟨r3, hc3, hf⟩ := ik_b1s hf
                have hM := (c_X7_standing l D cI cS h0 h1 h2 h3 h4 h5 h6 h7 h8 h9 h10 h11 misKept mtaped msort mfrom mto mvalue mbad mm mkept mwas mother mfound mwarm mdrip mtape mbits msize mnumber r3 hc3)
                refine ik_goR (ik_runV (st := []) (As := []) C hM mv_X7_standing wl_10_9 ⟨rfl, rfl, Nat.le_of_ble_eq_true rfl, Nat.le_of_ble_eq_true rfl⟩ [0, 1, 2, 3, 4, 5, 6, 7, 8, 9, 10, 11] rfl (by decide +kernel) 0 rfl rfl rfl rfl (Nat.le_of_ble_eq_true rfl) dX7_blockOf_101 ⟨Nat.zero_le _, Nat.zero_le _⟩) rfl ?_
                refine ik_iload_n C 1 rfl rfl dX7_blockOf_104 ?_
                obtain ⟨r4, hc4, hf⟩ := ik_b1s hf
                have hM := (c_X7_has l D cI cS r3 x1 r4 hc4)
                refine ik_goR (ik_runS (st := []) (As := [.int r3, .int x1]) C hM ms_X7_has wl_11_0 ⟨rfl, rfl, Nat.le_of_ble_eq_true rfl, Nat.le_of_ble_eq_true rfl⟩ [] rfl (by decide +kernel) rfl rfl (Nat.le_of_ble_eq_true rfl) dX7_blockOf_105 ⟨Nat.zero_le _, Nat.zero_le _⟩) rfl ?_
                refine ik_if_eq C 115 dX7_blockOf_108 (by decide) (fun hc => ?_) (fun hc => ?_)
                · have hf := ik_pos hc hf
                  refine ik_iconst (v := (0 : Int32)) C (by decide) dX7_blockOf_115 ?_
                  obtain ⟨rfl, rfl⟩ := ik_e2 hf
                  exact ik_iretW C hr hlk dX7_blockOf_116
                · have hf := ik_neg hc hf
                  refine ik_iconst (v := (1 : Int32)) C (by decide) dX7_blockOf_111 ?_
                  refine ik_goto C 116 dX7_blockOf_112 (by decide) ?_
                  obtain ⟨rfl, rfl⟩ := ik_e2 hf
                  exact ik_iretW C hr hlk dX7_blockOf_116
              · have hf := ik_neg hn4 hf
                by_cases hn5 : x2 = (5 : Int32)
                · have hf := ik_pos hn5 hf
                  refine ik_tcase C (5 : Int32) hn5 117 dX7_blockOf_28 (by decide) (by decide) rfl (by decide) ?_
                  refine ik_aload_n C 0 rfl rfl dX7_blockOf_117 ?_
                  refine ik_iload_n C 1 rfl rfl dX7_blockOf_118 ?_
                  obtain ⟨r3, hc3, hf⟩ := ik_b1s hf
                  have hM := (c_X7_isGone l D cI cS h0 h1 h2 h3 h4 h5 h6 h7 h8 h9 h10 h11 misKept mtaped msort mfrom mto mvalue mbad mm mkept mwas mother mfound mwarm mdrip mtape mbits msize mnumber x1 r3 hc3)
                  refine ik_goR (ik_runV (st := []) (As := [.int x1]) C hM mv_X7_isGone wl_10_5 ⟨rfl, rfl, Nat.le_of_ble_eq_true rfl, Nat.le_of_ble_eq_true rfl⟩ [0, 1, 2, 3, 4, 5, 6, 7, 8, 9, 10, 11] rfl (by decide +kernel) 0 rfl rfl rfl rfl (Nat.le_of_ble_eq_true rfl) dX7_blockOf_119 ⟨Nat.zero_le _, Nat.zero_le _⟩) rfl ?_
                  refine ik_if_eq C 129 dX7_blockOf_122 (by decide) (fun hc => ?_) (fun hc => ?_)
                  · have hf := ik_pos hc hf
                    refine ik_aload_n C 0 rfl rfl dX7_blockOf_129 ?_
                    refine ik_iload_n C 1 rfl rfl dX7_blockOf_130 ?_
                    obtain ⟨r4, hc4, hf⟩ := ik_b1s hf
                    have hM := (c_X7_loadOf l D cI cS h0 h1 h2 h3 h4 h5 h6 h7 h8 h9 h10 h11 misKept mtaped msort mfrom mto mvalue mbad mm mkept mwas mother mfound mwarm mdrip mtape mbits msize mnumber x1 r4 hc4)
                    refine ik_goR (ik_runV (st := []) (As := [.int x1]) C hM mv_X7_loadOf wl_11_12 ⟨rfl, rfl, Nat.le_of_ble_eq_true rfl, Nat.le_of_ble_eq_true rfl⟩ [0, 1, 2, 3, 4, 5, 6, 7, 8, 9, 10, 11] rfl (by decide +kernel) 0 rfl rfl rfl rfl (Nat.le_of_ble_eq_true rfl) dX7_blockOf_131 ⟨Nat.zero_le _, Nat.zero_le _⟩) rfl ?_
                    obtain ⟨rfl, rfl⟩ := ik_e2 hf
                    exact ik_iretW C hr hlk dX7_blockOf_134
                  · have hf := ik_neg hc hf
                    refine ik_iconst (v := (0 : Int32)) C (by decide) dX7_blockOf_125 ?_
                    refine ik_goto C 134 dX7_blockOf_126 (by decide) ?_
                    obtain ⟨rfl, rfl⟩ := ik_e2 hf
                    exact ik_iretW C hr hlk dX7_blockOf_134
                · have hf := ik_neg hn5 hf
                  refine ik_tout C 135 dX7_blockOf_28 (by have ehn0 : (x2).toInt ≠ 0 := fun h => hn0 (Int32.toInt_inj.mp h); have ehn1 : (x2).toInt ≠ 1 := fun h => hn1 (Int32.toInt_inj.mp h); have ehn2 : (x2).toInt ≠ 2 := fun h => hn2 (Int32.toInt_inj.mp h); have ehn3 : (x2).toInt ≠ 3 := fun h => hn3 (Int32.toInt_inj.mp h); have ehn4 : (x2).toInt ≠ 4 := fun h => hn4 (Int32.toInt_inj.mp h); have ehn5 : (x2).toInt ≠ 5 := fun h => hn5 (Int32.toInt_inj.mp h); omega) (by decide) ?_
                  refine ik_aload_n C 0 rfl rfl dX7_blockOf_135 ?_
                  refine ik_iload_n C 1 rfl rfl dX7_blockOf_136 ?_
                  obtain ⟨r3, hc3, hf⟩ := ik_b1s hf
                  have hM := (c_X7_isGone l D cI cS h0 h1 h2 h3 h4 h5 h6 h7 h8 h9 h10 h11 misKept mtaped msort mfrom mto mvalue mbad mm mkept mwas mother mfound mwarm mdrip mtape mbits msize mnumber x1 r3 hc3)
                  refine ik_goR (ik_runV (st := []) (As := [.int x1]) C hM mv_X7_isGone wl_10_5 ⟨rfl, rfl, Nat.le_of_ble_eq_true rfl, Nat.le_of_ble_eq_true rfl⟩ [0, 1, 2, 3, 4, 5, 6, 7, 8, 9, 10, 11] rfl (by decide +kernel) 0 rfl rfl rfl rfl (Nat.le_of_ble_eq_true rfl) dX7_blockOf_137 ⟨Nat.zero_le _, Nat.zero_le _⟩) rfl ?_
                  refine ik_if_eq C 147 dX7_blockOf_140 (by decide) (fun hc => ?_) (fun hc => ?_)
                  · have hf := ik_pos hc hf
                    refine ik_aload_n C 0 rfl rfl dX7_blockOf_147 ?_
                    refine ik_iload_n C 1 rfl rfl dX7_blockOf_148 ?_
                    obtain ⟨r4, hc4, hf⟩ := ik_b1s hf
                    have hM := (c_X7_strongOf l D cI cS h0 h1 h2 h3 h4 h5 h6 h7 h8 h9 h10 h11 misKept mtaped msort mfrom mto mvalue mbad mm mkept mwas mother mfound mwarm mdrip mtape mbits msize mnumber x1 r4 hc4)
                    refine ik_goR (ik_runV (st := []) (As := [.int x1]) C hM mv_X7_strongOf wl_11_16 ⟨rfl, rfl, Nat.le_of_ble_eq_true rfl, Nat.le_of_ble_eq_true rfl⟩ [0, 1, 2, 3, 4, 5, 6, 7, 8, 9, 10, 11] rfl (by decide +kernel) 0 rfl rfl rfl rfl (Nat.le_of_ble_eq_true rfl) dX7_blockOf_149 ⟨Nat.zero_le _, Nat.zero_le _⟩) rfl ?_
                    obtain ⟨rfl, rfl⟩ := ik_e2 hf
                    exact ik_iretW C hr hlk dX7_blockOf_152
                  · have hf := ik_neg hc hf
                    refine ik_iconst (v := (0 : Int32)) C (by decide) dX7_blockOf_143 ?_
                    refine ik_goto C 152 dX7_blockOf_144 (by decide) ?_
                    obtain ⟨rfl, rfl⟩ := ik_e2 hf
                    exact ik_iretW C hr hlk dX7_blockOf_152
    · have hf := ik_pos hc hf
      refine ik_aload_n C 0 rfl rfl dX7_blockOf_20 ?_
      refine ik_ldc C wl_6_14 dX7_blockOf_21 ?_
      obtain ⟨r3, g4, hc4, hf⟩ := ik_b2s hf
      have hM := (c_X7_finds l D cI cS h0 h1 h2 h3 h4 h5 h6 h7 h8 h9 h10 h11 misKept mtaped msort mfrom mto mvalue mbad mm mkept mwas mother mfound mwarm mdrip mtape mbits msize mnumber (-1000001 : Int32) r3 g4 hc4)
      refine ik_goW (v := (some (.int r3))) (wc := (wz_X7 cI cS h0 h1 h2 h3 h4 h5 h6 h7 h8 h9 h10 h11 misKept mtaped msort mfrom mto mvalue mbad mm mkept mwas mother mfound mwarm mdrip mtape mbits msize mnumber)) (w1 := (wz_X7 cI cS h0 h1 h2 h3 h4 h5 h6 h7 h8 h9 h10 h11 misKept mtaped msort mfrom mto mvalue mbad mm mkept mwas mother g4 mwarm mdrip mtape mbits msize mnumber)) [0, 1, 2, 3, 4, 5, 6, 7, 8, 9, 10, 11] [] 12 rfl rfl (wz_X7 cI cS h0 h1 h2 h3 h4 h5 h6 h7 h8 h9 h10 h11 misKept mtaped msort mfrom mto mvalue mbad mm mkept mwas mother g4 mwarm mdrip mtape mbits msize mnumber) rfl [] rfl rfl rfl (by decide +kernel) (ik_runV (st := []) (As := [.int (-1000001 : Int32)]) C hM mv_X7_finds wl_7_8 ⟨rfl, rfl, Nat.le_of_ble_eq_true rfl, Nat.le_of_ble_eq_true rfl⟩ [0, 1, 2, 3, 4, 5, 6, 7, 8, 9, 10, 11] rfl (by decide +kernel) 0 rfl rfl rfl rfl (Nat.le_of_ble_eq_true rfl) dX7_blockOf_23 ⟨Nat.zero_le _, Nat.zero_le _⟩) rfl ?_
      obtain ⟨rfl, rfl⟩ := ik_e2 hf
      exact ik_iretW C hr hlk dX7_blockOf_26
