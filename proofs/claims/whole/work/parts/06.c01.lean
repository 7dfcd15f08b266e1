theorem ms_X7_below : ik_S yX7_below RX7 cX7_below 1 (some .int) 1 := ⟨wl_11_10, wl_1_5, wl_11_11, by decide +kernel⟩
set_option maxHeartbeats 4000000 in
set_option maxRecDepth 100000 in
theorem c_X7_below (l : Launch) (D : va_G) (cI cS : ClassId) (x0 : Int32) (R : Int32) (hf : f_X7_below x0 = some (R)) : Met l yX7_below (ik_ws yX7_below cX7_below 1 (some .int)) ({ frames := 0, cells := 0, slots := 0, locals := 0 } : Room) (ik_P D cI cS [.int x0] (wz_none cI cS)) (ik_R (some (.int R))) 0 0 ik_no := by
  refine ik_metR RX7 rfl (by decide) (Nat.le_of_ble_eq_true rfl) [(0, .int x0)] rfl ?_
  intro p e s m below meth c C hr hlk
  unfold f_X7_below at hf
  refine ik_iload_n C 0 rfl rfl dX7_below_0 ?_
  refine ik_bipush (v := (8 : Int32)) C (by decide) dX7_below_1 ?_
  refine ik_icmp_ge C 10 dX7_below_3 (by decide) (fun hc => ?_) (fun hc => ?_)
  · have hf := ik_pos hc hf
    refine ik_iload_n C 0 rfl rfl dX7_below_10 ?_
    refine ik_bipush (v := (8 : Int32)) C (by decide) dX7_below_11 ?_
    refine ik_isub C dX7_below_13 ?_
    cases hf
    exact ik_iretR C hr hlk dX7_below_14
  · have hf := ik_neg hc hf
    refine ik_iconst (v := (-1 : Int32)) C (by decide) dX7_below_6 ?_
    refine ik_goto C 14 dX7_below_7 (by decide) ?_
    cases hf
    exact ik_iretR C hr hlk dX7_below_14
theorem ms_X7_above : ik_S yX7_above RX7 cX7_above 1 (some .int) 1 := ⟨wl_10_18, wl_1_5, wl_10_19, by decide +kernel⟩
set_option maxHeartbeats 4000000 in
set_option maxRecDepth 100000 in
theorem c_X7_above (l : Launch) (D : va_G) (cI cS : ClassId) (x0 : Int32) (R : Int32) (hf : f_X7_above x0 = some (R)) : Met l yX7_above (ik_ws yX7_above cX7_above 1 (some .int)) ({ frames := 0, cells := 0, slots := 0, locals := 0 } : Room) (ik_P D cI cS [.int x0] (wz_none cI cS)) (ik_R (some (.int R))) 0 0 ik_no := by
  refine ik_metR RX7 rfl (by decide) (Nat.le_of_ble_eq_true rfl) [(0, .int x0)] rfl ?_
  intro p e s m below meth c C hr hlk
  unfold f_X7_above at hf
  refine ik_iload_n C 0 rfl rfl dX7_above_0 ?_
  refine ik_bipush (v := (40 : Int32)) C (by decide) dX7_above_1 ?_
  refine ik_icmp_ge C 13 dX7_above_3 (by decide) (fun hc => ?_) (fun hc => ?_)
  · have hf := ik_pos hc hf
    refine ik_iconst (v := (-1 : Int32)) C (by decide) dX7_above_13 ?_
    cases hf
    exact ik_iretR C hr hlk dX7_above_14
  · have hf := ik_neg hc hf
    refine ik_iload_n C 0 rfl rfl dX7_above_6 ?_
    refine ik_bipush (v := (8 : Int32)) C (by decide) dX7_above_7 ?_
    refine ik_iadd C dX7_above_9 ?_
    refine ik_goto C 14 dX7_above_10 (by decide) ?_
    cases hf
    exact ik_iretR C hr hlk dX7_above_14
theorem ms_X7_left : ik_S yX7_left RX7 cX7_left 1 (some .int) 1 := ⟨wl_11_4, wl_1_5, wl_11_5, by decide +kernel⟩
set_option maxHeartbeats 4000000 in
set_option maxRecDepth 100000 in
theorem c_X7_left (l : Launch) (D : va_G) (cI cS : ClassId) (x0 : Int32) (R : Int32) (hf : f_X7_left x0 = some (R)) : Met l yX7_left (ik_ws yX7_left cX7_left 1 (some .int)) ({ frames := 0, cells := 0, slots := 0, locals := 0 } : Room) (ik_P D cI cS [.int x0] (wz_none cI cS)) (ik_R (some (.int R))) 0 0 ik_no := by
  refine ik_metR RX7 rfl (by decide) (Nat.le_of_ble_eq_true rfl) [(0, .int x0)] rfl ?_
  intro p e s m below meth c C hr hlk
  unfold f_X7_left at hf
  refine ik_iload_n C 0 rfl rfl dX7_left_0 ?_
  refine ik_bipush (v := (8 : Int32)) C (by decide) dX7_left_1 ?_
  refine ik_irem C (by decide) dX7_left_3 ?_
  refine ik_if_ne C 11 dX7_left_4 (by decide) (fun hc => ?_) (fun hc => ?_)
  · have hf := ik_neg hc hf
    refine ik_iload_n C 0 rfl rfl dX7_left_11 ?_
    refine ik_iconst (v := (1 : Int32)) C (by decide) dX7_left_12 ?_
    refine ik_isub C dX7_left_13 ?_
    cases hf
    exact ik_iretR C hr hlk dX7_left_14
  · have hf := ik_pos hc hf
    refine ik_iconst (v := (-1 : Int32)) C (by decide) dX7_left_7 ?_
    refine ik_goto C 14 dX7_left_8 (by decide) ?_
    cases hf
    exact ik_iretR C hr hlk dX7_left_14
theorem ms_X7_right : ik_S yX7_right RX7 cX7_right 1 (some .int) 1 := ⟨wl_11_7, wl_1_5, wl_11_8, by decide +kernel⟩
set_option maxHeartbeats 4000000 in
set_option maxRecDepth 100000 in
theorem c_X7_right (l : Launch) (D : va_G) (cI cS : ClassId) (x0 : Int32) (R : Int32) (hf : f_X7_right x0 = some (R)) : Met l yX7_right (ik_ws yX7_right cX7_right 1 (some .int)) ({ frames := 0, cells := 0, slots := 0, locals := 0 } : Room) (ik_P D cI cS [.int x0] (wz_none cI cS)) (ik_R (some (.int R))) 0 0 ik_no := by
  refine ik_metR RX7 rfl (by decide) (Nat.le_of_ble_eq_true rfl) [(0, .int x0)] rfl ?_
  intro p e s m below meth c C hr hlk
  unfold f_X7_right at hf
  refine ik_iload_n C 0 rfl rfl dX7_right_0 ?_
  refine ik_bipush (v := (8 : Int32)) C (by decide) dX7_right_1 ?_
  refine ik_irem C (by decide) dX7_right_3 ?_
  refine ik_bipush (v := (7 : Int32)) C (by decide) dX7_right_4 ?_
  refine ik_icmp_ne C 13 dX7_right_6 (by decide) (fun hc => ?_) (fun hc => ?_)
  · have hf := ik_neg hc hf
    refine ik_iload_n C 0 rfl rfl dX7_right_13 ?_
    refine ik_iconst (v := (1 : Int32)) C (by decide) dX7_right_14 ?_
    refine ik_iadd C dX7_right_15 ?_
    cases hf
    exact ik_iretR C hr hlk dX7_right_16
  · have hf := ik_pos hc hf
    refine ik_iconst (v := (-1 : Int32)) C (by decide) dX7_right_9 ?_
    refine ik_goto C 16 dX7_right_10 (by decide) ?_
    cases hf
    exact ik_iretR C hr hlk dX7_right_16
theorem mv_X7_isOf : ik_V yX7_isOf RX7 cX7_isOf 4 (some .boolean) 2 := ⟨wl_10_21, wl_10_22, wl_1_5, wl_10_23, by decide +kernel⟩
set_option maxHeartbeats 4000000 in
set_option maxRecDepth 100000 in
theorem c_X7_isOf (l : Launch) (D : va_G) (cI cS : ClassId) (h0 h1 h2 h3 h4 h5 h6 h7 h8 h9 h10 h11 : Nat) (misKept : Int32) (mtaped : Int32) (msort : Int32) (mfrom : Int32) (mto : Int32) (mvalue : Int32) (mbad : Int32) (mm : Nat → Int32) (mkept : Nat → Int32) (mwas : Nat → Int32) (mother : Nat → Int32) (mfound : Nat → Int32) (mwarm : Nat → Int32) (mdrip : Nat → Int32) (mtape : Nat → Int32) (mbits : Nat → Int32) (msize : Nat → Int32) (mnumber : Nat → Int32) (x1 : Int32) (x2 : Int32) (R : Int32) (hf : f_X7_isOf mm x1 x2 = some (R)) : Met l yX7_isOf (ik_ws yX7_isOf cX7_isOf 4 (some .boolean)) ({ frames := 2, cells := 0, slots := 0, locals := 43 } : Room) (ik_P D cI cS [.ref h0, .int x1, .int x2] (wz_X7 cI cS h0 h1 h2 h3 h4 h5 h6 h7 h8 h9 h10 h11 misKept mtaped msort mfrom mto mvalue mbad mm mkept mwas mother mfound mwarm mdrip mtape mbits msize mnumber)) (ik_R (some (.int R))) 0 0 ik_no := by
  refine ik_metR RX7 rfl (by decide) (Nat.le_of_ble_eq_true rfl) [(0, .ref h0), (1, .int x1), (2, .int x2)] rfl ?_
  intro p e s m below meth c C hr hlk
  unfold f_X7_isOf at hf
  refine ik_aload_n C 0 rfl rfl dX7_isOf_0 ?_
  refine ik_iload_n C 2 rfl rfl dX7_isOf_1 ?_
  obtain ⟨r1, hc1, hf⟩ := ik_b1s hf
  refine ik_goR (ik_runV C (c_X7_blockOn l D cI cS h0 h1 h2 h3 h4 h5 h6 h7 h8 h9 h10 h11 misKept mtaped msort mfrom mto mvalue mbad mm mkept mwas mother mfound mwarm mdrip mtape mbits msize mnumber x2 r1 hc1) mv_X7_blockOn wl_7_12 ⟨rfl, rfl, Nat.le_of_ble_eq_true rfl, Nat.le_of_ble_eq_true rfl⟩ [0, 1, 2, 3, 4, 5, 6, 7, 8, 9, 10, 11] rfl (by decide) 0 rfl rfl rfl rfl (Nat.le_of_ble_eq_true rfl) dX7_isOf_2) rfl ?_
  refine ik_istore_n C [(3, .int r1), (0, .ref h0), (1, .int x1), (2, .int x2)] rfl (by decide) rfl dX7_isOf_5 ?_
  refine ik_iload_n C 0 rfl rfl dX7_isOf_6 ?_
  refine ik_if_lt C 22 dX7_isOf_7 (by decide) (fun hc => ?_) (fun hc => ?_)
  · have hf := ik_pos hc hf
    refine ik_iconst (v := (0 : Int32)) C (by decide) dX7_isOf_22 ?_
    cases hf
    exact ik_zretR C hr (by decide) hlk dX7_isOf_23
  · have hf := ik_neg hc hf
    refine ik_iload_n C 2 rfl rfl dX7_isOf_10 ?_
    refine ik_iload_n C 0 rfl rfl dX7_isOf_11 ?_
    obtain ⟨r2, hc2, hf⟩ := ik_b1s hf
    refine ik_goR (ik_runS C (c_X7_has l D cI cS x1 r1 r2 hc2) ms_X7_has wl_11_0 ⟨rfl, rfl, Nat.le_of_ble_eq_true rfl, Nat.le_of_ble_eq_true rfl⟩ [] rfl (by decide) rfl rfl (Nat.le_of_ble_eq_true rfl) dX7_isOf_12) rfl ?_
    refine ik_if_eq C 22 dX7_isOf_15 (by decide) (fun hc => ?_) (fun hc => ?_)
    · have hf := ik_pos hc hf
      refine ik_iconst (v := (0 : Int32)) C (by decide) dX7_isOf_22 ?_
      cases hf
      exact ik_zretR C hr (by decide) hlk dX7_isOf_23
    · have hf := ik_neg hc hf
      refine ik_iconst (v := (1 : Int32)) C (by decide) dX7_isOf_18 ?_
      refine ik_goto C 23 dX7_isOf_19 (by decide) ?_
      cases hf
      exact ik_zretR C hr (by decide) hlk dX7_isOf_23
theorem mv_X7_standsBy : ik_V yX7_standsBy RX7 cX7_standsBy 6 (some .boolean) 2 := ⟨wl_10_14, wl_10_15, wl_1_5, wl_10_16, by decide +kernel⟩
set_option maxHeartbeats 4000000 in
set_option maxRecDepth 100000 in
theorem c_X7_standsBy (l : Launch) (D : va_G) (cI cS : ClassId) (h0 h1 h2 h3 h4 h5 h6 h7 h8 h9 h10 h11 : Nat) (misKept : Int32) (mtaped : Int32) (msort : Int32) (mfrom : Int32) (mto : Int32) (mvalue : Int32) (mbad : Int32) (mm : Nat → Int32) (mkept : Nat → Int32) (mwas : Nat → Int32) (mother : Nat → Int32) (mfound : Nat → Int32) (mwarm : Nat → Int32) (mdrip : Nat → Int32) (mtape : Nat → Int32) (mbits : Nat → Int32) (msize : Nat → Int32) (mnumber : Nat → Int32) (x1 : Int32) (x2 : Int32) (R : Int32) (hf : f_X7_standsBy mm x1 x2 = some (R)) : Met l yX7_standsBy (ik_ws yX7_standsBy cX7_standsBy 6 (some .boolean)) ({ frames := 3, cells := 0, slots := 0, locals := 66 } : Room) (ik_P D cI cS [.ref h0, .int x1, .int x2] (wz_X7 cI cS h0 h1 h2 h3 h4 h5 h6 h7 h8 h9 h10 h11 misKept mtaped msort mfrom mto mvalue mbad mm mkept mwas mother mfound mwarm mdrip mtape mbits msize mnumber)) (ik_R (some (.int R))) 0 0 ik_no := by
  refine ik_metR RX7 rfl (by decide) (Nat.le_of_ble_eq_true rfl) [(0, .ref h0), (1, .int x1), (2, .int x2)] rfl ?_
  intro p e s m below meth c C hr hlk
  unfold f_X7_standsBy at hf
  refine ik_aload_n C 0 rfl rfl dX7_standsBy_0 ?_
  refine ik_iload_n C 1 rfl rfl dX7_standsBy_1 ?_
  obtain ⟨r1, hc1, hf⟩ := ik_b1s hf
  refine ik_goR (ik_runV C (c_X7_cellOf l D cI cS h0 h1 h2 h3 h4 h5 h6 h7 h8 h9 h10 h11 misKept mtaped msort mfrom mto mvalue mbad mm mkept mwas mother mfound mwarm mdrip mtape mbits msize mnumber x1 r1 hc1) mv_X7_cellOf wl_7_16 ⟨rfl, rfl, Nat.le_of_ble_eq_true rfl, Nat.le_of_ble_eq_true rfl⟩ [0, 1, 2, 3, 4, 5, 6, 7, 8, 9, 10, 11] rfl (by decide) 0 rfl rfl rfl rfl (Nat.le_of_ble_eq_true rfl) dX7_standsBy_2) rfl ?_
  refine ik_istore_n C [(3, .int r1), (0, .ref h0), (1, .int x1), (2, .int x2)] rfl (by decide) rfl dX7_standsBy_5 ?_
  refine ik_iload_n C 0 rfl rfl dX7_standsBy_6 ?_
  refine ik_bipush (v := (8 : Int32)) C (by decide) dX7_standsBy_7 ?_
  refine ik_icmp_ge C 14 dX7_standsBy_9 (by decide) (fun hc => ?_) (fun hc => ?_)
  · have hf := ik_pos hc hf
    refine ik_aload_n C 1 rfl rfl dX7_standsBy_14 ?_
    refine ik_iload_n C 2 rfl rfl dX7_standsBy_15 ?_
    obtain ⟨r2, hc2, hf⟩ := ik_b1s hf
    refine ik_goR (ik_runV C (c_X7_kindOf l D cI cS h0 h1 h2 h3 h4 h5 h6 h7 h8 h9 h10 h11 misKept mtaped msort mfrom mto mvalue mbad mm mkept mwas mother mfound mwarm mdrip mtape mbits msize mnumber x1 r2 hc2) mv_X7_kindOf wl_9_21 ⟨rfl, rfl, Nat.le_of_ble_eq_true rfl, Nat.le_of_ble_eq_true rfl⟩ [0, 1, 2, 3, 4, 5, 6, 7, 8, 9, 10, 11] rfl (by decide) 0 rfl rfl rfl rfl (Nat.le_of_ble_eq_true rfl) dX7_standsBy_16) rfl ?_
    refine ik_bipush (v := (6 : Int32)) C (by decide) dX7_standsBy_19 ?_
    refine ik_icmp_ne C 34 dX7_standsBy_21 (by decide) (fun hc => ?_) (fun hc => ?_)
    · have hf := ik_neg hc hf
      refine ik_aload_n C 1 rfl rfl dX7_standsBy_34 ?_
      refine ik_iload_n C 3 rfl rfl dX7_standsBy_35 ?_
      refine ik_iload_n C 0 rfl rfl dX7_standsBy_36 ?_
      obtain ⟨r3, hc3, hf⟩ := ik_b1s hf
      refine ik_goR (ik_runS C (c_X7_left l D cI cS r1 r3 hc3) ms_X7_left wl_11_3 ⟨rfl, rfl, Nat.le_of_ble_eq_true rfl, Nat.le_of_ble_eq_true rfl⟩ [] rfl (by decide) rfl rfl (Nat.le_of_ble_eq_true rfl) dX7_standsBy_37) rfl ?_
      obtain ⟨r4, hc4, hf⟩ := ik_b1s hf
      refine ik_goR (ik_runV C (c_X7_isOf l D cI cS h0 h1 h2 h3 h4 h5 h6 h7 h8 h9 h10 h11 misKept mtaped msort mfrom mto mvalue mbad mm mkept mwas mother mfound mwarm mdrip mtape mbits msize mnumber x2 r3 r4 hc4) mv_X7_isOf wl_10_20 ⟨rfl, rfl, Nat.le_of_ble_eq_true rfl, Nat.le_of_ble_eq_true rfl⟩ [0, 1, 2, 3, 4, 5, 6, 7, 8, 9, 10, 11] rfl (by decide) 0 rfl rfl rfl rfl (Nat.le_of_ble_eq_true rfl) dX7_standsBy_40) rfl ?_
      refine ik_istore C [(4, .int r4), (3, .int r1), (0, .ref h0), (1, .int x1), (2, .int x2)] (by decide) rfl dX7_standsBy_43 ?_
      refine ik_aload_n C 2 rfl rfl dX7_standsBy_45 ?_
      refine ik_iload_n C 4 rfl rfl dX7_standsBy_46 ?_
      refine ik_iload_n C 1 rfl rfl dX7_standsBy_47 ?_
      obtain ⟨r5, hc5, hf⟩ := ik_b1s hf
      refine ik_goR (ik_runS C (c_X7_right l D cI cS r1 r5 hc5) ms_X7_right wl_11_6 ⟨rfl, rfl, Nat.le_of_ble_eq_true rfl, Nat.le_of_ble_eq_true rfl⟩ [] rfl (by decide) rfl rfl (Nat.le_of_ble_eq_true rfl) dX7_standsBy_48) rfl ?_
      obtain ⟨r6, hc6, hf⟩ := ik_b1s hf
      refine ik_goR (ik_runV C (c_X7_isOf l D cI cS h0 h1 h2 h3 h4 h5 h6 h7 h8 h9 h10 h11 misKept mtaped msort mfrom mto mvalue mbad mm mkept mwas mother mfound mwarm mdrip mtape mbits msize mnumber x2 r5 r6 hc6) mv_X7_isOf wl_10_20 ⟨rfl, rfl, Nat.le_of_ble_eq_true rfl, Nat.le_of_ble_eq_true rfl⟩ [0, 1, 2, 3, 4, 5, 6, 7, 8, 9, 10, 11] rfl (by decide) 0 rfl rfl rfl rfl (Nat.le_of_ble_eq_true rfl) dX7_standsBy_51) rfl ?_
      refine ik_istore C [(5, .int r6), (4, .int r4), (3, .int r1), (0, .ref h0), (1, .int x1), (2, .int x2)] (by decide) rfl dX7_standsBy_54 ?_
      refine ik_aload_n C 3 rfl rfl dX7_standsBy_56 ?_
      refine ik_iload_n C 4 rfl rfl dX7_standsBy_57 ?_
      obtain ⟨r7, hc7, hf⟩ := ik_b1s hf
      refine ik_goR (ik_runV C (c_X7_kindOf l D cI cS h0 h1 h2 h3 h4 h5 h6 h7 h8 h9 h10 h11 misKept mtaped msort mfrom mto mvalue mbad mm mkept mwas mother mfound mwarm mdrip mtape mbits msize mnumber x1 r7 hc7) mv_X7_kindOf wl_9_21 ⟨rfl, rfl, Nat.le_of_ble_eq_true rfl, Nat.le_of_ble_eq_true rfl⟩ [0, 1, 2, 3, 4, 5, 6, 7, 8, 9, 10, 11] rfl (by decide) 0 rfl rfl rfl rfl (Nat.le_of_ble_eq_true rfl) dX7_standsBy_58) rfl ?_
      by_cases hn1 : r7 = (1 : Int32)
      · have hf := ik_pos hn1 hf
        refine ik_tcase C (1 : Int32) hn1 96 dX7_standsBy_61 (by decide) (by decide) rfl (by decide) ?_
        refine ik_aload_n C 3 rfl rfl dX7_standsBy_96 ?_
        refine ik_iload_n C 5 rfl rfl dX7_standsBy_97 ?_
        refine ik_iload_n C 2 rfl rfl dX7_standsBy_98 ?_
        obtain ⟨r8, hc8, hf⟩ := ik_b1s hf
        refine ik_goR (ik_runS C (c_X7_below l D cI cS r1 r8 hc8) ms_X7_below wl_11_9 ⟨rfl, rfl, Nat.le_of_ble_eq_true rfl, Nat.le_of_ble_eq_true rfl⟩ [] rfl (by decide) rfl rfl (Nat.le_of_ble_eq_true rfl) dX7_standsBy_99) rfl ?_
        obtain ⟨r9, hc9, hf⟩ := ik_b1s hf
        refine ik_goR (ik_runV C (c_X7_isOf l D cI cS h0 h1 h2 h3 h4 h5 h6 h7 h8 h9 h10 h11 misKept mtaped msort mfrom mto mvalue mbad mm mkept mwas mother mfound mwarm mdrip mtape mbits msize mnumber x2 r8 r9 hc9) mv_X7_isOf wl_10_20 ⟨rfl, rfl, Nat.le_of_ble_eq_true rfl, Nat.le_of_ble_eq_true rfl⟩ [0, 1, 2, 3, 4, 5, 6, 7, 8, 9, 10, 11] rfl (by decide) 0 rfl rfl rfl rfl (Nat.le_of_ble_eq_true rfl) dX7_standsBy_102) rfl ?_
        refine ik_if_ne C 118 dX7_standsBy_105 (by decide) (fun hc => ?_) (fun hc => ?_)
        · have hf := ik_neg hc hf
          refine ik_iconst (v := (1 : Int32)) C (by decide) dX7_standsBy_118 ?_
          refine ik_goto C 123 dX7_standsBy_119 (by decide) ?_
          cases hf
          exact ik_zretR C hr (by decide) hlk dX7_standsBy_123
        · have hf := ik_pos hc hf
          refine ik_iload C 1 rfl dX7_standsBy_108 ?_
          refine ik_if_eq C 122 dX7_standsBy_110 (by decide) (fun hc => ?_) (fun hc => ?_)
          · have hf := ik_pos hc hf
            refine ik_iconst (v := (0 : Int32)) C (by decide) dX7_standsBy_122 ?_
            cases hf
            exact ik_zretR C hr (by decide) hlk dX7_standsBy_123
          · have hf := ik_neg hc hf
            refine ik_iload C 0 rfl dX7_standsBy_113 ?_
            refine ik_if_eq C 122 dX7_standsBy_115 (by decide) (fun hc => ?_) (fun hc => ?_)
            · have hf := ik_pos hc hf
              refine ik_iconst (v := (0 : Int32)) C (by decide) dX7_standsBy_122 ?_
              cases hf
              exact ik_zretR C hr (by decide) hlk dX7_standsBy_123
            · have hf := ik_neg hc hf
              refine ik_iconst (v := (1 : Int32)) C (by decide) dX7_standsBy_118 ?_
              refine ik_goto C 123 dX7_standsBy_119 (by decide) ?_
              cases hf
              exact ik_zretR C hr (by decide) hlk dX7_standsBy_123
      · have hf := ik_neg hn1 hf
        by_cases hn2 : r7 = (2 : Int32)
        · have hf := ik_pos hn2 hf
          refine ik_tcase C (2 : Int32) hn2 124 dX7_standsBy_61 (by decide) (by decide) rfl (by decide) ?_
          refine ik_aload_n C 3 rfl rfl dX7_standsBy_124 ?_
          refine ik_iload_n C 5 rfl rfl dX7_standsBy_125 ?_
          refine ik_iload_n C 2 rfl rfl dX7_standsBy_126 ?_
          obtain ⟨r8, hc8, hf⟩ := ik_b1s hf
          refine ik_goR (ik_runS C (c_X7_below l D cI cS r1 r8 hc8) ms_X7_below wl_11_9 ⟨rfl, rfl, Nat.le_of_ble_eq_true rfl, Nat.le_of_ble_eq_true rfl⟩ [] rfl (by decide) rfl rfl (Nat.le_of_ble_eq_true rfl) dX7_standsBy_127) rfl ?_
          obtain ⟨r9, hc9, hf⟩ := ik_b1s hf
          refine ik_goR (ik_runV C (c_X7_isOf l D cI cS h0 h1 h2 h3 h4 h5 h6 h7 h8 h9 h10 h11 misKept mtaped msort mfrom mto mvalue mbad mm mkept mwas mother mfound mwarm mdrip mtape mbits msize mnumber x2 r8 r9 hc9) mv_X7_isOf wl_10_20 ⟨rfl, rfl, Nat.le_of_ble_eq_true rfl, Nat.le_of_ble_eq_true rfl⟩ [0, 1, 2, 3, 4, 5, 6, 7, 8, 9, 10, 11] rfl (by decide) 0 rfl rfl rfl rfl (Nat.le_of_ble_eq_true rfl) dX7_standsBy_130) rfl ?_
          refine ik_if_ne C 146 dX7_standsBy_133 (by decide) (fun hc => ?_) (fun hc => ?_)
          · have hf := ik_neg hc hf
            refine ik_iconst (v := (1 : Int32)) C (by decide) dX7_standsBy_146 ?_
            refine ik_goto C 151 dX7_standsBy_147 (by decide) ?_
            cases hf
            exact ik_zretR C hr (by decide) hlk dX7_standsBy_151
          · have hf := ik_pos hc hf
            refine ik_iload C 1 rfl dX7_standsBy_136 ?_
            refine ik_if_ne C 146 dX7_standsBy_138 (by decide) (fun hc => ?_) (fun hc => ?_)
            · have hf := ik_neg hc hf
              refine ik_iconst (v := (1 : Int32)) C (by decide) dX7_standsBy_146 ?_
              refine ik_goto C 151 dX7_standsBy_147 (by decide) ?_
              cases hf
              exact ik_zretR C hr (by decide) hlk dX7_standsBy_151
            · have hf := ik_pos hc hf
              refine ik_iload C 0 rfl dX7_standsBy_141 ?_
              refine ik_if_eq C 150 dX7_standsBy_143 (by decide) (fun hc => ?_) (fun hc => ?_)
              · have hf := ik_pos hc hf
                refine ik_iconst (v := (0 : Int32)) C (by decide) dX7_standsBy_150 ?_
                cases hf
                exact ik_zretR C hr (by decide) hlk dX7_standsBy_151
              · have hf := ik_neg hc hf
                refine ik_iconst (v := (1 : Int32)) C (by decide) dX7_standsBy_146 ?_
                refine ik_goto C 151 dX7_standsBy_147 (by decide) ?_
                cases hf
                exact ik_zretR C hr (by decide) hlk dX7_standsBy_151
        · have hf := ik_neg hn2 hf
          by_cases hn3 : r7 = (3 : Int32)
          · have hf := ik_pos hn3 hf
            refine ik_tcase C (3 : Int32) hn3 96 dX7_standsBy_61 (by decide) (by decide) rfl (by decide) ?_
            refine ik_aload_n C 3 rfl rfl dX7_standsBy_96 ?_
            refine ik_iload_n C 5 rfl rfl dX7_standsBy_97 ?_
            refine ik_iload_n C 2 rfl rfl dX7_standsBy_98 ?_
            obtain ⟨r8, hc8, hf⟩ := ik_b1s hf
            refine ik_goR (ik_runS C (c_X7_below l D cI cS r1 r8 hc8) ms_X7_below wl_11_9 ⟨rfl, rfl, Nat.le_of_ble_eq_true rfl, Nat.le_of_ble_eq_true rfl⟩ [] rfl (by decide) rfl rfl (Nat.le_of_ble_eq_true rfl) dX7_standsBy_99) rfl ?_
            obtain ⟨r9, hc9, hf⟩ := ik_b1s hf
            refine ik_goR (ik_runV C (c_X7_isOf l D cI cS h0 h1 h2 h3 h4 h5 h6 h7 h8 h9 h10 h11 misKept mtaped msort mfrom mto mvalue mbad mm mkept mwas mother mfound mwarm mdrip mtape mbits msize mnumber x2 r8 r9 hc9) mv_X7_isOf wl_10_20 ⟨rfl, rfl, Nat.le_of_ble_eq_true rfl, Nat.le_of_ble_eq_true rfl⟩ [0, 1, 2, 3, 4, 5, 6, 7, 8, 9, 10, 11] rfl (by decide) 0 rfl rfl rfl rfl (Nat.le_of_ble_eq_true rfl) dX7_standsBy_102) rfl ?_
            refine ik_if_ne C 118 dX7_standsBy_105 (by decide) (fun hc => ?_) (fun hc => ?_)
            · have hf := ik_neg hc hf
              refine ik_iconst (v := (1 : Int32)) C (by decide) dX7_standsBy_118 ?_
              refine ik_goto C 123 dX7_standsBy_119 (by decide) ?_
              cases hf
              exact ik_zretR C hr (by decide) hlk dX7_standsBy_123
            · have hf := ik_pos hc hf
              refine ik_iload C 1 rfl dX7_standsBy_108 ?_
              refine ik_if_eq C 122 dX7_standsBy_110 (by decide) (fun hc => ?_) (fun hc => ?_)
              · have hf := ik_pos hc hf
                refine ik_iconst (v := (0 : Int32)) C (by decide) dX7_standsBy_122 ?_
                cases hf
                exact ik_zretR C hr (by decide) hlk dX7_standsBy_123
              · have hf := ik_neg hc hf
                refine ik_iload C 0 rfl dX7_standsBy_113 ?_
                refine ik_if_eq C 122 dX7_standsBy_115 (by decide) (fun hc => ?_) (fun hc => ?_)
                · have hf := ik_pos hc hf
                  refine ik_iconst (v := (0 : Int32)) C (by decide) dX7_standsBy_122 ?_
                  cases hf
                  exact ik_zretR C hr (by decide) hlk dX7_standsBy_123
                · have hf := ik_neg hc hf
                  refine ik_iconst (v := (1 : Int32)) C (by decide) dX7_standsBy_118 ?_
                  refine ik_goto C 123 dX7_standsBy_119 (by decide) ?_
                  cases hf
                  exact ik_zretR C hr (by decide) hlk dX7_standsBy_123
          · have hf := ik_neg hn3 hf
            by_cases hn4 : r7 = (4 : Int32)
            · have hf := ik_pos hn4 hf
              refine ik_tcase C (4 : Int32) hn4 152 dX7_standsBy_61 (by decide) (by decide) rfl (by decide) ?_
              refine ik_aload_n C 3 rfl rfl dX7_standsBy_152 ?_
              refine ik_iload_n C 5 rfl rfl dX7_standsBy_153 ?_
              refine ik_iload_n C 2 rfl rfl dX7_standsBy_154 ?_
              obtain ⟨r8, hc8, hf⟩ := ik_b1s hf
              refine ik_goR (ik_runS C (c_X7_below l D cI cS r1 r8 hc8) ms_X7_below wl_11_9 ⟨rfl, rfl, Nat.le_of_ble_eq_true rfl, Nat.le_of_ble_eq_true rfl⟩ [] rfl (by decide) rfl rfl (Nat.le_of_ble_eq_true rfl) dX7_standsBy_155) rfl ?_
              obtain ⟨r9, hc9, hf⟩ := ik_b1s hf
              refine ik_goR (ik_runV C (c_X7_isOf l D cI cS h0 h1 h2 h3 h4 h5 h6 h7 h8 h9 h10 h11 misKept mtaped msort mfrom mto mvalue mbad mm mkept mwas mother mfound mwarm mdrip mtape mbits msize mnumber x2 r8 r9 hc9) mv_X7_isOf wl_10_20 ⟨rfl, rfl, Nat.le_of_ble_eq_true rfl, Nat.le_of_ble_eq_true rfl⟩ [0, 1, 2, 3, 4, 5, 6, 7, 8, 9, 10, 11] rfl (by decide) 0 rfl rfl rfl rfl (Nat.le_of_ble_eq_true rfl) dX7_standsBy_158) rfl ?_
              have hz := ik_gzi hf
              have hf := ik_gzk hf
              cases hf
              exact ik_zretR C hr hz.1 hlk dX7_standsBy_161
            · have hf := ik_neg hn4 hf
              by_cases hn5 : r7 = (5 : Int32)
              · have hf := ik_pos hn5 hf
                refine ik_tcase C (5 : Int32) hn5 124 dX7_standsBy_61 (by decide) (by decide) rfl (by decide) ?_
                refine ik_aload_n C 3 rfl rfl dX7_standsBy_124 ?_
                refine ik_iload_n C 5 rfl rfl dX7_standsBy_125 ?_
                refine ik_iload_n C 2 rfl rfl dX7_standsBy_126 ?_
                obtain ⟨r8, hc8, hf⟩ := ik_b1s hf
                refine ik_goR (ik_runS C (c_X7_below l D cI cS r1 r8 hc8) ms_X7_below wl_11_9 ⟨rfl, rfl, Nat.le_of_ble_eq_true rfl, Nat.le_of_ble_eq_true rfl⟩ [] rfl (by decide) rfl rfl (Nat.le_of_ble_eq_true rfl) dX7_standsBy_127) rfl ?_
                obtain ⟨r9, hc9, hf⟩ := ik_b1s hf
                refine ik_goR (ik_runV C (c_X7_isOf l D cI cS h0 h1 h2 h3 h4 h5 h6 h7 h8 h9 h10 h11 misKept mtaped msort mfrom mto mvalue mbad mm mkept mwas mother mfound mwarm mdrip mtape mbits msize mnumber x2 r8 r9 hc9) mv_X7_isOf wl_10_20 ⟨rfl, rfl, Nat.le_of_ble_eq_true rfl, Nat.le_of_ble_eq_true rfl⟩ [0, 1, 2, 3, 4, 5, 6, 7, 8, 9, 10, 11] rfl (by decide) 0 rfl rfl rfl rfl (Nat.le_of_ble_eq_true rfl) dX7_standsBy_130) rfl ?_
                refine ik_if_ne C 146 dX7_standsBy_133 (by decide) (fun hc => ?_) (fun hc => ?_)
                · have hf := ik_neg hc hf
                  refine ik_iconst (v := (1 : Int32)) C (by decide) dX7_standsBy_146 ?_
                  refine ik_goto C 151 dX7_standsBy_147 (by decide) ?_
                  cases hf
                  exact ik_zretR C hr (by decide) hlk dX7_standsBy_151
                · have hf := ik_pos hc hf
                  refine ik_iload C 1 rfl dX7_standsBy_136 ?_
                  refine ik_if_ne C 146 dX7_standsBy_138 (by decide) (fun hc => ?_) (fun hc => ?_)
                  · have hf := ik_neg hc hf
                    refine ik_iconst (v := (1 : Int32)) C (by decide) dX7_standsBy_146 ?_
                    refine ik_goto C 151 dX7_standsBy_147 (by decide) ?_
                    cases hf
                    exact ik_zretR C hr (by decide) hlk dX7_standsBy_151
                  · have hf := ik_pos hc hf
                    refine ik_iload C 0 rfl dX7_standsBy_141 ?_
                    refine ik_if_eq C 150 dX7_standsBy_143 (by decide) (fun hc => ?_) (fun hc => ?_)
                    · have hf := ik_pos hc hf
                      refine ik_iconst (v := (0 : Int32)) C (by decide) dX7_standsBy_150 ?_
                      cases hf
                      exact ik_zretR C hr (by decide) hlk dX7_standsBy_151
                    · have hf := ik_neg hc hf
                      refine ik_iconst (v := (1 : Int32)) C (by decide) dX7_standsBy_146 ?_
                      refine ik_goto C 151 dX7_standsBy_147 (by decide) ?_
                      cases hf
                      exact ik_zretR C hr (by decide) hlk dX7_standsBy_151
              · have hf := ik_neg hn5 hf
                refine ik_tout C 152 dX7_standsBy_61 (by have ehn1 : (r7).toInt ≠ 1 := fun h => hn1 (Int32.toInt_inj.mp h); have ehn2 : (r7).toInt ≠ 2 := fun h => hn2 (Int32.toInt_inj.mp h); have ehn3 : (r7).toInt ≠ 3 := fun h => hn3 (Int32.toInt_inj.mp h); have ehn4 : (r7).toInt ≠ 4 := fun h => hn4 (Int32.toInt_inj.mp h); have ehn5 : (r7).toInt ≠ 5 := fun h => hn5 (Int32.toInt_inj.mp h); omega) (by decide) ?_
                refine ik_aload_n C 3 rfl rfl dX7_standsBy_152 ?_
                refine ik_iload_n C 5 rfl rfl dX7_standsBy_153 ?_
                refine ik_iload_n C 2 rfl rfl dX7_standsBy_154 ?_
                obtain ⟨r8, hc8, hf⟩ := ik_b1s hf
                refine ik_goR (ik_runS C (c_X7_below l D cI cS r1 r8 hc8) ms_X7_below wl_11_9 ⟨rfl, rfl, Nat.le_of_ble_eq_true rfl, Nat.le_of_ble_eq_true rfl⟩ [] rfl (by decide) rfl rfl (Nat.le_of_ble_eq_true rfl) dX7_standsBy_155) rfl ?_
                obtain ⟨r9, hc9, hf⟩ := ik_b1s hf
                refine ik_goR (ik_runV C (c_X7_isOf l D cI cS h0 h1 h2 h3 h4 h5 h6 h7 h8 h9 h10 h11 misKept mtaped msort mfrom mto mvalue mbad mm mkept mwas mother mfound mwarm mdrip mtape mbits msize mnumber x2 r8 r9 hc9) mv_X7_isOf wl_10_20 ⟨rfl, rfl, Nat.le_of_ble_eq_true rfl, Nat.le_of_ble_eq_true rfl⟩ [0, 1, 2, 3, 4, 5, 6, 7, 8, 9, 10, 11] rfl (by decide) 0 rfl rfl rfl rfl (Nat.le_of_ble_eq_true rfl) dX7_standsBy_158) rfl ?_
                have hz := ik_gzi hf
                have hf := ik_gzk hf
                cases hf
                exact ik_zretR C hr hz.1 hlk dX7_standsBy_161
    · have hf := ik_pos hc hf
      refine ik_aload_n C 1 rfl rfl dX7_standsBy_24 ?_
      refine ik_iload_n C 3 rfl rfl dX7_standsBy_25 ?_
      refine ik_iload_n C 0 rfl rfl dX7_standsBy_26 ?_
      obtain ⟨r3, hc3, hf⟩ := ik_b1s hf
      refine ik_goR (ik_runS C (c_X7_above l D cI cS r1 r3 hc3) ms_X7_above wl_10_17 ⟨rfl, rfl, Nat.le_of_ble_eq_true rfl, Nat.le_of_ble_eq_true rfl⟩ [] rfl (by decide) rfl rfl (Nat.le_of_ble_eq_true rfl) dX7_standsBy_27) rfl ?_
      obtain ⟨r4, hc4, hf⟩ := ik_b1s hf
      refine ik_goR (ik_runV C (c_X7_isOf l D cI cS h0 h1 h2 h3 h4 h5 h6 h7 h8 h9 h10 h11 misKept mtaped msort mfrom mto mvalue mbad mm mkept mwas mother mfound mwarm mdrip mtape mbits msize mnumber x2 r3 r4 hc4) mv_X7_isOf wl_10_20 ⟨rfl, rfl, Nat.le_of_ble_eq_true rfl, Nat.le_of_ble_eq_true rfl⟩ [0, 1, 2, 3, 4, 5, 6, 7, 8, 9, 10, 11] rfl (by decide) 0 rfl rfl rfl rfl (Nat.le_of_ble_eq_true rfl) dX7_standsBy_30) rfl ?_
      have hz := ik_gzi hf
      have hf := ik_gzk hf
      cases hf
      exact ik_zretR C hr hz.1 hlk dX7_standsBy_33
  · have hf := ik_neg hc hf
    refine ik_iconst (v := (1 : Int32)) C (by decide) dX7_standsBy_12 ?_
    cases hf
    exact ik_zretR C hr (by decide) hlk dX7_standsBy_13
theorem mv_X7_standing : ik_V yX7_standing RX7 cX7_standing 4 (some .int) 0 := ⟨wl_10_10, wl_10_11, wl_1_5, wl_10_12, by decide +kernel⟩
set_option maxHeartbeats 4000000 in
set_option maxRecDepth 100000 in
theorem c_X7_standing (l : Launch) (D : va_G) (cI cS : ClassId) (h0 h1 h2 h3 h4 h5 h6 h7 h8 h9 h10 h11 : Nat) (misKept : Int32) (mtaped : Int32) (msort : Int32) (mfrom : Int32) (mto : Int32) (mvalue : Int32) (mbad : Int32) (mm : Nat → Int32) (mkept : Nat → Int32) (mwas : Nat → Int32) (mother : Nat → Int32) (mfound : Nat → Int32) (mwarm : Nat → Int32) (mdrip : Nat → Int32) (mtape : Nat → Int32) (mbits : Nat → Int32) (msize : Nat → Int32) (mnumber : Nat → Int32) (R : Int32) (hf : f_X7_standing mm = some (R)) : Met l yX7_standing (ik_ws yX7_standing cX7_standing 4 (some .int)) ({ frames := 4, cells := 0, slots := 0, locals := 91 } : Room) (ik_P D cI cS [.ref h0] (wz_X7 cI cS h0 h1 h2 h3 h4 h5 h6 h7 h8 h9 h10 h11 misKept mtaped msort mfrom mto mvalue mbad mm mkept mwas mother mfound mwarm mdrip mtape mbits msize mnumber)) (ik_R (some (.int R))) 0 0 ik_no := by
  refine ik_metR RX7 rfl (by decide) (Nat.le_of_ble_eq_true rfl) [(0, .ref h0)] rfl ?_
  intro p e s m below meth c C hr hlk
  unfold f_X7_standing at hf
  refine ik_iconst (v := (0 : Int32)) C (by decide) dX7_standing_0 ?_
  refine ik_istore_n C [(1, .int (0 : Int32)), (0, .ref h0)] rfl (by decide) rfl dX7_standing_1 ?_
  refine ik_iconst (v := (-1 : Int32)) C (by decide) dX7_standing_2 ?_
  refine ik_istore_n C [(2, .int (-1 : Int32)), (1, .int (0 : Int32)), (0, .ref h0)] rfl (by decide) rfl dX7_standing_3 ?_
  have hL_4 : ∀ (n_4 : Nat) (x1_4 : Int32) (x2_4 : Int32), ik_lp2 (b_X7_standing_4 mm) n_4 x1_4 x2_4 = some (R) → ik_G p l e ({ frames := 4, cells := 0, slots := 0, locals := 91 } : Room) s m ([.ref h0] : List Value).toArray below meth c D ik_no (fun _ => True) 4 (MQ below (ik_R (some (.int R))) ([.ref h0] : List Value).toArray s 0 0 ik_no) 4 [(2, .int x2_4), (1, .int x1_4), (0, .ref h0)] [] (wz_X7 cI cS h0 h1 h2 h3 h4 h5 h6 h7 h8 h9 h10 h11 misKept mtaped msort mfrom mto mvalue mbad mm mkept mwas mother mfound mwarm mdrip mtape mbits msize mnumber) := by
    intro n_4
    induction n_4 with
    | zero => intro _ _ hf; exact nomatch hf
    | succ n_4 ih_4 =>
      intro x1_4 x2_4 hf
      replace hf : b_X7_standing_4 mm (ik_lp2 (b_X7_standing_4 mm) n_4) x1_4 x2_4 = some (R) := hf
      unfold b_X7_standing_4 at hf
      refine ik_iload_n C 1 rfl rfl dX7_standing_4 ?_
      refine ik_iload_n C 0 rfl rfl dX7_standing_5 ?_
      refine ik_icmp_eq C 59 dX7_standing_6 (by decide) (fun hc => ?_) (fun hc => ?_)
      · have hf := ik_pos hc hf
        refine ik_iload_n C 1 rfl rfl dX7_standing_59 ?_
        cases hf
        exact ik_iretR C hr hlk dX7_standing_60
      · have hf := ik_neg hc hf
        refine ik_iload_n C 1 rfl rfl dX7_standing_9 ?_
        refine ik_istore_n C [(2, .int x1_4), (1, .int x1_4), (0, .ref h0)] rfl (by decide) rfl dX7_standing_10 ?_
        refine ik_iconst (v := (0 : Int32)) C (by decide) dX7_standing_11 ?_
        refine ik_istore_n C [(3, .int (0 : Int32)), (2, .int x1_4), (1, .int x1_4), (0, .ref h0)] rfl (by decide) rfl dX7_standing_12 ?_
        have hL_13 : ∀ (n_13 : Nat) (x1_13 : Int32) (x3_13 : Int32), ik_lp2 (b_X7_standing_13 mm x1_4 (ik_lp2 (b_X7_standing_4 mm) n_4)) n_13 x1_13 x3_13 = some (R) → ik_G p l e ({ frames := 4, cells := 0, slots := 0, locals := 91 } : Room) s m ([.ref h0] : List Value).toArray below meth c D ik_no (fun _ => True) 4 (MQ below (ik_R (some (.int R))) ([.ref h0] : List Value).toArray s 0 0 ik_no) 13 [(3, .int x3_13), (2, .int x1_4), (1, .int x1_13), (0, .ref h0)] [] (wz_X7 cI cS h0 h1 h2 h3 h4 h5 h6 h7 h8 h9 h10 h11 misKept mtaped msort mfrom mto mvalue mbad mm mkept mwas mother mfound mwarm mdrip mtape mbits msize mnumber) := by
          intro n_13
          induction n_13 with
          | zero => intro _ _ hf; exact nomatch hf
          | succ n_13 ih_13 =>
            intro x1_13 x3_13 hf
            replace hf : b_X7_standing_13 mm x1_4 (ik_lp2 (b_X7_standing_4 mm) n_4) (ik_lp2 (b_X7_standing_13 mm x1_4 (ik_lp2 (b_X7_standing_4 mm) n_4)) n_13) x1_13 x3_13 = some (R) := hf
            unfold b_X7_standing_13 at hf
            refine ik_iload_n C 0 rfl rfl dX7_standing_13 ?_
            refine ik_aload_n C 3 rfl rfl dX7_standing_14 ?_
            refine ik_get C inlX7 0 rfl rfl 0 (by decide) wl_4_12 rfl (v := .ref h1) rfl dX7_standing_15 ?_
            refine ik_iconst (v := (5 : Int32)) C (by decide) dX7_standing_18 ?_
            refine ik_iald C 1 rfl (ik_vin (by decide)) dX7_standing_19 ?_
            refine ik_icmp_ge C 56 dX7_standing_20 (by decide) (fun hc => ?_) (fun hc => ?_)
            · have hf := ik_pos hc hf
              refine ik_goto C 4 dX7_standing_56 (by decide) ?_
              exact ik_sub [1, 2, 3] [(2, .int x1_4), (1, .int x1_13), (0, .ref h0)] rfl (ih_4 x1_13 x1_4 hf)
            · have hf := ik_neg hc hf
              refine ik_iload_n C 2 rfl rfl dX7_standing_23 ?_
              refine ik_aload_n C 3 rfl rfl dX7_standing_24 ?_
              refine ik_iload_n C 0 rfl rfl dX7_standing_25 ?_
              obtain ⟨r1, hc1, hf⟩ := ik_b1s hf
              refine ik_goR (ik_runV C (c_X7_isGone l D cI cS h0 h1 h2 h3 h4 h5 h6 h7 h8 h9 h10 h11 misKept mtaped msort mfrom mto mvalue mbad mm mkept mwas mother mfound mwarm mdrip mtape mbits msize mnumber x3_13 r1 hc1) mv_X7_isGone wl_10_5 ⟨rfl, rfl, Nat.le_of_ble_eq_true rfl, Nat.le_of_ble_eq_true rfl⟩ [0, 1, 2, 3, 4, 5, 6, 7, 8, 9, 10, 11] rfl (by decide) 0 rfl rfl rfl rfl (Nat.le_of_ble_eq_true rfl) dX7_standing_26) rfl ?_
              refine ik_if_ne C 47 dX7_standing_29 (by decide) (fun hc => ?_) (fun hc => ?_)
              · have hf := ik_neg hc hf
                refine ik_iconst (v := (0 : Int32)) C (by decide) dX7_standing_47 ?_
                refine ik_ior C dX7_standing_48 ?_
                refine ik_istore_n C [(1, .int (x1_13 ||| (0 : Int32))), (3, .int x3_13), (2, .int x1_4), (0, .ref h0)] rfl (by decide) rfl dX7_standing_49 ?_
                refine ik_iinc C [(3, .int (x3_13 + (1 : Int32))), (1, .int (x1_13 ||| (0 : Int32))), (2, .int x1_4), (0, .ref h0)] 1 rfl rfl (by decide) rfl dX7_standing_50 ?_
                refine ik_goto C 13 dX7_standing_53 (by decide) ?_
                exact ik_sub [0, 2, 1, 3] [(3, .int (x3_13 + (1 : Int32))), (2, .int x1_4), (1, .int (x1_13 ||| (0 : Int32))), (0, .ref h0)] rfl (ih_13 (x1_13 ||| (0 : Int32)) (x3_13 + (1 : Int32)) hf)
              · have hf := ik_pos hc hf
                refine ik_aload_n C 3 rfl rfl dX7_standing_32 ?_
                refine ik_iload_n C 0 rfl rfl dX7_standing_33 ?_
                refine ik_iload_n C 2 rfl rfl dX7_standing_34 ?_
                obtain ⟨r2, hc2, hf⟩ := ik_b1s hf
                refine ik_goR (ik_runV C (c_X7_standsBy l D cI cS h0 h1 h2 h3 h4 h5 h6 h7 h8 h9 h10 h11 misKept mtaped msort mfrom mto mvalue mbad mm mkept mwas mother mfound mwarm mdrip mtape mbits msize mnumber x3_13 x1_13 r2 hc2) mv_X7_standsBy wl_10_13 ⟨rfl, rfl, Nat.le_of_ble_eq_true rfl, Nat.le_of_ble_eq_true rfl⟩ [0, 1, 2, 3, 4, 5, 6, 7, 8, 9, 10, 11] rfl (by decide) 0 rfl rfl rfl rfl (Nat.le_of_ble_eq_true rfl) dX7_standing_35) rfl ?_
                refine ik_if_eq C 47 dX7_standing_38 (by decide) (fun hc => ?_) (fun hc => ?_)
                · have hf := ik_pos hc hf
                  refine ik_iconst (v := (0 : Int32)) C (by decide) dX7_standing_47 ?_
                  refine ik_ior C dX7_standing_48 ?_
                  refine ik_istore_n C [(1, .int (x1_13 ||| (0 : Int32))), (3, .int x3_13), (2, .int x1_4), (0, .ref h0)] rfl (by decide) rfl dX7_standing_49 ?_
                  refine ik_iinc C [(3, .int (x3_13 + (1 : Int32))), (1, .int (x1_13 ||| (0 : Int32))), (2, .int x1_4), (0, .ref h0)] 1 rfl rfl (by decide) rfl dX7_standing_50 ?_
                  refine ik_goto C 13 dX7_standing_53 (by decide) ?_
                  exact ik_sub [0, 2, 1, 3] [(3, .int (x3_13 + (1 : Int32))), (2, .int x1_4), (1, .int (x1_13 ||| (0 : Int32))), (0, .ref h0)] rfl (ih_13 (x1_13 ||| (0 : Int32)) (x3_13 + (1 : Int32)) hf)
                · have hf := ik_neg hc hf
                  refine ik_iconst (v := (1 : Int32)) C (by decide) dX7_standing_41 ?_
                  refine ik_iload_n C 0 rfl rfl dX7_standing_42 ?_
                  refine ik_ishl C dX7_standing_43 ?_
                  refine ik_goto C 48 dX7_standing_44 (by decide) ?_
                  refine ik_ior C dX7_standing_48 ?_
                  refine ik_istore_n C [(1, .int (x1_13 ||| ((1 : Int32) <<< (x3_13 &&& 31)))), (3, .int x3_13), (2, .int x1_4), (0, .ref h0)] rfl (by decide) rfl dX7_standing_49 ?_
                  refine ik_iinc C [(3, .int (x3_13 + (1 : Int32))), (1, .int (x1_13 ||| ((1 : Int32) <<< (x3_13 &&& 31)))), (2, .int x1_4), (0, .ref h0)] 1 rfl rfl (by decide) rfl dX7_standing_50 ?_
                  refine ik_goto C 13 dX7_standing_53 (by decide) ?_
                  exact ik_sub [0, 2, 1, 3] [(3, .int (x3_13 + (1 : Int32))), (2, .int x1_4), (1, .int (x1_13 ||| ((1 : Int32) <<< (x3_13 &&& 31)))), (0, .ref h0)] rfl (ih_13 (x1_13 ||| ((1 : Int32) <<< (x3_13 &&& 31))) (x3_13 + (1 : Int32)) hf)
        exact hL_13 ik_fu x1_4 (0 : Int32) hf
  exact hL_4 ik_fu (0 : Int32) (-1 : Int32) hf
theorem mv_X7_loadOf : ik_V yX7_loadOf RX7 cX7_loadOf 4 (some .int) 1 := ⟨wl_11_13, wl_11_14, wl_1_5, wl_11_15, by decide +kernel⟩
set_option maxHeartbeats 4000000 in
set_option maxRecDepth 100000 in
theorem c_X7_loadOf (l : Launch) (D : va_G) (cI cS : ClassId) (h0 h1 h2 h3 h4 h5 h6 h7 h8 h9 h10 h11 : Nat) (misKept : Int32) (mtaped : Int32) (msort : Int32) (mfrom : Int32) (mto : Int32) (mvalue : Int32) (mbad : Int32) (mm : Nat → Int32) (mkept : Nat → Int32) (mwas : Nat → Int32) (mother : Nat → Int32) (mfound : Nat → Int32) (mwarm : Nat → Int32) (mdrip : Nat → Int32) (mtape : Nat → Int32) (mbits : Nat → Int32) (msize : Nat → Int32) (mnumber : Nat → Int32) (x1 : Int32) (R : Int32) (hf : f_X7_loadOf mm x1 = some (R)) : Met l yX7_loadOf (ik_ws yX7_loadOf cX7_loadOf 4 (some .int)) ({ frames := 2, cells := 0, slots := 0, locals := 43 } : Room) (ik_P D cI cS [.ref h0, .int x1] (wz_X7 cI cS h0 h1 h2 h3 h4 h5 h6 h7 h8 h9 h10 h11 misKept mtaped msort mfrom mto mvalue mbad mm mkept mwas mother mfound mwarm mdrip mtape mbits msize mnumber)) (ik_R (some (.int R))) 0 0 ik_no := by
  refine ik_metR RX7 rfl (by decide) (Nat.le_of_ble_eq_true rfl) [(0, .ref h0), (1, .int x1)] rfl ?_
  intro p e s m below meth c C hr hlk
  unfold f_X7_loadOf at hf
  refine ik_iconst (v := (0 : Int32)) C (by decide) dX7_loadOf_0 ?_
  refine ik_istore_n C [(2, .int (0 : Int32)), (0, .ref h0), (1, .int x1)] rfl (by decide) rfl dX7_loadOf_1 ?_
  refine ik_aload_n C 1 rfl rfl dX7_loadOf_2 ?_
  refine ik_iload_n C 2 rfl rfl dX7_loadOf_3 ?_
  obtain ⟨r1, hc1, hf⟩ := ik_b1s hf
  refine ik_goR (ik_runV C (c_X7_cellOf l D cI cS h0 h1 h2 h3 h4 h5 h6 h7 h8 h9 h10 h11 misKept mtaped msort mfrom mto mvalue mbad mm mkept mwas mother mfound mwarm mdrip mtape mbits msize mnumber x1 r1 hc1) mv_X7_cellOf wl_7_16 ⟨rfl, rfl, Nat.le_of_ble_eq_true rfl, Nat.le_of_ble_eq_true rfl⟩ [0, 1, 2, 3, 4, 5, 6, 7, 8, 9, 10, 11] rfl (by decide) 0 rfl rfl rfl rfl (Nat.le_of_ble_eq_true rfl) dX7_loadOf_4) rfl ?_
  obtain ⟨r2, hc2, hf⟩ := ik_b1s hf
  refine ik_goR (ik_runS C (c_X7_above l D cI cS r1 r2 hc2) ms_X7_above wl_10_17 ⟨rfl, rfl, Nat.le_of_ble_eq_true rfl, Nat.le_of_ble_eq_true rfl⟩ [] rfl (by decide) rfl rfl (Nat.le_of_ble_eq_true rfl) dX7_loadOf_7) rfl ?_
  refine ik_istore_n C [(3, .int r2), (2, .int (0 : Int32)), (0, .ref h0), (1, .int x1)] rfl (by decide) rfl dX7_loadOf_10 ?_
  have hL_11 : ∀ (n_11 : Nat) (x2_11 : Int32) (x3_11 : Int32), ik_lp2 (b_X7_loadOf_11 mm) n_11 x2_11 x3_11 = some (R) → ik_G p l e ({ frames := 2, cells := 0, slots := 0, locals := 43 } : Room) s m ([.ref h0, .int x1] : List Value).toArray below meth c D ik_no (fun _ => True) 4 (MQ below (ik_R (some (.int R))) ([.ref h0, .int x1] : List Value).toArray s 0 0 ik_no) 11 [(3, .int x3_11), (2, .int x2_11), (0, .ref h0), (1, .int x1)] [] (wz_X7 cI cS h0 h1 h2 h3 h4 h5 h6 h7 h8 h9 h10 h11 misKept mtaped msort mfrom mto mvalue mbad mm mkept mwas mother mfound mwarm mdrip mtape mbits msize mnumber) := by
    intro n_11
    induction n_11 with
    | zero => intro _ _ hf; exact nomatch hf
    | succ n_11 ih_11 =>
      intro x2_11 x3_11 hf
      replace hf : b_X7_loadOf_11 mm (ik_lp2 (b_X7_loadOf_11 mm) n_11) x2_11 x3_11 = some (R) := hf
      unfold b_X7_loadOf_11 at hf
      refine ik_aload_n C 2 rfl rfl dX7_loadOf_11 ?_
      refine ik_iload_n C 0 rfl rfl dX7_loadOf_12 ?_
      obtain ⟨r3, hc3, hf⟩ := ik_b1s hf
      refine ik_goR (ik_runV C (c_X7_blockOn l D cI cS h0 h1 h2 h3 h4 h5 h6 h7 h8 h9 h10 h11 misKept mtaped msort mfrom mto mvalue mbad mm mkept mwas mother mfound mwarm mdrip mtape mbits msize mnumber x3_11 r3 hc3) mv_X7_blockOn wl_7_12 ⟨rfl, rfl, Nat.le_of_ble_eq_true rfl, Nat.le_of_ble_eq_true rfl⟩ [0, 1, 2, 3, 4, 5, 6, 7, 8, 9, 10, 11] rfl (by decide) 0 rfl rfl rfl rfl (Nat.le_of_ble_eq_true rfl) dX7_loadOf_13) rfl ?_
      refine ik_if_lt C 39 dX7_loadOf_16 (by decide) (fun hc => ?_) (fun hc => ?_)
      · have hf := ik_pos hc hf
        refine ik_iload_n C 1 rfl rfl dX7_loadOf_39 ?_
        cases hf
        exact ik_iretR C hr hlk dX7_loadOf_40
      · have hf := ik_neg hc hf
        refine ik_iload_n C 1 rfl rfl dX7_loadOf_19 ?_
        refine ik_aload_n C 2 rfl rfl dX7_loadOf_20 ?_
        refine ik_aload_n C 2 rfl rfl dX7_loadOf_21 ?_
        refine ik_iload_n C 0 rfl rfl dX7_loadOf_22 ?_
        obtain ⟨r4, hc4, hf⟩ := ik_b1s hf
        refine ik_goR (ik_runV C (c_X7_blockOn l D cI cS h0 h1 h2 h3 h4 h5 h6 h7 h8 h9 h10 h11 misKept mtaped msort mfrom mto mvalue mbad mm mkept mwas mother mfound mwarm mdrip mtape mbits msize mnumber x3_11 r4 hc4) mv_X7_blockOn wl_7_12 ⟨rfl, rfl, Nat.le_of_ble_eq_true rfl, Nat.le_of_ble_eq_true rfl⟩ [0, 1, 2, 3, 4, 5, 6, 7, 8, 9, 10, 11] rfl (by decide) 0 rfl rfl rfl rfl (Nat.le_of_ble_eq_true rfl) dX7_loadOf_23) rfl ?_
        obtain ⟨r5, hc5, hf⟩ := ik_b1s hf
        refine ik_goR (ik_runV C (c_X7_grains l D cI cS h0 h1 h2 h3 h4 h5 h6 h7 h8 h9 h10 h11 misKept mtaped msort mfrom mto mvalue mbad mm mkept mwas mother mfound mwarm mdrip mtape mbits msize mnumber r4 r5 hc5) mv_X7_grains wl_10_1 ⟨rfl, rfl, Nat.le_of_ble_eq_true rfl, Nat.le_of_ble_eq_true rfl⟩ [0, 1, 2, 3, 4, 5, 6, 7, 8, 9, 10, 11] rfl (by decide) 0 rfl rfl rfl rfl (Nat.le_of_ble_eq_true rfl) dX7_loadOf_26) rfl ?_
        refine ik_iadd C dX7_loadOf_29 ?_
        refine ik_istore_n C [(2, .int (x2_11 + r5)), (3, .int x3_11), (0, .ref h0), (1, .int x1)] rfl (by decide) rfl dX7_loadOf_30 ?_
        refine ik_iload_n C 1 rfl rfl dX7_loadOf_31 ?_
        obtain ⟨r6, hc6, hf⟩ := ik_b1s hf
        refine ik_goR (ik_runS C (c_X7_above l D cI cS x3_11 r6 hc6) ms_X7_above wl_10_17 ⟨rfl, rfl, Nat.le_of_ble_eq_true rfl, Nat.le_of_ble_eq_true rfl⟩ [] rfl (by decide) rfl rfl (Nat.le_of_ble_eq_true rfl) dX7_loadOf_32) rfl ?_
        refine ik_istore_n C [(3, .int r6), (2, .int (x2_11 + r5)), (0, .ref h0), (1, .int x1)] rfl (by decide) rfl dX7_loadOf_35 ?_
        refine ik_goto C 11 dX7_loadOf_36 (by decide) ?_
        exact ik_sub [0, 1, 2, 3] [(3, .int r6), (2, .int (x2_11 + r5)), (0, .ref h0), (1, .int x1)] rfl (ih_11 (x2_11 + r5) r6 hf)
  exact hL_11 ik_fu (0 : Int32) r2 hf
theorem mv_X7_strongOf : ik_V yX7_strongOf RX7 cX7_strongOf 3 (some .int) 1 := ⟨wl_11_17, wl_11_18, wl_1_5, wl_11_19, by decide +kernel⟩
set_option maxHeartbeats 4000000 in
set_option maxRecDepth 100000 in
theorem c_X7_strongOf (l : Launch) (D : va_G) (cI cS : ClassId) (h0 h1 h2 h3 h4 h5 h6 h7 h8 h9 h10 h11 : Nat) (misKept : Int32) (mtaped : Int32) (msort : Int32) (mfrom : Int32) (mto : Int32) (mvalue : Int32) (mbad : Int32) (mm : Nat → Int32) (mkept : Nat → Int32) (mwas : Nat → Int32) (mother : Nat → Int32) (mfound : Nat → Int32) (mwarm : Nat → Int32) (mdrip : Nat → Int32) (mtape : Nat → Int32) (mbits : Nat → Int32) (msize : Nat → Int32) (mnumber : Nat → Int32) (x1 : Int32) (R : Int32) (hf : f_X7_strongOf mm x1 = some (R)) : Met l yX7_strongOf (ik_ws yX7_strongOf cX7_strongOf 3 (some .int)) ({ frames := 1, cells := 0, slots := 0, locals := 21 } : Room) (ik_P D cI cS [.ref h0, .int x1] (wz_X7 cI cS h0 h1 h2 h3 h4 h5 h6 h7 h8 h9 h10 h11 misKept mtaped msort mfrom mto mvalue mbad mm mkept mwas mother mfound mwarm mdrip mtape mbits msize mnumber)) (ik_R (some (.int R))) 0 0 ik_no := by
  refine ik_metR RX7 rfl (by decide) (Nat.le_of_ble_eq_true rfl) [(0, .ref h0), (1, .int x1)] rfl ?_
  intro p e s m below meth c C hr hlk
  unfold f_X7_strongOf at hf
  refine ik_iconst (v := (4 : Int32)) C (by decide) dX7_strongOf_0 ?_
  refine ik_aload_n C 0 rfl rfl dX7_strongOf_1 ?_
  refine ik_iload_n C 1 rfl rfl dX7_strongOf_2 ?_
  obtain ⟨r1, hc1, hf⟩ := ik_b1s hf
  refine ik_goR (ik_runV C (c_X7_grains l D cI cS h0 h1 h2 h3 h4 h5 h6 h7 h8 h9 h10 h11 misKept mtaped msort mfrom mto mvalue mbad mm mkept mwas mother mfound mwarm mdrip mtape mbits msize mnumber x1 r1 hc1) mv_X7_grains wl_10_1 ⟨rfl, rfl, Nat.le_of_ble_eq_true rfl, Nat.le_of_ble_eq_true rfl⟩ [0, 1, 2, 3, 4, 5, 6, 7, 8, 9, 10, 11] rfl (by decide) 0 rfl rfl rfl rfl (Nat.le_of_ble_eq_true rfl) dX7_strongOf_3) rfl ?_
  refine ik_imul C dX7_strongOf_6 ?_
  refine ik_istore_n C [(2, .int ((4 : Int32) * r1)), (0, .ref h0), (1, .int x1)] rfl (by decide) rfl dX7_strongOf_7 ?_
  refine ik_aload_n C 1 rfl rfl dX7_strongOf_8 ?_
  refine ik_iload_n C 2 rfl rfl dX7_strongOf_9 ?_
  obtain ⟨r2, hc2, hf⟩ := ik_b1s hf
  refine ik_goR (ik_runV C (c_X7_kindOf l D cI cS h0 h1 h2 h3 h4 h5 h6 h7 h8 h9 h10 h11 misKept mtaped msort mfrom mto mvalue mbad mm mkept mwas mother mfound mwarm mdrip mtape mbits msize mnumber x1 r2 hc2) mv_X7_kindOf wl_9_21 ⟨rfl, rfl, Nat.le_of_ble_eq_true rfl, Nat.le_of_ble_eq_true rfl⟩ [0, 1, 2, 3, 4, 5, 6, 7, 8, 9, 10, 11] rfl (by decide) 0 rfl rfl rfl rfl (Nat.le_of_ble_eq_true rfl) dX7_strongOf_10) rfl ?_
  by_cases hn3 : r2 = (3 : Int32)
  · have hf := ik_pos hn3 hf
    refine ik_tcase C (3 : Int32) hn3 40 dX7_strongOf_13 (by decide) (by decide) rfl (by decide) ?_
    refine ik_iload_n C 0 rfl rfl dX7_strongOf_40 ?_
    refine ik_bipush (v := (20 : Int32)) C (by decide) dX7_strongOf_41 ?_
    refine ik_iadd C dX7_strongOf_43 ?_
    cases hf
    exact ik_iretR C hr hlk dX7_strongOf_44
  · have hf := ik_neg hn3 hf
    by_cases hn4 : r2 = (4 : Int32)
    · have hf := ik_pos hn4 hf
      refine ik_tcase C (4 : Int32) hn4 45 dX7_strongOf_13 (by decide) (by decide) rfl (by decide) ?_
      refine ik_iconst (v := (3 : Int32)) C (by decide) dX7_strongOf_45 ?_
      refine ik_iload_n C 0 rfl rfl dX7_strongOf_46 ?_
      refine ik_imul C dX7_strongOf_47 ?_
      cases hf
      exact ik_iretR C hr hlk dX7_strongOf_48
    · have hf := ik_neg hn4 hf
      by_cases hn5 : r2 = (5 : Int32)
      · have hf := ik_pos hn5 hf
        refine ik_tcase C (5 : Int32) hn5 49 dX7_strongOf_13 (by decide) (by decide) rfl (by decide) ?_
        refine ik_iconst (v := (2 : Int32)) C (by decide) dX7_strongOf_49 ?_
        refine ik_iload_n C 0 rfl rfl dX7_strongOf_50 ?_
        refine ik_imul C dX7_strongOf_51 ?_
        cases hf
        exact ik_iretR C hr hlk dX7_strongOf_52
      · have hf := ik_neg hn5 hf
        refine ik_tout C 53 dX7_strongOf_13 (by have ehn3 : (r2).toInt ≠ 3 := fun h => hn3 (Int32.toInt_inj.mp h); have ehn4 : (r2).toInt ≠ 4 := fun h => hn4 (Int32.toInt_inj.mp h); have ehn5 : (r2).toInt ≠ 5 := fun h => hn5 (Int32.toInt_inj.mp h); omega) (by decide) ?_
        refine ik_iload_n C 0 rfl rfl dX7_strongOf_53 ?_
        cases hf
        exact ik_iretR C hr hlk dX7_strongOf_54
theorem mv_X7_blockOf : ik_V yX7_blockOf RX7 cX7_blockOf 3 (some .int) 2 := ⟨wl_9_14, wl_9_15, wl_1_5, wl_9_16, by decide +kernel⟩
set_option maxHeartbeats 4000000 in
set_option maxRecDepth 100000 in
theorem c_X7_blockOf (l : Launch) (D : va_G) (cI cS : ClassId) (h0 h1 h2 h3 h4 h5 h6 h7 h8 h9 h10 h11 : Nat) (misKept : Int32) (mtaped : Int32) (msort : Int32) (mfrom : Int32) (mto : Int32) (mvalue : Int32) (mbad : Int32) (mm : Nat → Int32) (mkept : Nat → Int32) (mwas : Nat → Int32) (mother : Nat → Int32) (mfound : Nat → Int32) (mwarm : Nat → Int32) (mdrip : Nat → Int32) (mtape : Nat → Int32) (mbits : Nat → Int32) (msize : Nat → Int32) (mnumber : Nat → Int32) (x1 : Int32) (x2 : Int32) (R : Int32) (mfound_r : Nat → Int32) (hf : f_X7_blockOf mm mfound x1 x2 = some (R, mfound_r)) : Met l yX7_blockOf (ik_ws yX7_blockOf cX7_blockOf 3 (some .int)) ({ frames := 5, cells := 0, slots := 0, locals := 114 } : Room) (ik_P D cI cS [.ref h0, .int x1, .int x2] (wz_X7 cI cS h0 h1 h2 h3 h4 h5 h6 h7 h8 h9 h10 h11 misKept mtaped msort mfrom mto mvalue mbad mm mkept mwas mother mfound mwarm mdrip mtape mbits msize mnumber)) (ik_Q (some (.int R)) D (wz_X7 cI cS h0 h1 h2 h3 h4 h5 h6 h7 h8 h9 h10 h11 misKept mtaped msort mfrom mto mvalue mbad mm mkept mwas mother mfound_r mwarm mdrip mtape mbits msize mnumber) (wz_X7 cI cS h0 h1 h2 h3 h4 h5 h6 h7 h8 h9 h10 h11 misKept mtaped msort mfrom mto mvalue mbad mm mkept mwas mother mfound mwarm mdrip mtape mbits msize mnumber)) 0 0 (ik_in (wz_X7 cI cS h0 h1 h2 h3 h4 h5 h6 h7 h8 h9 h10 h11 misKept mtaped msort mfrom mto mvalue mbad mm mkept mwas mother mfound mwarm mdrip mtape mbits msize mnumber)) := by
  refine ik_metW RX7 rfl (by decide) (Nat.le_of_ble_eq_true rfl) [(0, .ref h0), (1, .int x1), (2, .int x2)] rfl ?_
  intro p e s m below meth c C hr hlk
  unfold f_X7_blockOf at hf
  refine ik_aload_n C 0 rfl rfl dX7_blockOf_0 ?_
  refine ik_iload_n C 1 rfl rfl dX7_blockOf_1 ?_
  obtain ⟨r1, hc1, hf⟩ := ik_b1s hf
  refine ik_goR (ik_runV C (c_X7_isBlock l D cI cS h0 h1 h2 h3 h4 h5 h6 h7 h8 h9 h10 h11 misKept mtaped msort mfrom mto mvalue mbad mm mkept mwas mother mfound mwarm mdrip mtape mbits msize mnumber x1 r1 hc1) mv_X7_isBlock wl_9_17 ⟨rfl, rfl, Nat.le_of_ble_eq_true rfl, Nat.le_of_ble_eq_true rfl⟩ [0, 1, 2, 3, 4, 5, 6, 7, 8, 9, 10, 11] rfl (by decide) 0 rfl rfl rfl rfl (Nat.le_of_ble_eq_true rfl) dX7_blockOf_2) rfl ?_
  refine ik_if_eq C 20 dX7_blockOf_5 (by decide) (fun hc => ?_) (fun hc => ?_)
  · have hf := ik_pos hc hf
    refine ik_aload_n C 0 rfl rfl dX7_blockOf_20 ?_
    refine ik_ldc C wl_6_14 dX7_blockOf_21 ?_
    obtain ⟨r2, g3, hc3, hf⟩ := ik_b2s hf
    refine ik_goW [0, 1, 2, 3, 4, 5, 6, 7, 8, 9, 10, 11] rfl rfl (wz_X7 cI cS h0 h1 h2 h3 h4 h5 h6 h7 h8 h9 h10 h11 misKept mtaped msort mfrom mto mvalue mbad mm mkept mwas mother g3 mwarm mdrip mtape mbits msize mnumber) rfl (ik_runV C (c_X7_finds l D cI cS h0 h1 h2 h3 h4 h5 h6 h7 h8 h9 h10 h11 misKept mtaped msort mfrom mto mvalue mbad mm mkept mwas mother mfound mwarm mdrip mtape mbits msize mnumber (-1000001 : Int32) r2 g3 hc3) mv_X7_finds wl_7_8 ⟨rfl, rfl, Nat.le_of_ble_eq_true rfl, Nat.le_of_ble_eq_true rfl⟩ [0, 1, 2, 3, 4, 5, 6, 7, 8, 9, 10, 11] rfl (by decide) 0 rfl rfl rfl rfl (Nat.le_of_ble_eq_true rfl) dX7_blockOf_23) rfl ?_
    cases hf
    exact ik_iretW C hr hlk dX7_blockOf_26
  · have hf := ik_neg hc hf
    refine ik_iload_n C 2 rfl rfl dX7_blockOf_8 ?_
    refine ik_i2l C dX7_blockOf_9 ?_
    refine ik_lconst (v := (0 : Int64)) C (by decide) dX7_blockOf_10 ?_
    refine ik_ldc2 C wl_6_20 dX7_blockOf_11 ?_
    obtain ⟨r2, hc2, hf⟩ := ik_b1s hf
    refine ik_goR (ik_runS C (c_X7_in l D cI cS (x2).toInt64 (0 : Int64) (6 : Int64) r2 hc2) ms_X7_in wl_6_21 ⟨rfl, rfl, Nat.le_of_ble_eq_true rfl, Nat.le_of_ble_eq_true rfl⟩ [] rfl (by decide) rfl rfl (Nat.le_of_ble_eq_true rfl) dX7_blockOf_14) rfl ?_
    refine ik_if_ne C 27 dX7_blockOf_17 (by decide) (fun hc => ?_) (fun hc => ?_)
    · have hf := ik_neg hc hf
      refine ik_iload_n C 2 rfl rfl dX7_blockOf_27 ?_
      by_cases hn0 : x2 = (0 : Int32)
      · have hf := ik_pos hn0 hf
        refine ik_tcase C (0 : Int32) hn0 68 dX7_blockOf_28 (by decide) (by decide) rfl (by decide) ?_
        refine ik_aload_n C 0 rfl rfl dX7_blockOf_68 ?_
        refine ik_iload_n C 1 rfl rfl dX7_blockOf_69 ?_
        obtain ⟨r3, hc3, hf⟩ := ik_b1s hf
        refine ik_goR (ik_runV C (c_X7_kindOf l D cI cS h0 h1 h2 h3 h4 h5 h6 h7 h8 h9 h10 h11 misKept mtaped msort mfrom mto mvalue mbad mm mkept mwas mother mfound mwarm mdrip mtape mbits msize mnumber x1 r3 hc3) mv_X7_kindOf wl_9_21 ⟨rfl, rfl, Nat.le_of_ble_eq_true rfl, Nat.le_of_ble_eq_true rfl⟩ [0, 1, 2, 3, 4, 5, 6, 7, 8, 9, 10, 11] rfl (by decide) 0 rfl rfl rfl rfl (Nat.le_of_ble_eq_true rfl) dX7_blockOf_70) rfl ?_
        cases hf
        exact ik_iretW C hr hlk dX7_blockOf_73
      · have hf := ik_neg hn0 hf
        by_cases hn1 : x2 = (1 : Int32)
        · have hf := ik_pos hn1 hf
          refine ik_tcase C (1 : Int32) hn1 74 dX7_blockOf_28 (by decide) (by decide) rfl (by decide) ?_
          refine ik_aload_n C 0 rfl rfl dX7_blockOf_74 ?_
          refine ik_iload_n C 1 rfl rfl dX7_blockOf_75 ?_
          obtain ⟨r3, hc3, hf⟩ := ik_b1s hf
          refine ik_goR (ik_runV C (c_X7_cellOf l D cI cS h0 h1 h2 h3 h4 h5 h6 h7 h8 h9 h10 h11 misKept mtaped msort mfrom mto mvalue mbad mm mkept mwas mother mfound mwarm mdrip mtape mbits msize mnumber x1 r3 hc3) mv_X7_cellOf wl_7_16 ⟨rfl, rfl, Nat.le_of_ble_eq_true rfl, Nat.le_of_ble_eq_true rfl⟩ [0, 1, 2, 3, 4, 5, 6, 7, 8, 9, 10, 11] rfl (by decide) 0 rfl rfl rfl rfl (Nat.le_of_ble_eq_true rfl) dX7_blockOf_76) rfl ?_
          cases hf
          exact ik_iretW C hr hlk dX7_blockOf_79
        · have hf := ik_neg hn1 hf
          by_cases hn2 : x2 = (2 : Int32)
          · have hf := ik_pos hn2 hf
            refine ik_tcase C (2 : Int32) hn2 80 dX7_blockOf_28 (by decide) (by decide) rfl (by decide) ?_
            refine ik_aload_n C 0 rfl rfl dX7_blockOf_80 ?_
            refine ik_iload_n C 1 rfl rfl dX7_blockOf_81 ?_
            obtain ⟨r3, hc3, hf⟩ := ik_b1s hf
            refine ik_goR (ik_runV C (c_X7_grains l D cI cS h0 h1 h2 h3 h4 h5 h6 h7 h8 h9 h10 h11 misKept mtaped msort mfrom mto mvalue mbad mm mkept mwas mother mfound mwarm mdrip mtape mbits msize mnumber x1 r3 hc3) mv_X7_grains wl_10_1 ⟨rfl, rfl, Nat.le_of_ble_eq_true rfl, Nat.le_of_ble_eq_true rfl⟩ [0, 1, 2, 3, 4, 5, 6, 7, 8, 9, 10, 11] rfl (by decide) 0 rfl rfl rfl rfl (Nat.le_of_ble_eq_true rfl) dX7_blockOf_82) rfl ?_
            cases hf
            exact ik_iretW C hr hlk dX7_blockOf_85
          · have hf := ik_neg hn2 hf
            by_cases hn3 : x2 = (3 : Int32)
            · have hf := ik_pos hn3 hf
              refine ik_tcase C (3 : Int32) hn3 86 dX7_blockOf_28 (by decide) (by decide) rfl (by decide) ?_
              refine ik_aload_n C 0 rfl rfl dX7_blockOf_86 ?_
              refine ik_iload_n C 1 rfl rfl dX7_blockOf_87 ?_
              obtain ⟨r3, hc3, hf⟩ := ik_b1s hf
              refine ik_goR (ik_runV C (c_X7_isGone l D cI cS h0 h1 h2 h3 h4 h5 h6 h7 h8 h9 h10 h11 misKept mtaped msort mfrom mto mvalue mbad mm mkept mwas mother mfound mwarm mdrip mtape mbits msize mnumber x1 r3 hc3) mv_X7_isGone wl_10_5 ⟨rfl, rfl, Nat.le_of_ble_eq_true rfl, Nat.le_of_ble_eq_true rfl⟩ [0, 1, 2, 3, 4, 5, 6, 7, 8, 9, 10, 11] rfl (by decide) 0 rfl rfl rfl rfl (Nat.le_of_ble_eq_true rfl) dX7_blockOf_88) rfl ?_
              refine ik_if_eq C 98 dX7_blockOf_91 (by decide) (fun hc => ?_) (fun hc => ?_)
              · have hf := ik_pos hc hf
                refine ik_iconst (v := (0 : Int32)) C (by decide) dX7_blockOf_98 ?_
                cases hf
                exact ik_iretW C hr hlk dX7_blockOf_99
              · have hf := ik_neg hc hf
                refine ik_iconst (v := (1 : Int32)) C (by decide) dX7_blockOf_94 ?_
                refine ik_goto C 99 dX7_blockOf_95 (by decide) ?_
                cases hf
                exact ik_iretW C hr hlk dX7_blockOf_99
            · have hf := ik_neg hn3 hf
              by_cases hn4 : x2 = (4 : Int32)
              · have hf := ik_pos hn4 hf
                refine ik_tcase C (4 : Int32) hn4 100 dX7_blockOf_28 (by decide) (by decide) rfl (by decide) ?_
                refine ik_aload_n C 0 rfl rfl dX7_blockOf_100 ?_
                obtain ⟨r3, hc3, hf⟩ := ik_b1s hf
                refine ik_goR (ik_runV C (c_X7_standing l D cI cS h0 h1 h2 h3 h4 h5 h6 h7 h8 h9 h10 h11 misKept mtaped msort mfrom mto mvalue mbad mm mkept mwas mother mfound mwarm mdrip mtape mbits msize mnumber r3 hc3) mv_X7_standing wl_10_9 ⟨rfl, rfl, Nat.le_of_ble_eq_true rfl, Nat.le_of_ble_eq_true rfl⟩ [0, 1, 2, 3, 4, 5, 6, 7, 8, 9, 10, 11] rfl (by decide) 0 rfl rfl rfl rfl (Nat.le_of_ble_eq_true rfl) dX7_blockOf_101) rfl ?_
                refine ik_iload_n C 1 rfl rfl dX7_blockOf_104 ?_
                obtain ⟨r4, hc4, hf⟩ := ik_b1s hf
                refine ik_goR (ik_runS C (c_X7_has l D cI cS r3 x1 r4 hc4) ms_X7_has wl_11_0 ⟨rfl, rfl, Nat.le_of_ble_eq_true rfl, Nat.le_of_ble_eq_true rfl⟩ [] rfl (by decide) rfl rfl (Nat.le_of_ble_eq_true rfl) dX7_blockOf_105) rfl ?_
                refine ik_if_eq C 115 dX7_blockOf_108 (by decide) (fun hc => ?_) (fun hc => ?_)
                · have hf := ik_pos hc hf
                  refine ik_iconst (v := (0 : Int32)) C (by decide) dX7_blockOf_115 ?_
                  cases hf
                  exact ik_iretW C hr hlk dX7_blockOf_116
                · have hf := ik_neg hc hf
                  refine ik_iconst (v := (1 : Int32)) C (by decide) dX7_blockOf_111 ?_
                  refine ik_goto C 116 dX7_blockOf_112 (by decide) ?_
                  cases hf
                  exact ik_iretW C hr hlk dX7_blockOf_116
              · have hf := ik_neg hn4 hf
                by_cases hn5 : x2 = (5 : Int32)
                · have hf := ik_pos hn5 hf
                  refine ik_tcase C (5 : Int32) hn5 117 dX7_blockOf_28 (by decide) (by decide) rfl (by decide) ?_
                  refine ik_aload_n C 0 rfl rfl dX7_blockOf_117 ?_
                  refine ik_iload_n C 1 rfl rfl dX7_blockOf_118 ?_
                  obtain ⟨r3, hc3, hf⟩ := ik_b1s hf
                  refine ik_goR (ik_runV C (c_X7_isGone l D cI cS h0 h1 h2 h3 h4 h5 h6 h7 h8 h9 h10 h11 misKept mtaped msort mfrom mto mvalue mbad mm mkept mwas mother mfound mwarm mdrip mtape mbits msize mnumber x1 r3 hc3) mv_X7_isGone wl_10_5 ⟨rfl, rfl, Nat.le_of_ble_eq_true rfl, Nat.le_of_ble_eq_true rfl⟩ [0, 1, 2, 3, 4, 5, 6, 7, 8, 9, 10, 11] rfl (by decide) 0 rfl rfl rfl rfl (Nat.le_of_ble_eq_true rfl) dX7_blockOf_119) rfl ?_
                  refine ik_if_eq C 129 dX7_blockOf_122 (by decide) (fun hc => ?_) (fun hc => ?_)
                  · have hf := ik_pos hc hf
                    refine ik_aload_n C 0 rfl rfl dX7_blockOf_129 ?_
                    refine ik_iload_n C 1 rfl rfl dX7_blockOf_130 ?_
                    obtain ⟨r4, hc4, hf⟩ := ik_b1s hf
                    refine ik_goR (ik_runV C (c_X7_loadOf l D cI cS h0 h1 h2 h3 h4 h5 h6 h7 h8 h9 h10 h11 misKept mtaped msort mfrom mto mvalue mbad mm mkept mwas mother mfound mwarm mdrip mtape mbits msize mnumber x1 r4 hc4) mv_X7_loadOf wl_11_12 ⟨rfl, rfl, Nat.le_of_ble_eq_true rfl, Nat.le_of_ble_eq_true rfl⟩ [0, 1, 2, 3, 4, 5, 6, 7, 8, 9, 10, 11] rfl (by decide) 0 rfl rfl rfl rfl (Nat.le_of_ble_eq_true rfl) dX7_blockOf_131) rfl ?_
                    cases hf
                    exact ik_iretW C hr hlk dX7_blockOf_134
                  · have hf := ik_neg hc hf
                    refine ik_iconst (v := (0 : Int32)) C (by decide) dX7_blockOf_125 ?_
                    refine ik_goto C 134 dX7_blockOf_126 (by decide) ?_
                    cases hf
                    exact ik_iretW C hr hlk dX7_blockOf_134
                · have hf := ik_neg hn5 hf
                  refine ik_tout C 135 dX7_blockOf_28 (by have ehn0 : (x2).toInt ≠ 0 := fun h => hn0 (Int32.toInt_inj.mp h); have ehn1 : (x2).toInt ≠ 1 := fun h => hn1 (Int32.toInt_inj.mp h); have ehn2 : (x2).toInt ≠ 2 := fun h => hn2 (Int32.toInt_inj.mp h); have ehn3 : (x2).toInt ≠ 3 := fun h => hn3 (Int32.toInt_inj.mp h); have ehn4 : (x2).toInt ≠ 4 := fun h => hn4 (Int32.toInt_inj.mp h); have ehn5 : (x2).toInt ≠ 5 := fun h => hn5 (Int32.toInt_inj.mp h); omega) (by decide) ?_
                  refine ik_aload_n C 0 rfl rfl dX7_blockOf_135 ?_
                  refine ik_iload_n C 1 rfl rfl dX7_blockOf_136 ?_
                  obtain ⟨r3, hc3, hf⟩ := ik_b1s hf
                  refine ik_goR (ik_runV C (c_X7_isGone l D cI cS h0 h1 h2 h3 h4 h5 h6 h7 h8 h9 h10 h11 misKept mtaped msort mfrom mto mvalue mbad mm mkept mwas mother mfound mwarm mdrip mtape mbits msize mnumber x1 r3 hc3) mv_X7_isGone wl_10_5 ⟨rfl, rfl, Nat.le_of_ble_eq_true rfl, Nat.le_of_ble_eq_true rfl⟩ [0, 1, 2, 3, 4, 5, 6, 7, 8, 9, 10, 11] rfl (by decide) 0 rfl rfl rfl rfl (Nat.le_of_ble_eq_true rfl) dX7_blockOf_137) rfl ?_
                  refine ik_if_eq C 147 dX7_blockOf_140 (by decide) (fun hc => ?_) (fun hc => ?_)
                  · have hf := ik_pos hc hf
                    refine ik_aload_n C 0 rfl rfl dX7_blockOf_147 ?_
                    refine ik_iload_n C 1 rfl rfl dX7_blockOf_148 ?_
                    obtain ⟨r4, hc4, hf⟩ := ik_b1s hf
                    refine ik_goR (ik_runV C (c_X7_strongOf l D cI cS h0 h1 h2 h3 h4 h5 h6 h7 h8 h9 h10 h11 misKept mtaped msort mfrom mto mvalue mbad mm mkept mwas mother mfound mwarm mdrip mtape mbits msize mnumber x1 r4 hc4) mv_X7_strongOf wl_11_16 ⟨rfl, rfl, Nat.le_of_ble_eq_true rfl, Nat.le_of_ble_eq_true rfl⟩ [0, 1, 2, 3, 4, 5, 6, 7, 8, 9, 10, 11] rfl (by decide) 0 rfl rfl rfl rfl (Nat.le_of_ble_eq_true rfl) dX7_blockOf_149) rfl ?_
                    cases hf
                    exact ik_iretW C hr hlk dX7_blockOf_152
                  · have hf := ik_neg hc hf
                    refine ik_iconst (v := (0 : Int32)) C (by decide) dX7_blockOf_143 ?_
                    refine ik_goto C 152 dX7_blockOf_144 (by decide) ?_
                    cases hf
                    exact ik_iretW C hr hlk dX7_blockOf_152
    · have hf := ik_pos hc hf
      refine ik_aload_n C 0 rfl rfl dX7_blockOf_20 ?_
      refine ik_ldc C wl_6_14 dX7_blockOf_21 ?_
      obtain ⟨r3, g4, hc4, hf⟩ := ik_b2s hf
      refine ik_goW [0, 1, 2, 3, 4, 5, 6, 7, 8, 9, 10, 11] rfl rfl (wz_X7 cI cS h0 h1 h2 h3 h4 h5 h6 h7 h8 h9 h10 h11 misKept mtaped msort mfrom mto mvalue mbad mm mkept mwas mother g4 mwarm mdrip mtape mbits msize mnumber) rfl (ik_runV C (c_X7_finds l D cI cS h0 h1 h2 h3 h4 h5 h6 h7 h8 h9 h10 h11 misKept mtaped msort mfrom mto mvalue mbad mm mkept mwas mother mfound mwarm mdrip mtape mbits msize mnumber (-1000001 : Int32) r3 g4 hc4) mv_X7_finds wl_7_8 ⟨rfl, rfl, Nat.le_of_ble_eq_true rfl, Nat.le_of_ble_eq_true rfl⟩ [0, 1, 2, 3, 4, 5, 6, 7, 8, 9, 10, 11] rfl (by decide) 0 rfl rfl rfl rfl (Nat.le_of_ble_eq_true rfl) dX7_blockOf_23) rfl ?_
      cases hf
      exact ik_iretW C hr hlk dX7_blockOf_26
theorem mv_X7_turn : ik_V yX7_turn RX7 cX7_turn 3 (some .int) 2 := ⟨wl_12_1, wl_12_2, wl_1_5, wl_12_3, by decide +kernel⟩
set_option maxHeartbeats 4000000 in
set_option maxRecDepth 100000 in
theorem c_X7_turn (l : Launch) (D : va_G) (cI cS : ClassId) (h0 h1 h2 h3 h4 h5 h6 h7 h8 h9 h10 h11 : Nat) (misKept : Int32) (mtaped : Int32) (msort : Int32) (mfrom : Int32) (mto : Int32) (mvalue : Int32) (mbad : Int32) (mm : Nat → Int32) (mkept : Nat → Int32) (mwas : Nat → Int32) (mother : Nat → Int32) (mfound : Nat → Int32) (mwarm : Nat → Int32) (mdrip : Nat → Int32) (mtape : Nat → Int32) (mbits : Nat → Int32) (msize : Nat → Int32) (mnumber : Nat → Int32) (x1 : Int32) (x2 : Int32) (R : Int32) (mm_r : Nat → Int32) (mfound_r : Nat → Int32) (hf : f_X7_turn mm mfound x1 x2 = some (R, mm_r, mfound_r)) : Met l yX7_turn (ik_ws yX7_turn cX7_turn 3 (some .int)) ({ frames := 2, cells := 0, slots := 0, locals := 46 } : Room) (ik_P D cI cS [.ref h0, .int x1, .int x2] (wz_X7 cI cS h0 h1 h2 h3 h4 h5 h6 h7 h8 h9 h10 h11 misKept mtaped msort mfrom mto mvalue mbad mm mkept mwas mother mfound mwarm mdrip mtape mbits msize mnumber)) (ik_Q (some (.int R)) D (wz_X7 cI cS h0 h1 h2 h3 h4 h5 h6 h7 h8 h9 h10 h11 misKept mtaped msort mfrom mto mvalue mbad mm_r mkept mwas mother mfound_r mwarm mdrip mtape mbits msize mnumber) (wz_X7 cI cS h0 h1 h2 h3 h4 h5 h6 h7 h8 h9 h10 h11 misKept mtaped msort mfrom mto mvalue mbad mm mkept mwas mother mfound mwarm mdrip mtape mbits msize mnumber)) 0 0 (ik_in (wz_X7 cI cS h0 h1 h2 h3 h4 h5 h6 h7 h8 h9 h10 h11 misKept mtaped msort mfrom mto mvalue mbad mm mkept mwas mother mfound mwarm mdrip mtape mbits msize mnumber)) := by
  refine ik_metW RX7 rfl (by decide) (Nat.le_of_ble_eq_true rfl) [(0, .ref h0), (1, .int x1), (2, .int x2)] rfl ?_
  intro p e s m below meth c C hr hlk
  unfold f_X7_turn at hf
  refine ik_aload_n C 0 rfl rfl dX7_turn_0 ?_
  refine ik_iload_n C 1 rfl rfl dX7_turn_1 ?_
  obtain ⟨r1, hc1, hf⟩ := ik_b1s hf
  refine ik_goR (ik_runV C (c_X7_isBlock l D cI cS h0 h1 h2 h3 h4 h5 h6 h7 h8 h9 h10 h11 misKept mtaped msort mfrom mto mvalue mbad mm mkept mwas mother mfound mwarm mdrip mtape mbits msize mnumber x1 r1 hc1) mv_X7_isBlock wl_9_17 ⟨rfl, rfl, Nat.le_of_ble_eq_true rfl, Nat.le_of_ble_eq_true rfl⟩ [0, 1, 2, 3, 4, 5, 6, 7, 8, 9, 10, 11] rfl (by decide) 0 rfl rfl rfl rfl (Nat.le_of_ble_eq_true rfl) dX7_turn_2) rfl ?_
  refine ik_if_eq C 29 dX7_turn_5 (by decide) (fun hc => ?_) (fun hc => ?_)
  · have hf := ik_pos hc hf
    refine ik_aload_n C 0 rfl rfl dX7_turn_29 ?_
    refine ik_ldc C wl_6_14 dX7_turn_30 ?_
    obtain ⟨r2, g3, hc3, hf⟩ := ik_b2s hf
    refine ik_goW [0, 1, 2, 3, 4, 5, 6, 7, 8, 9, 10, 11] rfl rfl (wz_X7 cI cS h0 h1 h2 h3 h4 h5 h6 h7 h8 h9 h10 h11 misKept mtaped msort mfrom mto mvalue mbad mm mkept mwas mother g3 mwarm mdrip mtape mbits msize mnumber) rfl (ik_runV C (c_X7_finds l D cI cS h0 h1 h2 h3 h4 h5 h6 h7 h8 h9 h10 h11 misKept mtaped msort mfrom mto mvalue mbad mm mkept mwas mother mfound mwarm mdrip mtape mbits msize mnumber (-1000001 : Int32) r2 g3 hc3) mv_X7_finds wl_7_8 ⟨rfl, rfl, Nat.le_of_ble_eq_true rfl, Nat.le_of_ble_eq_true rfl⟩ [0, 1, 2, 3, 4, 5, 6, 7, 8, 9, 10, 11] rfl (by decide) 0 rfl rfl rfl rfl (Nat.le_of_ble_eq_true rfl) dX7_turn_32) rfl ?_
    cases hf
    exact ik_iretW C hr hlk dX7_turn_35
  · have hf := ik_neg hc hf
    refine ik_iload_n C 2 rfl rfl dX7_turn_8 ?_
    obtain ⟨r2, hc2, hf⟩ := ik_b1s hf
    refine ik_goR (ik_runS C (c_X7_isKind l D cI cS x2 r2 hc2) ms_X7_isKind wl_6_17 ⟨rfl, rfl, Nat.le_of_ble_eq_true rfl, Nat.le_of_ble_eq_true rfl⟩ [] rfl (by decide) rfl rfl (Nat.le_of_ble_eq_true rfl) dX7_turn_9) rfl ?_
    refine ik_if_eq C 29 dX7_turn_12 (by decide) (fun hc => ?_) (fun hc => ?_)
    · have hf := ik_pos hc hf
      refine ik_aload_n C 0 rfl rfl dX7_turn_29 ?_
      refine ik_ldc C wl_6_14 dX7_turn_30 ?_
      obtain ⟨r3, g4, hc4, hf⟩ := ik_b2s hf
      refine ik_goW [0, 1, 2, 3, 4, 5, 6, 7, 8, 9, 10, 11] rfl rfl (wz_X7 cI cS h0 h1 h2 h3 h4 h5 h6 h7 h8 h9 h10 h11 misKept mtaped msort mfrom mto mvalue mbad mm mkept mwas mother g4 mwarm mdrip mtape mbits msize mnumber) rfl (ik_runV C (c_X7_finds l D cI cS h0 h1 h2 h3 h4 h5 h6 h7 h8 h9 h10 h11 misKept mtaped msort mfrom mto mvalue mbad mm mkept mwas mother mfound mwarm mdrip mtape mbits msize mnumber (-1000001 : Int32) r3 g4 hc4) mv_X7_finds wl_7_8 ⟨rfl, rfl, Nat.le_of_ble_eq_true rfl, Nat.le_of_ble_eq_true rfl⟩ [0, 1, 2, 3, 4, 5, 6, 7, 8, 9, 10, 11] rfl (by decide) 0 rfl rfl rfl rfl (Nat.le_of_ble_eq_true rfl) dX7_turn_32) rfl ?_
      cases hf
      exact ik_iretW C hr hlk dX7_turn_35
    · have hf := ik_neg hc hf
      refine ik_aload_n C 0 rfl rfl dX7_turn_15 ?_
      refine ik_bipush (v := (24 : Int32)) C (by decide) dX7_turn_16 ?_
      refine ik_iconst (v := (3 : Int32)) C (by decide) dX7_turn_18 ?_
      refine ik_iload_n C 1 rfl rfl dX7_turn_19 ?_
      refine ik_imul C dX7_turn_20 ?_
      refine ik_iadd C dX7_turn_21 ?_
      refine ik_iload_n C 2 rfl rfl dX7_turn_22 ?_
      obtain ⟨r3, g4, hc4, hf⟩ := ik_b2s hf
      refine ik_goW [0, 1, 2, 3, 4, 5, 6, 7, 8, 9, 10, 11] rfl rfl (wz_X7 cI cS h0 h1 h2 h3 h4 h5 h6 h7 h8 h9 h10 h11 misKept mtaped msort mfrom mto mvalue mbad g4 mkept mwas mother mfound mwarm mdrip mtape mbits msize mnumber) rfl (ik_runV C (c_X7_becomes l D cI cS h0 h1 h2 h3 h4 h5 h6 h7 h8 h9 h10 h11 misKept mtaped msort mfrom mto mvalue mbad mm mkept mwas mother mfound mwarm mdrip mtape mbits msize mnumber ((24 : Int32) + ((3 : Int32) * x1)) x2 r3 g4 hc4) mv_X7_becomes wl_12_4 ⟨rfl, rfl, Nat.le_of_ble_eq_true rfl, Nat.le_of_ble_eq_true rfl⟩ [0, 1, 2, 3, 4, 5, 6, 7, 8, 9, 10, 11] rfl (by decide) 0 rfl rfl rfl rfl (Nat.le_of_ble_eq_true rfl) dX7_turn_23) rfl ?_
      refine ik_goto C 35 dX7_turn_26 (by decide) ?_
      cases hf
      exact ik_iretW C hr hlk dX7_turn_35
theorem mv_X7_take : ik_V yX7_take RX7 cX7_take 4 (some .int) 2 := ⟨wl_12_17, wl_12_18, wl_1_5, wl_12_19, by decide +kernel⟩
set_option maxHeartbeats 4000000 in
set_option maxRecDepth 100000 in
theorem c_X7_take (l : Launch) (D : va_G) (cI cS : ClassId) (h0 h1 h2 h3 h4 h5 h6 h7 h8 h9 h10 h11 : Nat) (misKept : Int32) (mtaped : Int32) (msort : Int32) (mfrom : Int32) (mto : Int32) (mvalue : Int32) (mbad : Int32) (mm : Nat → Int32) (mkept : Nat → Int32) (mwas : Nat → Int32) (mother : Nat → Int32) (mfound : Nat → Int32) (mwarm : Nat → Int32) (mdrip : Nat → Int32) (mtape : Nat → Int32) (mbits : Nat → Int32) (msize : Nat → Int32) (mnumber : Nat → Int32) (x1 : Int32) (x2 : Int32) (R : Int32) (mm_r : Nat → Int32) (mfound_r : Nat → Int32) (hf : f_X7_take mm mfound x1 x2 = some (R, mm_r, mfound_r)) : Met l yX7_take (ik_ws yX7_take cX7_take 4 (some .int)) ({ frames := 2, cells := 0, slots := 0, locals := 46 } : Room) (ik_P D cI cS [.ref h0, .int x1, .int x2] (wz_X7 cI cS h0 h1 h2 h3 h4 h5 h6 h7 h8 h9 h10 h11 misKept mtaped msort mfrom mto mvalue mbad mm mkept mwas mother mfound mwarm mdrip mtape mbits msize mnumber)) (ik_Q (some (.int R)) D (wz_X7 cI cS h0 h1 h2 h3 h4 h5 h6 h7 h8 h9 h10 h11 misKept mtaped msort mfrom mto mvalue mbad mm_r mkept mwas mother mfound_r mwarm mdrip mtape mbits msize mnumber) (wz_X7 cI cS h0 h1 h2 h3 h4 h5 h6 h7 h8 h9 h10 h11 misKept mtaped msort mfrom mto mvalue mbad mm mkept mwas mother mfound mwarm mdrip mtape mbits msize mnumber)) 0 0 (ik_in (wz_X7 cI cS h0 h1 h2 h3 h4 h5 h6 h7 h8 h9 h10 h11 misKept mtaped msort mfrom mto mvalue mbad mm mkept mwas mother mfound mwarm mdrip mtape mbits msize mnumber)) := by
  refine ik_metW RX7 rfl (by decide) (Nat.le_of_ble_eq_true rfl) [(0, .ref h0), (1, .int x1), (2, .int x2)] rfl ?_
  intro p e s m below meth c C hr hlk
  unfold f_X7_take at hf
  refine ik_aload_n C 0 rfl rfl dX7_take_0 ?_
  refine ik_iload_n C 1 rfl rfl dX7_take_1 ?_
  obtain ⟨r1, hc1, hf⟩ := ik_b1s hf
  refine ik_goR (ik_runV C (c_X7_isBlock l D cI cS h0 h1 h2 h3 h4 h5 h6 h7 h8 h9 h10 h11 misKept mtaped msort mfrom mto mvalue mbad mm mkept mwas mother mfound mwarm mdrip mtape mbits msize mnumber x1 r1 hc1) mv_X7_isBlock wl_9_17 ⟨rfl, rfl, Nat.le_of_ble_eq_true rfl, Nat.le_of_ble_eq_true rfl⟩ [0, 1, 2, 3, 4, 5, 6, 7, 8, 9, 10, 11] rfl (by decide) 0 rfl rfl rfl rfl (Nat.le_of_ble_eq_true rfl) dX7_take_2) rfl ?_
  refine ik_if_eq C 15 dX7_take_5 (by decide) (fun hc => ?_) (fun hc => ?_)
  · have hf := ik_pos hc hf
    refine ik_aload_n C 0 rfl rfl dX7_take_15 ?_
    refine ik_ldc C wl_6_14 dX7_take_16 ?_
    obtain ⟨r2, g3, hc3, hf⟩ := ik_b2s hf
    refine ik_goW [0, 1, 2, 3, 4, 5, 6, 7, 8, 9, 10, 11] rfl rfl (wz_X7 cI cS h0 h1 h2 h3 h4 h5 h6 h7 h8 h9 h10 h11 misKept mtaped msort mfrom mto mvalue mbad mm mkept mwas mother g3 mwarm mdrip mtape mbits msize mnumber) rfl (ik_runV C (c_X7_finds l D cI cS h0 h1 h2 h3 h4 h5 h6 h7 h8 h9 h10 h11 misKept mtaped msort mfrom mto mvalue mbad mm mkept mwas mother mfound mwarm mdrip mtape mbits msize mnumber (-1000001 : Int32) r2 g3 hc3) mv_X7_finds wl_7_8 ⟨rfl, rfl, Nat.le_of_ble_eq_true rfl, Nat.le_of_ble_eq_true rfl⟩ [0, 1, 2, 3, 4, 5, 6, 7, 8, 9, 10, 11] rfl (by decide) 0 rfl rfl rfl rfl (Nat.le_of_ble_eq_true rfl) dX7_take_18) rfl ?_
    cases hf
    exact ik_iretW C hr hlk dX7_take_21
  · have hf := ik_neg hc hf
    refine ik_iload_n C 2 rfl rfl dX7_take_8 ?_
    obtain ⟨r2, hc2, hf⟩ := ik_b1s hf
    refine ik_goR (ik_runS C (c_X7_isCell l D cI cS x2 r2 hc2) ms_X7_isCell wl_7_0 ⟨rfl, rfl, Nat.le_of_ble_eq_true rfl, Nat.le_of_ble_eq_true rfl⟩ [] rfl (by decide) rfl rfl (Nat.le_of_ble_eq_true rfl) dX7_take_9) rfl ?_
    refine ik_if_ne C 22 dX7_take_12 (by decide) (fun hc => ?_) (fun hc => ?_)
    · have hf := ik_neg hc hf
      refine ik_aload_n C 0 rfl rfl dX7_take_22 ?_
      refine ik_iload_n C 2 rfl rfl dX7_take_23 ?_
      obtain ⟨r3, hc3, hf⟩ := ik_b1s hf
      refine ik_goR (ik_runV C (c_X7_blockOn l D cI cS h0 h1 h2 h3 h4 h5 h6 h7 h8 h9 h10 h11 misKept mtaped msort mfrom mto mvalue mbad mm mkept mwas mother mfound mwarm mdrip mtape mbits msize mnumber x2 r3 hc3) mv_X7_blockOn wl_7_12 ⟨rfl, rfl, Nat.le_of_ble_eq_true rfl, Nat.le_of_ble_eq_true rfl⟩ [0, 1, 2, 3, 4, 5, 6, 7, 8, 9, 10, 11] rfl (by decide) 0 rfl rfl rfl rfl (Nat.le_of_ble_eq_true rfl) dX7_take_24) rfl ?_
      refine ik_istore_n C [(3, .int r3), (0, .ref h0), (1, .int x1), (2, .int x2)] rfl (by decide) rfl dX7_take_27 ?_
      refine ik_aload_n C 1 rfl rfl dX7_take_28 ?_
      refine ik_iload_n C 2 rfl rfl dX7_take_29 ?_
      obtain ⟨r4, hc4, hf⟩ := ik_b1s hf
      refine ik_goR (ik_runV C (c_X7_isGone l D cI cS h0 h1 h2 h3 h4 h5 h6 h7 h8 h9 h10 h11 misKept mtaped msort mfrom mto mvalue mbad mm mkept mwas mother mfound mwarm mdrip mtape mbits msize mnumber x1 r4 hc4) mv_X7_isGone wl_10_5 ⟨rfl, rfl, Nat.le_of_ble_eq_true rfl, Nat.le_of_ble_eq_true rfl⟩ [0, 1, 2, 3, 4, 5, 6, 7, 8, 9, 10, 11] rfl (by decide) 0 rfl rfl rfl rfl (Nat.le_of_ble_eq_true rfl) dX7_take_30) rfl ?_
      refine ik_if_ne C 45 dX7_take_33 (by decide) (fun hc => ?_) (fun hc => ?_)
      · have hf := ik_neg hc hf
        refine ik_aload_n C 1 rfl rfl dX7_take_45 ?_
        refine ik_ldc C wl_6_16 dX7_take_46 ?_
        obtain ⟨r5, g6, hc6, hf⟩ := ik_b2s hf
        refine ik_goW [0, 1, 2, 3, 4, 5, 6, 7, 8, 9, 10, 11] rfl rfl (wz_X7 cI cS h0 h1 h2 h3 h4 h5 h6 h7 h8 h9 h10 h11 misKept mtaped msort mfrom mto mvalue mbad mm mkept mwas mother g6 mwarm mdrip mtape mbits msize mnumber) rfl (ik_runV C (c_X7_finds l D cI cS h0 h1 h2 h3 h4 h5 h6 h7 h8 h9 h10 h11 misKept mtaped msort mfrom mto mvalue mbad mm mkept mwas mother mfound mwarm mdrip mtape mbits msize mnumber (-1000005 : Int32) r5 g6 hc6) mv_X7_finds wl_7_8 ⟨rfl, rfl, Nat.le_of_ble_eq_true rfl, Nat.le_of_ble_eq_true rfl⟩ [0, 1, 2, 3, 4, 5, 6, 7, 8, 9, 10, 11] rfl (by decide) 0 rfl rfl rfl rfl (Nat.le_of_ble_eq_true rfl) dX7_take_48) rfl ?_
        cases hf
        exact ik_iretW C hr hlk dX7_take_51
      · have hf := ik_pos hc hf
        refine ik_iload_n C 0 rfl rfl dX7_take_36 ?_
        refine ik_if_lt C 52 dX7_take_37 (by decide) (fun hc => ?_) (fun hc => ?_)
        · have hf := ik_pos hc hf
          refine ik_aload_n C 1 rfl rfl dX7_take_52 ?_
          refine ik_bipush (v := (24 : Int32)) C (by decide) dX7_take_53 ?_
          refine ik_iconst (v := (3 : Int32)) C (by decide) dX7_take_55 ?_
          refine ik_iload_n C 2 rfl rfl dX7_take_56 ?_
          refine ik_imul C dX7_take_57 ?_
          refine ik_iadd C dX7_take_58 ?_
          refine ik_iconst (v := (1 : Int32)) C (by decide) dX7_take_59 ?_
          refine ik_iadd C dX7_take_60 ?_
          refine ik_iload_n C 3 rfl rfl dX7_take_61 ?_
          obtain ⟨r5, g6, hc6, hf⟩ := ik_b2s hf
          refine ik_goW [0, 1, 2, 3, 4, 5, 6, 7, 8, 9, 10, 11] rfl rfl (wz_X7 cI cS h0 h1 h2 h3 h4 h5 h6 h7 h8 h9 h10 h11 misKept mtaped msort mfrom mto mvalue mbad g6 mkept mwas mother mfound mwarm mdrip mtape mbits msize mnumber) rfl (ik_runV C (c_X7_becomes l D cI cS h0 h1 h2 h3 h4 h5 h6 h7 h8 h9 h10 h11 misKept mtaped msort mfrom mto mvalue mbad mm mkept mwas mother mfound mwarm mdrip mtape mbits msize mnumber (((24 : Int32) + ((3 : Int32) * x1)) + (1 : Int32)) x2 r5 g6 hc6) mv_X7_becomes wl_12_4 ⟨rfl, rfl, Nat.le_of_ble_eq_true rfl, Nat.le_of_ble_eq_true rfl⟩ [0, 1, 2, 3, 4, 5, 6, 7, 8, 9, 10, 11] rfl (by decide) 0 rfl rfl rfl rfl (Nat.le_of_ble_eq_true rfl) dX7_take_62) rfl ?_
          cases hf
          exact ik_iretW C hr hlk dX7_take_65
        · have hf := ik_neg hc hf
          refine ik_iload_n C 0 rfl rfl dX7_take_40 ?_
          refine ik_iload_n C 2 rfl rfl dX7_take_41 ?_
          refine ik_icmp_eq C 52 dX7_take_42 (by decide) (fun hc => ?_) (fun hc => ?_)
          · have hf := ik_pos hc hf
            refine ik_aload_n C 1 rfl rfl dX7_take_52 ?_
            refine ik_bipush (v := (24 : Int32)) C (by decide) dX7_take_53 ?_
            refine ik_iconst (v := (3 : Int32)) C (by decide) dX7_take_55 ?_
            refine ik_iload_n C 2 rfl rfl dX7_take_56 ?_
            refine ik_imul C dX7_take_57 ?_
            refine ik_iadd C dX7_take_58 ?_
            refine ik_iconst (v := (1 : Int32)) C (by decide) dX7_take_59 ?_
            refine ik_iadd C dX7_take_60 ?_
            refine ik_iload_n C 3 rfl rfl dX7_take_61 ?_
            obtain ⟨r5, g6, hc6, hf⟩ := ik_b2s hf
            refine ik_goW [0, 1, 2, 3, 4, 5, 6, 7, 8, 9, 10, 11] rfl rfl (wz_X7 cI cS h0 h1 h2 h3 h4 h5 h6 h7 h8 h9 h10 h11 misKept mtaped msort mfrom mto mvalue mbad g6 mkept mwas mother mfound mwarm mdrip mtape mbits msize mnumber) rfl (ik_runV C (c_X7_becomes l D cI cS h0 h1 h2 h3 h4 h5 h6 h7 h8 h9 h10 h11 misKept mtaped msort mfrom mto mvalue mbad mm mkept mwas mother mfound mwarm mdrip mtape mbits msize mnumber (((24 : Int32) + ((3 : Int32) * x1)) + (1 : Int32)) x2 r5 g6 hc6) mv_X7_becomes wl_12_4 ⟨rfl, rfl, Nat.le_of_ble_eq_true rfl, Nat.le_of_ble_eq_true rfl⟩ [0, 1, 2, 3, 4, 5, 6, 7, 8, 9, 10, 11] rfl (by decide) 0 rfl rfl rfl rfl (Nat.le_of_ble_eq_true rfl) dX7_take_62) rfl ?_
            cases hf
            exact ik_iretW C hr hlk dX7_take_65
          · have hf := ik_neg hc hf
            refine ik_aload_n C 1 rfl rfl dX7_take_45 ?_
            refine ik_ldc C wl_6_16 dX7_take_46 ?_
            obtain ⟨r5, g6, hc6, hf⟩ := ik_b2s hf
            refine ik_goW [0, 1, 2, 3, 4, 5, 6, 7, 8, 9, 10, 11] rfl rfl (wz_X7 cI cS h0 h1 h2 h3 h4 h5 h6 h7 h8 h9 h10 h11 misKept mtaped msort mfrom mto mvalue mbad mm mkept mwas mother g6 mwarm mdrip mtape mbits msize mnumber) rfl (ik_runV C (c_X7_finds l D cI cS h0 h1 h2 h3 h4 h5 h6 h7 h8 h9 h10 h11 misKept mtaped msort mfrom mto mvalue mbad mm mkept mwas mother mfound mwarm mdrip mtape mbits msize mnumber (-1000005 : Int32) r5 g6 hc6) mv_X7_finds wl_7_8 ⟨rfl, rfl, Nat.le_of_ble_eq_true rfl, Nat.le_of_ble_eq_true rfl⟩ [0, 1, 2, 3, 4, 5, 6, 7, 8, 9, 10, 11] rfl (by decide) 0 rfl rfl rfl rfl (Nat.le_of_ble_eq_true rfl) dX7_take_48) rfl ?_
            cases hf
            exact ik_iretW C hr hlk dX7_take_51
    · have hf := ik_pos hc hf
      refine ik_aload_n C 0 rfl rfl dX7_take_15 ?_
      refine ik_ldc C wl_6_14 dX7_take_16 ?_
      obtain ⟨r3, g4, hc4, hf⟩ := ik_b2s hf
      refine ik_goW [0, 1, 2, 3, 4, 5, 6, 7, 8, 9, 10, 11] rfl rfl (wz_X7 cI cS h0 h1 h2 h3 h4 h5 h6 h7 h8 h9 h10 h11 misKept mtaped msort mfrom mto mvalue mbad mm mkept mwas mother g4 mwarm mdrip mtape mbits msize mnumber) rfl (ik_runV C (c_X7_finds l D cI cS h0 h1 h2 h3 h4 h5 h6 h7 h8 h9 h10 h11 misKept mtaped msort mfrom mto mvalue mbad mm mkept mwas mother mfound mwarm mdrip mtape mbits msize mnumber (-1000001 : Int32) r3 g4 hc4) mv_X7_finds wl_7_8 ⟨rfl, rfl, Nat.le_of_ble_eq_true rfl, Nat.le_of_ble_eq_true rfl⟩ [0, 1, 2, 3, 4, 5, 6, 7, 8, 9, 10, 11] rfl (by decide) 0 rfl rfl rfl rfl (Nat.le_of_ble_eq_true rfl) dX7_take_18) rfl ?_
      cases hf
      exact ik_iretW C hr hlk dX7_take_21
theorem mv_X7_on : ik_V yX7_on RX7 cX7_on 2 (some .int) 1 := ⟨wl_13_1, wl_13_2, wl_1_5, wl_13_3, by decide +kernel⟩
set_option maxHeartbeats 4000000 in
set_option maxRecDepth 100000 in
theorem c_X7_on (l : Launch) (D : va_G) (cI cS : ClassId) (h0 h1 h2 h3 h4 h5 h6 h7 h8 h9 h10 h11 : Nat) (misKept : Int32) (mtaped : Int32) (msort : Int32) (mfrom : Int32) (mto : Int32) (mvalue : Int32) (mbad : Int32) (mm : Nat → Int32) (mkept : Nat → Int32) (mwas : Nat → Int32) (mother : Nat → Int32) (mfound : Nat → Int32) (mwarm : Nat → Int32) (mdrip : Nat → Int32) (mtape : Nat → Int32) (mbits : Nat → Int32) (msize : Nat → Int32) (mnumber : Nat → Int32) (x1 : Int32) (R : Int32) (mfound_r : Nat → Int32) (hf : f_X7_on mm mfound x1 = some (R, mfound_r)) : Met l yX7_on (ik_ws yX7_on cX7_on 2 (some .int)) ({ frames := 2, cells := 0, slots := 0, locals := 45 } : Room) (ik_P D cI cS [.ref h0, .int x1] (wz_X7 cI cS h0 h1 h2 h3 h4 h5 h6 h7 h8 h9 h10 h11 misKept mtaped msort mfrom mto mvalue mbad mm mkept mwas mother mfound mwarm mdrip mtape mbits msize mnumber)) (ik_Q (some (.int R)) D (wz_X7 cI cS h0 h1 h2 h3 h4 h5 h6 h7 h8 h9 h10 h11 misKept mtaped msort mfrom mto mvalue mbad mm mkept mwas mother mfound_r mwarm mdrip mtape mbits msize mnumber) (wz_X7 cI cS h0 h1 h2 h3 h4 h5 h6 h7 h8 h9 h10 h11 misKept mtaped msort mfrom mto mvalue mbad mm mkept mwas mother mfound mwarm mdrip mtape mbits msize mnumber)) 0 0 (ik_in (wz_X7 cI cS h0 h1 h2 h3 h4 h5 h6 h7 h8 h9 h10 h11 misKept mtaped msort mfrom mto mvalue mbad mm mkept mwas mother mfound mwarm mdrip mtape mbits msize mnumber)) := by
  refine ik_metW RX7 rfl (by decide) (Nat.le_of_ble_eq_true rfl) [(0, .ref h0), (1, .int x1)] rfl ?_
  intro p e s m below meth c C hr hlk
  unfold f_X7_on at hf
  refine ik_iload_n C 1 rfl rfl dX7_on_0 ?_
  obtain ⟨r1, hc1, hf⟩ := ik_b1s hf
  refine ik_goR (ik_runS C (c_X7_isCell l D cI cS x1 r1 hc1) ms_X7_isCell wl_7_0 ⟨rfl, rfl, Nat.le_of_ble_eq_true rfl, Nat.le_of_ble_eq_true rfl⟩ [] rfl (by decide) rfl rfl (Nat.le_of_ble_eq_true rfl) dX7_on_1) rfl ?_
  refine ik_if_eq C 15 dX7_on_4 (by decide) (fun hc => ?_) (fun hc => ?_)
  · have hf := ik_pos hc hf
    refine ik_aload_n C 0 rfl rfl dX7_on_15 ?_
    refine ik_ldc C wl_6_14 dX7_on_16 ?_
    obtain ⟨r2, g3, hc3, hf⟩ := ik_b2s hf
    refine ik_goW [0, 1, 2, 3, 4, 5, 6, 7, 8, 9, 10, 11] rfl rfl (wz_X7 cI cS h0 h1 h2 h3 h4 h5 h6 h7 h8 h9 h10 h11 misKept mtaped msort mfrom mto mvalue mbad mm mkept mwas mother g3 mwarm mdrip mtape mbits msize mnumber) rfl (ik_runV C (c_X7_finds l D cI cS h0 h1 h2 h3 h4 h5 h6 h7 h8 h9 h10 h11 misKept mtaped msort mfrom mto mvalue mbad mm mkept mwas mother mfound mwarm mdrip mtape mbits msize mnumber (-1000001 : Int32) r2 g3 hc3) mv_X7_finds wl_7_8 ⟨rfl, rfl, Nat.le_of_ble_eq_true rfl, Nat.le_of_ble_eq_true rfl⟩ [0, 1, 2, 3, 4, 5, 6, 7, 8, 9, 10, 11] rfl (by decide) 0 rfl rfl rfl rfl (Nat.le_of_ble_eq_true rfl) dX7_on_18) rfl ?_
    cases hf
    exact ik_iretW C hr hlk dX7_on_21
  · have hf := ik_neg hc hf
    refine ik_aload_n C 0 rfl rfl dX7_on_7 ?_
    refine ik_iload_n C 1 rfl rfl dX7_on_8 ?_
    obtain ⟨r2, hc2, hf⟩ := ik_b1s hf
    refine ik_goR (ik_runV C (c_X7_blockOn l D cI cS h0 h1 h2 h3 h4 h5 h6 h7 h8 h9 h10 h11 misKept mtaped msort mfrom mto mvalue mbad mm mkept mwas mother mfound mwarm mdrip mtape mbits msize mnumber x1 r2 hc2) mv_X7_blockOn wl_7_12 ⟨rfl, rfl, Nat.le_of_ble_eq_true rfl, Nat.le_of_ble_eq_true rfl⟩ [0, 1, 2, 3, 4, 5, 6, 7, 8, 9, 10, 11] rfl (by decide) 0 rfl rfl rfl rfl (Nat.le_of_ble_eq_true rfl) dX7_on_9) rfl ?_
    refine ik_goto C 21 dX7_on_12 (by decide) ?_
    cases hf
    exact ik_iretW C hr hlk dX7_on_21
theorem ms_X7_distance : ik_S yX7_distance RX7 cX7_distance 4 (some .int) 2 := ⟨wl_14_21, wl_1_5, wl_14_22, by decide +kernel⟩
set_option maxHeartbeats 4000000 in
set_option maxRecDepth 100000 in
theorem c_X7_distance (l : Launch) (D : va_G) (cI cS : ClassId) (x0 : Int32) (x1 : Int32) (R : Int32) (hf : f_X7_distance x0 x1 = some (R)) : Met l yX7_distance (ik_ws yX7_distance cX7_distance 4 (some .int)) ({ frames := 0, cells := 0, slots := 0, locals := 0 } : Room) (ik_P D cI cS [.int x0, .int x1] (wz_none cI cS)) (ik_R (some (.int R))) 0 0 ik_no := by
  refine ik_metR RX7 rfl (by decide) (Nat.le_of_ble_eq_true rfl) [(0, .int x0), (1, .int x1)] rfl ?_
  intro p e s m below meth c C hr hlk
  unfold f_X7_distance at hf
  refine ik_iload_n C 0 rfl rfl dX7_distance_0 ?_
  refine ik_bipush (v := (8 : Int32)) C (by decide) dX7_distance_1 ?_
  refine ik_idiv C (by decide) dX7_distance_3 ?_
  refine ik_iload_n C 1 rfl rfl dX7_distance_4 ?_
  refine ik_bipush (v := (8 : Int32)) C (by decide) dX7_distance_5 ?_
  refine ik_idiv C (by decide) dX7_distance_7 ?_
  refine ik_isub C dX7_distance_8 ?_
  refine ik_istore_n C [(2, .int ((x0 / (8 : Int32)) - (x1 / (8 : Int32)))), (0, .int x0), (1, .int x1)] rfl (by decide) rfl dX7_distance_9 ?_
  refine ik_iload_n C 1 rfl rfl dX7_distance_10 ?_
  refine ik_bipush (v := (8 : Int32)) C (by decide) dX7_distance_11 ?_
  refine ik_irem C (by decide) dX7_distance_13 ?_
  refine ik_iload_n C 2 rfl rfl dX7_distance_14 ?_
  refine ik_bipush (v := (8 : Int32)) C (by decide) dX7_distance_15 ?_
  refine ik_irem C (by decide) dX7_distance_17 ?_
  refine ik_isub C dX7_distance_18 ?_
  refine ik_istore_n C [(3, .int ((x0 - x0 / (8 : Int32) * (8 : Int32)) - (x1 - x1 / (8 : Int32) * (8 : Int32)))), (2, .int ((x0 / (8 : Int32)) - (x1 / (8 : Int32)))), (0, .int x0), (1, .int x1)] rfl (by decide) rfl dX7_distance_19 ?_
  refine ik_iload_n C 1 rfl rfl dX7_distance_20 ?_
  refine ik_if_ge C 29 dX7_distance_21 (by decide) (fun hc => ?_) (fun hc => ?_)
  · have hf := ik_pos hc hf
    refine ik_iload_n C 1 rfl rfl dX7_distance_29 ?_
    refine ik_iload_n C 0 rfl rfl dX7_distance_30 ?_
    refine ik_if_ge C 39 dX7_distance_31 (by decide) (fun hc => ?_) (fun hc => ?_)
    · have hf := ik_pos hc hf
      refine ik_iload_n C 0 rfl rfl dX7_distance_39 ?_
      refine ik_iadd C dX7_distance_40 ?_
      cases hf
      exact ik_iretR C hr hlk dX7_distance_41
    · have hf := ik_neg hc hf
      refine ik_iload_n C 0 rfl rfl dX7_distance_34 ?_
      refine ik_ineg C dX7_distance_35 ?_
      refine ik_goto C 40 dX7_distance_36 (by decide) ?_
      refine ik_iadd C dX7_distance_40 ?_
      cases hf
      exact ik_iretR C hr hlk dX7_distance_41
  · have hf := ik_neg hc hf
    refine ik_iload_n C 1 rfl rfl dX7_distance_24 ?_
    refine ik_ineg C dX7_distance_25 ?_
    refine ik_goto C 30 dX7_distance_26 (by decide) ?_
    refine ik_iload_n C 0 rfl rfl dX7_distance_30 ?_
    refine ik_if_ge C 39 dX7_distance_31 (by decide) (fun hc => ?_) (fun hc => ?_)
    · have hf := ik_pos hc hf
      refine ik_iload_n C 0 rfl rfl dX7_distance_39 ?_
      refine ik_iadd C dX7_distance_40 ?_
      cases hf
      exact ik_iretR C hr hlk dX7_distance_41
    · have hf := ik_neg hc hf
      refine ik_iload_n C 0 rfl rfl dX7_distance_34 ?_
      refine ik_ineg C dX7_distance_35 ?_
      refine ik_goto C 40 dX7_distance_36 (by decide) ?_
      refine ik_iadd C dX7_distance_40 ?_
      cases hf
      exact ik_iretR C hr hlk dX7_distance_41
theorem mv_X7_isLit : ik_V yX7_isLit RX7 cX7_isLit 2 (some .boolean) 1 := ⟨wl_14_17, wl_14_18, wl_1_5, wl_14_19, by decide +kernel⟩
set_option maxHeartbeats 4000000 in
set_option maxRecDepth 100000 in
theorem c_X7_isLit (l : Launch) (D : va_G) (cI cS : ClassId) (h0 h1 h2 h3 h4 h5 h6 h7 h8 h9 h10 h11 : Nat) (misKept : Int32) (mtaped : Int32) (msort : Int32) (mfrom : Int32) (mto : Int32) (mvalue : Int32) (mbad : Int32) (mm : Nat → Int32) (mkept : Nat → Int32) (mwas : Nat → Int32) (mother : Nat → Int32) (mfound : Nat → Int32) (mwarm : Nat → Int32) (mdrip : Nat → Int32) (mtape : Nat → Int32) (mbits : Nat → Int32) (msize : Nat → Int32) (mnumber : Nat → Int32) (x1 : Int32) (R : Int32) (hf : f_X7_isLit mm x1 = some (R)) : Met l yX7_isLit (ik_ws yX7_isLit cX7_isLit 2 (some .boolean)) ({ frames := 0, cells := 0, slots := 0, locals := 0 } : Room) (ik_P D cI cS [.ref h0, .int x1] (wz_X7 cI cS h0 h1 h2 h3 h4 h5 h6 h7 h8 h9 h10 h11 misKept mtaped msort mfrom mto mvalue mbad mm mkept mwas mother mfound mwarm mdrip mtape mbits msize mnumber)) (ik_R (some (.int R))) 0 0 ik_no := by
  refine ik_metR RX7 rfl (by decide) (Nat.le_of_ble_eq_true rfl) [(0, .ref h0), (1, .int x1)] rfl ?_
  intro p e s m below meth c C hr hlk
  unfold f_X7_isLit at hf
  refine ik_aload_n C 0 rfl rfl dX7_isLit_0 ?_
  refine ik_get C inlX7 0 rfl rfl 0 (by decide) wl_4_12 rfl (v := .ref h1) rfl dX7_isLit_1 ?_
  refine ik_bipush (v := (6 : Int32)) C (by decide) dX7_isLit_4 ?_
  refine ik_iconst (v := (3 : Int32)) C (by decide) dX7_isLit_6 ?_
  refine ik_iload_n C 1 rfl rfl dX7_isLit_7 ?_
  refine ik_imul C dX7_isLit_8 ?_
  refine ik_iadd C dX7_isLit_9 ?_
  refine ik_iconst (v := (2 : Int32)) C (by decide) dX7_isLit_10 ?_
  refine ik_iadd C dX7_isLit_11 ?_
  have hg := ik_gdi hf
  have hf := ik_gdk hf
  refine ik_iald C 1 rfl hg dX7_isLit_12 ?_
  refine ik_iconst (v := (1 : Int32)) C (by decide) dX7_isLit_13 ?_
  refine ik_icmp_ne C 21 dX7_isLit_14 (by decide) (fun hc => ?_) (fun hc => ?_)
  · have hf := ik_neg hc hf
    refine ik_iconst (v := (0 : Int32)) C (by decide) dX7_isLit_21 ?_
    cases hf
    exact ik_zretR C hr (by decide) hlk dX7_isLit_22
  · have hf := ik_pos hc hf
    refine ik_iconst (v := (1 : Int32)) C (by decide) dX7_isLit_17 ?_
    refine ik_goto C 22 dX7_isLit_18 (by decide) ?_
    cases hf
    exact ik_zretR C hr (by decide) hlk dX7_isLit_22
theorem mv_X7_warmthOf : ik_V yX7_warmthOf RX7 cX7_warmthOf 4 (some .int) 1 := ⟨wl_14_13, wl_14_14, wl_1_5, wl_14_15, by decide +kernel⟩
set_option maxHeartbeats 4000000 in
set_option maxRecDepth 100000 in
theorem c_X7_warmthOf (l : Launch) (D : va_G) (cI cS : ClassId) (h0 h1 h2 h3 h4 h5 h6 h7 h8 h9 h10 h11 : Nat) (misKept : Int32) (mtaped : Int32) (msort : Int32) (mfrom : Int32) (mto : Int32) (mvalue : Int32) (mbad : Int32) (mm : Nat → Int32) (mkept : Nat → Int32) (mwas : Nat → Int32) (mother : Nat → Int32) (mfound : Nat → Int32) (mwarm : Nat → Int32) (mdrip : Nat → Int32) (mtape : Nat → Int32) (mbits : Nat → Int32) (msize : Nat → Int32) (mnumber : Nat → Int32) (x1 : Int32) (R : Int32) (hf : f_X7_warmthOf mm x1 = some (R)) : Met l yX7_warmthOf (ik_ws yX7_warmthOf cX7_warmthOf 4 (some .int)) ({ frames := 1, cells := 0, slots := 0, locals := 23 } : Room) (ik_P D cI cS [.ref h0, .int x1] (wz_X7 cI cS h0 h1 h2 h3 h4 h5 h6 h7 h8 h9 h10 h11 misKept mtaped msort mfrom mto mvalue mbad mm mkept mwas mother mfound mwarm mdrip mtape mbits msize mnumber)) (ik_R (some (.int R))) 0 0 ik_no := by
  refine ik_metR RX7 rfl (by decide) (Nat.le_of_ble_eq_true rfl) [(0, .ref h0), (1, .int x1)] rfl ?_
  intro p e s m below meth c C hr hlk
  unfold f_X7_warmthOf at hf
  refine ik_aload_n C 0 rfl rfl dX7_warmthOf_0 ?_
  refine ik_get C inlX7 0 rfl rfl 0 (by decide) wl_4_12 rfl (v := .ref h1) rfl dX7_warmthOf_1 ?_
  refine ik_iconst (v := (1 : Int32)) C (by decide) dX7_warmthOf_4 ?_
  refine ik_iald C 1 rfl (ik_vin (by decide)) dX7_warmthOf_5 ?_
  refine ik_istore_n C [(2, .int (mm ((1 : Int32)).toNatClampNeg)), (0, .ref h0), (1, .int x1)] rfl (by decide) rfl dX7_warmthOf_6 ?_
  refine ik_iconst (v := (0 : Int32)) C (by decide) dX7_warmthOf_7 ?_
  refine ik_istore_n C [(3, .int (0 : Int32)), (2, .int (mm ((1 : Int32)).toNatClampNeg)), (0, .ref h0), (1, .int x1)] rfl (by decide) rfl dX7_warmthOf_8 ?_
  have hL_9 : ∀ (n_9 : Nat) (x2_9 : Int32) (x3_9 : Int32), ik_lp2 (b_X7_warmthOf_9 mm x1) n_9 x2_9 x3_9 = some (R) → ik_G p l e ({ frames := 1, cells := 0, slots := 0, locals := 23 } : Room) s m ([.ref h0, .int x1] : List Value).toArray below meth c D ik_no (fun _ => True) 4 (MQ below (ik_R (some (.int R))) ([.ref h0, .int x1] : List Value).toArray s 0 0 ik_no) 9 [(3, .int x3_9), (2, .int x2_9), (0, .ref h0), (1, .int x1)] [] (wz_X7 cI cS h0 h1 h2 h3 h4 h5 h6 h7 h8 h9 h10 h11 misKept mtaped msort mfrom mto mvalue mbad mm mkept mwas mother mfound mwarm mdrip mtape mbits msize mnumber) := by
    intro n_9
    induction n_9 with
    | zero => intro _ _ hf; exact nomatch hf
    | succ n_9 ih_9 =>
      intro x2_9 x3_9 hf
      replace hf : b_X7_warmthOf_9 mm x1 (ik_lp2 (b_X7_warmthOf_9 mm x1) n_9) x2_9 x3_9 = some (R) := hf
      unfold b_X7_warmthOf_9 at hf
      refine ik_iload_n C 0 rfl rfl dX7_warmthOf_9 ?_
      refine ik_bipush (v := (6 : Int32)) C (by decide) dX7_warmthOf_10 ?_
      refine ik_icmp_ge C 67 dX7_warmthOf_12 (by decide) (fun hc => ?_) (fun hc => ?_)
      · have hf := ik_pos hc hf
        refine ik_iload_n C 1 rfl rfl dX7_warmthOf_67 ?_
        cases hf
        exact ik_iretR C hr hlk dX7_warmthOf_68
      · have hf := ik_neg hc hf
        refine ik_iload_n C 1 rfl rfl dX7_warmthOf_15 ?_
        refine ik_aload_n C 2 rfl rfl dX7_warmthOf_16 ?_
        refine ik_iload_n C 0 rfl rfl dX7_warmthOf_17 ?_
        obtain ⟨r1, hc1, hf⟩ := ik_b1s hf
        refine ik_goR (ik_runV C (c_X7_isLit l D cI cS h0 h1 h2 h3 h4 h5 h6 h7 h8 h9 h10 h11 misKept mtaped msort mfrom mto mvalue mbad mm mkept mwas mother mfound mwarm mdrip mtape mbits msize mnumber x3_9 r1 hc1) mv_X7_isLit wl_14_16 ⟨rfl, rfl, Nat.le_of_ble_eq_true rfl, Nat.le_of_ble_eq_true rfl⟩ [0, 1, 2, 3, 4, 5, 6, 7, 8, 9, 10, 11] rfl (by decide) 0 rfl rfl rfl rfl (Nat.le_of_ble_eq_true rfl) dX7_warmthOf_18) rfl ?_
        refine ik_if_eq C 58 dX7_warmthOf_21 (by decide) (fun hc => ?_) (fun hc => ?_)
        · have hf := ik_pos hc hf
          refine ik_iconst (v := (0 : Int32)) C (by decide) dX7_warmthOf_58 ?_
          refine ik_iadd C dX7_warmthOf_59 ?_
          refine ik_istore_n C [(2, .int (x2_9 + (0 : Int32))), (3, .int x3_9), (0, .ref h0), (1, .int x1)] rfl (by decide) rfl dX7_warmthOf_60 ?_
          refine ik_iinc C [(3, .int (x3_9 + (1 : Int32))), (2, .int (x2_9 + (0 : Int32))), (0, .ref h0), (1, .int x1)] 1 rfl rfl (by decide) rfl dX7_warmthOf_61 ?_
          refine ik_goto C 9 dX7_warmthOf_64 (by decide) ?_
          exact ik_sub [0, 1, 2, 3] [(3, .int (x3_9 + (1 : Int32))), (2, .int (x2_9 + (0 : Int32))), (0, .ref h0), (1, .int x1)] rfl (ih_9 (x2_9 + (0 : Int32)) (x3_9 + (1 : Int32)) hf)
        · have hf := ik_neg hc hf
          refine ik_aload_n C 2 rfl rfl dX7_warmthOf_24 ?_
          refine ik_get C inlX7 0 rfl rfl 0 (by decide) wl_4_12 rfl (v := .ref h1) rfl dX7_warmthOf_25 ?_
          refine ik_bipush (v := (6 : Int32)) C (by decide) dX7_warmthOf_28 ?_
          refine ik_iconst (v := (3 : Int32)) C (by decide) dX7_warmthOf_30 ?_
          refine ik_iload_n C 0 rfl rfl dX7_warmthOf_31 ?_
          refine ik_imul C dX7_warmthOf_32 ?_
          refine ik_iadd C dX7_warmthOf_33 ?_
          refine ik_iconst (v := (1 : Int32)) C (by decide) dX7_warmthOf_34 ?_
          refine ik_iadd C dX7_warmthOf_35 ?_
          have hg := ik_gdi hf
          have hf := ik_gdk hf
          refine ik_iald C 1 rfl hg dX7_warmthOf_36 ?_
          refine ik_iload_n C 3 rfl rfl dX7_warmthOf_37 ?_
          refine ik_aload_n C 2 rfl rfl dX7_warmthOf_38 ?_
          refine ik_get C inlX7 0 rfl rfl 0 (by decide) wl_4_12 rfl (v := .ref h1) rfl dX7_warmthOf_39 ?_
          refine ik_bipush (v := (6 : Int32)) C (by decide) dX7_warmthOf_42 ?_
          refine ik_iconst (v := (3 : Int32)) C (by decide) dX7_warmthOf_44 ?_
          refine ik_iload_n C 0 rfl rfl dX7_warmthOf_45 ?_
          refine ik_imul C dX7_warmthOf_46 ?_
          refine ik_iadd C dX7_warmthOf_47 ?_
          have hg := ik_gdi hf
          have hf := ik_gdk hf
          refine ik_iald C 1 rfl hg dX7_warmthOf_48 ?_
          obtain ⟨r2, hc2, hf⟩ := ik_b1s hf
          refine ik_goR (ik_runS C (c_X7_distance l D cI cS x1 (mm (((6 : Int32) + ((3 : Int32) * x3_9))).toNatClampNeg) r2 hc2) ms_X7_distance wl_14_20 ⟨rfl, rfl, Nat.le_of_ble_eq_true rfl, Nat.le_of_ble_eq_true rfl⟩ [] rfl (by decide) rfl rfl (Nat.le_of_ble_eq_true rfl) dX7_warmthOf_49) rfl ?_
          refine ik_iconst (v := (1 : Int32)) C (by decide) dX7_warmthOf_52 ?_
          refine ik_iadd C dX7_warmthOf_53 ?_
          have hg := ik_gni hf
          have hf := ik_gnk hf
          refine ik_idiv C hg dX7_warmthOf_54 ?_
          refine ik_goto C 59 dX7_warmthOf_55 (by decide) ?_
          refine ik_iadd C dX7_warmthOf_59 ?_
          refine ik_istore_n C [(2, .int (x2_9 + ((mm ((((6 : Int32) + ((3 : Int32) * x3_9)) + (1 : Int32))).toNatClampNeg) / (r2 + (1 : Int32))))), (3, .int x3_9), (0, .ref h0), (1, .int x1)] rfl (by decide) rfl dX7_warmthOf_60 ?_
          refine ik_iinc C [(3, .int (x3_9 + (1 : Int32))), (2, .int (x2_9 + ((mm ((((6 : Int32) + ((3 : Int32) * x3_9)) + (1 : Int32))).toNatClampNeg) / (r2 + (1 : Int32))))), (0, .ref h0), (1, .int x1)] 1 rfl rfl (by decide) rfl dX7_warmthOf_61 ?_
          refine ik_goto C 9 dX7_warmthOf_64 (by decide) ?_
          exact ik_sub [0, 1, 2, 3] [(3, .int (x3_9 + (1 : Int32))), (2, .int (x2_9 + ((mm ((((6 : Int32) + ((3 : Int32) * x3_9)) + (1 : Int32))).toNatClampNeg) / (r2 + (1 : Int32))))), (0, .ref h0), (1, .int x1)] rfl (ih_9 (x2_9 + ((mm ((((6 : Int32) + ((3 : Int32) * x3_9)) + (1 : Int32))).toNatClampNeg) / (r2 + (1 : Int32)))) (x3_9 + (1 : Int32)) hf)
  exact hL_9 ik_fu (mm ((1 : Int32)).toNatClampNeg) (0 : Int32) hf
theorem mv_X7_water : ik_V yX7_water RX7 cX7_water 5 (some .int) 2 := ⟨wl_14_9, wl_14_10, wl_1_5, wl_14_11, by decide +kernel⟩
set_option maxHeartbeats 4000000 in
set_option maxRecDepth 100000 in
theorem c_X7_water (l : Launch) (D : va_G) (cI cS : ClassId) (h0 h1 h2 h3 h4 h5 h6 h7 h8 h9 h10 h11 : Nat) (misKept : Int32) (mtaped : Int32) (msort : Int32) (mfrom : Int32) (mto : Int32) (mvalue : Int32) (mbad : Int32) (mm : Nat → Int32) (mkept : Nat → Int32) (mwas : Nat → Int32) (mother : Nat → Int32) (mfound : Nat → Int32) (mwarm : Nat → Int32) (mdrip : Nat → Int32) (mtape : Nat → Int32) (mbits : Nat → Int32) (msize : Nat → Int32) (mnumber : Nat → Int32) (x1 : Int32) (x2 : Int32) (R : Int32) (mm_r : Nat → Int32) (mfound_r : Nat → Int32) (hf : f_X7_water mm mfound x1 x2 = some (R, mm_r, mfound_r)) : Met l yX7_water (ik_ws yX7_water cX7_water 5 (some .int)) ({ frames := 2, cells := 0, slots := 0, locals := 46 } : Room) (ik_P D cI cS [.ref h0, .int x1, .int x2] (wz_X7 cI cS h0 h1 h2 h3 h4 h5 h6 h7 h8 h9 h10 h11 misKept mtaped msort mfrom mto mvalue mbad mm mkept mwas mother mfound mwarm mdrip mtape mbits msize mnumber)) (ik_Q (some (.int R)) D (wz_X7 cI cS h0 h1 h2 h3 h4 h5 h6 h7 h8 h9 h10 h11 misKept mtaped msort mfrom mto mvalue mbad mm_r mkept mwas mother mfound_r mwarm mdrip mtape mbits msize mnumber) (wz_X7 cI cS h0 h1 h2 h3 h4 h5 h6 h7 h8 h9 h10 h11 misKept mtaped msort mfrom mto mvalue mbad mm mkept mwas mother mfound mwarm mdrip mtape mbits msize mnumber)) 0 0 (ik_in (wz_X7 cI cS h0 h1 h2 h3 h4 h5 h6 h7 h8 h9 h10 h11 misKept mtaped msort mfrom mto mvalue mbad mm mkept mwas mother mfound mwarm mdrip mtape mbits msize mnumber)) := by
  refine ik_metW RX7 rfl (by decide) (Nat.le_of_ble_eq_true rfl) [(0, .ref h0), (1, .int x1), (2, .int x2)] rfl ?_
  intro p e s m below meth c C hr hlk
  unfold f_X7_water at hf
  refine ik_aload_n C 0 rfl rfl dX7_water_0 ?_
  refine ik_iload_n C 1 rfl rfl dX7_water_1 ?_
  obtain ⟨r1, hc1, hf⟩ := ik_b1s hf
  refine ik_goR (ik_runV C (c_X7_isBlock l D cI cS h0 h1 h2 h3 h4 h5 h6 h7 h8 h9 h10 h11 misKept mtaped msort mfrom mto mvalue mbad mm mkept mwas mother mfound mwarm mdrip mtape mbits msize mnumber x1 r1 hc1) mv_X7_isBlock wl_9_17 ⟨rfl, rfl, Nat.le_of_ble_eq_true rfl, Nat.le_of_ble_eq_true rfl⟩ [0, 1, 2, 3, 4, 5, 6, 7, 8, 9, 10, 11] rfl (by decide) 0 rfl rfl rfl rfl (Nat.le_of_ble_eq_true rfl) dX7_water_2) rfl ?_
  refine ik_if_eq C 15 dX7_water_5 (by decide) (fun hc => ?_) (fun hc => ?_)
  · have hf := ik_pos hc hf
    refine ik_aload_n C 0 rfl rfl dX7_water_15 ?_
    refine ik_ldc C wl_6_14 dX7_water_16 ?_
    obtain ⟨r2, g3, hc3, hf⟩ := ik_b2s hf
    refine ik_goW [0, 1, 2, 3, 4, 5, 6, 7, 8, 9, 10, 11] rfl rfl (wz_X7 cI cS h0 h1 h2 h3 h4 h5 h6 h7 h8 h9 h10 h11 misKept mtaped msort mfrom mto mvalue mbad mm mkept mwas mother g3 mwarm mdrip mtape mbits msize mnumber) rfl (ik_runV C (c_X7_finds l D cI cS h0 h1 h2 h3 h4 h5 h6 h7 h8 h9 h10 h11 misKept mtaped msort mfrom mto mvalue mbad mm mkept mwas mother mfound mwarm mdrip mtape mbits msize mnumber (-1000001 : Int32) r2 g3 hc3) mv_X7_finds wl_7_8 ⟨rfl, rfl, Nat.le_of_ble_eq_true rfl, Nat.le_of_ble_eq_true rfl⟩ [0, 1, 2, 3, 4, 5, 6, 7, 8, 9, 10, 11] rfl (by decide) 0 rfl rfl rfl rfl (Nat.le_of_ble_eq_true rfl) dX7_water_18) rfl ?_
    cases hf
    exact ik_iretW C hr hlk dX7_water_21
  · have hf := ik_neg hc hf
    refine ik_iload_n C 2 rfl rfl dX7_water_8 ?_
    obtain ⟨r2, hc2, hf⟩ := ik_b1s hf
    refine ik_goR (ik_runS C (c_X7_isSome l D cI cS x2 r2 hc2) ms_X7_isSome wl_7_4 ⟨rfl, rfl, Nat.le_of_ble_eq_true rfl, Nat.le_of_ble_eq_true rfl⟩ [] rfl (by decide) rfl rfl (Nat.le_of_ble_eq_true rfl) dX7_water_9) rfl ?_
    refine ik_if_ne C 22 dX7_water_12 (by decide) (fun hc => ?_) (fun hc => ?_)
    · have hf := ik_neg hc hf
      refine ik_aload_n C 0 rfl rfl dX7_water_22 ?_
      refine ik_iload_n C 1 rfl rfl dX7_water_23 ?_
      obtain ⟨r3, hc3, hf⟩ := ik_b1s hf
      refine ik_goR (ik_runV C (c_X7_isGone l D cI cS h0 h1 h2 h3 h4 h5 h6 h7 h8 h9 h10 h11 misKept mtaped msort mfrom mto mvalue mbad mm mkept mwas mother mfound mwarm mdrip mtape mbits msize mnumber x1 r3 hc3) mv_X7_isGone wl_10_5 ⟨rfl, rfl, Nat.le_of_ble_eq_true rfl, Nat.le_of_ble_eq_true rfl⟩ [0, 1, 2, 3, 4, 5, 6, 7, 8, 9, 10, 11] rfl (by decide) 0 rfl rfl rfl rfl (Nat.le_of_ble_eq_true rfl) dX7_water_24) rfl ?_
      refine ik_if_ne C 42 dX7_water_27 (by decide) (fun hc => ?_) (fun hc => ?_)
      · have hf := ik_neg hc hf
        refine ik_aload_n C 0 rfl rfl dX7_water_42 ?_
        refine ik_ldc C wl_6_16 dX7_water_43 ?_
        obtain ⟨r4, g5, hc5, hf⟩ := ik_b2s hf
        refine ik_goW [0, 1, 2, 3, 4, 5, 6, 7, 8, 9, 10, 11] rfl rfl (wz_X7 cI cS h0 h1 h2 h3 h4 h5 h6 h7 h8 h9 h10 h11 misKept mtaped msort mfrom mto mvalue mbad mm mkept mwas mother g5 mwarm mdrip mtape mbits msize mnumber) rfl (ik_runV C (c_X7_finds l D cI cS h0 h1 h2 h3 h4 h5 h6 h7 h8 h9 h10 h11 misKept mtaped msort mfrom mto mvalue mbad mm mkept mwas mother mfound mwarm mdrip mtape mbits msize mnumber (-1000005 : Int32) r4 g5 hc5) mv_X7_finds wl_7_8 ⟨rfl, rfl, Nat.le_of_ble_eq_true rfl, Nat.le_of_ble_eq_true rfl⟩ [0, 1, 2, 3, 4, 5, 6, 7, 8, 9, 10, 11] rfl (by decide) 0 rfl rfl rfl rfl (Nat.le_of_ble_eq_true rfl) dX7_water_45) rfl ?_
        cases hf
        exact ik_iretW C hr hlk dX7_water_48
      · have hf := ik_pos hc hf
        refine ik_aload_n C 0 rfl rfl dX7_water_30 ?_
        refine ik_aload_n C 0 rfl rfl dX7_water_31 ?_
        refine ik_iload_n C 1 rfl rfl dX7_water_32 ?_
        obtain ⟨r4, hc4, hf⟩ := ik_b1s hf
        refine ik_goR (ik_runV C (c_X7_cellOf l D cI cS h0 h1 h2 h3 h4 h5 h6 h7 h8 h9 h10 h11 misKept mtaped msort mfrom mto mvalue mbad mm mkept mwas mother mfound mwarm mdrip mtape mbits msize mnumber x1 r4 hc4) mv_X7_cellOf wl_7_16 ⟨rfl, rfl, Nat.le_of_ble_eq_true rfl, Nat.le_of_ble_eq_true rfl⟩ [0, 1, 2, 3, 4, 5, 6, 7, 8, 9, 10, 11] rfl (by decide) 0 rfl rfl rfl rfl (Nat.le_of_ble_eq_true rfl) dX7_water_33) rfl ?_
        obtain ⟨r5, hc5, hf⟩ := ik_b1s hf
        refine ik_goR (ik_runV C (c_X7_warmthOf l D cI cS h0 h1 h2 h3 h4 h5 h6 h7 h8 h9 h10 h11 misKept mtaped msort mfrom mto mvalue mbad mm mkept mwas mother mfound mwarm mdrip mtape mbits msize mnumber r4 r5 hc5) mv_X7_warmthOf wl_14_12 ⟨rfl, rfl, Nat.le_of_ble_eq_true rfl, Nat.le_of_ble_eq_true rfl⟩ [0, 1, 2, 3, 4, 5, 6, 7, 8, 9, 10, 11] rfl (by decide) 0 rfl rfl rfl rfl (Nat.le_of_ble_eq_true rfl) dX7_water_36) rfl ?_
        refine ik_if_lt C 49 dX7_water_39 (by decide) (fun hc => ?_) (fun hc => ?_)
        · have hf := ik_pos hc hf
          refine ik_bipush (v := (99 : Int32)) C (by decide) dX7_water_49 ?_
          refine ik_aload_n C 0 rfl rfl dX7_water_51 ?_
          refine ik_iload_n C 1 rfl rfl dX7_water_52 ?_
          obtain ⟨r6, hc6, hf⟩ := ik_b1s hf
          refine ik_goR (ik_runV C (c_X7_grains l D cI cS h0 h1 h2 h3 h4 h5 h6 h7 h8 h9 h10 h11 misKept mtaped msort mfrom mto mvalue mbad mm mkept mwas mother mfound mwarm mdrip mtape mbits msize mnumber x1 r6 hc6) mv_X7_grains wl_10_1 ⟨rfl, rfl, Nat.le_of_ble_eq_true rfl, Nat.le_of_ble_eq_true rfl⟩ [0, 1, 2, 3, 4, 5, 6, 7, 8, 9, 10, 11] rfl (by decide) 0 rfl rfl rfl rfl (Nat.le_of_ble_eq_true rfl) dX7_water_53) rfl ?_
          refine ik_isub C dX7_water_56 ?_
          refine ik_istore_n C [(3, .int ((99 : Int32) - r6)), (0, .ref h0), (1, .int x1), (2, .int x2)] rfl (by decide) rfl dX7_water_57 ?_
          refine ik_iload_n C 3 rfl rfl dX7_water_58 ?_
          refine ik_iload_n C 0 rfl rfl dX7_water_59 ?_
          refine ik_icmp_ge C 67 dX7_water_60 (by decide) (fun hc => ?_) (fun hc => ?_)
          · have hf := ik_pos hc hf
            refine ik_iload_n C 0 rfl rfl dX7_water_67 ?_
            refine ik_istore C [(4, .int ((99 : Int32) - r6)), (3, .int ((99 : Int32) - r6)), (0, .ref h0), (1, .int x1), (2, .int x2)] (by decide) rfl dX7_water_68 ?_
            refine ik_aload_n C 2 rfl rfl dX7_water_70 ?_
            refine ik_iload_n C 3 rfl rfl dX7_water_71 ?_
            refine ik_aload_n C 2 rfl rfl dX7_water_72 ?_
            refine ik_iload_n C 3 rfl rfl dX7_water_73 ?_
            obtain ⟨r7, hc7, hf⟩ := ik_b1s hf
            refine ik_goR (ik_runV C (c_X7_grains l D cI cS h0 h1 h2 h3 h4 h5 h6 h7 h8 h9 h10 h11 misKept mtaped msort mfrom mto mvalue mbad mm mkept mwas mother mfound mwarm mdrip mtape mbits msize mnumber x1 r7 hc7) mv_X7_grains wl_10_1 ⟨rfl, rfl, Nat.le_of_ble_eq_true rfl, Nat.le_of_ble_eq_true rfl⟩ [0, 1, 2, 3, 4, 5, 6, 7, 8, 9, 10, 11] rfl (by decide) 0 rfl rfl rfl rfl (Nat.le_of_ble_eq_true rfl) dX7_water_74) rfl ?_
            refine ik_iload C 0 rfl dX7_water_77 ?_
            refine ik_iadd C dX7_water_79 ?_
            obtain ⟨g8, hc8, hf⟩ := ik_b1s hf
            refine ik_goW [0, 1, 2, 3, 4, 5, 6, 7, 8, 9, 10, 11] rfl rfl (wz_X7 cI cS h0 h1 h2 h3 h4 h5 h6 h7 h8 h9 h10 h11 misKept mtaped msort mfrom mto mvalue mbad g8 mkept mwas mother mfound mwarm mdrip mtape mbits msize mnumber) rfl (ik_runV C (c_X7_makes l D cI cS h0 h1 h2 h3 h4 h5 h6 h7 h8 h9 h10 h11 misKept mtaped msort mfrom mto mvalue mbad mm mkept mwas mother mfound mwarm mdrip mtape mbits msize mnumber x1 (r7 + ((99 : Int32) - r6)) g8 hc8) mv_X7_makes wl_14_23 ⟨rfl, rfl, Nat.le_of_ble_eq_true rfl, Nat.le_of_ble_eq_true rfl⟩ [0, 1, 2, 3, 4, 5, 6, 7, 8, 9, 10, 11] rfl (by decide) 0 rfl rfl rfl rfl (Nat.le_of_ble_eq_true rfl) dX7_water_80) rfl ?_
            refine ik_iload C 0 rfl dX7_water_83 ?_
            cases hf
            exact ik_iretW C hr hlk dX7_water_85
          · have hf := ik_neg hc hf
            refine ik_iload_n C 3 rfl rfl dX7_water_63 ?_
            refine ik_goto C 68 dX7_water_64 (by decide) ?_
            refine ik_istore C [(4, .int x2), (3, .int ((99 : Int32) - r6)), (0, .ref h0), (1, .int x1), (2, .int x2)] (by decide) rfl dX7_water_68 ?_
            refine ik_aload_n C 2 rfl rfl dX7_water_70 ?_
            refine ik_iload_n C 3 rfl rfl dX7_water_71 ?_
            refine ik_aload_n C 2 rfl rfl dX7_water_72 ?_
            refine ik_iload_n C 3 rfl rfl dX7_water_73 ?_
            obtain ⟨r7, hc7, hf⟩ := ik_b1s hf
            refine ik_goR (ik_runV C (c_X7_grains l D cI cS h0 h1 h2 h3 h4 h5 h6 h7 h8 h9 h10 h11 misKept mtaped msort mfrom mto mvalue mbad mm mkept mwas mother mfound mwarm mdrip mtape mbits msize mnumber x1 r7 hc7) mv_X7_grains wl_10_1 ⟨rfl, rfl, Nat.le_of_ble_eq_true rfl, Nat.le_of_ble_eq_true rfl⟩ [0, 1, 2, 3, 4, 5, 6, 7, 8, 9, 10, 11] rfl (by decide) 0 rfl rfl rfl rfl (Nat.le_of_ble_eq_true rfl) dX7_water_74) rfl ?_
            refine ik_iload C 0 rfl dX7_water_77 ?_
            refine ik_iadd C dX7_water_79 ?_
            obtain ⟨g8, hc8, hf⟩ := ik_b1s hf
            refine ik_goW [0, 1, 2, 3, 4, 5, 6, 7, 8, 9, 10, 11] rfl rfl (wz_X7 cI cS h0 h1 h2 h3 h4 h5 h6 h7 h8 h9 h10 h11 misKept mtaped msort mfrom mto mvalue mbad g8 mkept mwas mother mfound mwarm mdrip mtape mbits msize mnumber) rfl (ik_runV C (c_X7_makes l D cI cS h0 h1 h2 h3 h4 h5 h6 h7 h8 h9 h10 h11 misKept mtaped msort mfrom mto mvalue mbad mm mkept mwas mother mfound mwarm mdrip mtape mbits msize mnumber x1 (r7 + x2) g8 hc8) mv_X7_makes wl_14_23 ⟨rfl, rfl, Nat.le_of_ble_eq_true rfl, Nat.le_of_ble_eq_true rfl⟩ [0, 1, 2, 3, 4, 5, 6, 7, 8, 9, 10, 11] rfl (by decide) 0 rfl rfl rfl rfl (Nat.le_of_ble_eq_true rfl) dX7_water_80) rfl ?_
            refine ik_iload C 0 rfl dX7_water_83 ?_
            cases hf
            exact ik_iretW C hr hlk dX7_water_85
        · have hf := ik_neg hc hf
          refine ik_aload_n C 0 rfl rfl dX7_water_42 ?_
          refine ik_ldc C wl_6_16 dX7_water_43 ?_
          obtain ⟨r6, g7, hc7, hf⟩ := ik_b2s hf
          refine ik_goW [0, 1, 2, 3, 4, 5, 6, 7, 8, 9, 10, 11] rfl rfl (wz_X7 cI cS h0 h1 h2 h3 h4 h5 h6 h7 h8 h9 h10 h11 misKept mtaped msort mfrom mto mvalue mbad mm mkept mwas mother g7 mwarm mdrip mtape mbits msize mnumber) rfl (ik_runV C (c_X7_finds l D cI cS h0 h1 h2 h3 h4 h5 h6 h7 h8 h9 h10 h11 misKept mtaped msort mfrom mto mvalue mbad mm mkept mwas mother mfound mwarm mdrip mtape mbits msize mnumber (-1000005 : Int32) r6 g7 hc7) mv_X7_finds wl_7_8 ⟨rfl, rfl, Nat.le_of_ble_eq_true rfl, Nat.le_of_ble_eq_true rfl⟩ [0, 1, 2, 3, 4, 5, 6, 7, 8, 9, 10, 11] rfl (by decide) 0 rfl rfl rfl rfl (Nat.le_of_ble_eq_true rfl) dX7_water_45) rfl ?_
          cases hf
          exact ik_iretW C hr hlk dX7_water_48
    · have hf := ik_pos hc hf
      refine ik_aload_n C 0 rfl rfl dX7_water_15 ?_
      refine ik_ldc C wl_6_14 dX7_water_16 ?_
      obtain ⟨r3, g4, hc4, hf⟩ := ik_b2s hf
      refine ik_goW [0, 1, 2, 3, 4, 5, 6, 7, 8, 9, 10, 11] rfl rfl (wz_X7 cI cS h0 h1 h2 h3 h4 h5 h6 h7 h8 h9 h10 h11 misKept mtaped msort mfrom mto mvalue mbad mm mkept mwas mother g4 mwarm mdrip mtape mbits msize mnumber) rfl (ik_runV C (c_X7_finds l D cI cS h0 h1 h2 h3 h4 h5 h6 h7 h8 h9 h10 h11 misKept mtaped msort mfrom mto mvalue mbad mm mkept mwas mother mfound mwarm mdrip mtape mbits msize mnumber (-1000001 : Int32) r3 g4 hc4) mv_X7_finds wl_7_8 ⟨rfl, rfl, Nat.le_of_ble_eq_true rfl, Nat.le_of_ble_eq_true rfl⟩ [0, 1, 2, 3, 4, 5, 6, 7, 8, 9, 10, 11] rfl (by decide) 0 rfl rfl rfl rfl (Nat.le_of_ble_eq_true rfl) dX7_water_18) rfl ?_
      cases hf
      exact ik_iretW C hr hlk dX7_water_21
theorem mv_X7_candle : ik_V yX7_candle RX7 cX7_candle 5 (some .int) 3 := ⟨wl_15_13, wl_15_14, wl_1_5, wl_15_15, by decide +kernel⟩
set_option maxHeartbeats 4000000 in
set_option maxRecDepth 100000 in
theorem c_X7_candle (l : Launch) (D : va_G) (cI cS : ClassId) (h0 h1 h2 h3 h4 h5 h6 h7 h8 h9 h10 h11 : Nat) (misKept : Int32) (mtaped : Int32) (msort : Int32) (mfrom : Int32) (mto : Int32) (mvalue : Int32) (mbad : Int32) (mm : Nat → Int32) (mkept : Nat → Int32) (mwas : Nat → Int32) (mother : Nat → Int32) (mfound : Nat → Int32) (mwarm : Nat → Int32) (mdrip : Nat → Int32) (mtape : Nat → Int32) (mbits : Nat → Int32) (msize : Nat → Int32) (mnumber : Nat → Int32) (x1 : Int32) (x2 : Int32) (x3 : Int32) (R : Int32) (mm_r : Nat → Int32) (mfound_r : Nat → Int32) (hf : f_X7_candle mm mfound x1 x2 x3 = some (R, mm_r, mfound_r)) : Met l yX7_candle (ik_ws yX7_candle cX7_candle 5 (some .int)) ({ frames := 2, cells := 0, slots := 0, locals := 45 } : Room) (ik_P D cI cS [.ref h0, .int x1, .int x2, .int x3] (wz_X7 cI cS h0 h1 h2 h3 h4 h5 h6 h7 h8 h9 h10 h11 misKept mtaped msort mfrom mto mvalue mbad mm mkept mwas mother mfound mwarm mdrip mtape mbits msize mnumber)) (ik_Q (some (.int R)) D (wz_X7 cI cS h0 h1 h2 h3 h4 h5 h6 h7 h8 h9 h10 h11 misKept mtaped msort mfrom mto mvalue mbad mm_r mkept mwas mother mfound_r mwarm mdrip mtape mbits msize mnumber) (wz_X7 cI cS h0 h1 h2 h3 h4 h5 h6 h7 h8 h9 h10 h11 misKept mtaped msort mfrom mto mvalue mbad mm mkept mwas mother mfound mwarm mdrip mtape mbits msize mnumber)) 0 0 (ik_in (wz_X7 cI cS h0 h1 h2 h3 h4 h5 h6 h7 h8 h9 h10 h11 misKept mtaped msort mfrom mto mvalue mbad mm mkept mwas mother mfound mwarm mdrip mtape mbits msize mnumber)) := by
  refine ik_metW RX7 rfl (by decide) (Nat.le_of_ble_eq_true rfl) [(0, .ref h0), (1, .int x1), (2, .int x2), (3, .int x3)] rfl ?_
  intro p e s m below meth c C hr hlk
  unfold f_X7_candle at hf
  refine ik_iload_n C 2 rfl rfl dX7_candle_0 ?_
  refine ik_if_ne C 11 dX7_candle_1 (by decide) (fun hc => ?_) (fun hc => ?_)
  · have hf := ik_neg hc hf
    refine ik_iload_n C 2 rfl rfl dX7_candle_11 ?_
    refine ik_iconst (v := (1 : Int32)) C (by decide) dX7_candle_12 ?_
    refine ik_icmp_ne C 32 dX7_candle_13 (by decide) (fun hc => ?_) (fun hc => ?_)
    · have hf := ik_neg hc hf
      refine ik_iconst (v := (0 : Int32)) C (by decide) dX7_candle_32 ?_
      refine ik_istore C [(4, .int (0 : Int32)), (0, .ref h0), (1, .int x1), (2, .int x2), (3, .int x3)] (by decide) rfl dX7_candle_33 ?_
      refine ik_iload_n C 2 rfl rfl dX7_candle_35 ?_
      obtain ⟨r1, hc1, hf⟩ := ik_b1s hf
      refine ik_goR (ik_runS C (c_X7_isCandle l D cI cS x1 r1 hc1) ms_X7_isCandle wl_15_17 ⟨rfl, rfl, Nat.le_of_ble_eq_true rfl, Nat.le_of_ble_eq_true rfl⟩ [] rfl (by decide) rfl rfl (Nat.le_of_ble_eq_true rfl) dX7_candle_36) rfl ?_
      refine ik_if_eq C 63 dX7_candle_39 (by decide) (fun hc => ?_) (fun hc => ?_)
      · have hf := ik_pos hc hf
        refine ik_aload_n C 1 rfl rfl dX7_candle_63 ?_
        refine ik_ldc C wl_6_14 dX7_candle_64 ?_
        obtain ⟨r2, g3, hc3, hf⟩ := ik_b2s hf
        refine ik_goW [0, 1, 2, 3, 4, 5, 6, 7, 8, 9, 10, 11] rfl rfl (wz_X7 cI cS h0 h1 h2 h3 h4 h5 h6 h7 h8 h9 h10 h11 misKept mtaped msort mfrom mto mvalue mbad mm mkept mwas mother g3 mwarm mdrip mtape mbits msize mnumber) rfl (ik_runV C (c_X7_finds l D cI cS h0 h1 h2 h3 h4 h5 h6 h7 h8 h9 h10 h11 misKept mtaped msort mfrom mto mvalue mbad mm mkept mwas mother mfound mwarm mdrip mtape mbits msize mnumber (-1000001 : Int32) r2 g3 hc3) mv_X7_finds wl_7_8 ⟨rfl, rfl, Nat.le_of_ble_eq_true rfl, Nat.le_of_ble_eq_true rfl⟩ [0, 1, 2, 3, 4, 5, 6, 7, 8, 9, 10, 11] rfl (by decide) 0 rfl rfl rfl rfl (Nat.le_of_ble_eq_true rfl) dX7_candle_66) rfl ?_
        cases hf
        exact ik_iretW C hr hlk dX7_candle_69
      · have hf := ik_neg hc hf
        refine ik_iload C 0 rfl dX7_candle_42 ?_
        refine ik_if_eq C 63 dX7_candle_44 (by decide) (fun hc => ?_) (fun hc => ?_)
        · have hf := ik_pos hc hf
          refine ik_aload_n C 1 rfl rfl dX7_candle_63 ?_
          refine ik_ldc C wl_6_14 dX7_candle_64 ?_
          obtain ⟨r2, g3, hc3, hf⟩ := ik_b2s hf
          refine ik_goW [0, 1, 2, 3, 4, 5, 6, 7, 8, 9, 10, 11] rfl rfl (wz_X7 cI cS h0 h1 h2 h3 h4 h5 h6 h7 h8 h9 h10 h11 misKept mtaped msort mfrom mto mvalue mbad mm mkept mwas mother g3 mwarm mdrip mtape mbits msize mnumber) rfl (ik_runV C (c_X7_finds l D cI cS h0 h1 h2 h3 h4 h5 h6 h7 h8 h9 h10 h11 misKept mtaped msort mfrom mto mvalue mbad mm mkept mwas mother mfound mwarm mdrip mtape mbits msize mnumber (-1000001 : Int32) r2 g3 hc3) mv_X7_finds wl_7_8 ⟨rfl, rfl, Nat.le_of_ble_eq_true rfl, Nat.le_of_ble_eq_true rfl⟩ [0, 1, 2, 3, 4, 5, 6, 7, 8, 9, 10, 11] rfl (by decide) 0 rfl rfl rfl rfl (Nat.le_of_ble_eq_true rfl) dX7_candle_66) rfl ?_
          cases hf
          exact ik_iretW C hr hlk dX7_candle_69
        · have hf := ik_neg hc hf
          refine ik_aload_n C 1 rfl rfl dX7_candle_47 ?_
          refine ik_bipush (v := (6 : Int32)) C (by decide) dX7_candle_48 ?_
          refine ik_iconst (v := (3 : Int32)) C (by decide) dX7_candle_50 ?_
          refine ik_iload_n C 2 rfl rfl dX7_candle_51 ?_
          refine ik_imul C dX7_candle_52 ?_
          refine ik_iadd C dX7_candle_53 ?_
          refine ik_iload_n C 3 rfl rfl dX7_candle_54 ?_
          refine ik_iadd C dX7_candle_55 ?_
          refine ik_iload_n C 4 rfl rfl dX7_candle_56 ?_
          obtain ⟨r2, g3, hc3, hf⟩ := ik_b2s hf
          refine ik_goW [0, 1, 2, 3, 4, 5, 6, 7, 8, 9, 10, 11] rfl rfl (wz_X7 cI cS h0 h1 h2 h3 h4 h5 h6 h7 h8 h9 h10 h11 misKept mtaped msort mfrom mto mvalue mbad g3 mkept mwas mother mfound mwarm mdrip mtape mbits msize mnumber) rfl (ik_runV C (c_X7_becomes l D cI cS h0 h1 h2 h3 h4 h5 h6 h7 h8 h9 h10 h11 misKept mtaped msort mfrom mto mvalue mbad mm mkept mwas mother mfound mwarm mdrip mtape mbits msize mnumber (((6 : Int32) + ((3 : Int32) * x1)) + x2) x3 r2 g3 hc3) mv_X7_becomes wl_12_4 ⟨rfl, rfl, Nat.le_of_ble_eq_true rfl, Nat.le_of_ble_eq_true rfl⟩ [0, 1, 2, 3, 4, 5, 6, 7, 8, 9, 10, 11] rfl (by decide) 0 rfl rfl rfl rfl (Nat.le_of_ble_eq_true rfl) dX7_candle_57) rfl ?_
          refine ik_goto C 69 dX7_candle_60 (by decide) ?_
          cases hf
          exact ik_iretW C hr hlk dX7_candle_69
    · have hf := ik_pos hc hf
      refine ik_iload_n C 3 rfl rfl dX7_candle_16 ?_
      refine ik_i2l C dX7_candle_17 ?_
      refine ik_lconst (v := (0 : Int64)) C (by decide) dX7_candle_18 ?_
      refine ik_ldc2 C wl_15_16 dX7_candle_19 ?_
      obtain ⟨r1, hc1, hf⟩ := ik_b1s hf
      refine ik_goR (ik_runS C (c_X7_in l D cI cS (x3).toInt64 (0 : Int64) (30 : Int64) r1 hc1) ms_X7_in wl_6_21 ⟨rfl, rfl, Nat.le_of_ble_eq_true rfl, Nat.le_of_ble_eq_true rfl⟩ [] rfl (by decide) rfl rfl (Nat.le_of_ble_eq_true rfl) dX7_candle_22) rfl ?_
      refine ik_if_eq C 32 dX7_candle_25 (by decide) (fun hc => ?_) (fun hc => ?_)
      · have hf := ik_pos hc hf
        refine ik_iconst (v := (0 : Int32)) C (by decide) dX7_candle_32 ?_
        refine ik_istore C [(4, .int (0 : Int32)), (0, .ref h0), (1, .int x1), (2, .int x2), (3, .int x3)] (by decide) rfl dX7_candle_33 ?_
        refine ik_iload_n C 2 rfl rfl dX7_candle_35 ?_
        obtain ⟨r2, hc2, hf⟩ := ik_b1s hf
        refine ik_goR (ik_runS C (c_X7_isCandle l D cI cS x1 r2 hc2) ms_X7_isCandle wl_15_17 ⟨rfl, rfl, Nat.le_of_ble_eq_true rfl, Nat.le_of_ble_eq_true rfl⟩ [] rfl (by decide) rfl rfl (Nat.le_of_ble_eq_true rfl) dX7_candle_36) rfl ?_
        refine ik_if_eq C 63 dX7_candle_39 (by decide) (fun hc => ?_) (fun hc => ?_)
        · have hf := ik_pos hc hf
          refine ik_aload_n C 1 rfl rfl dX7_candle_63 ?_
          refine ik_ldc C wl_6_14 dX7_candle_64 ?_
          obtain ⟨r3, g4, hc4, hf⟩ := ik_b2s hf
          refine ik_goW [0, 1, 2, 3, 4, 5, 6, 7, 8, 9, 10, 11] rfl rfl (wz_X7 cI cS h0 h1 h2 h3 h4 h5 h6 h7 h8 h9 h10 h11 misKept mtaped msort mfrom mto mvalue mbad mm mkept mwas mother g4 mwarm mdrip mtape mbits msize mnumber) rfl (ik_runV C (c_X7_finds l D cI cS h0 h1 h2 h3 h4 h5 h6 h7 h8 h9 h10 h11 misKept mtaped msort mfrom mto mvalue mbad mm mkept mwas mother mfound mwarm mdrip mtape mbits msize mnumber (-1000001 : Int32) r3 g4 hc4) mv_X7_finds wl_7_8 ⟨rfl, rfl, Nat.le_of_ble_eq_true rfl, Nat.le_of_ble_eq_true rfl⟩ [0, 1, 2, 3, 4, 5, 6, 7, 8, 9, 10, 11] rfl (by decide) 0 rfl rfl rfl rfl (Nat.le_of_ble_eq_true rfl) dX7_candle_66) rfl ?_
          cases hf
          exact ik_iretW C hr hlk dX7_candle_69
        · have hf := ik_neg hc hf
          refine ik_iload C 0 rfl dX7_candle_42 ?_
          refine ik_if_eq C 63 dX7_candle_44 (by decide) (fun hc => ?_) (fun hc => ?_)
          · have hf := ik_pos hc hf
            refine ik_aload_n C 1 rfl rfl dX7_candle_63 ?_
            refine ik_ldc C wl_6_14 dX7_candle_64 ?_
            obtain ⟨r3, g4, hc4, hf⟩ := ik_b2s hf
            refine ik_goW [0, 1, 2, 3, 4, 5, 6, 7, 8, 9, 10, 11] rfl rfl (wz_X7 cI cS h0 h1 h2 h3 h4 h5 h6 h7 h8 h9 h10 h11 misKept mtaped msort mfrom mto mvalue mbad mm mkept mwas mother g4 mwarm mdrip mtape mbits msize mnumber) rfl (ik_runV C (c_X7_finds l D cI cS h0 h1 h2 h3 h4 h5 h6 h7 h8 h9 h10 h11 misKept mtaped msort mfrom mto mvalue mbad mm mkept mwas mother mfound mwarm mdrip mtape mbits msize mnumber (-1000001 : Int32) r3 g4 hc4) mv_X7_finds wl_7_8 ⟨rfl, rfl, Nat.le_of_ble_eq_true rfl, Nat.le_of_ble_eq_true rfl⟩ [0, 1, 2, 3, 4, 5, 6, 7, 8, 9, 10, 11] rfl (by decide) 0 rfl rfl rfl rfl (Nat.le_of_ble_eq_true rfl) dX7_candle_66) rfl ?_
            cases hf
            exact ik_iretW C hr hlk dX7_candle_69
          · have hf := ik_neg hc hf
            refine ik_aload_n C 1 rfl rfl dX7_candle_47 ?_
            refine ik_bipush (v := (6 : Int32)) C (by decide) dX7_candle_48 ?_
            refine ik_iconst (v := (3 : Int32)) C (by decide) dX7_candle_50 ?_
            refine ik_iload_n C 2 rfl rfl dX7_candle_51 ?_
            refine ik_imul C dX7_candle_52 ?_
            refine ik_iadd C dX7_candle_53 ?_
            refine ik_iload_n C 3 rfl rfl dX7_candle_54 ?_
            refine ik_iadd C dX7_candle_55 ?_
            refine ik_iload_n C 4 rfl rfl dX7_candle_56 ?_
            obtain ⟨r3, g4, hc4, hf⟩ := ik_b2s hf
            refine ik_goW [0, 1, 2, 3, 4, 5, 6, 7, 8, 9, 10, 11] rfl rfl (wz_X7 cI cS h0 h1 h2 h3 h4 h5 h6 h7 h8 h9 h10 h11 misKept mtaped msort mfrom mto mvalue mbad g4 mkept mwas mother mfound mwarm mdrip mtape mbits msize mnumber) rfl (ik_runV C (c_X7_becomes l D cI cS h0 h1 h2 h3 h4 h5 h6 h7 h8 h9 h10 h11 misKept mtaped msort mfrom mto mvalue mbad mm mkept mwas mother mfound mwarm mdrip mtape mbits msize mnumber (((6 : Int32) + ((3 : Int32) * x1)) + x2) x3 r3 g4 hc4) mv_X7_becomes wl_12_4 ⟨rfl, rfl, Nat.le_of_ble_eq_true rfl, Nat.le_of_ble_eq_true rfl⟩ [0, 1, 2, 3, 4, 5, 6, 7, 8, 9, 10, 11] rfl (by decide) 0 rfl rfl rfl rfl (Nat.le_of_ble_eq_true rfl) dX7_candle_57) rfl ?_
            refine ik_goto C 69 dX7_candle_60 (by decide) ?_
            cases hf
            exact ik_iretW C hr hlk dX7_candle_69
      · have hf := ik_neg hc hf
        refine ik_iconst (v := (1 : Int32)) C (by decide) dX7_candle_28 ?_
        refine ik_goto C 33 dX7_candle_29 (by decide) ?_
        refine ik_istore C [(4, .int (1 : Int32)), (0, .ref h0), (1, .int x1), (2, .int x2), (3, .int x3)] (by decide) rfl dX7_candle_33 ?_
        refine ik_iload_n C 2 rfl rfl dX7_candle_35 ?_
        obtain ⟨r2, hc2, hf⟩ := ik_b1s hf
        refine ik_goR (ik_runS C (c_X7_isCandle l D cI cS x1 r2 hc2) ms_X7_isCandle wl_15_17 ⟨rfl, rfl, Nat.le_of_ble_eq_true rfl, Nat.le_of_ble_eq_true rfl⟩ [] rfl (by decide) rfl rfl (Nat.le_of_ble_eq_true rfl) dX7_candle_36) rfl ?_
        refine ik_if_eq C 63 dX7_candle_39 (by decide) (fun hc => ?_) (fun hc => ?_)
        · have hf := ik_pos hc hf
          refine ik_aload_n C 1 rfl rfl dX7_candle_63 ?_
          refine ik_ldc C wl_6_14 dX7_candle_64 ?_
          obtain ⟨r3, g4, hc4, hf⟩ := ik_b2s hf
          refine ik_goW [0, 1, 2, 3, 4, 5, 6, 7, 8, 9, 10, 11] rfl rfl (wz_X7 cI cS h0 h1 h2 h3 h4 h5 h6 h7 h8 h9 h10 h11 misKept mtaped msort mfrom mto mvalue mbad mm mkept mwas mother g4 mwarm mdrip mtape mbits msize mnumber) rfl (ik_runV C (c_X7_finds l D cI cS h0 h1 h2 h3 h4 h5 h6 h7 h8 h9 h10 h11 misKept mtaped msort mfrom mto mvalue mbad mm mkept mwas mother mfound mwarm mdrip mtape mbits msize mnumber (-1000001 : Int32) r3 g4 hc4) mv_X7_finds wl_7_8 ⟨rfl, rfl, Nat.le_of_ble_eq_true rfl, Nat.le_of_ble_eq_true rfl⟩ [0, 1, 2, 3, 4, 5, 6, 7, 8, 9, 10, 11] rfl (by decide) 0 rfl rfl rfl rfl (Nat.le_of_ble_eq_true rfl) dX7_candle_66) rfl ?_
          cases hf
          exact ik_iretW C hr hlk dX7_candle_69
        · have hf := ik_neg hc hf
          refine ik_iload C 0 rfl dX7_candle_42 ?_
          refine ik_if_eq C 63 dX7_candle_44 (by decide) (fun hc => ?_) (fun hc => ?_)
          · have hf := ik_pos hc hf
            refine ik_aload_n C 1 rfl rfl dX7_candle_63 ?_
            refine ik_ldc C wl_6_14 dX7_candle_64 ?_
            obtain ⟨r3, g4, hc4, hf⟩ := ik_b2s hf
            refine ik_goW [0, 1, 2, 3, 4, 5, 6, 7, 8, 9, 10, 11] rfl rfl (wz_X7 cI cS h0 h1 h2 h3 h4 h5 h6 h7 h8 h9 h10 h11 misKept mtaped msort mfrom mto mvalue mbad mm mkept mwas mother g4 mwarm mdrip mtape mbits msize mnumber) rfl (ik_runV C (c_X7_finds l D cI cS h0 h1 h2 h3 h4 h5 h6 h7 h8 h9 h10 h11 misKept mtaped msort mfrom mto mvalue mbad mm mkept mwas mother mfound mwarm mdrip mtape mbits msize mnumber (-1000001 : Int32) r3 g4 hc4) mv_X7_finds wl_7_8 ⟨rfl, rfl, Nat.le_of_ble_eq_true rfl, Nat.le_of_ble_eq_true rfl⟩ [0, 1, 2, 3, 4, 5, 6, 7, 8, 9, 10, 11] rfl (by decide) 0 rfl rfl rfl rfl (Nat.le_of_ble_eq_true rfl) dX7_candle_66) rfl ?_
            cases hf
            exact ik_iretW C hr hlk dX7_candle_69
          · have hf := ik_neg hc hf
            refine ik_aload_n C 1 rfl rfl dX7_candle_47 ?_
            refine ik_bipush (v := (6 : Int32)) C (by decide) dX7_candle_48 ?_
            refine ik_iconst (v := (3 : Int32)) C (by decide) dX7_candle_50 ?_
            refine ik_iload_n C 2 rfl rfl dX7_candle_51 ?_
            refine ik_imul C dX7_candle_52 ?_
            refine ik_iadd C dX7_candle_53 ?_
            refine ik_iload_n C 3 rfl rfl dX7_candle_54 ?_
            refine ik_iadd C dX7_candle_55 ?_
            refine ik_iload_n C 4 rfl rfl dX7_candle_56 ?_
            obtain ⟨r3, g4, hc4, hf⟩ := ik_b2s hf
            refine ik_goW [0, 1, 2, 3, 4, 5, 6, 7, 8, 9, 10, 11] rfl rfl (wz_X7 cI cS h0 h1 h2 h3 h4 h5 h6 h7 h8 h9 h10 h11 misKept mtaped msort mfrom mto mvalue mbad g4 mkept mwas mother mfound mwarm mdrip mtape mbits msize mnumber) rfl (ik_runV C (c_X7_becomes l D cI cS h0 h1 h2 h3 h4 h5 h6 h7 h8 h9 h10 h11 misKept mtaped msort mfrom mto mvalue mbad mm mkept mwas mother mfound mwarm mdrip mtape mbits msize mnumber (((6 : Int32) + ((3 : Int32) * x1)) + x2) x3 r3 g4 hc4) mv_X7_becomes wl_12_4 ⟨rfl, rfl, Nat.le_of_ble_eq_true rfl, Nat.le_of_ble_eq_true rfl⟩ [0, 1, 2, 3, 4, 5, 6, 7, 8, 9, 10, 11] rfl (by decide) 0 rfl rfl rfl rfl (Nat.le_of_ble_eq_true rfl) dX7_candle_57) rfl ?_
            refine ik_goto C 69 dX7_candle_60 (by decide) ?_
            cases hf
            exact ik_iretW C hr hlk dX7_candle_69
  · have hf := ik_pos hc hf
    refine ik_iload_n C 3 rfl rfl dX7_candle_4 ?_
    obtain ⟨r1, hc1, hf⟩ := ik_b1s hf
    refine ik_goR (ik_runS C (c_X7_isCell l D cI cS x3 r1 hc1) ms_X7_isCell wl_7_0 ⟨rfl, rfl, Nat.le_of_ble_eq_true rfl, Nat.le_of_ble_eq_true rfl⟩ [] rfl (by decide) rfl rfl (Nat.le_of_ble_eq_true rfl) dX7_candle_5) rfl ?_
    refine ik_goto C 33 dX7_candle_8 (by decide) ?_
    refine ik_istore C [(4, .int r1), (0, .ref h0), (1, .int x1), (2, .int x2), (3, .int x3)] (by decide) rfl dX7_candle_33 ?_
    refine ik_iload_n C 2 rfl rfl dX7_candle_35 ?_
    obtain ⟨r2, hc2, hf⟩ := ik_b1s hf
    refine ik_goR (ik_runS C (c_X7_isCandle l D cI cS x1 r2 hc2) ms_X7_isCandle wl_15_17 ⟨rfl, rfl, Nat.le_of_ble_eq_true rfl, Nat.le_of_ble_eq_true rfl⟩ [] rfl (by decide) rfl rfl (Nat.le_of_ble_eq_true rfl) dX7_candle_36) rfl ?_
    refine ik_if_eq C 63 dX7_candle_39 (by decide) (fun hc => ?_) (fun hc => ?_)
    · have hf := ik_pos hc hf
      refine ik_aload_n C 1 rfl rfl dX7_candle_63 ?_
      refine ik_ldc C wl_6_14 dX7_candle_64 ?_
      obtain ⟨r3, g4, hc4, hf⟩ := ik_b2s hf
      refine ik_goW [0, 1, 2, 3, 4, 5, 6, 7, 8, 9, 10, 11] rfl rfl (wz_X7 cI cS h0 h1 h2 h3 h4 h5 h6 h7 h8 h9 h10 h11 misKept mtaped msort mfrom mto mvalue mbad mm mkept mwas mother g4 mwarm mdrip mtape mbits msize mnumber) rfl (ik_runV C (c_X7_finds l D cI cS h0 h1 h2 h3 h4 h5 h6 h7 h8 h9 h10 h11 misKept mtaped msort mfrom mto mvalue mbad mm mkept mwas mother mfound mwarm mdrip mtape mbits msize mnumber (-1000001 : Int32) r3 g4 hc4) mv_X7_finds wl_7_8 ⟨rfl, rfl, Nat.le_of_ble_eq_true rfl, Nat.le_of_ble_eq_true rfl⟩ [0, 1, 2, 3, 4, 5, 6, 7, 8, 9, 10, 11] rfl (by decide) 0 rfl rfl rfl rfl (Nat.le_of_ble_eq_true rfl) dX7_candle_66) rfl ?_
      cases hf
      exact ik_iretW C hr hlk dX7_candle_69
    · have hf := ik_neg hc hf
      refine ik_iload C 0 rfl dX7_candle_42 ?_
      refine ik_if_eq C 63 dX7_candle_44 (by decide) (fun hc => ?_) (fun hc => ?_)
      · have hf := ik_pos hc hf
        refine ik_aload_n C 1 rfl rfl dX7_candle_63 ?_
        refine ik_ldc C wl_6_14 dX7_candle_64 ?_
        obtain ⟨r3, g4, hc4, hf⟩ := ik_b2s hf
        refine ik_goW [0, 1, 2, 3, 4, 5, 6, 7, 8, 9, 10, 11] rfl rfl (wz_X7 cI cS h0 h1 h2 h3 h4 h5 h6 h7 h8 h9 h10 h11 misKept mtaped msort mfrom mto mvalue mbad mm mkept mwas mother g4 mwarm mdrip mtape mbits msize mnumber) rfl (ik_runV C (c_X7_finds l D cI cS h0 h1 h2 h3 h4 h5 h6 h7 h8 h9 h10 h11 misKept mtaped msort mfrom mto mvalue mbad mm mkept mwas mother mfound mwarm mdrip mtape mbits msize mnumber (-1000001 : Int32) r3 g4 hc4) mv_X7_finds wl_7_8 ⟨rfl, rfl, Nat.le_of_ble_eq_true rfl, Nat.le_of_ble_eq_true rfl⟩ [0, 1, 2, 3, 4, 5, 6, 7, 8, 9, 10, 11] rfl (by decide) 0 rfl rfl rfl rfl (Nat.le_of_ble_eq_true rfl) dX7_candle_66) rfl ?_
        cases hf
        exact ik_iretW C hr hlk dX7_candle_69
      · have hf := ik_neg hc hf
        refine ik_aload_n C 1 rfl rfl dX7_candle_47 ?_
        refine ik_bipush (v := (6 : Int32)) C (by decide) dX7_candle_48 ?_
        refine ik_iconst (v := (3 : Int32)) C (by decide) dX7_candle_50 ?_
        refine ik_iload_n C 2 rfl rfl dX7_candle_51 ?_
        refine ik_imul C dX7_candle_52 ?_
        refine ik_iadd C dX7_candle_53 ?_
        refine ik_iload_n C 3 rfl rfl dX7_candle_54 ?_
        refine ik_iadd C dX7_candle_55 ?_
        refine ik_iload_n C 4 rfl rfl dX7_candle_56 ?_
        obtain ⟨r3, g4, hc4, hf⟩ := ik_b2s hf
        refine ik_goW [0, 1, 2, 3, 4, 5, 6, 7, 8, 9, 10, 11] rfl rfl (wz_X7 cI cS h0 h1 h2 h3 h4 h5 h6 h7 h8 h9 h10 h11 misKept mtaped msort mfrom mto mvalue mbad g4 mkept mwas mother mfound mwarm mdrip mtape mbits msize mnumber) rfl (ik_runV C (c_X7_becomes l D cI cS h0 h1 h2 h3 h4 h5 h6 h7 h8 h9 h10 h11 misKept mtaped msort mfrom mto mvalue mbad mm mkept mwas mother mfound mwarm mdrip mtape mbits msize mnumber (((6 : Int32) + ((3 : Int32) * x1)) + x2) x3 r3 g4 hc4) mv_X7_becomes wl_12_4 ⟨rfl, rfl, Nat.le_of_ble_eq_true rfl, Nat.le_of_ble_eq_true rfl⟩ [0, 1, 2, 3, 4, 5, 6, 7, 8, 9, 10, 11] rfl (by decide) 0 rfl rfl rfl rfl (Nat.le_of_ble_eq_true rfl) dX7_candle_57) rfl ?_
        refine ik_goto C 69 dX7_candle_60 (by decide) ?_
        cases hf
        exact ik_iretW C hr hlk dX7_candle_69
theorem mv_X7_lit : ik_V yX7_lit RX7 cX7_lit 3 (some .int) 2 := ⟨wl_16_7, wl_16_8, wl_1_5, wl_16_9, by decide +kernel⟩
set_option maxHeartbeats 4000000 in
set_option maxRecDepth 100000 in
theorem c_X7_lit (l : Launch) (D : va_G) (cI cS : ClassId) (h0 h1 h2 h3 h4 h5 h6 h7 h8 h9 h10 h11 : Nat) (misKept : Int32) (mtaped : Int32) (msort : Int32) (mfrom : Int32) (mto : Int32) (mvalue : Int32) (mbad : Int32) (mm : Nat → Int32) (mkept : Nat → Int32) (mwas : Nat → Int32) (mother : Nat → Int32) (mfound : Nat → Int32) (mwarm : Nat → Int32) (mdrip : Nat → Int32) (mtape : Nat → Int32) (mbits : Nat → Int32) (msize : Nat → Int32) (mnumber : Nat → Int32) (x1 : Int32) (x2 : Int32) (R : Int32) (mm_r : Nat → Int32) (mfound_r : Nat → Int32) (hf : f_X7_lit mm mfound x1 x2 = some (R, mm_r, mfound_r)) : Met l yX7_lit (ik_ws yX7_lit cX7_lit 3 (some .int)) ({ frames := 2, cells := 0, slots := 0, locals := 45 } : Room) (ik_P D cI cS [.ref h0, .int x1, .int x2] (wz_X7 cI cS h0 h1 h2 h3 h4 h5 h6 h7 h8 h9 h10 h11 misKept mtaped msort mfrom mto mvalue mbad mm mkept mwas mother mfound mwarm mdrip mtape mbits msize mnumber)) (ik_Q (some (.int R)) D (wz_X7 cI cS h0 h1 h2 h3 h4 h5 h6 h7 h8 h9 h10 h11 misKept mtaped msort mfrom mto mvalue mbad mm_r mkept mwas mother mfound_r mwarm mdrip mtape mbits msize mnumber) (wz_X7 cI cS h0 h1 h2 h3 h4 h5 h6 h7 h8 h9 h10 h11 misKept mtaped msort mfrom mto mvalue mbad mm mkept mwas mother mfound mwarm mdrip mtape mbits msize mnumber)) 0 0 (ik_in (wz_X7 cI cS h0 h1 h2 h3 h4 h5 h6 h7 h8 h9 h10 h11 misKept mtaped msort mfrom mto mvalue mbad mm mkept mwas mother mfound mwarm mdrip mtape mbits msize mnumber)) := by
  refine ik_metW RX7 rfl (by decide) (Nat.le_of_ble_eq_true rfl) [(0, .ref h0), (1, .int x1), (2, .int x2)] rfl ?_
  intro p e s m below meth c C hr hlk
  unfold f_X7_lit at hf
  refine ik_iload_n C 1 rfl rfl dX7_lit_0 ?_
  obtain ⟨r1, hc1, hf⟩ := ik_b1s hf
  refine ik_goR (ik_runS C (c_X7_isCandle l D cI cS x1 r1 hc1) ms_X7_isCandle wl_15_17 ⟨rfl, rfl, Nat.le_of_ble_eq_true rfl, Nat.le_of_ble_eq_true rfl⟩ [] rfl (by decide) rfl rfl (Nat.le_of_ble_eq_true rfl) dX7_lit_1) rfl ?_
  refine ik_if_eq C 31 dX7_lit_4 (by decide) (fun hc => ?_) (fun hc => ?_)
  · have hf := ik_pos hc hf
    refine ik_aload_n C 0 rfl rfl dX7_lit_31 ?_
    refine ik_ldc C wl_6_14 dX7_lit_32 ?_
    obtain ⟨r2, g3, hc3, hf⟩ := ik_b2s hf
    refine ik_goW [0, 1, 2, 3, 4, 5, 6, 7, 8, 9, 10, 11] rfl rfl (wz_X7 cI cS h0 h1 h2 h3 h4 h5 h6 h7 h8 h9 h10 h11 misKept mtaped msort mfrom mto mvalue mbad mm mkept mwas mother g3 mwarm mdrip mtape mbits msize mnumber) rfl (ik_runV C (c_X7_finds l D cI cS h0 h1 h2 h3 h4 h5 h6 h7 h8 h9 h10 h11 misKept mtaped msort mfrom mto mvalue mbad mm mkept mwas mother mfound mwarm mdrip mtape mbits msize mnumber (-1000001 : Int32) r2 g3 hc3) mv_X7_finds wl_7_8 ⟨rfl, rfl, Nat.le_of_ble_eq_true rfl, Nat.le_of_ble_eq_true rfl⟩ [0, 1, 2, 3, 4, 5, 6, 7, 8, 9, 10, 11] rfl (by decide) 0 rfl rfl rfl rfl (Nat.le_of_ble_eq_true rfl) dX7_lit_34) rfl ?_
    cases hf
    exact ik_iretW C hr hlk dX7_lit_37
  · have hf := ik_neg hc hf
    refine ik_aload_n C 0 rfl rfl dX7_lit_7 ?_
    refine ik_bipush (v := (6 : Int32)) C (by decide) dX7_lit_8 ?_
    refine ik_iconst (v := (3 : Int32)) C (by decide) dX7_lit_10 ?_
    refine ik_iload_n C 1 rfl rfl dX7_lit_11 ?_
    refine ik_imul C dX7_lit_12 ?_
    refine ik_iadd C dX7_lit_13 ?_
    refine ik_iconst (v := (2 : Int32)) C (by decide) dX7_lit_14 ?_
    refine ik_iadd C dX7_lit_15 ?_
    refine ik_iload_n C 2 rfl rfl dX7_lit_16 ?_
    refine ik_if_eq C 24 dX7_lit_17 (by decide) (fun hc => ?_) (fun hc => ?_)
    · have hf := ik_pos hc hf
      refine ik_iconst (v := (0 : Int32)) C (by decide) dX7_lit_24 ?_
      obtain ⟨r2, g3, hc3, hf⟩ := ik_b2s hf
      refine ik_goW [0, 1, 2, 3, 4, 5, 6, 7, 8, 9, 10, 11] rfl rfl (wz_X7 cI cS h0 h1 h2 h3 h4 h5 h6 h7 h8 h9 h10 h11 misKept mtaped msort mfrom mto mvalue mbad g3 mkept mwas mother mfound mwarm mdrip mtape mbits msize mnumber) rfl (ik_runV C (c_X7_becomes l D cI cS h0 h1 h2 h3 h4 h5 h6 h7 h8 h9 h10 h11 misKept mtaped msort mfrom mto mvalue mbad mm mkept mwas mother mfound mwarm mdrip mtape mbits msize mnumber (((6 : Int32) + ((3 : Int32) * x1)) + (2 : Int32)) (0 : Int32) r2 g3 hc3) mv_X7_becomes wl_12_4 ⟨rfl, rfl, Nat.le_of_ble_eq_true rfl, Nat.le_of_ble_eq_true rfl⟩ [0, 1, 2, 3, 4, 5, 6, 7, 8, 9, 10, 11] rfl (by decide) 0 rfl rfl rfl rfl (Nat.le_of_ble_eq_true rfl) dX7_lit_25) rfl ?_
      refine ik_goto C 37 dX7_lit_28 (by decide) ?_
      cases hf
      exact ik_iretW C hr hlk dX7_lit_37
    · have hf := ik_neg hc hf
      refine ik_iconst (v := (1 : Int32)) C (by decide) dX7_lit_20 ?_
      refine ik_goto C 25 dX7_lit_21 (by decide) ?_
      obtain ⟨r2, g3, hc3, hf⟩ := ik_b2s hf
      refine ik_goW [0, 1, 2, 3, 4, 5, 6, 7, 8, 9, 10, 11] rfl rfl (wz_X7 cI cS h0 h1 h2 h3 h4 h5 h6 h7 h8 h9 h10 h11 misKept mtaped msort mfrom mto mvalue mbad g3 mkept mwas mother mfound mwarm mdrip mtape mbits msize mnumber) rfl (ik_runV C (c_X7_becomes l D cI cS h0 h1 h2 h3 h4 h5 h6 h7 h8 h9 h10 h11 misKept mtaped msort mfrom mto mvalue mbad mm mkept mwas mother mfound mwarm mdrip mtape mbits msize mnumber (((6 : Int32) + ((3 : Int32) * x1)) + (2 : Int32)) (1 : Int32) r2 g3 hc3) mv_X7_becomes wl_12_4 ⟨rfl, rfl, Nat.le_of_ble_eq_true rfl, Nat.le_of_ble_eq_true rfl⟩ [0, 1, 2, 3, 4, 5, 6, 7, 8, 9, 10, 11] rfl (by decide) 0 rfl rfl rfl rfl (Nat.le_of_ble_eq_true rfl) dX7_lit_25) rfl ?_
      refine ik_goto C 37 dX7_lit_28 (by decide) ?_
      cases hf
      exact ik_iretW C hr hlk dX7_lit_37
theorem mv_X7_cold : ik_V yX7_cold RX7 cX7_cold 2 (some .int) 1 := ⟨wl_16_16, wl_16_17, wl_1_5, wl_16_18, by decide +kernel⟩
set_option maxHeartbeats 4000000 in
set_option maxRecDepth 100000 in
theorem c_X7_cold (l : Launch) (D : va_G) (cI cS : ClassId) (h0 h1 h2 h3 h4 h5 h6 h7 h8 h9 h10 h11 : Nat) (misKept : Int32) (mtaped : Int32) (msort : Int32) (mfrom : Int32) (mto : Int32) (mvalue : Int32) (mbad : Int32) (mm : Nat → Int32) (mkept : Nat → Int32) (mwas : Nat → Int32) (mother : Nat → Int32) (mfound : Nat → Int32) (mwarm : Nat → Int32) (mdrip : Nat → Int32) (mtape : Nat → Int32) (mbits : Nat → Int32) (msize : Nat → Int32) (mnumber : Nat → Int32) (x1 : Int32) (R : Int32) (mm_r : Nat → Int32) (mfound_r : Nat → Int32) (hf : f_X7_cold mm mfound x1 = some (R, mm_r, mfound_r)) : Met l yX7_cold (ik_ws yX7_cold cX7_cold 2 (some .int)) ({ frames := 1, cells := 0, slots := 0, locals := 25 } : Room) (ik_P D cI cS [.ref h0, .int x1] (wz_X7 cI cS h0 h1 h2 h3 h4 h5 h6 h7 h8 h9 h10 h11 misKept mtaped msort mfrom mto mvalue mbad mm mkept mwas mother mfound mwarm mdrip mtape mbits msize mnumber)) (ik_Q (some (.int R)) D (wz_X7 cI cS h0 h1 h2 h3 h4 h5 h6 h7 h8 h9 h10 h11 misKept mtaped msort mfrom mto mvalue mbad mm_r mkept mwas mother mfound_r mwarm mdrip mtape mbits msize mnumber) (wz_X7 cI cS h0 h1 h2 h3 h4 h5 h6 h7 h8 h9 h10 h11 misKept mtaped msort mfrom mto mvalue mbad mm mkept mwas mother mfound mwarm mdrip mtape mbits msize mnumber)) 0 0 (ik_in (wz_X7 cI cS h0 h1 h2 h3 h4 h5 h6 h7 h8 h9 h10 h11 misKept mtaped msort mfrom mto mvalue mbad mm mkept mwas mother mfound mwarm mdrip mtape mbits msize mnumber)) := by
  refine ik_metW RX7 rfl (by decide) (Nat.le_of_ble_eq_true rfl) [(0, .ref h0), (1, .int x1)] rfl ?_
  intro p e s m below meth c C hr hlk
  unfold f_X7_cold at hf
  refine ik_iload_n C 1 rfl rfl dX7_cold_0 ?_
  refine ik_i2l C dX7_cold_1 ?_
  refine ik_ldc2 C wl_16_19 dX7_cold_2 ?_
  refine ik_ldc2 C wl_16_20 dX7_cold_5 ?_
  obtain ⟨r1, hc1, hf⟩ := ik_b1s hf
  refine ik_goR (ik_runS C (c_X7_in l D cI cS (x1).toInt64 (-20 : Int64) (20 : Int64) r1 hc1) ms_X7_in wl_6_21 ⟨rfl, rfl, Nat.le_of_ble_eq_true rfl, Nat.le_of_ble_eq_true rfl⟩ [] rfl (by decide) rfl rfl (Nat.le_of_ble_eq_true rfl) dX7_cold_8) rfl ?_
  refine ik_if_eq C 23 dX7_cold_11 (by decide) (fun hc => ?_) (fun hc => ?_)
  · have hf := ik_pos hc hf
    refine ik_aload_n C 0 rfl rfl dX7_cold_23 ?_
    refine ik_ldc C wl_6_14 dX7_cold_24 ?_
    obtain ⟨r2, g3, hc3, hf⟩ := ik_b2s hf
    refine ik_goW [0, 1, 2, 3, 4, 5, 6, 7, 8, 9, 10, 11] rfl rfl (wz_X7 cI cS h0 h1 h2 h3 h4 h5 h6 h7 h8 h9 h10 h11 misKept mtaped msort mfrom mto mvalue mbad mm mkept mwas mother g3 mwarm mdrip mtape mbits msize mnumber) rfl (ik_runV C (c_X7_finds l D cI cS h0 h1 h2 h3 h4 h5 h6 h7 h8 h9 h10 h11 misKept mtaped msort mfrom mto mvalue mbad mm mkept mwas mother mfound mwarm mdrip mtape mbits msize mnumber (-1000001 : Int32) r2 g3 hc3) mv_X7_finds wl_7_8 ⟨rfl, rfl, Nat.le_of_ble_eq_true rfl, Nat.le_of_ble_eq_true rfl⟩ [0, 1, 2, 3, 4, 5, 6, 7, 8, 9, 10, 11] rfl (by decide) 0 rfl rfl rfl rfl (Nat.le_of_ble_eq_true rfl) dX7_cold_26) rfl ?_
    cases hf
    exact ik_iretW C hr hlk dX7_cold_29
  · have hf := ik_neg hc hf
    refine ik_aload_n C 0 rfl rfl dX7_cold_14 ?_
    refine ik_iconst (v := (1 : Int32)) C (by decide) dX7_cold_15 ?_
    refine ik_iload_n C 1 rfl rfl dX7_cold_16 ?_
    obtain ⟨r2, g3, hc3, hf⟩ := ik_b2s hf
    refine ik_goW [0, 1, 2, 3, 4, 5, 6, 7, 8, 9, 10, 11] rfl rfl (wz_X7 cI cS h0 h1 h2 h3 h4 h5 h6 h7 h8 h9 h10 h11 misKept mtaped msort mfrom mto mvalue mbad g3 mkept mwas mother mfound mwarm mdrip mtape mbits msize mnumber) rfl (ik_runV C (c_X7_becomes l D cI cS h0 h1 h2 h3 h4 h5 h6 h7 h8 h9 h10 h11 misKept mtaped msort mfrom mto mvalue mbad mm mkept mwas mother mfound mwarm mdrip mtape mbits msize mnumber (1 : Int32) x1 r2 g3 hc3) mv_X7_becomes wl_12_4 ⟨rfl, rfl, Nat.le_of_ble_eq_true rfl, Nat.le_of_ble_eq_true rfl⟩ [0, 1, 2, 3, 4, 5, 6, 7, 8, 9, 10, 11] rfl (by decide) 0 rfl rfl rfl rfl (Nat.le_of_ble_eq_true rfl) dX7_cold_17) rfl ?_
    refine ik_goto C 29 dX7_cold_20 (by decide) ?_
    cases hf
    exact ik_iretW C hr hlk dX7_cold_29
theorem mv_X7_warmth : ik_V yX7_warmth RX7 cX7_warmth 2 (some .int) 1 := ⟨wl_17_2, wl_17_3, wl_1_5, wl_17_4, by decide +kernel⟩
set_option maxHeartbeats 4000000 in
set_option maxRecDepth 100000 in
theorem c_X7_warmth (l : Launch) (D : va_G) (cI cS : ClassId) (h0 h1 h2 h3 h4 h5 h6 h7 h8 h9 h10 h11 : Nat) (misKept : Int32) (mtaped : Int32) (msort : Int32) (mfrom : Int32) (mto : Int32) (mvalue : Int32) (mbad : Int32) (mm : Nat → Int32) (mkept : Nat → Int32) (mwas : Nat → Int32) (mother : Nat → Int32) (mfound : Nat → Int32) (mwarm : Nat → Int32) (mdrip : Nat → Int32) (mtape : Nat → Int32) (mbits : Nat → Int32) (msize : Nat → Int32) (mnumber : Nat → Int32) (x1 : Int32) (R : Int32) (mfound_r : Nat → Int32) (hf : f_X7_warmth mm mfound x1 = some (R, mfound_r)) : Met l yX7_warmth (ik_ws yX7_warmth cX7_warmth 2 (some .int)) ({ frames := 2, cells := 0, slots := 0, locals := 46 } : Room) (ik_P D cI cS [.ref h0, .int x1] (wz_X7 cI cS h0 h1 h2 h3 h4 h5 h6 h7 h8 h9 h10 h11 misKept mtaped msort mfrom mto mvalue mbad mm mkept mwas mother mfound mwarm mdrip mtape mbits msize mnumber)) (ik_Q (some (.int R)) D (wz_X7 cI cS h0 h1 h2 h3 h4 h5 h6 h7 h8 h9 h10 h11 misKept mtaped msort mfrom mto mvalue mbad mm mkept mwas mother mfound_r mwarm mdrip mtape mbits msize mnumber) (wz_X7 cI cS h0 h1 h2 h3 h4 h5 h6 h7 h8 h9 h10 h11 misKept mtaped msort mfrom mto mvalue mbad mm mkept mwas mother mfound mwarm mdrip mtape mbits msize mnumber)) 0 0 (ik_in (wz_X7 cI cS h0 h1 h2 h3 h4 h5 h6 h7 h8 h9 h10 h11 misKept mtaped msort mfrom mto mvalue mbad mm mkept mwas mother mfound mwarm mdrip mtape mbits msize mnumber)) := by
  refine ik_metW RX7 rfl (by decide) (Nat.le_of_ble_eq_true rfl) [(0, .ref h0), (1, .int x1)] rfl ?_
  intro p e s m below meth c C hr hlk
  unfold f_X7_warmth at hf
  refine ik_iload_n C 1 rfl rfl dX7_warmth_0 ?_
  obtain ⟨r1, hc1, hf⟩ := ik_b1s hf
  refine ik_goR (ik_runS C (c_X7_isCell l D cI cS x1 r1 hc1) ms_X7_isCell wl_7_0 ⟨rfl, rfl, Nat.le_of_ble_eq_true rfl, Nat.le_of_ble_eq_true rfl⟩ [] rfl (by decide) rfl rfl (Nat.le_of_ble_eq_true rfl) dX7_warmth_1) rfl ?_
  refine ik_if_eq C 15 dX7_warmth_4 (by decide) (fun hc => ?_) (fun hc => ?_)
  · have hf := ik_pos hc hf
    refine ik_aload_n C 0 rfl rfl dX7_warmth_15 ?_
    refine ik_ldc C wl_6_14 dX7_warmth_16 ?_
    obtain ⟨r2, g3, hc3, hf⟩ := ik_b2s hf
    refine ik_goW [0, 1, 2, 3, 4, 5, 6, 7, 8, 9, 10, 11] rfl rfl (wz_X7 cI cS h0 h1 h2 h3 h4 h5 h6 h7 h8 h9 h10 h11 misKept mtaped msort mfrom mto mvalue mbad mm mkept mwas mother g3 mwarm mdrip mtape mbits msize mnumber) rfl (ik_runV C (c_X7_finds l D cI cS h0 h1 h2 h3 h4 h5 h6 h7 h8 h9 h10 h11 misKept mtaped msort mfrom mto mvalue mbad mm mkept mwas mother mfound mwarm mdrip mtape mbits msize mnumber (-1000001 : Int32) r2 g3 hc3) mv_X7_finds wl_7_8 ⟨rfl, rfl, Nat.le_of_ble_eq_true rfl, Nat.le_of_ble_eq_true rfl⟩ [0, 1, 2, 3, 4, 5, 6, 7, 8, 9, 10, 11] rfl (by decide) 0 rfl rfl rfl rfl (Nat.le_of_ble_eq_true rfl) dX7_warmth_18) rfl ?_
    cases hf
    exact ik_iretW C hr hlk dX7_warmth_21
  · have hf := ik_neg hc hf
    refine ik_aload_n C 0 rfl rfl dX7_warmth_7 ?_
    refine ik_iload_n C 1 rfl rfl dX7_warmth_8 ?_
    obtain ⟨r2, hc2, hf⟩ := ik_b1s hf
    refine ik_goR (ik_runV C (c_X7_warmthOf l D cI cS h0 h1 h2 h3 h4 h5 h6 h7 h8 h9 h10 h11 misKept mtaped msort mfrom mto mvalue mbad mm mkept mwas mother mfound mwarm mdrip mtape mbits msize mnumber x1 r2 hc2) mv_X7_warmthOf wl_14_12 ⟨rfl, rfl, Nat.le_of_ble_eq_true rfl, Nat.le_of_ble_eq_true rfl⟩ [0, 1, 2, 3, 4, 5, 6, 7, 8, 9, 10, 11] rfl (by decide) 0 rfl rfl rfl rfl (Nat.le_of_ble_eq_true rfl) dX7_warmth_9) rfl ?_
    refine ik_goto C 21 dX7_warmth_12 (by decide) ?_
    cases hf
    exact ik_iretW C hr hlk dX7_warmth_21
theorem mv_X7_light : ik_V yX7_light RX7 cX7_light 3 (some .int) 0 := ⟨wl_17_15, wl_17_16, wl_1_5, wl_17_17, by decide +kernel⟩
set_option maxHeartbeats 4000000 in
set_option maxRecDepth 100000 in
theorem c_X7_light (l : Launch) (D : va_G) (cI cS : ClassId) (h0 h1 h2 h3 h4 h5 h6 h7 h8 h9 h10 h11 : Nat) (misKept : Int32) (mtaped : Int32) (msort : Int32) (mfrom : Int32) (mto : Int32) (mvalue : Int32) (mbad : Int32) (mm : Nat → Int32) (mkept : Nat → Int32) (mwas : Nat → Int32) (mother : Nat → Int32) (mfound : Nat → Int32) (mwarm : Nat → Int32) (mdrip : Nat → Int32) (mtape : Nat → Int32) (mbits : Nat → Int32) (msize : Nat → Int32) (mnumber : Nat → Int32) (R : Int32) (hf : f_X7_light mm = some (R)) : Met l yX7_light (ik_ws yX7_light cX7_light 3 (some .int)) ({ frames := 1, cells := 0, slots := 0, locals := 21 } : Room) (ik_P D cI cS [.ref h0] (wz_X7 cI cS h0 h1 h2 h3 h4 h5 h6 h7 h8 h9 h10 h11 misKept mtaped msort mfrom mto mvalue mbad mm mkept mwas mother mfound mwarm mdrip mtape mbits msize mnumber)) (ik_R (some (.int R))) 0 0 ik_no := by
  refine ik_metR RX7 rfl (by decide) (Nat.le_of_ble_eq_true rfl) [(0, .ref h0)] rfl ?_
  intro p e s m below meth c C hr hlk
  unfold f_X7_light at hf
  refine ik_iconst (v := (0 : Int32)) C (by decide) dX7_light_0 ?_
  refine ik_istore_n C [(1, .int (0 : Int32)), (0, .ref h0)] rfl (by decide) rfl dX7_light_1 ?_
  refine ik_iconst (v := (0 : Int32)) C (by decide) dX7_light_2 ?_
  refine ik_istore_n C [(2, .int (0 : Int32)), (1, .int (0 : Int32)), (0, .ref h0)] rfl (by decide) rfl dX7_light_3 ?_
  have hL_4 : ∀ (n_4 : Nat) (x1_4 : Int32) (x2_4 : Int32), ik_lp2 (b_X7_light_4 mm) n_4 x1_4 x2_4 = some (R) → ik_G p l e ({ frames := 1, cells := 0, slots := 0, locals := 21 } : Room) s m ([.ref h0] : List Value).toArray below meth c D ik_no (fun _ => True) 3 (MQ below (ik_R (some (.int R))) ([.ref h0] : List Value).toArray s 0 0 ik_no) 4 [(2, .int x2_4), (1, .int x1_4), (0, .ref h0)] [] (wz_X7 cI cS h0 h1 h2 h3 h4 h5 h6 h7 h8 h9 h10 h11 misKept mtaped msort mfrom mto mvalue mbad mm mkept mwas mother mfound mwarm mdrip mtape mbits msize mnumber) := by
    intro n_4
    induction n_4 with
    | zero => intro _ _ hf; exact nomatch hf
    | succ n_4 ih_4 =>
      intro x1_4 x2_4 hf
      replace hf : b_X7_light_4 mm (ik_lp2 (b_X7_light_4 mm) n_4) x1_4 x2_4 = some (R) := hf
      unfold b_X7_light_4 at hf
      refine ik_iload_n C 0 rfl rfl dX7_light_4 ?_
      refine ik_bipush (v := (6 : Int32)) C (by decide) dX7_light_5 ?_
      refine ik_icmp_ge C 44 dX7_light_7 (by decide) (fun hc => ?_) (fun hc => ?_)
      · have hf := ik_pos hc hf
        refine ik_iload_n C 1 rfl rfl dX7_light_44 ?_
        cases hf
        exact ik_iretR C hr hlk dX7_light_45
      · have hf := ik_neg hc hf
        refine ik_iload_n C 1 rfl rfl dX7_light_10 ?_
        refine ik_aload_n C 2 rfl rfl dX7_light_11 ?_
        refine ik_iload_n C 0 rfl rfl dX7_light_12 ?_
        obtain ⟨r1, hc1, hf⟩ := ik_b1s hf
        refine ik_goR (ik_runV C (c_X7_isLit l D cI cS h0 h1 h2 h3 h4 h5 h6 h7 h8 h9 h10 h11 misKept mtaped msort mfrom mto mvalue mbad mm mkept mwas mother mfound mwarm mdrip mtape mbits msize mnumber x2_4 r1 hc1) mv_X7_isLit wl_14_16 ⟨rfl, rfl, Nat.le_of_ble_eq_true rfl, Nat.le_of_ble_eq_true rfl⟩ [0, 1, 2, 3, 4, 5, 6, 7, 8, 9, 10, 11] rfl (by decide) 0 rfl rfl rfl rfl (Nat.le_of_ble_eq_true rfl) dX7_light_13) rfl ?_
        refine ik_if_eq C 35 dX7_light_16 (by decide) (fun hc => ?_) (fun hc => ?_)
        · have hf := ik_pos hc hf
          refine ik_iconst (v := (0 : Int32)) C (by decide) dX7_light_35 ?_
          refine ik_iadd C dX7_light_36 ?_
          refine ik_istore_n C [(1, .int (x1_4 + (0 : Int32))), (2, .int x2_4), (0, .ref h0)] rfl (by decide) rfl dX7_light_37 ?_
          refine ik_iinc C [(2, .int (x2_4 + (1 : Int32))), (1, .int (x1_4 + (0 : Int32))), (0, .ref h0)] 1 rfl rfl (by decide) rfl dX7_light_38 ?_
          refine ik_goto C 4 dX7_light_41 (by decide) ?_
          exact ik_sub [0, 1, 2] [(2, .int (x2_4 + (1 : Int32))), (1, .int (x1_4 + (0 : Int32))), (0, .ref h0)] rfl (ih_4 (x1_4 + (0 : Int32)) (x2_4 + (1 : Int32)) hf)
        · have hf := ik_neg hc hf
          refine ik_aload_n C 2 rfl rfl dX7_light_19 ?_
          refine ik_get C inlX7 0 rfl rfl 0 (by decide) wl_4_12 rfl (v := .ref h1) rfl dX7_light_20 ?_
          refine ik_bipush (v := (6 : Int32)) C (by decide) dX7_light_23 ?_
          refine ik_iconst (v := (3 : Int32)) C (by decide) dX7_light_25 ?_
          refine ik_iload_n C 0 rfl rfl dX7_light_26 ?_
          refine ik_imul C dX7_light_27 ?_
          refine ik_iadd C dX7_light_28 ?_
          refine ik_iconst (v := (1 : Int32)) C (by decide) dX7_light_29 ?_
          refine ik_iadd C dX7_light_30 ?_
          have hg := ik_gdi hf
          have hf := ik_gdk hf
          refine ik_iald C 1 rfl hg dX7_light_31 ?_
          refine ik_goto C 36 dX7_light_32 (by decide) ?_
          refine ik_iadd C dX7_light_36 ?_
          refine ik_istore_n C [(1, .int (x1_4 + (mm ((((6 : Int32) + ((3 : Int32) * x2_4)) + (1 : Int32))).toNatClampNeg))), (2, .int x2_4), (0, .ref h0)] rfl (by decide) rfl dX7_light_37 ?_
          refine ik_iinc C [(2, .int (x2_4 + (1 : Int32))), (1, .int (x1_4 + (mm ((((6 : Int32) + ((3 : Int32) * x2_4)) + (1 : Int32))).toNatClampNeg))), (0, .ref h0)] 1 rfl rfl (by decide) rfl dX7_light_38 ?_
          refine ik_goto C 4 dX7_light_41 (by decide) ?_
          exact ik_sub [0, 1, 2] [(2, .int (x2_4 + (1 : Int32))), (1, .int (x1_4 + (mm ((((6 : Int32) + ((3 : Int32) * x2_4)) + (1 : Int32))).toNatClampNeg))), (0, .ref h0)] rfl (ih_4 (x1_4 + (mm ((((6 : Int32) + ((3 : Int32) * x2_4)) + (1 : Int32))).toNatClampNeg)) (x2_4 + (1 : Int32)) hf)
  exact hL_4 ik_fu (0 : Int32) (0 : Int32) hf
theorem mv_X7_melts : ik_V yX7_melts RX7 cX7_melts 3 none 1 := ⟨wl_20_23, wl_21_0, wl_1_5, wl_21_1, by decide +kernel⟩
set_option maxHeartbeats 4000000 in
set_option maxRecDepth 100000 in
theorem c_X7_melts (l : Launch) (D : va_G) (cI cS : ClassId) (h0 h1 h2 h3 h4 h5 h6 h7 h8 h9 h10 h11 : Nat) (misKept : Int32) (mtaped : Int32) (msort : Int32) (mfrom : Int32) (mto : Int32) (mvalue : Int32) (mbad : Int32) (mm : Nat → Int32) (mkept : Nat → Int32) (mwas : Nat → Int32) (mother : Nat → Int32) (mfound : Nat → Int32) (mwarm : Nat → Int32) (mdrip : Nat → Int32) (mtape : Nat → Int32) (mbits : Nat → Int32) (msize : Nat → Int32) (mnumber : Nat → Int32) (x1 : Int32) (mm_r : Nat → Int32) (mdrip_r : Nat → Int32) (hf : f_X7_melts mm mwarm mdrip x1 = some (mm_r, mdrip_r)) : Met l yX7_melts (ik_ws yX7_melts cX7_melts 3 none) ({ frames := 1, cells := 0, slots := 0, locals := 22 } : Room) (ik_P D cI cS [.ref h0, .int x1] (wz_X7 cI cS h0 h1 h2 h3 h4 h5 h6 h7 h8 h9 h10 h11 misKept mtaped msort mfrom mto mvalue mbad mm mkept mwas mother mfound mwarm mdrip mtape mbits msize mnumber)) (ik_Q none D (wz_X7 cI cS h0 h1 h2 h3 h4 h5 h6 h7 h8 h9 h10 h11 misKept mtaped msort mfrom mto mvalue mbad mm_r mkept mwas mother mfound mwarm mdrip_r mtape mbits msize mnumber) (wz_X7 cI cS h0 h1 h2 h3 h4 h5 h6 h7 h8 h9 h10 h11 misKept mtaped msort mfrom mto mvalue mbad mm mkept mwas mother mfound mwarm mdrip mtape mbits msize mnumber)) 0 0 (ik_in (wz_X7 cI cS h0 h1 h2 h3 h4 h5 h6 h7 h8 h9 h10 h11 misKept mtaped msort mfrom mto mvalue mbad mm mkept mwas mother mfound mwarm mdrip mtape mbits msize mnumber)) := by
  refine ik_metW RX7 rfl (by decide) (Nat.le_of_ble_eq_true rfl) [(0, .ref h0), (1, .int x1)] rfl ?_
  intro p e s m below meth c C hr hlk
  unfold f_X7_melts at hf
  refine ik_aload_n C 0 rfl rfl dX7_melts_0 ?_
  refine ik_get C inlX7 0 rfl rfl 6 (by decide) wl_4_17 rfl (v := .ref h6) rfl dX7_melts_1 ?_
  refine ik_iload_n C 1 rfl rfl dX7_melts_4 ?_
  have hg := ik_gdi hf
  have hf := ik_gdk hf
  refine ik_iald C 6 rfl hg dX7_melts_5 ?_
  refine ik_if_le C 84 dX7_melts_6 (by decide) (fun hc => ?_) (fun hc => ?_)
  · have hf := ik_pos hc hf
    refine ik_aload_n C 0 rfl rfl dX7_melts_84 ?_
    refine ik_get C inlX7 0 rfl rfl 6 (by decide) wl_4_17 rfl (v := .ref h6) rfl dX7_melts_85 ?_
    refine ik_iload_n C 1 rfl rfl dX7_melts_88 ?_
    have hg := ik_gdi hf
    have hf := ik_gdk hf
    refine ik_iald C 6 rfl hg dX7_melts_89 ?_
    refine ik_ineg C dX7_melts_90 ?_
    refine ik_iconst (v := (2 : Int32)) C (by decide) dX7_melts_91 ?_
    refine ik_idiv C (by decide) dX7_melts_92 ?_
    refine ik_istore_n C [(2, .int ((-(mwarm (x1).toNatClampNeg)) / (2 : Int32))), (0, .ref h0), (1, .int x1)] rfl (by decide) rfl dX7_melts_93 ?_
    have hJ_114 : ∀ (v0_114 : Int32), j_X7_melts_114 mm mdrip x1 v0_114 = some (mm_r, mdrip_r) → ik_G p l e ({ frames := 1, cells := 0, slots := 0, locals := 22 } : Room) s m ([.ref h0, .int x1] : List Value).toArray below meth c D (ik_in (wz_X7 cI cS h0 h1 h2 h3 h4 h5 h6 h7 h8 h9 h10 h11 misKept mtaped msort mfrom mto mvalue mbad mm mkept mwas mother mfound mwarm mdrip mtape mbits msize mnumber)) (ik_in (wz_X7 cI cS h0 h1 h2 h3 h4 h5 h6 h7 h8 h9 h10 h11 misKept mtaped msort mfrom mto mvalue mbad mm mkept mwas mother mfound mwarm mdrip mtape mbits msize mnumber)) 3 (MQ below (ik_Q none D (wz_X7 cI cS h0 h1 h2 h3 h4 h5 h6 h7 h8 h9 h10 h11 misKept mtaped msort mfrom mto mvalue mbad mm_r mkept mwas mother mfound mwarm mdrip_r mtape mbits msize mnumber) (wz_X7 cI cS h0 h1 h2 h3 h4 h5 h6 h7 h8 h9 h10 h11 misKept mtaped msort mfrom mto mvalue mbad mm mkept mwas mother mfound mwarm mdrip mtape mbits msize mnumber)) ([.ref h0, .int x1] : List Value).toArray s 0 0 (ik_in (wz_X7 cI cS h0 h1 h2 h3 h4 h5 h6 h7 h8 h9 h10 h11 misKept mtaped msort mfrom mto mvalue mbad mm mkept mwas mother mfound mwarm mdrip mtape mbits msize mnumber))) 114 [(2, .int ((-(mwarm (x1).toNatClampNeg)) / (2 : Int32))), (0, .ref h0), (1, .int x1)] [.int v0_114] (wz_X7 cI cS h0 h1 h2 h3 h4 h5 h6 h7 h8 h9 h10 h11 misKept mtaped msort mfrom mto mvalue mbad mm mkept mwas mother mfound mwarm mdrip mtape mbits msize mnumber) := by
      intro v0_114 hf
      unfold j_X7_melts_114 at hf
      refine ik_istore_n C [(2, .int v0_114), (0, .ref h0), (1, .int x1)] rfl (by decide) rfl dX7_melts_114 ?_
      have hJ_139 : ∀ (v0_139 : Int32), j_X7_melts_139 mm mdrip x1 v0_139 = some (mm_r, mdrip_r) → ik_G p l e ({ frames := 1, cells := 0, slots := 0, locals := 22 } : Room) s m ([.ref h0, .int x1] : List Value).toArray below meth c D (ik_in (wz_X7 cI cS h0 h1 h2 h3 h4 h5 h6 h7 h8 h9 h10 h11 misKept mtaped msort mfrom mto mvalue mbad mm mkept mwas mother mfound mwarm mdrip mtape mbits msize mnumber)) (ik_in (wz_X7 cI cS h0 h1 h2 h3 h4 h5 h6 h7 h8 h9 h10 h11 misKept mtaped msort mfrom mto mvalue mbad mm mkept mwas mother mfound mwarm mdrip mtape mbits msize mnumber)) 3 (MQ below (ik_Q none D (wz_X7 cI cS h0 h1 h2 h3 h4 h5 h6 h7 h8 h9 h10 h11 misKept mtaped msort mfrom mto mvalue mbad mm_r mkept mwas mother mfound mwarm mdrip_r mtape mbits msize mnumber) (wz_X7 cI cS h0 h1 h2 h3 h4 h5 h6 h7 h8 h9 h10 h11 misKept mtaped msort mfrom mto mvalue mbad mm mkept mwas mother mfound mwarm mdrip mtape mbits msize mnumber)) ([.ref h0, .int x1] : List Value).toArray s 0 0 (ik_in (wz_X7 cI cS h0 h1 h2 h3 h4 h5 h6 h7 h8 h9 h10 h11 misKept mtaped msort mfrom mto mvalue mbad mm mkept mwas mother mfound mwarm mdrip mtape mbits msize mnumber))) 139 [(2, .int v0_114), (0, .ref h0), (1, .int x1)] [.int v0_139] (wz_X7 cI cS h0 h1 h2 h3 h4 h5 h6 h7 h8 h9 h10 h11 misKept mtaped msort mfrom mto mvalue mbad mm mkept mwas mother mfound mwarm mdrip mtape mbits msize mnumber) := by
        intro v0_139 hf
        unfold j_X7_melts_139 at hf
        refine ik_istore_n C [(2, .int v0_139), (0, .ref h0), (1, .int x1)] rfl (by decide) rfl dX7_melts_139 ?_
        refine ik_aload_n C 1 rfl rfl dX7_melts_140 ?_
        refine ik_iload_n C 2 rfl rfl dX7_melts_141 ?_
        refine ik_aload_n C 1 rfl rfl dX7_melts_142 ?_
        refine ik_iload_n C 2 rfl rfl dX7_melts_143 ?_
        obtain ⟨r1, hc1, hf⟩ := ik_b1s hf
        refine ik_goR (ik_runV C (c_X7_grains l D cI cS h0 h1 h2 h3 h4 h5 h6 h7 h8 h9 h10 h11 misKept mtaped msort mfrom mto mvalue mbad mm mkept mwas mother mfound mwarm mdrip mtape mbits msize mnumber x1 r1 hc1) mv_X7_grains wl_10_1 ⟨rfl, rfl, Nat.le_of_ble_eq_true rfl, Nat.le_of_ble_eq_true rfl⟩ [0, 1, 2, 3, 4, 5, 6, 7, 8, 9, 10, 11] rfl (by decide) 0 rfl rfl rfl rfl (Nat.le_of_ble_eq_true rfl) dX7_melts_144) rfl ?_
        refine ik_iload_n C 0 rfl rfl dX7_melts_147 ?_
        refine ik_iadd C dX7_melts_148 ?_
        obtain ⟨g2, hc2, hf⟩ := ik_b1s hf
        refine ik_goW [0, 1, 2, 3, 4, 5, 6, 7, 8, 9, 10, 11] rfl rfl (wz_X7 cI cS h0 h1 h2 h3 h4 h5 h6 h7 h8 h9 h10 h11 misKept mtaped msort mfrom mto mvalue mbad g2 mkept mwas mother mfound mwarm mdrip mtape mbits msize mnumber) rfl (ik_runV C (c_X7_makes l D cI cS h0 h1 h2 h3 h4 h5 h6 h7 h8 h9 h10 h11 misKept mtaped msort mfrom mto mvalue mbad mm mkept mwas mother mfound mwarm mdrip mtape mbits msize mnumber x1 (r1 + v0_139) g2 hc2) mv_X7_makes wl_14_23 ⟨rfl, rfl, Nat.le_of_ble_eq_true rfl, Nat.le_of_ble_eq_true rfl⟩ [0, 1, 2, 3, 4, 5, 6, 7, 8, 9, 10, 11] rfl (by decide) 0 rfl rfl rfl rfl (Nat.le_of_ble_eq_true rfl) dX7_melts_149) rfl ?_
        refine ik_aload_n C 1 rfl rfl dX7_melts_152 ?_
        refine ik_get C inlX7 0 rfl rfl 0 (by decide) wl_4_12 rfl (v := .ref h1) rfl dX7_melts_153 ?_
        refine ik_iconst (v := (2 : Int32)) C (by decide) dX7_melts_156 ?_
        refine ik_dup2 C rfl rfl dX7_melts_157 ?_
        refine ik_iald C 1 rfl (ik_vin (by decide)) dX7_melts_158 ?_
        refine ik_iload_n C 0 rfl rfl dX7_melts_159 ?_
        refine ik_isub C dX7_melts_160 ?_
        refine ik_iast C 1 rfl (ik_vin (by decide)) (wz_X7 cI cS h0 h1 h2 h3 h4 h5 h6 h7 h8 h9 h10 h11 misKept mtaped msort mfrom mto mvalue mbad (upd g2 ((2 : Int32)).toNatClampNeg ((g2 ((2 : Int32)).toNatClampNeg) - v0_139)) mkept mwas mother mfound mwarm mdrip mtape mbits msize mnumber) rfl dX7_melts_161 ?_
        cases hf
        exact ik_vretW C hr hlk dX7_melts_162
      refine ik_iload_n C 0 rfl rfl dX7_melts_115 ?_
      refine ik_bipush (v := (99 : Int32)) C (by decide) dX7_melts_116 ?_
      refine ik_aload_n C 1 rfl rfl dX7_melts_118 ?_
      refine ik_iload_n C 2 rfl rfl dX7_melts_119 ?_
      obtain ⟨r1, hc1, hf⟩ := ik_b1s hf
      refine ik_goR (ik_runV C (c_X7_grains l D cI cS h0 h1 h2 h3 h4 h5 h6 h7 h8 h9 h10 h11 misKept mtaped msort mfrom mto mvalue mbad mm mkept mwas mother mfound mwarm mdrip mtape mbits msize mnumber x1 r1 hc1) mv_X7_grains wl_10_1 ⟨rfl, rfl, Nat.le_of_ble_eq_true rfl, Nat.le_of_ble_eq_true rfl⟩ [0, 1, 2, 3, 4, 5, 6, 7, 8, 9, 10, 11] rfl (by decide) 0 rfl rfl rfl rfl (Nat.le_of_ble_eq_true rfl) dX7_melts_120) rfl ?_
      refine ik_isub C dX7_melts_123 ?_
      refine ik_icmp_ge C 131 dX7_melts_124 (by decide) (fun hc => ?_) (fun hc => ?_)
      · have hf := ik_pos hc hf
        refine ik_bipush (v := (99 : Int32)) C (by decide) dX7_melts_131 ?_
        refine ik_aload_n C 1 rfl rfl dX7_melts_133 ?_
        refine ik_iload_n C 2 rfl rfl dX7_melts_134 ?_
        obtain ⟨r2, hc2, hf⟩ := ik_b1s hf
        refine ik_goR (ik_runV C (c_X7_grains l D cI cS h0 h1 h2 h3 h4 h5 h6 h7 h8 h9 h10 h11 misKept mtaped msort mfrom mto mvalue mbad mm mkept mwas mother mfound mwarm mdrip mtape mbits msize mnumber x1 r2 hc2) mv_X7_grains wl_10_1 ⟨rfl, rfl, Nat.le_of_ble_eq_true rfl, Nat.le_of_ble_eq_true rfl⟩ [0, 1, 2, 3, 4, 5, 6, 7, 8, 9, 10, 11] rfl (by decide) 0 rfl rfl rfl rfl (Nat.le_of_ble_eq_true rfl) dX7_melts_135) rfl ?_
        refine ik_isub C dX7_melts_138 ?_
        exact ik_sub [0, 1, 2] [(2, .int v0_114), (0, .ref h0), (1, .int x1)] rfl (hJ_139 ((99 : Int32) - r2) hf)
      · have hf := ik_neg hc hf
        refine ik_iload_n C 0 rfl rfl dX7_melts_127 ?_
        refine ik_goto C 139 dX7_melts_128 (by decide) ?_
        exact ik_sub [0, 1, 2] [(2, .int v0_114), (0, .ref h0), (1, .int x1)] rfl (hJ_139 v0_114 hf)
    refine ik_iload_n C 0 rfl rfl dX7_melts_94 ?_
    refine ik_aload_n C 1 rfl rfl dX7_melts_95 ?_
    refine ik_get C inlX7 0 rfl rfl 0 (by decide) wl_4_12 rfl (v := .ref h1) rfl dX7_melts_96 ?_
    refine ik_iconst (v := (2 : Int32)) C (by decide) dX7_melts_99 ?_
    refine ik_iald C 1 rfl (ik_vin (by decide)) dX7_melts_100 ?_
    refine ik_icmp_ge C 108 dX7_melts_101 (by decide) (fun hc => ?_) (fun hc => ?_)
    · have hf := ik_pos hc hf
      refine ik_aload_n C 1 rfl rfl dX7_melts_108 ?_
      refine ik_get C inlX7 0 rfl rfl 0 (by decide) wl_4_12 rfl (v := .ref h1) rfl dX7_melts_109 ?_
      refine ik_iconst (v := (2 : Int32)) C (by decide) dX7_melts_112 ?_
      refine ik_iald C 1 rfl (ik_vin (by decide)) dX7_melts_113 ?_
      exact ik_sub [0, 1, 2] [(2, .int ((-(mwarm (x1).toNatClampNeg)) / (2 : Int32))), (0, .ref h0), (1, .int x1)] rfl (hJ_114 (mm ((2 : Int32)).toNatClampNeg) hf)
    · have hf := ik_neg hc hf
      refine ik_iload_n C 0 rfl rfl dX7_melts_104 ?_
      refine ik_goto C 114 dX7_melts_105 (by decide) ?_
      exact ik_sub [0, 1, 2] [(2, .int ((-(mwarm (x1).toNatClampNeg)) / (2 : Int32))), (0, .ref h0), (1, .int x1)] rfl (hJ_114 ((-(mwarm (x1).toNatClampNeg)) / (2 : Int32)) hf)
  · have hf := ik_neg hc hf
    have hJ_37 : ∀ (v0_37 : Int32), j_X7_melts_37 mm mdrip x1 v0_37 = some (mm_r, mdrip_r) → ik_G p l e ({ frames := 1, cells := 0, slots := 0, locals := 22 } : Room) s m ([.ref h0, .int x1] : List Value).toArray below meth c D (ik_in (wz_X7 cI cS h0 h1 h2 h3 h4 h5 h6 h7 h8 h9 h10 h11 misKept mtaped msort mfrom mto mvalue mbad mm mkept mwas mother mfound mwarm mdrip mtape mbits msize mnumber)) (ik_in (wz_X7 cI cS h0 h1 h2 h3 h4 h5 h6 h7 h8 h9 h10 h11 misKept mtaped msort mfrom mto mvalue mbad mm mkept mwas mother mfound mwarm mdrip mtape mbits msize mnumber)) 3 (MQ below (ik_Q none D (wz_X7 cI cS h0 h1 h2 h3 h4 h5 h6 h7 h8 h9 h10 h11 misKept mtaped msort mfrom mto mvalue mbad mm_r mkept mwas mother mfound mwarm mdrip_r mtape mbits msize mnumber) (wz_X7 cI cS h0 h1 h2 h3 h4 h5 h6 h7 h8 h9 h10 h11 misKept mtaped msort mfrom mto mvalue mbad mm mkept mwas mother mfound mwarm mdrip mtape mbits msize mnumber)) ([.ref h0, .int x1] : List Value).toArray s 0 0 (ik_in (wz_X7 cI cS h0 h1 h2 h3 h4 h5 h6 h7 h8 h9 h10 h11 misKept mtaped msort mfrom mto mvalue mbad mm mkept mwas mother mfound mwarm mdrip mtape mbits msize mnumber))) 37 [(0, .ref h0), (1, .int x1)] [.int v0_37] (wz_X7 cI cS h0 h1 h2 h3 h4 h5 h6 h7 h8 h9 h10 h11 misKept mtaped msort mfrom mto mvalue mbad mm mkept mwas mother mfound mwarm mdrip mtape mbits msize mnumber) := by
      intro v0_37 hf
      unfold j_X7_melts_37 at hf
      refine ik_istore_n C [(2, .int v0_37), (0, .ref h0), (1, .int x1)] rfl (by decide) rfl dX7_melts_37 ?_
      refine ik_aload_n C 1 rfl rfl dX7_melts_38 ?_
      refine ik_iload_n C 2 rfl rfl dX7_melts_39 ?_
      refine ik_aload_n C 1 rfl rfl dX7_melts_40 ?_
      refine ik_iload_n C 2 rfl rfl dX7_melts_41 ?_
      obtain ⟨r1, hc1, hf⟩ := ik_b1s hf
      refine ik_goR (ik_runV C (c_X7_grains l D cI cS h0 h1 h2 h3 h4 h5 h6 h7 h8 h9 h10 h11 misKept mtaped msort mfrom mto mvalue mbad mm mkept mwas mother mfound mwarm mdrip mtape mbits msize mnumber x1 r1 hc1) mv_X7_grains wl_10_1 ⟨rfl, rfl, Nat.le_of_ble_eq_true rfl, Nat.le_of_ble_eq_true rfl⟩ [0, 1, 2, 3, 4, 5, 6, 7, 8, 9, 10, 11] rfl (by decide) 0 rfl rfl rfl rfl (Nat.le_of_ble_eq_true rfl) dX7_melts_42) rfl ?_
      refine ik_iload_n C 0 rfl rfl dX7_melts_45 ?_
      refine ik_isub C dX7_melts_46 ?_
      obtain ⟨g2, hc2, hf⟩ := ik_b1s hf
      refine ik_goW [0, 1, 2, 3, 4, 5, 6, 7, 8, 9, 10, 11] rfl rfl (wz_X7 cI cS h0 h1 h2 h3 h4 h5 h6 h7 h8 h9 h10 h11 misKept mtaped msort mfrom mto mvalue mbad g2 mkept mwas mother mfound mwarm mdrip mtape mbits msize mnumber) rfl (ik_runV C (c_X7_makes l D cI cS h0 h1 h2 h3 h4 h5 h6 h7 h8 h9 h10 h11 misKept mtaped msort mfrom mto mvalue mbad mm mkept mwas mother mfound mwarm mdrip mtape mbits msize mnumber x1 (r1 - v0_37) g2 hc2) mv_X7_makes wl_14_23 ⟨rfl, rfl, Nat.le_of_ble_eq_true rfl, Nat.le_of_ble_eq_true rfl⟩ [0, 1, 2, 3, 4, 5, 6, 7, 8, 9, 10, 11] rfl (by decide) 0 rfl rfl rfl rfl (Nat.le_of_ble_eq_true rfl) dX7_melts_47) rfl ?_
      refine ik_aload_n C 1 rfl rfl dX7_melts_50 ?_
      refine ik_get C inlX7 0 rfl rfl 7 (by decide) wl_4_18 rfl (v := .ref h7) rfl dX7_melts_51 ?_
      refine ik_aload_n C 1 rfl rfl dX7_melts_54 ?_
      refine ik_iload_n C 2 rfl rfl dX7_melts_55 ?_
      obtain ⟨r3, hc3, hf⟩ := ik_b1s hf
      refine ik_goR (ik_runV C (c_X7_cellOf l D cI cS h0 h1 h2 h3 h4 h5 h6 h7 h8 h9 h10 h11 misKept mtaped msort mfrom mto mvalue mbad g2 mkept mwas mother mfound mwarm mdrip mtape mbits msize mnumber x1 r3 hc3) mv_X7_cellOf wl_7_16 ⟨rfl, rfl, Nat.le_of_ble_eq_true rfl, Nat.le_of_ble_eq_true rfl⟩ [0, 1, 2, 3, 4, 5, 6, 7, 8, 9, 10, 11] rfl (by decide) 0 rfl rfl rfl rfl (Nat.le_of_ble_eq_true rfl) dX7_melts_56) rfl ?_
      refine ik_bipush (v := (8 : Int32)) C (by decide) dX7_melts_59 ?_
      refine ik_irem C (by decide) dX7_melts_61 ?_
      refine ik_dup2 C rfl rfl dX7_melts_62 ?_
      have hg := ik_gdi hf
      have hf := ik_gdk hf
      refine ik_iald C 7 rfl hg dX7_melts_63 ?_
      refine ik_iload_n C 0 rfl rfl dX7_melts_64 ?_
      refine ik_iconst (v := (2 : Int32)) C (by decide) dX7_melts_65 ?_
      refine ik_idiv C (by decide) dX7_melts_66 ?_
      refine ik_iadd C dX7_melts_67 ?_
      have hg := ik_gdi hf
      have hf := ik_gdk hf
      refine ik_iast C 7 rfl hg (wz_X7 cI cS h0 h1 h2 h3 h4 h5 h6 h7 h8 h9 h10 h11 misKept mtaped msort mfrom mto mvalue mbad g2 mkept mwas mother mfound mwarm (upd mdrip ((r3 - r3 / (8 : Int32) * (8 : Int32))).toNatClampNeg ((mdrip ((r3 - r3 / (8 : Int32) * (8 : Int32))).toNatClampNeg) + (v0_37 / (2 : Int32)))) mtape mbits msize mnumber) rfl dX7_melts_68 ?_
      refine ik_aload_n C 1 rfl rfl dX7_melts_69 ?_
      refine ik_get C inlX7 0 rfl rfl 0 (by decide) wl_4_12 rfl (v := .ref h1) rfl dX7_melts_70 ?_
      refine ik_iconst (v := (2 : Int32)) C (by decide) dX7_melts_73 ?_
      refine ik_dup2 C rfl rfl dX7_melts_74 ?_
      refine ik_iald C 1 rfl (ik_vin (by decide)) dX7_melts_75 ?_
      refine ik_iload_n C 0 rfl rfl dX7_melts_76 ?_
      refine ik_iload_n C 0 rfl rfl dX7_melts_77 ?_
      refine ik_iconst (v := (2 : Int32)) C (by decide) dX7_melts_78 ?_
      refine ik_idiv C (by decide) dX7_melts_79 ?_
      refine ik_isub C dX7_melts_80 ?_
      refine ik_iadd C dX7_melts_81 ?_
      refine ik_iast C 1 rfl (ik_vin (by decide)) (wz_X7 cI cS h0 h1 h2 h3 h4 h5 h6 h7 h8 h9 h10 h11 misKept mtaped msort mfrom mto mvalue mbad (upd g2 ((2 : Int32)).toNatClampNeg ((g2 ((2 : Int32)).toNatClampNeg) + (v0_37 - (v0_37 / (2 : Int32))))) mkept mwas mother mfound mwarm (upd mdrip ((r3 - r3 / (8 : Int32) * (8 : Int32))).toNatClampNeg ((mdrip ((r3 - r3 / (8 : Int32) * (8 : Int32))).toNatClampNeg) + (v0_37 / (2 : Int32)))) mtape mbits msize mnumber) rfl dX7_melts_82 ?_
      cases hf
      exact ik_vretW C hr hlk dX7_melts_83
    refine ik_aload_n C 0 rfl rfl dX7_melts_9 ?_
    refine ik_get C inlX7 0 rfl rfl 6 (by decide) wl_4_17 rfl (v := .ref h6) rfl dX7_melts_10 ?_
    refine ik_iload_n C 1 rfl rfl dX7_melts_13 ?_
    have hg := ik_gdi hf
    have hf := ik_gdk hf
    refine ik_iald C 6 rfl hg dX7_melts_14 ?_
    refine ik_aload_n C 0 rfl rfl dX7_melts_15 ?_
    refine ik_iload_n C 1 rfl rfl dX7_melts_16 ?_
    obtain ⟨r1, hc1, hf⟩ := ik_b1s hf
    refine ik_goR (ik_runV C (c_X7_grains l D cI cS h0 h1 h2 h3 h4 h5 h6 h7 h8 h9 h10 h11 misKept mtaped msort mfrom mto mvalue mbad mm mkept mwas mother mfound mwarm mdrip mtape mbits msize mnumber x1 r1 hc1) mv_X7_grains wl_10_1 ⟨rfl, rfl, Nat.le_of_ble_eq_true rfl, Nat.le_of_ble_eq_true rfl⟩ [0, 1, 2, 3, 4, 5, 6, 7, 8, 9, 10, 11] rfl (by decide) 0 rfl rfl rfl rfl (Nat.le_of_ble_eq_true rfl) dX7_melts_17) rfl ?_
    refine ik_icmp_ge C 32 dX7_melts_20 (by decide) (fun hc => ?_) (fun hc => ?_)
    · have hf := ik_pos hc hf
      refine ik_aload_n C 0 rfl rfl dX7_melts_32 ?_
      refine ik_iload_n C 1 rfl rfl dX7_melts_33 ?_
      obtain ⟨r2, hc2, hf⟩ := ik_b1s hf
      refine ik_goR (ik_runV C (c_X7_grains l D cI cS h0 h1 h2 h3 h4 h5 h6 h7 h8 h9 h10 h11 misKept mtaped msort mfrom mto mvalue mbad mm mkept mwas mother mfound mwarm mdrip mtape mbits msize mnumber x1 r2 hc2) mv_X7_grains wl_10_1 ⟨rfl, rfl, Nat.le_of_ble_eq_true rfl, Nat.le_of_ble_eq_true rfl⟩ [0, 1, 2, 3, 4, 5, 6, 7, 8, 9, 10, 11] rfl (by decide) 0 rfl rfl rfl rfl (Nat.le_of_ble_eq_true rfl) dX7_melts_34) rfl ?_
      exact ik_sub [0, 1] [(0, .ref h0), (1, .int x1)] rfl (hJ_37 r2 hf)
    · have hf := ik_neg hc hf
      refine ik_aload_n C 0 rfl rfl dX7_melts_23 ?_
      refine ik_get C inlX7 0 rfl rfl 6 (by decide) wl_4_17 rfl (v := .ref h6) rfl dX7_melts_24 ?_
      refine ik_iload_n C 1 rfl rfl dX7_melts_27 ?_
      have hg := ik_gdi hf
      have hf := ik_gdk hf
      refine ik_iald C 6 rfl hg dX7_melts_28 ?_
      refine ik_goto C 37 dX7_melts_29 (by decide) ?_
      exact ik_sub [0, 1] [(0, .ref h0), (1, .int x1)] rfl (hJ_37 (mwarm (x1).toNatClampNeg) hf)
theorem mv_X7_freezes : ik_V yX7_freezes RX7 cX7_freezes 6 none 1 := ⟨wl_21_3, wl_21_4, wl_1_5, wl_21_5, by decide +kernel⟩
set_option maxHeartbeats 4000000 in
set_option maxRecDepth 100000 in
theorem c_X7_freezes (l : Launch) (D : va_G) (cI cS : ClassId) (h0 h1 h2 h3 h4 h5 h6 h7 h8 h9 h10 h11 : Nat) (misKept : Int32) (mtaped : Int32) (msort : Int32) (mfrom : Int32) (mto : Int32) (mvalue : Int32) (mbad : Int32) (mm : Nat → Int32) (mkept : Nat → Int32) (mwas : Nat → Int32) (mother : Nat → Int32) (mfound : Nat → Int32) (mwarm : Nat → Int32) (mdrip : Nat → Int32) (mtape : Nat → Int32) (mbits : Nat → Int32) (msize : Nat → Int32) (mnumber : Nat → Int32) (x1 : Int32) (mm_r : Nat → Int32) (hf : f_X7_freezes mm mwarm mdrip x1 = some (mm_r)) : Met l yX7_freezes (ik_ws yX7_freezes cX7_freezes 6 none) ({ frames := 2, cells := 0, slots := 0, locals := 43 } : Room) (ik_P D cI cS [.ref h0, .int x1] (wz_X7 cI cS h0 h1 h2 h3 h4 h5 h6 h7 h8 h9 h10 h11 misKept mtaped msort mfrom mto mvalue mbad mm mkept mwas mother mfound mwarm mdrip mtape mbits msize mnumber)) (ik_Q none D (wz_X7 cI cS h0 h1 h2 h3 h4 h5 h6 h7 h8 h9 h10 h11 misKept mtaped msort mfrom mto mvalue mbad mm_r mkept mwas mother mfound mwarm mdrip mtape mbits msize mnumber) (wz_X7 cI cS h0 h1 h2 h3 h4 h5 h6 h7 h8 h9 h10 h11 misKept mtaped msort mfrom mto mvalue mbad mm mkept mwas mother mfound mwarm mdrip mtape mbits msize mnumber)) 0 0 (ik_in (wz_X7 cI cS h0 h1 h2 h3 h4 h5 h6 h7 h8 h9 h10 h11 misKept mtaped msort mfrom mto mvalue mbad mm mkept mwas mother mfound mwarm mdrip mtape mbits msize mnumber)) := by
  refine ik_metW RX7 rfl (by decide) (Nat.le_of_ble_eq_true rfl) [(0, .ref h0), (1, .int x1)] rfl ?_
  intro p e s m below meth c C hr hlk
  unfold f_X7_freezes at hf
  refine ik_iconst (v := (-1 : Int32)) C (by decide) dX7_freezes_0 ?_
  refine ik_istore_n C [(2, .int (-1 : Int32)), (0, .ref h0), (1, .int x1)] rfl (by decide) rfl dX7_freezes_1 ?_
  refine ik_bipush (v := (40 : Int32)) C (by decide) dX7_freezes_2 ?_
  refine ik_iload_n C 2 rfl rfl dX7_freezes_4 ?_
  refine ik_iadd C dX7_freezes_5 ?_
  refine ik_istore_n C [(3, .int ((40 : Int32) + x1)), (2, .int (-1 : Int32)), (0, .ref h0), (1, .int x1)] rfl (by decide) rfl dX7_freezes_6 ?_
  have hL_7 : ∀ (n_7 : Nat) (x2_7 : Int32) (x3_7 : Int32), ik_lp2 (b_X7_freezes_7 mm mwarm mdrip x1) n_7 x2_7 x3_7 = some (mm_r) → ik_G p l e ({ frames := 2, cells := 0, slots := 0, locals := 43 } : Room) s m ([.ref h0, .int x1] : List Value).toArray below meth c D (ik_in (wz_X7 cI cS h0 h1 h2 h3 h4 h5 h6 h7 h8 h9 h10 h11 misKept mtaped msort mfrom mto mvalue mbad mm mkept mwas mother mfound mwarm mdrip mtape mbits msize mnumber)) (ik_in (wz_X7 cI cS h0 h1 h2 h3 h4 h5 h6 h7 h8 h9 h10 h11 misKept mtaped msort mfrom mto mvalue mbad mm mkept mwas mother mfound mwarm mdrip mtape mbits msize mnumber)) 6 (MQ below (ik_Q none D (wz_X7 cI cS h0 h1 h2 h3 h4 h5 h6 h7 h8 h9 h10 h11 misKept mtaped msort mfrom mto mvalue mbad mm_r mkept mwas mother mfound mwarm mdrip mtape mbits msize mnumber) (wz_X7 cI cS h0 h1 h2 h3 h4 h5 h6 h7 h8 h9 h10 h11 misKept mtaped msort mfrom mto mvalue mbad mm mkept mwas mother mfound mwarm mdrip mtape mbits msize mnumber)) ([.ref h0, .int x1] : List Value).toArray s 0 0 (ik_in (wz_X7 cI cS h0 h1 h2 h3 h4 h5 h6 h7 h8 h9 h10 h11 misKept mtaped msort mfrom mto mvalue mbad mm mkept mwas mother mfound mwarm mdrip mtape mbits msize mnumber))) 7 [(3, .int x3_7), (2, .int x2_7), (0, .ref h0), (1, .int x1)] [] (wz_X7 cI cS h0 h1 h2 h3 h4 h5 h6 h7 h8 h9 h10 h11 misKept mtaped msort mfrom mto mvalue mbad mm mkept mwas mother mfound mwarm mdrip mtape mbits msize mnumber) := by
    intro n_7
    induction n_7 with
    | zero => intro _ _ hf; exact nomatch hf
    | succ n_7 ih_7 =>
      intro x2_7 x3_7 hf
      replace hf : b_X7_freezes_7 mm mwarm mdrip x1 (ik_lp2 (b_X7_freezes_7 mm mwarm mdrip x1) n_7) x2_7 x3_7 = some (mm_r) := hf
      unfold b_X7_freezes_7 at hf
      refine ik_iload_n C 0 rfl rfl dX7_freezes_7 ?_
      refine ik_if_lt C 46 dX7_freezes_8 (by decide) (fun hc => ?_) (fun hc => ?_)
      · have hf := ik_pos hc hf
        refine ik_aload_n C 2 rfl rfl dX7_freezes_46 ?_
        refine ik_get C inlX7 0 rfl rfl 7 (by decide) wl_4_18 rfl (v := .ref h7) rfl dX7_freezes_47 ?_
        refine ik_iload_n C 3 rfl rfl dX7_freezes_50 ?_
        have hg := ik_gdi hf
        have hf := ik_gdk hf
        refine ik_iald C 7 rfl hg dX7_freezes_51 ?_
        refine ik_istore_n C [(3, .int (mdrip (x1).toNatClampNeg)), (2, .int x2_7), (0, .ref h0), (1, .int x1)] rfl (by decide) rfl dX7_freezes_52 ?_
        refine ik_iload_n C 1 rfl rfl dX7_freezes_53 ?_
        refine ik_if_lt C 99 dX7_freezes_54 (by decide) (fun hc => ?_) (fun hc => ?_)
        · have hf := ik_pos hc hf
          refine ik_aload_n C 2 rfl rfl dX7_freezes_99 ?_
          refine ik_get C inlX7 0 rfl rfl 0 (by decide) wl_4_12 rfl (v := .ref h1) rfl dX7_freezes_100 ?_
          refine ik_iconst (v := (2 : Int32)) C (by decide) dX7_freezes_103 ?_
          refine ik_dup2 C rfl rfl dX7_freezes_104 ?_
          refine ik_iald C 1 rfl (ik_vin (by decide)) dX7_freezes_105 ?_
          refine ik_iload_n C 0 rfl rfl dX7_freezes_106 ?_
          refine ik_iadd C dX7_freezes_107 ?_
          refine ik_iast C 1 rfl (ik_vin (by decide)) (wz_X7 cI cS h0 h1 h2 h3 h4 h5 h6 h7 h8 h9 h10 h11 misKept mtaped msort mfrom mto mvalue mbad (upd mm ((2 : Int32)).toNatClampNeg ((mm ((2 : Int32)).toNatClampNeg) + (mdrip (x1).toNatClampNeg))) mkept mwas mother mfound mwarm mdrip mtape mbits msize mnumber) rfl dX7_freezes_108 ?_
          cases hf
          exact ik_vretW C hr hlk dX7_freezes_109
        · have hf := ik_neg hc hf
          refine ik_bipush (v := (99 : Int32)) C (by decide) dX7_freezes_57 ?_
          refine ik_aload_n C 2 rfl rfl dX7_freezes_59 ?_
          refine ik_iload_n C 1 rfl rfl dX7_freezes_60 ?_
          obtain ⟨r1, hc1, hf⟩ := ik_b1s hf
          refine ik_goR (ik_runV C (c_X7_grains l D cI cS h0 h1 h2 h3 h4 h5 h6 h7 h8 h9 h10 h11 misKept mtaped msort mfrom mto mvalue mbad mm mkept mwas mother mfound mwarm mdrip mtape mbits msize mnumber x2_7 r1 hc1) mv_X7_grains wl_10_1 ⟨rfl, rfl, Nat.le_of_ble_eq_true rfl, Nat.le_of_ble_eq_true rfl⟩ [0, 1, 2, 3, 4, 5, 6, 7, 8, 9, 10, 11] rfl (by decide) 0 rfl rfl rfl rfl (Nat.le_of_ble_eq_true rfl) dX7_freezes_61) rfl ?_
          refine ik_isub C dX7_freezes_64 ?_
          refine ik_istore C [(4, .int ((99 : Int32) - r1)), (3, .int (mdrip (x1).toNatClampNeg)), (2, .int x2_7), (0, .ref h0), (1, .int x1)] (by decide) rfl dX7_freezes_65 ?_
          refine ik_iload_n C 1 rfl rfl dX7_freezes_67 ?_
          refine ik_iload C 0 rfl dX7_freezes_68 ?_
          refine ik_icmp_ge C 77 dX7_freezes_70 (by decide) (fun hc => ?_) (fun hc => ?_)
          · have hf := ik_pos hc hf
            refine ik_iload C 0 rfl dX7_freezes_77 ?_
            refine ik_istore C [(5, .int ((99 : Int32) - r1)), (4, .int ((99 : Int32) - r1)), (3, .int (mdrip (x1).toNatClampNeg)), (2, .int x2_7), (0, .ref h0), (1, .int x1)] (by decide) rfl dX7_freezes_79 ?_
            refine ik_aload_n C 4 rfl rfl dX7_freezes_81 ?_
            refine ik_iload_n C 3 rfl rfl dX7_freezes_82 ?_
            refine ik_aload_n C 4 rfl rfl dX7_freezes_83 ?_
            refine ik_iload_n C 3 rfl rfl dX7_freezes_84 ?_
            obtain ⟨r2, hc2, hf⟩ := ik_b1s hf
            refine ik_goR (ik_runV C (c_X7_grains l D cI cS h0 h1 h2 h3 h4 h5 h6 h7 h8 h9 h10 h11 misKept mtaped msort mfrom mto mvalue mbad mm mkept mwas mother mfound mwarm mdrip mtape mbits msize mnumber x2_7 r2 hc2) mv_X7_grains wl_10_1 ⟨rfl, rfl, Nat.le_of_ble_eq_true rfl, Nat.le_of_ble_eq_true rfl⟩ [0, 1, 2, 3, 4, 5, 6, 7, 8, 9, 10, 11] rfl (by decide) 0 rfl rfl rfl rfl (Nat.le_of_ble_eq_true rfl) dX7_freezes_85) rfl ?_
            refine ik_iload C 0 rfl dX7_freezes_88 ?_
            refine ik_iadd C dX7_freezes_90 ?_
            obtain ⟨g3, hc3, hf⟩ := ik_b1s hf
            refine ik_goW [0, 1, 2, 3, 4, 5, 6, 7, 8, 9, 10, 11] rfl rfl (wz_X7 cI cS h0 h1 h2 h3 h4 h5 h6 h7 h8 h9 h10 h11 misKept mtaped msort mfrom mto mvalue mbad g3 mkept mwas mother mfound mwarm mdrip mtape mbits msize mnumber) rfl (ik_runV C (c_X7_makes l D cI cS h0 h1 h2 h3 h4 h5 h6 h7 h8 h9 h10 h11 misKept mtaped msort mfrom mto mvalue mbad mm mkept mwas mother mfound mwarm mdrip mtape mbits msize mnumber x2_7 (r2 + ((99 : Int32) - r1)) g3 hc3) mv_X7_makes wl_14_23 ⟨rfl, rfl, Nat.le_of_ble_eq_true rfl, Nat.le_of_ble_eq_true rfl⟩ [0, 1, 2, 3, 4, 5, 6, 7, 8, 9, 10, 11] rfl (by decide) 0 rfl rfl rfl rfl (Nat.le_of_ble_eq_true rfl) dX7_freezes_91) rfl ?_
            refine ik_iload_n C 2 rfl rfl dX7_freezes_94 ?_
            refine ik_iload C 0 rfl dX7_freezes_95 ?_
            refine ik_isub C dX7_freezes_97 ?_
            refine ik_istore_n C [(3, .int ((mdrip (x1).toNatClampNeg) - ((99 : Int32) - r1))), (5, .int ((99 : Int32) - r1)), (4, .int ((99 : Int32) - r1)), (2, .int x2_7), (0, .ref h0), (1, .int x1)] rfl (by decide) rfl dX7_freezes_98 ?_
            refine ik_aload_n C 4 rfl rfl dX7_freezes_99 ?_
            refine ik_get C inlX7 0 rfl rfl 0 (by decide) wl_4_12 rfl (v := .ref h1) rfl dX7_freezes_100 ?_
            refine ik_iconst (v := (2 : Int32)) C (by decide) dX7_freezes_103 ?_
            refine ik_dup2 C rfl rfl dX7_freezes_104 ?_
            refine ik_iald C 1 rfl (ik_vin (by decide)) dX7_freezes_105 ?_
            refine ik_iload_n C 0 rfl rfl dX7_freezes_106 ?_
            refine ik_iadd C dX7_freezes_107 ?_
            refine ik_iast C 1 rfl (ik_vin (by decide)) (wz_X7 cI cS h0 h1 h2 h3 h4 h5 h6 h7 h8 h9 h10 h11 misKept mtaped msort mfrom mto mvalue mbad (upd g3 ((2 : Int32)).toNatClampNeg ((g3 ((2 : Int32)).toNatClampNeg) + ((mdrip (x1).toNatClampNeg) - ((99 : Int32) - r1)))) mkept mwas mother mfound mwarm mdrip mtape mbits msize mnumber) rfl dX7_freezes_108 ?_
            cases hf
            exact ik_vretW C hr hlk dX7_freezes_109
          · have hf := ik_neg hc hf
            refine ik_iload_n C 1 rfl rfl dX7_freezes_73 ?_
            refine ik_goto C 79 dX7_freezes_74 (by decide) ?_
            refine ik_istore C [(5, .int (mdrip (x1).toNatClampNeg)), (4, .int ((99 : Int32) - r1)), (3, .int (mdrip (x1).toNatClampNeg)), (2, .int x2_7), (0, .ref h0), (1, .int x1)] (by decide) rfl dX7_freezes_79 ?_
            refine ik_aload_n C 4 rfl rfl dX7_freezes_81 ?_
            refine ik_iload_n C 3 rfl rfl dX7_freezes_82 ?_
            refine ik_aload_n C 4 rfl rfl dX7_freezes_83 ?_
            refine ik_iload_n C 3 rfl rfl dX7_freezes_84 ?_
            obtain ⟨r2, hc2, hf⟩ := ik_b1s hf
            refine ik_goR (ik_runV C (c_X7_grains l D cI cS h0 h1 h2 h3 h4 h5 h6 h7 h8 h9 h10 h11 misKept mtaped msort mfrom mto mvalue mbad mm mkept mwas mother mfound mwarm mdrip mtape mbits msize mnumber x2_7 r2 hc2) mv_X7_grains wl_10_1 ⟨rfl, rfl, Nat.le_of_ble_eq_true rfl, Nat.le_of_ble_eq_true rfl⟩ [0, 1, 2, 3, 4, 5, 6, 7, 8, 9, 10, 11] rfl (by decide) 0 rfl rfl rfl rfl (Nat.le_of_ble_eq_true rfl) dX7_freezes_85) rfl ?_
            refine ik_iload C 0 rfl dX7_freezes_88 ?_
            refine ik_iadd C dX7_freezes_90 ?_
            obtain ⟨g3, hc3, hf⟩ := ik_b1s hf
            refine ik_goW [0, 1, 2, 3, 4, 5, 6, 7, 8, 9, 10, 11] rfl rfl (wz_X7 cI cS h0 h1 h2 h3 h4 h5 h6 h7 h8 h9 h10 h11 misKept mtaped msort mfrom mto mvalue mbad g3 mkept mwas mother mfound mwarm mdrip mtape mbits msize mnumber) rfl (ik_runV C (c_X7_makes l D cI cS h0 h1 h2 h3 h4 h5 h6 h7 h8 h9 h10 h11 misKept mtaped msort mfrom mto mvalue mbad mm mkept mwas mother mfound mwarm mdrip mtape mbits msize mnumber x2_7 (r2 + (mdrip (x1).toNatClampNeg)) g3 hc3) mv_X7_makes wl_14_23 ⟨rfl, rfl, Nat.le_of_ble_eq_true rfl, Nat.le_of_ble_eq_true rfl⟩ [0, 1, 2, 3, 4, 5, 6, 7, 8, 9, 10, 11] rfl (by decide) 0 rfl rfl rfl rfl (Nat.le_of_ble_eq_true rfl) dX7_freezes_91) rfl ?_
            refine ik_iload_n C 2 rfl rfl dX7_freezes_94 ?_
            refine ik_iload C 0 rfl dX7_freezes_95 ?_
            refine ik_isub C dX7_freezes_97 ?_
            refine ik_istore_n C [(3, .int ((mdrip (x1).toNatClampNeg) - (mdrip (x1).toNatClampNeg))), (5, .int (mdrip (x1).toNatClampNeg)), (4, .int ((99 : Int32) - r1)), (2, .int x2_7), (0, .ref h0), (1, .int x1)] rfl (by decide) rfl dX7_freezes_98 ?_
            refine ik_aload_n C 4 rfl rfl dX7_freezes_99 ?_
            refine ik_get C inlX7 0 rfl rfl 0 (by decide) wl_4_12 rfl (v := .ref h1) rfl dX7_freezes_100 ?_
            refine ik_iconst (v := (2 : Int32)) C (by decide) dX7_freezes_103 ?_
            refine ik_dup2 C rfl rfl dX7_freezes_104 ?_
            refine ik_iald C 1 rfl (ik_vin (by decide)) dX7_freezes_105 ?_
            refine ik_iload_n C 0 rfl rfl dX7_freezes_106 ?_
            refine ik_iadd C dX7_freezes_107 ?_
            refine ik_iast C 1 rfl (ik_vin (by decide)) (wz_X7 cI cS h0 h1 h2 h3 h4 h5 h6 h7 h8 h9 h10 h11 misKept mtaped msort mfrom mto mvalue mbad (upd g3 ((2 : Int32)).toNatClampNeg ((g3 ((2 : Int32)).toNatClampNeg) + ((mdrip (x1).toNatClampNeg) - (mdrip (x1).toNatClampNeg)))) mkept mwas mother mfound mwarm mdrip mtape mbits msize mnumber) rfl dX7_freezes_108 ?_
            cases hf
            exact ik_vretW C hr hlk dX7_freezes_109
      · have hf := ik_neg hc hf
        refine ik_aload_n C 2 rfl rfl dX7_freezes_11 ?_
        refine ik_iload_n C 0 rfl rfl dX7_freezes_12 ?_
        obtain ⟨r1, hc1, hf⟩ := ik_b1s hf
        refine ik_goR (ik_runV C (c_X7_blockOn l D cI cS h0 h1 h2 h3 h4 h5 h6 h7 h8 h9 h10 h11 misKept mtaped msort mfrom mto mvalue mbad mm mkept mwas mother mfound mwarm mdrip mtape mbits msize mnumber x3_7 r1 hc1) mv_X7_blockOn wl_7_12 ⟨rfl, rfl, Nat.le_of_ble_eq_true rfl, Nat.le_of_ble_eq_true rfl⟩ [0, 1, 2, 3, 4, 5, 6, 7, 8, 9, 10, 11] rfl (by decide) 0 rfl rfl rfl rfl (Nat.le_of_ble_eq_true rfl) dX7_freezes_13) rfl ?_
        refine ik_istore C [(4, .int r1), (3, .int x3_7), (2, .int x2_7), (0, .ref h0), (1, .int x1)] (by decide) rfl dX7_freezes_16 ?_
        refine ik_iload C 0 rfl dX7_freezes_18 ?_
        refine ik_if_lt C 38 dX7_freezes_20 (by decide) (fun hc => ?_) (fun hc => ?_)
        · have hf := ik_pos hc hf
          refine ik_iload_n C 2 rfl rfl dX7_freezes_38 ?_
          refine ik_istore_n C [(2, .int x2_7), (4, .int r1), (3, .int x3_7), (0, .ref h0), (1, .int x1)] rfl (by decide) rfl dX7_freezes_39 ?_
          refine ik_iinc C [(3, .int (x3_7 + (-8 : Int32))), (2, .int x2_7), (4, .int r1), (0, .ref h0), (1, .int x1)] 2 rfl rfl (by decide) rfl dX7_freezes_40 ?_
          refine ik_goto C 7 dX7_freezes_43 (by decide) ?_
          exact ik_sub [0, 1, 3, 4] [(3, .int (x3_7 + (-8 : Int32))), (2, .int x2_7), (0, .ref h0), (1, .int x1)] rfl (ih_7 x2_7 (x3_7 + (-8 : Int32)) hf)
        · have hf := ik_neg hc hf
          refine ik_aload_n C 3 rfl rfl dX7_freezes_23 ?_
          refine ik_get C inlX7 0 rfl rfl 6 (by decide) wl_4_17 rfl (v := .ref h6) rfl dX7_freezes_24 ?_
          refine ik_iload C 0 rfl dX7_freezes_27 ?_
          have hg := ik_gdi hf
          have hf := ik_gdk hf
          refine ik_iald C 6 rfl hg dX7_freezes_29 ?_
          refine ik_if_ge C 38 dX7_freezes_30 (by decide) (fun hc => ?_) (fun hc => ?_)
          · have hf := ik_pos hc hf
            refine ik_iload_n C 2 rfl rfl dX7_freezes_38 ?_
            refine ik_istore_n C [(2, .int x2_7), (4, .int r1), (3, .int x3_7), (0, .ref h0), (1, .int x1)] rfl (by decide) rfl dX7_freezes_39 ?_
            refine ik_iinc C [(3, .int (x3_7 + (-8 : Int32))), (2, .int x2_7), (4, .int r1), (0, .ref h0), (1, .int x1)] 2 rfl rfl (by decide) rfl dX7_freezes_40 ?_
            refine ik_goto C 7 dX7_freezes_43 (by decide) ?_
            exact ik_sub [0, 1, 3, 4] [(3, .int (x3_7 + (-8 : Int32))), (2, .int x2_7), (0, .ref h0), (1, .int x1)] rfl (ih_7 x2_7 (x3_7 + (-8 : Int32)) hf)
          · have hf := ik_neg hc hf
            refine ik_iload C 0 rfl dX7_freezes_33 ?_
            refine ik_goto C 39 dX7_freezes_35 (by decide) ?_
            refine ik_istore_n C [(2, .int r1), (4, .int r1), (3, .int x3_7), (0, .ref h0), (1, .int x1)] rfl (by decide) rfl dX7_freezes_39 ?_
            refine ik_iinc C [(3, .int (x3_7 + (-8 : Int32))), (2, .int r1), (4, .int r1), (0, .ref h0), (1, .int x1)] 2 rfl rfl (by decide) rfl dX7_freezes_40 ?_
            refine ik_goto C 7 dX7_freezes_43 (by decide) ?_
            exact ik_sub [0, 1, 3, 4] [(3, .int (x3_7 + (-8 : Int32))), (2, .int r1), (0, .ref h0), (1, .int x1)] rfl (ih_7 r1 (x3_7 + (-8 : Int32)) hf)
  exact hL_7 ik_fu (-1 : Int32) ((40 : Int32) + x1) hf
theorem mv_X7_weakNow : ik_V yX7_weakNow RX7 cX7_weakNow 3 (some .int) 0 := ⟨wl_21_19, wl_21_20, wl_1_5, wl_21_21, by decide +kernel⟩
set_option maxHeartbeats 4000000 in
set_option maxRecDepth 100000 in
theorem c_X7_weakNow (l : Launch) (D : va_G) (cI cS : ClassId) (h0 h1 h2 h3 h4 h5 h6 h7 h8 h9 h10 h11 : Nat) (misKept : Int32) (mtaped : Int32) (msort : Int32) (mfrom : Int32) (mto : Int32) (mvalue : Int32) (mbad : Int32) (mm : Nat → Int32) (mkept : Nat → Int32) (mwas : Nat → Int32) (mother : Nat → Int32) (mfound : Nat → Int32) (mwarm : Nat → Int32) (mdrip : Nat → Int32) (mtape : Nat → Int32) (mbits : Nat → Int32) (msize : Nat → Int32) (mnumber : Nat → Int32) (R : Int32) (hf : f_X7_weakNow mm = some (R)) : Met l yX7_weakNow (ik_ws yX7_weakNow cX7_weakNow 3 (some .int)) ({ frames := 3, cells := 0, slots := 0, locals := 66 } : Room) (ik_P D cI cS [.ref h0] (wz_X7 cI cS h0 h1 h2 h3 h4 h5 h6 h7 h8 h9 h10 h11 misKept mtaped msort mfrom mto mvalue mbad mm mkept mwas mother mfound mwarm mdrip mtape mbits msize mnumber)) (ik_R (some (.int R))) 0 0 ik_no := by
  refine ik_metR RX7 rfl (by decide) (Nat.le_of_ble_eq_true rfl) [(0, .ref h0)] rfl ?_
  intro p e s m below meth c C hr hlk
  unfold f_X7_weakNow at hf
  refine ik_iconst (v := (0 : Int32)) C (by decide) dX7_weakNow_0 ?_
  refine ik_istore_n C [(1, .int (0 : Int32)), (0, .ref h0)] rfl (by decide) rfl dX7_weakNow_1 ?_
  refine ik_iconst (v := (0 : Int32)) C (by decide) dX7_weakNow_2 ?_
  refine ik_istore_n C [(2, .int (0 : Int32)), (1, .int (0 : Int32)), (0, .ref h0)] rfl (by decide) rfl dX7_weakNow_3 ?_
  have hL_4 : ∀ (n_4 : Nat) (x1_4 : Int32) (x2_4 : Int32), ik_lp2 (b_X7_weakNow_4 mm) n_4 x1_4 x2_4 = some (R) → ik_G p l e ({ frames := 3, cells := 0, slots := 0, locals := 66 } : Room) s m ([.ref h0] : List Value).toArray below meth c D ik_no (fun _ => True) 3 (MQ below (ik_R (some (.int R))) ([.ref h0] : List Value).toArray s 0 0 ik_no) 4 [(2, .int x2_4), (1, .int x1_4), (0, .ref h0)] [] (wz_X7 cI cS h0 h1 h2 h3 h4 h5 h6 h7 h8 h9 h10 h11 misKept mtaped msort mfrom mto mvalue mbad mm mkept mwas mother mfound mwarm mdrip mtape mbits msize mnumber) := by
    intro n_4
    induction n_4 with
    | zero => intro _ _ hf; exact nomatch hf
    | succ n_4 ih_4 =>
      intro x1_4 x2_4 hf
      replace hf : b_X7_weakNow_4 mm (ik_lp2 (b_X7_weakNow_4 mm) n_4) x1_4 x2_4 = some (R) := hf
      unfold b_X7_weakNow_4 at hf
      refine ik_iload_n C 0 rfl rfl dX7_weakNow_4 ?_
      refine ik_aload_n C 2 rfl rfl dX7_weakNow_5 ?_
      refine ik_get C inlX7 0 rfl rfl 0 (by decide) wl_4_12 rfl (v := .ref h1) rfl dX7_weakNow_6 ?_
      refine ik_iconst (v := (5 : Int32)) C (by decide) dX7_weakNow_9 ?_
      refine ik_iald C 1 rfl (ik_vin (by decide)) dX7_weakNow_10 ?_
      refine ik_icmp_ge C 51 dX7_weakNow_11 (by decide) (fun hc => ?_) (fun hc => ?_)
      · have hf := ik_pos hc hf
        refine ik_iload_n C 1 rfl rfl dX7_weakNow_51 ?_
        cases hf
        exact ik_iretR C hr hlk dX7_weakNow_52
      · have hf := ik_neg hc hf
        refine ik_iload_n C 1 rfl rfl dX7_weakNow_14 ?_
        refine ik_aload_n C 2 rfl rfl dX7_weakNow_15 ?_
        refine ik_iload_n C 0 rfl rfl dX7_weakNow_16 ?_
        obtain ⟨r1, hc1, hf⟩ := ik_b1s hf
        refine ik_goR (ik_runV C (c_X7_isGone l D cI cS h0 h1 h2 h3 h4 h5 h6 h7 h8 h9 h10 h11 misKept mtaped msort mfrom mto mvalue mbad mm mkept mwas mother mfound mwarm mdrip mtape mbits msize mnumber x2_4 r1 hc1) mv_X7_isGone wl_10_5 ⟨rfl, rfl, Nat.le_of_ble_eq_true rfl, Nat.le_of_ble_eq_true rfl⟩ [0, 1, 2, 3, 4, 5, 6, 7, 8, 9, 10, 11] rfl (by decide) 0 rfl rfl rfl rfl (Nat.le_of_ble_eq_true rfl) dX7_weakNow_17) rfl ?_
        refine ik_if_ne C 42 dX7_weakNow_20 (by decide) (fun hc => ?_) (fun hc => ?_)
        · have hf := ik_neg hc hf
          refine ik_iconst (v := (0 : Int32)) C (by decide) dX7_weakNow_42 ?_
          refine ik_ior C dX7_weakNow_43 ?_
          refine ik_istore_n C [(1, .int (x1_4 ||| (0 : Int32))), (2, .int x2_4), (0, .ref h0)] rfl (by decide) rfl dX7_weakNow_44 ?_
          refine ik_iinc C [(2, .int (x2_4 + (1 : Int32))), (1, .int (x1_4 ||| (0 : Int32))), (0, .ref h0)] 1 rfl rfl (by decide) rfl dX7_weakNow_45 ?_
          refine ik_goto C 4 dX7_weakNow_48 (by decide) ?_
          exact ik_sub [0, 1, 2] [(2, .int (x2_4 + (1 : Int32))), (1, .int (x1_4 ||| (0 : Int32))), (0, .ref h0)] rfl (ih_4 (x1_4 ||| (0 : Int32)) (x2_4 + (1 : Int32)) hf)
        · have hf := ik_pos hc hf
          refine ik_aload_n C 2 rfl rfl dX7_weakNow_23 ?_
          refine ik_iload_n C 0 rfl rfl dX7_weakNow_24 ?_
          obtain ⟨r2, hc2, hf⟩ := ik_b1s hf
          refine ik_goR (ik_runV C (c_X7_loadOf l D cI cS h0 h1 h2 h3 h4 h5 h6 h7 h8 h9 h10 h11 misKept mtaped msort mfrom mto mvalue mbad mm mkept mwas mother mfound mwarm mdrip mtape mbits msize mnumber x2_4 r2 hc2) mv_X7_loadOf wl_11_12 ⟨rfl, rfl, Nat.le_of_ble_eq_true rfl, Nat.le_of_ble_eq_true rfl⟩ [0, 1, 2, 3, 4, 5, 6, 7, 8, 9, 10, 11] rfl (by decide) 0 rfl rfl rfl rfl (Nat.le_of_ble_eq_true rfl) dX7_weakNow_25) rfl ?_
          refine ik_aload_n C 2 rfl rfl dX7_weakNow_28 ?_
          refine ik_iload_n C 0 rfl rfl dX7_weakNow_29 ?_
          obtain ⟨r3, hc3, hf⟩ := ik_b1s hf
          refine ik_goR (ik_runV C (c_X7_strongOf l D cI cS h0 h1 h2 h3 h4 h5 h6 h7 h8 h9 h10 h11 misKept mtaped msort mfrom mto mvalue mbad mm mkept mwas mother mfound mwarm mdrip mtape mbits msize mnumber x2_4 r3 hc3) mv_X7_strongOf wl_11_16 ⟨rfl, rfl, Nat.le_of_ble_eq_true rfl, Nat.le_of_ble_eq_true rfl⟩ [0, 1, 2, 3, 4, 5, 6, 7, 8, 9, 10, 11] rfl (by decide) 0 rfl rfl rfl rfl (Nat.le_of_ble_eq_true rfl) dX7_weakNow_30) rfl ?_
          refine ik_icmp_le C 42 dX7_weakNow_33 (by decide) (fun hc => ?_) (fun hc => ?_)
          · have hf := ik_pos hc hf
            refine ik_iconst (v := (0 : Int32)) C (by decide) dX7_weakNow_42 ?_
            refine ik_ior C dX7_weakNow_43 ?_
            refine ik_istore_n C [(1, .int (x1_4 ||| (0 : Int32))), (2, .int x2_4), (0, .ref h0)] rfl (by decide) rfl dX7_weakNow_44 ?_
            refine ik_iinc C [(2, .int (x2_4 + (1 : Int32))), (1, .int (x1_4 ||| (0 : Int32))), (0, .ref h0)] 1 rfl rfl (by decide) rfl dX7_weakNow_45 ?_
            refine ik_goto C 4 dX7_weakNow_48 (by decide) ?_
            exact ik_sub [0, 1, 2] [(2, .int (x2_4 + (1 : Int32))), (1, .int (x1_4 ||| (0 : Int32))), (0, .ref h0)] rfl (ih_4 (x1_4 ||| (0 : Int32)) (x2_4 + (1 : Int32)) hf)
          · have hf := ik_neg hc hf
            refine ik_iconst (v := (1 : Int32)) C (by decide) dX7_weakNow_36 ?_
            refine ik_iload_n C 0 rfl rfl dX7_weakNow_37 ?_
            refine ik_ishl C dX7_weakNow_38 ?_
            refine ik_goto C 43 dX7_weakNow_39 (by decide) ?_
            refine ik_ior C dX7_weakNow_43 ?_
            refine ik_istore_n C [(1, .int (x1_4 ||| ((1 : Int32) <<< (x2_4 &&& 31)))), (2, .int x2_4), (0, .ref h0)] rfl (by decide) rfl dX7_weakNow_44 ?_
            refine ik_iinc C [(2, .int (x2_4 + (1 : Int32))), (1, .int (x1_4 ||| ((1 : Int32) <<< (x2_4 &&& 31)))), (0, .ref h0)] 1 rfl rfl (by decide) rfl dX7_weakNow_45 ?_
            refine ik_goto C 4 dX7_weakNow_48 (by decide) ?_
            exact ik_sub [0, 1, 2] [(2, .int (x2_4 + (1 : Int32))), (1, .int (x1_4 ||| ((1 : Int32) <<< (x2_4 &&& 31)))), (0, .ref h0)] rfl (ih_4 (x1_4 ||| ((1 : Int32) <<< (x2_4 &&& 31))) (x2_4 + (1 : Int32)) hf)
  exact hL_4 ik_fu (0 : Int32) (0 : Int32) hf
theorem mv_X7_looseNow : ik_V yX7_looseNow RX7 cX7_looseNow 4 (some .int) 0 := ⟨wl_21_15, wl_21_16, wl_1_5, wl_21_17, by decide +kernel⟩
set_option maxHeartbeats 4000000 in
set_option maxRecDepth 100000 in
theorem c_X7_looseNow (l : Launch) (D : va_G) (cI cS : ClassId) (h0 h1 h2 h3 h4 h5 h6 h7 h8 h9 h10 h11 : Nat) (misKept : Int32) (mtaped : Int32) (msort : Int32) (mfrom : Int32) (mto : Int32) (mvalue : Int32) (mbad : Int32) (mm : Nat → Int32) (mkept : Nat → Int32) (mwas : Nat → Int32) (mother : Nat → Int32) (mfound : Nat → Int32) (mwarm : Nat → Int32) (mdrip : Nat → Int32) (mtape : Nat → Int32) (mbits : Nat → Int32) (msize : Nat → Int32) (mnumber : Nat → Int32) (R : Int32) (hf : f_X7_looseNow mm = some (R)) : Met l yX7_looseNow (ik_ws yX7_looseNow cX7_looseNow 4 (some .int)) ({ frames := 5, cells := 0, slots := 0, locals := 114 } : Room) (ik_P D cI cS [.ref h0] (wz_X7 cI cS h0 h1 h2 h3 h4 h5 h6 h7 h8 h9 h10 h11 misKept mtaped msort mfrom mto mvalue mbad mm mkept mwas mother mfound mwarm mdrip mtape mbits msize mnumber)) (ik_R (some (.int R))) 0 0 ik_no := by
  refine ik_metR RX7 rfl (by decide) (Nat.le_of_ble_eq_true rfl) [(0, .ref h0)] rfl ?_
  intro p e s m below meth c C hr hlk
  unfold f_X7_looseNow at hf
  refine ik_aload_n C 0 rfl rfl dX7_looseNow_0 ?_
  obtain ⟨r1, hc1, hf⟩ := ik_b1s hf
  refine ik_goR (ik_runV C (c_X7_standing l D cI cS h0 h1 h2 h3 h4 h5 h6 h7 h8 h9 h10 h11 misKept mtaped msort mfrom mto mvalue mbad mm mkept mwas mother mfound mwarm mdrip mtape mbits msize mnumber r1 hc1) mv_X7_standing wl_10_9 ⟨rfl, rfl, Nat.le_of_ble_eq_true rfl, Nat.le_of_ble_eq_true rfl⟩ [0, 1, 2, 3, 4, 5, 6, 7, 8, 9, 10, 11] rfl (by decide) 0 rfl rfl rfl rfl (Nat.le_of_ble_eq_true rfl) dX7_looseNow_1) rfl ?_
  refine ik_istore_n C [(1, .int r1), (0, .ref h0)] rfl (by decide) rfl dX7_looseNow_4 ?_
  refine ik_iconst (v := (0 : Int32)) C (by decide) dX7_looseNow_5 ?_
  refine ik_istore_n C [(2, .int (0 : Int32)), (1, .int r1), (0, .ref h0)] rfl (by decide) rfl dX7_looseNow_6 ?_
  refine ik_iconst (v := (0 : Int32)) C (by decide) dX7_looseNow_7 ?_
  refine ik_istore_n C [(3, .int (0 : Int32)), (2, .int (0 : Int32)), (1, .int r1), (0, .ref h0)] rfl (by decide) rfl dX7_looseNow_8 ?_
  have hL_9 : ∀ (n_9 : Nat) (x2_9 : Int32) (x3_9 : Int32), ik_lp2 (b_X7_looseNow_9 mm r1) n_9 x2_9 x3_9 = some (R) → ik_G p l e ({ frames := 5, cells := 0, slots := 0, locals := 114 } : Room) s m ([.ref h0] : List Value).toArray below meth c D ik_no (fun _ => True) 4 (MQ below (ik_R (some (.int R))) ([.ref h0] : List Value).toArray s 0 0 ik_no) 9 [(3, .int x3_9), (2, .int x2_9), (1, .int r1), (0, .ref h0)] [] (wz_X7 cI cS h0 h1 h2 h3 h4 h5 h6 h7 h8 h9 h10 h11 misKept mtaped msort mfrom mto mvalue mbad mm mkept mwas mother mfound mwarm mdrip mtape mbits msize mnumber) := by
    intro n_9
    induction n_9 with
    | zero => intro _ _ hf; exact nomatch hf
    | succ n_9 ih_9 =>
      intro x2_9 x3_9 hf
      replace hf : b_X7_looseNow_9 mm r1 (ik_lp2 (b_X7_looseNow_9 mm r1) n_9) x2_9 x3_9 = some (R) := hf
      unfold b_X7_looseNow_9 at hf
      refine ik_iload_n C 0 rfl rfl dX7_looseNow_9 ?_
      refine ik_aload_n C 3 rfl rfl dX7_looseNow_10 ?_
      refine ik_get C inlX7 0 rfl rfl 0 (by decide) wl_4_12 rfl (v := .ref h1) rfl dX7_looseNow_11 ?_
      refine ik_iconst (v := (5 : Int32)) C (by decide) dX7_looseNow_14 ?_
      refine ik_iald C 1 rfl (ik_vin (by decide)) dX7_looseNow_15 ?_
      refine ik_icmp_ge C 51 dX7_looseNow_16 (by decide) (fun hc => ?_) (fun hc => ?_)
      · have hf := ik_pos hc hf
        refine ik_iload_n C 1 rfl rfl dX7_looseNow_51 ?_
        cases hf
        exact ik_iretR C hr hlk dX7_looseNow_52
      · have hf := ik_neg hc hf
        refine ik_iload_n C 1 rfl rfl dX7_looseNow_19 ?_
        refine ik_aload_n C 3 rfl rfl dX7_looseNow_20 ?_
        refine ik_iload_n C 0 rfl rfl dX7_looseNow_21 ?_
        obtain ⟨r2, hc2, hf⟩ := ik_b1s hf
        refine ik_goR (ik_runV C (c_X7_isGone l D cI cS h0 h1 h2 h3 h4 h5 h6 h7 h8 h9 h10 h11 misKept mtaped msort mfrom mto mvalue mbad mm mkept mwas mother mfound mwarm mdrip mtape mbits msize mnumber x3_9 r2 hc2) mv_X7_isGone wl_10_5 ⟨rfl, rfl, Nat.le_of_ble_eq_true rfl, Nat.le_of_ble_eq_true rfl⟩ [0, 1, 2, 3, 4, 5, 6, 7, 8, 9, 10, 11] rfl (by decide) 0 rfl rfl rfl rfl (Nat.le_of_ble_eq_true rfl) dX7_looseNow_22) rfl ?_
        refine ik_if_ne C 42 dX7_looseNow_25 (by decide) (fun hc => ?_) (fun hc => ?_)
        · have hf := ik_neg hc hf
          refine ik_iconst (v := (0 : Int32)) C (by decide) dX7_looseNow_42 ?_
          refine ik_ior C dX7_looseNow_43 ?_
          refine ik_istore_n C [(2, .int (x2_9 ||| (0 : Int32))), (3, .int x3_9), (1, .int r1), (0, .ref h0)] rfl (by decide) rfl dX7_looseNow_44 ?_
          refine ik_iinc C [(3, .int (x3_9 + (1 : Int32))), (2, .int (x2_9 ||| (0 : Int32))), (1, .int r1), (0, .ref h0)] 1 rfl rfl (by decide) rfl dX7_looseNow_45 ?_
          refine ik_goto C 9 dX7_looseNow_48 (by decide) ?_
          exact ik_sub [0, 1, 2, 3] [(3, .int (x3_9 + (1 : Int32))), (2, .int (x2_9 ||| (0 : Int32))), (1, .int r1), (0, .ref h0)] rfl (ih_9 (x2_9 ||| (0 : Int32)) (x3_9 + (1 : Int32)) hf)
        · have hf := ik_pos hc hf
          refine ik_iload_n C 2 rfl rfl dX7_looseNow_28 ?_
          refine ik_iload_n C 0 rfl rfl dX7_looseNow_29 ?_
          obtain ⟨r3, hc3, hf⟩ := ik_b1s hf
          refine ik_goR (ik_runS C (c_X7_has l D cI cS r1 x3_9 r3 hc3) ms_X7_has wl_11_0 ⟨rfl, rfl, Nat.le_of_ble_eq_true rfl, Nat.le_of_ble_eq_true rfl⟩ [] rfl (by decide) rfl rfl (Nat.le_of_ble_eq_true rfl) dX7_looseNow_30) rfl ?_
          refine ik_if_ne C 42 dX7_looseNow_33 (by decide) (fun hc => ?_) (fun hc => ?_)
          · have hf := ik_neg hc hf
            refine ik_iconst (v := (0 : Int32)) C (by decide) dX7_looseNow_42 ?_
            refine ik_ior C dX7_looseNow_43 ?_
            refine ik_istore_n C [(2, .int (x2_9 ||| (0 : Int32))), (3, .int x3_9), (1, .int r1), (0, .ref h0)] rfl (by decide) rfl dX7_looseNow_44 ?_
            refine ik_iinc C [(3, .int (x3_9 + (1 : Int32))), (2, .int (x2_9 ||| (0 : Int32))), (1, .int r1), (0, .ref h0)] 1 rfl rfl (by decide) rfl dX7_looseNow_45 ?_
            refine ik_goto C 9 dX7_looseNow_48 (by decide) ?_
            exact ik_sub [0, 1, 2, 3] [(3, .int (x3_9 + (1 : Int32))), (2, .int (x2_9 ||| (0 : Int32))), (1, .int r1), (0, .ref h0)] rfl (ih_9 (x2_9 ||| (0 : Int32)) (x3_9 + (1 : Int32)) hf)
          · have hf := ik_pos hc hf
            refine ik_iconst (v := (1 : Int32)) C (by decide) dX7_looseNow_36 ?_
            refine ik_iload_n C 0 rfl rfl dX7_looseNow_37 ?_
            refine ik_ishl C dX7_looseNow_38 ?_
            refine ik_goto C 43 dX7_looseNow_39 (by decide) ?_
            refine ik_ior C dX7_looseNow_43 ?_
            refine ik_istore_n C [(2, .int (x2_9 ||| ((1 : Int32) <<< (x3_9 &&& 31)))), (3, .int x3_9), (1, .int r1), (0, .ref h0)] rfl (by decide) rfl dX7_looseNow_44 ?_
            refine ik_iinc C [(3, .int (x3_9 + (1 : Int32))), (2, .int (x2_9 ||| ((1 : Int32) <<< (x3_9 &&& 31)))), (1, .int r1), (0, .ref h0)] 1 rfl rfl (by decide) rfl dX7_looseNow_45 ?_
            refine ik_goto C 9 dX7_looseNow_48 (by decide) ?_
            exact ik_sub [0, 1, 2, 3] [(3, .int (x3_9 + (1 : Int32))), (2, .int (x2_9 ||| ((1 : Int32) <<< (x3_9 &&& 31)))), (1, .int r1), (0, .ref h0)] rfl (ih_9 (x2_9 ||| ((1 : Int32) <<< (x3_9 &&& 31))) (x3_9 + (1 : Int32)) hf)
  exact hL_9 ik_fu (0 : Int32) (0 : Int32) hf
theorem mv_X7_falls : ik_V yX7_falls RX7 cX7_falls 3 none 0 := ⟨wl_21_11, wl_21_12, wl_1_5, wl_21_13, by decide +kernel⟩
set_option maxHeartbeats 4000000 in
set_option maxRecDepth 100000 in
theorem c_X7_falls (l : Launch) (D : va_G) (cI cS : ClassId) (h0 h1 h2 h3 h4 h5 h6 h7 h8 h9 h10 h11 : Nat) (misKept : Int32) (mtaped : Int32) (msort : Int32) (mfrom : Int32) (mto : Int32) (mvalue : Int32) (mbad : Int32) (mm : Nat → Int32) (mkept : Nat → Int32) (mwas : Nat → Int32) (mother : Nat → Int32) (mfound : Nat → Int32) (mwarm : Nat → Int32) (mdrip : Nat → Int32) (mtape : Nat → Int32) (mbits : Nat → Int32) (msize : Nat → Int32) (mnumber : Nat → Int32) (mm_r : Nat → Int32) (hf : f_X7_falls mm = some (mm_r)) : Met l yX7_falls (ik_ws yX7_falls cX7_falls 3 none) ({ frames := 6, cells := 0, slots := 0, locals := 137 } : Room) (ik_P D cI cS [.ref h0] (wz_X7 cI cS h0 h1 h2 h3 h4 h5 h6 h7 h8 h9 h10 h11 misKept mtaped msort mfrom mto mvalue mbad mm mkept mwas mother mfound mwarm mdrip mtape mbits msize mnumber)) (ik_Q none D (wz_X7 cI cS h0 h1 h2 h3 h4 h5 h6 h7 h8 h9 h10 h11 misKept mtaped msort mfrom mto mvalue mbad mm_r mkept mwas mother mfound mwarm mdrip mtape mbits msize mnumber) (wz_X7 cI cS h0 h1 h2 h3 h4 h5 h6 h7 h8 h9 h10 h11 misKept mtaped msort mfrom mto mvalue mbad mm mkept mwas mother mfound mwarm mdrip mtape mbits msize mnumber)) 0 0 (ik_in (wz_X7 cI cS h0 h1 h2 h3 h4 h5 h6 h7 h8 h9 h10 h11 misKept mtaped msort mfrom mto mvalue mbad mm mkept mwas mother mfound mwarm mdrip mtape mbits msize mnumber)) := by
  refine ik_metW RX7 rfl (by decide) (Nat.le_of_ble_eq_true rfl) [(0, .ref h0)] rfl ?_
  intro p e s m below meth c C hr hlk
  unfold f_X7_falls at hf
  refine ik_aload_n C 0 rfl rfl dX7_falls_0 ?_
  obtain ⟨r1, hc1, hf⟩ := ik_b1s hf
  refine ik_goR (ik_runV C (c_X7_looseNow l D cI cS h0 h1 h2 h3 h4 h5 h6 h7 h8 h9 h10 h11 misKept mtaped msort mfrom mto mvalue mbad mm mkept mwas mother mfound mwarm mdrip mtape mbits msize mnumber r1 hc1) mv_X7_looseNow wl_21_14 ⟨rfl, rfl, Nat.le_of_ble_eq_true rfl, Nat.le_of_ble_eq_true rfl⟩ [0, 1, 2, 3, 4, 5, 6, 7, 8, 9, 10, 11] rfl (by decide) 0 rfl rfl rfl rfl (Nat.le_of_ble_eq_true rfl) dX7_falls_1) rfl ?_
  refine ik_aload_n C 0 rfl rfl dX7_falls_4 ?_
  obtain ⟨r2, hc2, hf⟩ := ik_b1s hf
  refine ik_goR (ik_runV C (c_X7_weakNow l D cI cS h0 h1 h2 h3 h4 h5 h6 h7 h8 h9 h10 h11 misKept mtaped msort mfrom mto mvalue mbad mm mkept mwas mother mfound mwarm mdrip mtape mbits msize mnumber r2 hc2) mv_X7_weakNow wl_21_18 ⟨rfl, rfl, Nat.le_of_ble_eq_true rfl, Nat.le_of_ble_eq_true rfl⟩ [0, 1, 2, 3, 4, 5, 6, 7, 8, 9, 10, 11] rfl (by decide) 0 rfl rfl rfl rfl (Nat.le_of_ble_eq_true rfl) dX7_falls_5) rfl ?_
  refine ik_ior C dX7_falls_8 ?_
  refine ik_istore_n C [(1, .int (r1 ||| r2)), (0, .ref h0)] rfl (by decide) rfl dX7_falls_9 ?_
  have hL_10 : ∀ (n_10 : Nat) (mm_10 : Nat → Int32) (x1_10 : Int32), ik_lp2 (b_X7_falls_10) n_10 mm_10 x1_10 = some (mm_r) → ik_G p l e ({ frames := 6, cells := 0, slots := 0, locals := 137 } : Room) s m ([.ref h0] : List Value).toArray below meth c D (ik_in (wz_X7 cI cS h0 h1 h2 h3 h4 h5 h6 h7 h8 h9 h10 h11 misKept mtaped msort mfrom mto mvalue mbad mm mkept mwas mother mfound mwarm mdrip mtape mbits msize mnumber)) (ik_in (wz_X7 cI cS h0 h1 h2 h3 h4 h5 h6 h7 h8 h9 h10 h11 misKept mtaped msort mfrom mto mvalue mbad mm mkept mwas mother mfound mwarm mdrip mtape mbits msize mnumber)) 3 (MQ below (ik_Q none D (wz_X7 cI cS h0 h1 h2 h3 h4 h5 h6 h7 h8 h9 h10 h11 misKept mtaped msort mfrom mto mvalue mbad mm_r mkept mwas mother mfound mwarm mdrip mtape mbits msize mnumber) (wz_X7 cI cS h0 h1 h2 h3 h4 h5 h6 h7 h8 h9 h10 h11 misKept mtaped msort mfrom mto mvalue mbad mm mkept mwas mother mfound mwarm mdrip mtape mbits msize mnumber)) ([.ref h0] : List Value).toArray s 0 0 (ik_in (wz_X7 cI cS h0 h1 h2 h3 h4 h5 h6 h7 h8 h9 h10 h11 misKept mtaped msort mfrom mto mvalue mbad mm mkept mwas mother mfound mwarm mdrip mtape mbits msize mnumber))) 10 [(1, .int x1_10), (0, .ref h0)] [] (wz_X7 cI cS h0 h1 h2 h3 h4 h5 h6 h7 h8 h9 h10 h11 misKept mtaped msort mfrom mto mvalue mbad mm_10 mkept mwas mother mfound mwarm mdrip mtape mbits msize mnumber) := by
    intro n_10
    induction n_10 with
    | zero => intro _ _ hf; exact nomatch hf
    | succ n_10 ih_10 =>
      intro mm_10 x1_10 hf
      replace hf : b_X7_falls_10 (ik_lp2 (b_X7_falls_10) n_10) mm_10 x1_10 = some (mm_r) := hf
      unfold b_X7_falls_10 at hf
      refine ik_iload_n C 0 rfl rfl dX7_falls_10 ?_
      refine ik_if_eq C 90 dX7_falls_11 (by decide) (fun hc => ?_) (fun hc => ?_)
      · have hf := ik_pos hc hf
        cases hf
        exact ik_vretW C hr hlk dX7_falls_90
      · have hf := ik_neg hc hf
        refine ik_iconst (v := (0 : Int32)) C (by decide) dX7_falls_14 ?_
        refine ik_istore_n C [(2, .int (0 : Int32)), (1, .int x1_10), (0, .ref h0)] rfl (by decide) rfl dX7_falls_15 ?_
        have hL_16 : ∀ (n_16 : Nat) (mm_16 : Nat → Int32) (x2_16 : Int32), ik_lp2 (b_X7_falls_16 x1_10 (ik_lp2 (b_X7_falls_10) n_10)) n_16 mm_16 x2_16 = some (mm_r) → ik_G p l e ({ frames := 6, cells := 0, slots := 0, locals := 137 } : Room) s m ([.ref h0] : List Value).toArray below meth c D (ik_in (wz_X7 cI cS h0 h1 h2 h3 h4 h5 h6 h7 h8 h9 h10 h11 misKept mtaped msort mfrom mto mvalue mbad mm mkept mwas mother mfound mwarm mdrip mtape mbits msize mnumber)) (ik_in (wz_X7 cI cS h0 h1 h2 h3 h4 h5 h6 h7 h8 h9 h10 h11 misKept mtaped msort mfrom mto mvalue mbad mm mkept mwas mother mfound mwarm mdrip mtape mbits msize mnumber)) 3 (MQ below (ik_Q none D (wz_X7 cI cS h0 h1 h2 h3 h4 h5 h6 h7 h8 h9 h10 h11 misKept mtaped msort mfrom mto mvalue mbad mm_r mkept mwas mother mfound mwarm mdrip mtape mbits msize mnumber) (wz_X7 cI cS h0 h1 h2 h3 h4 h5 h6 h7 h8 h9 h10 h11 misKept mtaped msort mfrom mto mvalue mbad mm mkept mwas mother mfound mwarm mdrip mtape mbits msize mnumber)) ([.ref h0] : List Value).toArray s 0 0 (ik_in (wz_X7 cI cS h0 h1 h2 h3 h4 h5 h6 h7 h8 h9 h10 h11 misKept mtaped msort mfrom mto mvalue mbad mm mkept mwas mother mfound mwarm mdrip mtape mbits msize mnumber))) 16 [(2, .int x2_16), (1, .int x1_10), (0, .ref h0)] [] (wz_X7 cI cS h0 h1 h2 h3 h4 h5 h6 h7 h8 h9 h10 h11 misKept mtaped msort mfrom mto mvalue mbad mm_16 mkept mwas mother mfound mwarm mdrip mtape mbits msize mnumber) := by
          intro n_16
          induction n_16 with
          | zero => intro _ _ hf; exact nomatch hf
          | succ n_16 ih_16 =>
            intro mm_16 x2_16 hf
            replace hf : b_X7_falls_16 x1_10 (ik_lp2 (b_X7_falls_10) n_10) (ik_lp2 (b_X7_falls_16 x1_10 (ik_lp2 (b_X7_falls_10) n_10)) n_16) mm_16 x2_16 = some (mm_r) := hf
            unfold b_X7_falls_16 at hf
            refine ik_iload_n C 0 rfl rfl dX7_falls_16 ?_
            refine ik_aload_n C 2 rfl rfl dX7_falls_17 ?_
            refine ik_get C inlX7 0 rfl rfl 0 (by decide) wl_4_12 rfl (v := .ref h1) rfl dX7_falls_18 ?_
            refine ik_iconst (v := (5 : Int32)) C (by decide) dX7_falls_21 ?_
            refine ik_iald C 1 rfl (ik_vin (by decide)) dX7_falls_22 ?_
            refine ik_icmp_ge C 77 dX7_falls_23 (by decide) (fun hc => ?_) (fun hc => ?_)
            · have hf := ik_pos hc hf
              refine ik_aload_n C 2 rfl rfl dX7_falls_77 ?_
              obtain ⟨r3, hc3, hf⟩ := ik_b1s hf
              refine ik_goR (ik_runV C (c_X7_looseNow l D cI cS h0 h1 h2 h3 h4 h5 h6 h7 h8 h9 h10 h11 misKept mtaped msort mfrom mto mvalue mbad mm_16 mkept mwas mother mfound mwarm mdrip mtape mbits msize mnumber r3 hc3) mv_X7_looseNow wl_21_14 ⟨rfl, rfl, Nat.le_of_ble_eq_true rfl, Nat.le_of_ble_eq_true rfl⟩ [0, 1, 2, 3, 4, 5, 6, 7, 8, 9, 10, 11] rfl (by decide) 0 rfl rfl rfl rfl (Nat.le_of_ble_eq_true rfl) dX7_falls_78) rfl ?_
              refine ik_aload_n C 2 rfl rfl dX7_falls_81 ?_
              obtain ⟨r4, hc4, hf⟩ := ik_b1s hf
              refine ik_goR (ik_runV C (c_X7_weakNow l D cI cS h0 h1 h2 h3 h4 h5 h6 h7 h8 h9 h10 h11 misKept mtaped msort mfrom mto mvalue mbad mm_16 mkept mwas mother mfound mwarm mdrip mtape mbits msize mnumber r4 hc4) mv_X7_weakNow wl_21_18 ⟨rfl, rfl, Nat.le_of_ble_eq_true rfl, Nat.le_of_ble_eq_true rfl⟩ [0, 1, 2, 3, 4, 5, 6, 7, 8, 9, 10, 11] rfl (by decide) 0 rfl rfl rfl rfl (Nat.le_of_ble_eq_true rfl) dX7_falls_82) rfl ?_
              refine ik_ior C dX7_falls_85 ?_
              refine ik_istore_n C [(1, .int (r3 ||| r4)), (2, .int x2_16), (0, .ref h0)] rfl (by decide) rfl dX7_falls_86 ?_
              refine ik_goto C 10 dX7_falls_87 (by decide) ?_
              exact ik_sub [0, 2] [(1, .int (r3 ||| r4)), (0, .ref h0)] rfl (ih_10 mm_16 (r3 ||| r4) hf)
            · have hf := ik_neg hc hf
              refine ik_iload_n C 1 rfl rfl dX7_falls_26 ?_
              refine ik_iload_n C 0 rfl rfl dX7_falls_27 ?_
              obtain ⟨r3, hc3, hf⟩ := ik_b1s hf
              refine ik_goR (ik_runS C (c_X7_has l D cI cS x1_10 x2_16 r3 hc3) ms_X7_has wl_11_0 ⟨rfl, rfl, Nat.le_of_ble_eq_true rfl, Nat.le_of_ble_eq_true rfl⟩ [] rfl (by decide) rfl rfl (Nat.le_of_ble_eq_true rfl) dX7_falls_28) rfl ?_
              refine ik_if_ne C 37 dX7_falls_31 (by decide) (fun hc => ?_) (fun hc => ?_)
              · have hf := ik_neg hc hf
                refine ik_aload_n C 2 rfl rfl dX7_falls_37 ?_
                refine ik_get C inlX7 0 rfl rfl 0 (by decide) wl_4_12 rfl (v := .ref h1) rfl dX7_falls_38 ?_
                refine ik_iconst (v := (3 : Int32)) C (by decide) dX7_falls_41 ?_
                refine ik_dup2 C rfl rfl dX7_falls_42 ?_
                refine ik_iald C 1 rfl (ik_vin (by decide)) dX7_falls_43 ?_
                refine ik_aload_n C 2 rfl rfl dX7_falls_44 ?_
                refine ik_iload_n C 0 rfl rfl dX7_falls_45 ?_
                obtain ⟨r4, hc4, hf⟩ := ik_b1s hf
                refine ik_goR (ik_runV C (c_X7_grains l D cI cS h0 h1 h2 h3 h4 h5 h6 h7 h8 h9 h10 h11 misKept mtaped msort mfrom mto mvalue mbad mm_16 mkept mwas mother mfound mwarm mdrip mtape mbits msize mnumber x2_16 r4 hc4) mv_X7_grains wl_10_1 ⟨rfl, rfl, Nat.le_of_ble_eq_true rfl, Nat.le_of_ble_eq_true rfl⟩ [0, 1, 2, 3, 4, 5, 6, 7, 8, 9, 10, 11] rfl (by decide) 0 rfl rfl rfl rfl (Nat.le_of_ble_eq_true rfl) dX7_falls_46) rfl ?_
                refine ik_iadd C dX7_falls_49 ?_
                refine ik_iast C 1 rfl (ik_vin (by decide)) (wz_X7 cI cS h0 h1 h2 h3 h4 h5 h6 h7 h8 h9 h10 h11 misKept mtaped msort mfrom mto mvalue mbad (upd mm_16 ((3 : Int32)).toNatClampNeg ((mm_16 ((3 : Int32)).toNatClampNeg) + r4)) mkept mwas mother mfound mwarm mdrip mtape mbits msize mnumber) rfl dX7_falls_50 ?_
                refine ik_aload_n C 2 rfl rfl dX7_falls_51 ?_
                refine ik_iload_n C 0 rfl rfl dX7_falls_52 ?_
                refine ik_iconst (v := (0 : Int32)) C (by decide) dX7_falls_53 ?_
                obtain ⟨g5, hc5, hf⟩ := ik_b1s hf
                refine ik_goW [0, 1, 2, 3, 4, 5, 6, 7, 8, 9, 10, 11] rfl rfl (wz_X7 cI cS h0 h1 h2 h3 h4 h5 h6 h7 h8 h9 h10 h11 misKept mtaped msort mfrom mto mvalue mbad g5 mkept mwas mother mfound mwarm mdrip mtape mbits msize mnumber) rfl (ik_runV C (c_X7_makes l D cI cS h0 h1 h2 h3 h4 h5 h6 h7 h8 h9 h10 h11 misKept mtaped msort mfrom mto mvalue mbad (upd mm_16 ((3 : Int32)).toNatClampNeg ((mm_16 ((3 : Int32)).toNatClampNeg) + r4)) mkept mwas mother mfound mwarm mdrip mtape mbits msize mnumber x2_16 (0 : Int32) g5 hc5) mv_X7_makes wl_14_23 ⟨rfl, rfl, Nat.le_of_ble_eq_true rfl, Nat.le_of_ble_eq_true rfl⟩ [0, 1, 2, 3, 4, 5, 6, 7, 8, 9, 10, 11] rfl (by decide) 0 rfl rfl rfl rfl (Nat.le_of_ble_eq_true rfl) dX7_falls_54) rfl ?_
                refine ik_aload_n C 2 rfl rfl dX7_falls_57 ?_
                refine ik_get C inlX7 0 rfl rfl 0 (by decide) wl_4_12 rfl (v := .ref h1) rfl dX7_falls_58 ?_
                refine ik_bipush (v := (24 : Int32)) C (by decide) dX7_falls_61 ?_
                refine ik_iconst (v := (3 : Int32)) C (by decide) dX7_falls_63 ?_
                refine ik_iload_n C 0 rfl rfl dX7_falls_64 ?_
                refine ik_imul C dX7_falls_65 ?_
                refine ik_iadd C dX7_falls_66 ?_
                refine ik_iconst (v := (1 : Int32)) C (by decide) dX7_falls_67 ?_
                refine ik_iadd C dX7_falls_68 ?_
                refine ik_iconst (v := (-1 : Int32)) C (by decide) dX7_falls_69 ?_
                have hg := ik_gdi hf
                have hf := ik_gdk hf
                refine ik_iast C 1 rfl hg (wz_X7 cI cS h0 h1 h2 h3 h4 h5 h6 h7 h8 h9 h10 h11 misKept mtaped msort mfrom mto mvalue mbad (upd g5 ((((24 : Int32) + ((3 : Int32) * x2_16)) + (1 : Int32))).toNatClampNeg (-1 : Int32)) mkept mwas mother mfound mwarm mdrip mtape mbits msize mnumber) rfl dX7_falls_70 ?_
                refine ik_iinc C [(2, .int (x2_16 + (1 : Int32))), (1, .int x1_10), (0, .ref h0)] 0 rfl rfl (by decide) rfl dX7_falls_71 ?_
                refine ik_goto C 16 dX7_falls_74 (by decide) ?_
                exact ik_sub [0, 1, 2] [(2, .int (x2_16 + (1 : Int32))), (1, .int x1_10), (0, .ref h0)] rfl (ih_16 (upd g5 ((((24 : Int32) + ((3 : Int32) * x2_16)) + (1 : Int32))).toNatClampNeg (-1 : Int32)) (x2_16 + (1 : Int32)) hf)
              · have hf := ik_pos hc hf
                refine ik_goto C 71 dX7_falls_34 (by decide) ?_
                refine ik_iinc C [(2, .int (x2_16 + (1 : Int32))), (1, .int x1_10), (0, .ref h0)] 0 rfl rfl (by decide) rfl dX7_falls_71 ?_
                refine ik_goto C 16 dX7_falls_74 (by decide) ?_
                exact ik_sub [0, 1, 2] [(2, .int (x2_16 + (1 : Int32))), (1, .int x1_10), (0, .ref h0)] rfl (ih_16 mm_16 (x2_16 + (1 : Int32)) hf)
        exact hL_16 ik_fu mm_10 (0 : Int32) hf
  exact hL_10 ik_fu mm (r1 ||| r2) hf
theorem mv_X7_emptyGo : ik_V yX7_emptyGo RX7 cX7_emptyGo 2 none 0 := ⟨wl_21_7, wl_21_8, wl_1_5, wl_21_9, by decide +kernel⟩
set_option maxHeartbeats 4000000 in
set_option maxRecDepth 100000 in
theorem c_X7_emptyGo (l : Launch) (D : va_G) (cI cS : ClassId) (h0 h1 h2 h3 h4 h5 h6 h7 h8 h9 h10 h11 : Nat) (misKept : Int32) (mtaped : Int32) (msort : Int32) (mfrom : Int32) (mto : Int32) (mvalue : Int32) (mbad : Int32) (mm : Nat → Int32) (mkept : Nat → Int32) (mwas : Nat → Int32) (mother : Nat → Int32) (mfound : Nat → Int32) (mwarm : Nat → Int32) (mdrip : Nat → Int32) (mtape : Nat → Int32) (mbits : Nat → Int32) (msize : Nat → Int32) (mnumber : Nat → Int32) (mm_r : Nat → Int32) (hf : f_X7_emptyGo mm = some (mm_r)) : Met l yX7_emptyGo (ik_ws yX7_emptyGo cX7_emptyGo 2 none) ({ frames := 1, cells := 0, slots := 0, locals := 21 } : Room) (ik_P D cI cS [.ref h0] (wz_X7 cI cS h0 h1 h2 h3 h4 h5 h6 h7 h8 h9 h10 h11 misKept mtaped msort mfrom mto mvalue mbad mm mkept mwas mother mfound mwarm mdrip mtape mbits msize mnumber)) (ik_Q none D (wz_X7 cI cS h0 h1 h2 h3 h4 h5 h6 h7 h8 h9 h10 h11 misKept mtaped msort mfrom mto mvalue mbad mm_r mkept mwas mother mfound mwarm mdrip mtape mbits msize mnumber) (wz_X7 cI cS h0 h1 h2 h3 h4 h5 h6 h7 h8 h9 h10 h11 misKept mtaped msort mfrom mto mvalue mbad mm mkept mwas mother mfound mwarm mdrip mtape mbits msize mnumber)) 0 0 (ik_in (wz_X7 cI cS h0 h1 h2 h3 h4 h5 h6 h7 h8 h9 h10 h11 misKept mtaped msort mfrom mto mvalue mbad mm mkept mwas mother mfound mwarm mdrip mtape mbits msize mnumber)) := by
  refine ik_metW RX7 rfl (by decide) (Nat.le_of_ble_eq_true rfl) [(0, .ref h0)] rfl ?_
  intro p e s m below meth c C hr hlk
  unfold f_X7_emptyGo at hf
  refine ik_iconst (v := (0 : Int32)) C (by decide) dX7_emptyGo_0 ?_
  refine ik_istore_n C [(1, .int (0 : Int32)), (0, .ref h0)] rfl (by decide) rfl dX7_emptyGo_1 ?_
  have hL_2 : ∀ (n_2 : Nat) (mm_2 : Nat → Int32) (x1_2 : Int32), ik_lp2 (b_X7_emptyGo_2) n_2 mm_2 x1_2 = some (mm_r) → ik_G p l e ({ frames := 1, cells := 0, slots := 0, locals := 21 } : Room) s m ([.ref h0] : List Value).toArray below meth c D (ik_in (wz_X7 cI cS h0 h1 h2 h3 h4 h5 h6 h7 h8 h9 h10 h11 misKept mtaped msort mfrom mto mvalue mbad mm mkept mwas mother mfound mwarm mdrip mtape mbits msize mnumber)) (ik_in (wz_X7 cI cS h0 h1 h2 h3 h4 h5 h6 h7 h8 h9 h10 h11 misKept mtaped msort mfrom mto mvalue mbad mm mkept mwas mother mfound mwarm mdrip mtape mbits msize mnumber)) 2 (MQ below (ik_Q none D (wz_X7 cI cS h0 h1 h2 h3 h4 h5 h6 h7 h8 h9 h10 h11 misKept mtaped msort mfrom mto mvalue mbad mm_r mkept mwas mother mfound mwarm mdrip mtape mbits msize mnumber) (wz_X7 cI cS h0 h1 h2 h3 h4 h5 h6 h7 h8 h9 h10 h11 misKept mtaped msort mfrom mto mvalue mbad mm mkept mwas mother mfound mwarm mdrip mtape mbits msize mnumber)) ([.ref h0] : List Value).toArray s 0 0 (ik_in (wz_X7 cI cS h0 h1 h2 h3 h4 h5 h6 h7 h8 h9 h10 h11 misKept mtaped msort mfrom mto mvalue mbad mm mkept mwas mother mfound mwarm mdrip mtape mbits msize mnumber))) 2 [(1, .int x1_2), (0, .ref h0)] [] (wz_X7 cI cS h0 h1 h2 h3 h4 h5 h6 h7 h8 h9 h10 h11 misKept mtaped msort mfrom mto mvalue mbad mm_2 mkept mwas mother mfound mwarm mdrip mtape mbits msize mnumber) := by
    intro n_2
    induction n_2 with
    | zero => intro _ _ hf; exact nomatch hf
    | succ n_2 ih_2 =>
      intro mm_2 x1_2 hf
      replace hf : b_X7_emptyGo_2 (ik_lp2 (b_X7_emptyGo_2) n_2) mm_2 x1_2 = some (mm_r) := hf
      unfold b_X7_emptyGo_2 at hf
      refine ik_iload_n C 0 rfl rfl dX7_emptyGo_2 ?_
      refine ik_aload_n C 1 rfl rfl dX7_emptyGo_3 ?_
      refine ik_get C inlX7 0 rfl rfl 0 (by decide) wl_4_12 rfl (v := .ref h1) rfl dX7_emptyGo_4 ?_
      refine ik_iconst (v := (5 : Int32)) C (by decide) dX7_emptyGo_7 ?_
      refine ik_iald C 1 rfl (ik_vin (by decide)) dX7_emptyGo_8 ?_
      refine ik_icmp_ge C 40 dX7_emptyGo_9 (by decide) (fun hc => ?_) (fun hc => ?_)
      · have hf := ik_pos hc hf
        cases hf
        exact ik_vretW C hr hlk dX7_emptyGo_40
      · have hf := ik_neg hc hf
        refine ik_aload_n C 1 rfl rfl dX7_emptyGo_12 ?_
        refine ik_iload_n C 0 rfl rfl dX7_emptyGo_13 ?_
        obtain ⟨r1, hc1, hf⟩ := ik_b1s hf
        refine ik_goR (ik_runV C (c_X7_grains l D cI cS h0 h1 h2 h3 h4 h5 h6 h7 h8 h9 h10 h11 misKept mtaped msort mfrom mto mvalue mbad mm_2 mkept mwas mother mfound mwarm mdrip mtape mbits msize mnumber x1_2 r1 hc1) mv_X7_grains wl_10_1 ⟨rfl, rfl, Nat.le_of_ble_eq_true rfl, Nat.le_of_ble_eq_true rfl⟩ [0, 1, 2, 3, 4, 5, 6, 7, 8, 9, 10, 11] rfl (by decide) 0 rfl rfl rfl rfl (Nat.le_of_ble_eq_true rfl) dX7_emptyGo_14) rfl ?_
        refine ik_if_ne C 34 dX7_emptyGo_17 (by decide) (fun hc => ?_) (fun hc => ?_)
        · have hf := ik_neg hc hf
          refine ik_iinc C [(1, .int (x1_2 + (1 : Int32))), (0, .ref h0)] 0 rfl rfl (by decide) rfl dX7_emptyGo_34 ?_
          refine ik_goto C 2 dX7_emptyGo_37 (by decide) ?_
          exact ik_sub [0, 1] [(1, .int (x1_2 + (1 : Int32))), (0, .ref h0)] rfl (ih_2 mm_2 (x1_2 + (1 : Int32)) hf)
        · have hf := ik_pos hc hf
          refine ik_aload_n C 1 rfl rfl dX7_emptyGo_20 ?_
          refine ik_get C inlX7 0 rfl rfl 0 (by decide) wl_4_12 rfl (v := .ref h1) rfl dX7_emptyGo_21 ?_
          refine ik_bipush (v := (24 : Int32)) C (by decide) dX7_emptyGo_24 ?_
          refine ik_iconst (v := (3 : Int32)) C (by decide) dX7_emptyGo_26 ?_
          refine ik_iload_n C 0 rfl rfl dX7_emptyGo_27 ?_
          refine ik_imul C dX7_emptyGo_28 ?_
          refine ik_iadd C dX7_emptyGo_29 ?_
          refine ik_iconst (v := (1 : Int32)) C (by decide) dX7_emptyGo_30 ?_
          refine ik_iadd C dX7_emptyGo_31 ?_
          refine ik_iconst (v := (-1 : Int32)) C (by decide) dX7_emptyGo_32 ?_
          have hg := ik_gdi hf
          have hf := ik_gdk hf
          refine ik_iast C 1 rfl hg (wz_X7 cI cS h0 h1 h2 h3 h4 h5 h6 h7 h8 h9 h10 h11 misKept mtaped msort mfrom mto mvalue mbad (upd mm_2 ((((24 : Int32) + ((3 : Int32) * x1_2)) + (1 : Int32))).toNatClampNeg (-1 : Int32)) mkept mwas mother mfound mwarm mdrip mtape mbits msize mnumber) rfl dX7_emptyGo_33 ?_
          refine ik_iinc C [(1, .int (x1_2 + (1 : Int32))), (0, .ref h0)] 0 rfl rfl (by decide) rfl dX7_emptyGo_34 ?_
          refine ik_goto C 2 dX7_emptyGo_37 (by decide) ?_
          exact ik_sub [0, 1] [(1, .int (x1_2 + (1 : Int32))), (0, .ref h0)] rfl (ih_2 (upd mm_2 ((((24 : Int32) + ((3 : Int32) * x1_2)) + (1 : Int32))).toNatClampNeg (-1 : Int32)) (x1_2 + (1 : Int32)) hf)
  exact hL_2 ik_fu mm (0 : Int32) hf
theorem mv_X7_hour : ik_V yX7_hour RX7 cX7_hour 2 none 0 := ⟨wl_20_19, wl_20_20, wl_1_5, wl_20_21, by decide +kernel⟩
set_option maxHeartbeats 4000000 in
set_option maxRecDepth 100000 in
theorem c_X7_hour (l : Launch) (D : va_G) (cI cS : ClassId) (h0 h1 h2 h3 h4 h5 h6 h7 h8 h9 h10 h11 : Nat) (misKept : Int32) (mtaped : Int32) (msort : Int32) (mfrom : Int32) (mto : Int32) (mvalue : Int32) (mbad : Int32) (mm : Nat → Int32) (mkept : Nat → Int32) (mwas : Nat → Int32) (mother : Nat → Int32) (mfound : Nat → Int32) (mwarm : Nat → Int32) (mdrip : Nat → Int32) (mtape : Nat → Int32) (mbits : Nat → Int32) (msize : Nat → Int32) (mnumber : Nat → Int32) (mm_r : Nat → Int32) (mwarm_r : Nat → Int32) (mdrip_r : Nat → Int32) (hf : f_X7_hour mm mwarm mdrip = some (mm_r, mwarm_r, mdrip_r)) : Met l yX7_hour (ik_ws yX7_hour cX7_hour 2 none) ({ frames := 7, cells := 0, slots := 0, locals := 159 } : Room) (ik_P D cI cS [.ref h0] (wz_X7 cI cS h0 h1 h2 h3 h4 h5 h6 h7 h8 h9 h10 h11 misKept mtaped msort mfrom mto mvalue mbad mm mkept mwas mother mfound mwarm mdrip mtape mbits msize mnumber)) (ik_Q none D (wz_X7 cI cS h0 h1 h2 h3 h4 h5 h6 h7 h8 h9 h10 h11 misKept mtaped msort mfrom mto mvalue mbad mm_r mkept mwas mother mfound mwarm_r mdrip_r mtape mbits msize mnumber) (wz_X7 cI cS h0 h1 h2 h3 h4 h5 h6 h7 h8 h9 h10 h11 misKept mtaped msort mfrom mto mvalue mbad mm mkept mwas mother mfound mwarm mdrip mtape mbits msize mnumber)) 0 0 (ik_in (wz_X7 cI cS h0 h1 h2 h3 h4 h5 h6 h7 h8 h9 h10 h11 misKept mtaped msort mfrom mto mvalue mbad mm mkept mwas mother mfound mwarm mdrip mtape mbits msize mnumber)) := by
  refine ik_metW RX7 rfl (by decide) (Nat.le_of_ble_eq_true rfl) [(0, .ref h0)] rfl ?_
  intro p e s m below meth c C hr hlk
  unfold f_X7_hour at hf
  refine ik_iconst (v := (0 : Int32)) C (by decide) dX7_hour_0 ?_
  refine ik_istore_n C [(1, .int (0 : Int32)), (0, .ref h0)] rfl (by decide) rfl dX7_hour_1 ?_
  have hL_2 : ∀ (n_2 : Nat) (mwarm_2 : Nat → Int32) (x1_2 : Int32), ik_lp2 (b_X7_hour_2 mm mdrip) n_2 mwarm_2 x1_2 = some (mm_r, mwarm_r, mdrip_r) → ik_G p l e ({ frames := 7, cells := 0, slots := 0, locals := 159 } : Room) s m ([.ref h0] : List Value).toArray below meth c D (ik_in (wz_X7 cI cS h0 h1 h2 h3 h4 h5 h6 h7 h8 h9 h10 h11 misKept mtaped msort mfrom mto mvalue mbad mm mkept mwas mother mfound mwarm mdrip mtape mbits msize mnumber)) (ik_in (wz_X7 cI cS h0 h1 h2 h3 h4 h5 h6 h7 h8 h9 h10 h11 misKept mtaped msort mfrom mto mvalue mbad mm mkept mwas mother mfound mwarm mdrip mtape mbits msize mnumber)) 2 (MQ below (ik_Q none D (wz_X7 cI cS h0 h1 h2 h3 h4 h5 h6 h7 h8 h9 h10 h11 misKept mtaped msort mfrom mto mvalue mbad mm_r mkept mwas mother mfound mwarm_r mdrip_r mtape mbits msize mnumber) (wz_X7 cI cS h0 h1 h2 h3 h4 h5 h6 h7 h8 h9 h10 h11 misKept mtaped msort mfrom mto mvalue mbad mm mkept mwas mother mfound mwarm mdrip mtape mbits msize mnumber)) ([.ref h0] : List Value).toArray s 0 0 (ik_in (wz_X7 cI cS h0 h1 h2 h3 h4 h5 h6 h7 h8 h9 h10 h11 misKept mtaped msort mfrom mto mvalue mbad mm mkept mwas mother mfound mwarm mdrip mtape mbits msize mnumber))) 2 [(1, .int x1_2), (0, .ref h0)] [] (wz_X7 cI cS h0 h1 h2 h3 h4 h5 h6 h7 h8 h9 h10 h11 misKept mtaped msort mfrom mto mvalue mbad mm mkept mwas mother mfound mwarm_2 mdrip mtape mbits msize mnumber) := by
    intro n_2
    induction n_2 with
    | zero => intro _ _ hf; exact nomatch hf
    | succ n_2 ih_2 =>
      intro mwarm_2 x1_2 hf
      replace hf : b_X7_hour_2 mm mdrip (ik_lp2 (b_X7_hour_2 mm mdrip) n_2) mwarm_2 x1_2 = some (mm_r, mwarm_r, mdrip_r) := hf
      unfold b_X7_hour_2 at hf
      refine ik_iload_n C 0 rfl rfl dX7_hour_2 ?_
      refine ik_aload_n C 1 rfl rfl dX7_hour_3 ?_
      refine ik_get C inlX7 0 rfl rfl 0 (by decide) wl_4_12 rfl (v := .ref h1) rfl dX7_hour_4 ?_
      refine ik_iconst (v := (5 : Int32)) C (by decide) dX7_hour_7 ?_
      refine ik_iald C 1 rfl (ik_vin (by decide)) dX7_hour_8 ?_
      refine ik_icmp_ge C 45 dX7_hour_9 (by decide) (fun hc => ?_) (fun hc => ?_)
      · have hf := ik_pos hc hf
        refine ik_iconst (v := (0 : Int32)) C (by decide) dX7_hour_45 ?_
        refine ik_istore_n C [(1, .int (0 : Int32)), (0, .ref h0)] rfl (by decide) rfl dX7_hour_46 ?_
        have hL_47 : ∀ (n_47 : Nat) (mdrip_47 : Nat → Int32) (x1_47 : Int32), ik_lp2 (b_X7_hour_47 mm mwarm_2) n_47 mdrip_47 x1_47 = some (mm_r, mwarm_r, mdrip_r) → ik_G p l e ({ frames := 7, cells := 0, slots := 0, locals := 159 } : Room) s m ([.ref h0] : List Value).toArray below meth c D (ik_in (wz_X7 cI cS h0 h1 h2 h3 h4 h5 h6 h7 h8 h9 h10 h11 misKept mtaped msort mfrom mto mvalue mbad mm mkept mwas mother mfound mwarm mdrip mtape mbits msize mnumber)) (ik_in (wz_X7 cI cS h0 h1 h2 h3 h4 h5 h6 h7 h8 h9 h10 h11 misKept mtaped msort mfrom mto mvalue mbad mm mkept mwas mother mfound mwarm mdrip mtape mbits msize mnumber)) 2 (MQ below (ik_Q none D (wz_X7 cI cS h0 h1 h2 h3 h4 h5 h6 h7 h8 h9 h10 h11 misKept mtaped msort mfrom mto mvalue mbad mm_r mkept mwas mother mfound mwarm_r mdrip_r mtape mbits msize mnumber) (wz_X7 cI cS h0 h1 h2 h3 h4 h5 h6 h7 h8 h9 h10 h11 misKept mtaped msort mfrom mto mvalue mbad mm mkept mwas mother mfound mwarm mdrip mtape mbits msize mnumber)) ([.ref h0] : List Value).toArray s 0 0 (ik_in (wz_X7 cI cS h0 h1 h2 h3 h4 h5 h6 h7 h8 h9 h10 h11 misKept mtaped msort mfrom mto mvalue mbad mm mkept mwas mother mfound mwarm mdrip mtape mbits msize mnumber))) 47 [(1, .int x1_47), (0, .ref h0)] [] (wz_X7 cI cS h0 h1 h2 h3 h4 h5 h6 h7 h8 h9 h10 h11 misKept mtaped msort mfrom mto mvalue mbad mm mkept mwas mother mfound mwarm_2 mdrip_47 mtape mbits msize mnumber) := by
          intro n_47
          induction n_47 with
          | zero => intro _ _ hf; exact nomatch hf
          | succ n_47 ih_47 =>
            intro mdrip_47 x1_47 hf
            replace hf : b_X7_hour_47 mm mwarm_2 (ik_lp2 (b_X7_hour_47 mm mwarm_2) n_47) mdrip_47 x1_47 = some (mm_r, mwarm_r, mdrip_r) := hf
            unfold b_X7_hour_47 at hf
            refine ik_iload_n C 0 rfl rfl dX7_hour_47 ?_
            refine ik_bipush (v := (8 : Int32)) C (by decide) dX7_hour_48 ?_
            refine ik_icmp_ge C 66 dX7_hour_50 (by decide) (fun hc => ?_) (fun hc => ?_)
            · have hf := ik_pos hc hf
              refine ik_iconst (v := (0 : Int32)) C (by decide) dX7_hour_66 ?_
              refine ik_istore_n C [(1, .int (0 : Int32)), (0, .ref h0)] rfl (by decide) rfl dX7_hour_67 ?_
              have hL_68 : ∀ (n_68 : Nat) (mm_68 : Nat → Int32) (mdrip_68 : Nat → Int32) (x1_68 : Int32), ik_lp3 (b_X7_hour_68 mwarm_2) n_68 mm_68 mdrip_68 x1_68 = some (mm_r, mwarm_r, mdrip_r) → ik_G p l e ({ frames := 7, cells := 0, slots := 0, locals := 159 } : Room) s m ([.ref h0] : List Value).toArray below meth c D (ik_in (wz_X7 cI cS h0 h1 h2 h3 h4 h5 h6 h7 h8 h9 h10 h11 misKept mtaped msort mfrom mto mvalue mbad mm mkept mwas mother mfound mwarm mdrip mtape mbits msize mnumber)) (ik_in (wz_X7 cI cS h0 h1 h2 h3 h4 h5 h6 h7 h8 h9 h10 h11 misKept mtaped msort mfrom mto mvalue mbad mm mkept mwas mother mfound mwarm mdrip mtape mbits msize mnumber)) 2 (MQ below (ik_Q none D (wz_X7 cI cS h0 h1 h2 h3 h4 h5 h6 h7 h8 h9 h10 h11 misKept mtaped msort mfrom mto mvalue mbad mm_r mkept mwas mother mfound mwarm_r mdrip_r mtape mbits msize mnumber) (wz_X7 cI cS h0 h1 h2 h3 h4 h5 h6 h7 h8 h9 h10 h11 misKept mtaped msort mfrom mto mvalue mbad mm mkept mwas mother mfound mwarm mdrip mtape mbits msize mnumber)) ([.ref h0] : List Value).toArray s 0 0 (ik_in (wz_X7 cI cS h0 h1 h2 h3 h4 h5 h6 h7 h8 h9 h10 h11 misKept mtaped msort mfrom mto mvalue mbad mm mkept mwas mother mfound mwarm mdrip mtape mbits msize mnumber))) 68 [(1, .int x1_68), (0, .ref h0)] [] (wz_X7 cI cS h0 h1 h2 h3 h4 h5 h6 h7 h8 h9 h10 h11 misKept mtaped msort mfrom mto mvalue mbad mm_68 mkept mwas mother mfound mwarm_2 mdrip_68 mtape mbits msize mnumber) := by
                intro n_68
                induction n_68 with
                | zero => intro _ _ _ hf; exact nomatch hf
                | succ n_68 ih_68 =>
                  intro mm_68 mdrip_68 x1_68 hf
                  replace hf : b_X7_hour_68 mwarm_2 (ik_lp3 (b_X7_hour_68 mwarm_2) n_68) mm_68 mdrip_68 x1_68 = some (mm_r, mwarm_r, mdrip_r) := hf
                  unfold b_X7_hour_68 at hf
                  refine ik_iload_n C 0 rfl rfl dX7_hour_68 ?_
                  refine ik_aload_n C 1 rfl rfl dX7_hour_69 ?_
                  refine ik_get C inlX7 0 rfl rfl 0 (by decide) wl_4_12 rfl (v := .ref h1) rfl dX7_hour_70 ?_
                  refine ik_iconst (v := (5 : Int32)) C (by decide) dX7_hour_73 ?_
                  refine ik_iald C 1 rfl (ik_vin (by decide)) dX7_hour_74 ?_
                  refine ik_icmp_ge C 97 dX7_hour_75 (by decide) (fun hc => ?_) (fun hc => ?_)
                  · have hf := ik_pos hc hf
                    refine ik_iconst (v := (0 : Int32)) C (by decide) dX7_hour_97 ?_
                    refine ik_istore_n C [(1, .int (0 : Int32)), (0, .ref h0)] rfl (by decide) rfl dX7_hour_98 ?_
                    have hL_99 : ∀ (n_99 : Nat) (mm_99 : Nat → Int32) (x1_99 : Int32), ik_lp2 (b_X7_hour_99 mwarm_2 mdrip_68) n_99 mm_99 x1_99 = some (mm_r, mwarm_r, mdrip_r) → ik_G p l e ({ frames := 7, cells := 0, slots := 0, locals := 159 } : Room) s m ([.ref h0] : List Value).toArray below meth c D (ik_in (wz_X7 cI cS h0 h1 h2 h3 h4 h5 h6 h7 h8 h9 h10 h11 misKept mtaped msort mfrom mto mvalue mbad mm mkept mwas mother mfound mwarm mdrip mtape mbits msize mnumber)) (ik_in (wz_X7 cI cS h0 h1 h2 h3 h4 h5 h6 h7 h8 h9 h10 h11 misKept mtaped msort mfrom mto mvalue mbad mm mkept mwas mother mfound mwarm mdrip mtape mbits msize mnumber)) 2 (MQ below (ik_Q none D (wz_X7 cI cS h0 h1 h2 h3 h4 h5 h6 h7 h8 h9 h10 h11 misKept mtaped msort mfrom mto mvalue mbad mm_r mkept mwas mother mfound mwarm_r mdrip_r mtape mbits msize mnumber) (wz_X7 cI cS h0 h1 h2 h3 h4 h5 h6 h7 h8 h9 h10 h11 misKept mtaped msort mfrom mto mvalue mbad mm mkept mwas mother mfound mwarm mdrip mtape mbits msize mnumber)) ([.ref h0] : List Value).toArray s 0 0 (ik_in (wz_X7 cI cS h0 h1 h2 h3 h4 h5 h6 h7 h8 h9 h10 h11 misKept mtaped msort mfrom mto mvalue mbad mm mkept mwas mother mfound mwarm mdrip mtape mbits msize mnumber))) 99 [(1, .int x1_99), (0, .ref h0)] [] (wz_X7 cI cS h0 h1 h2 h3 h4 h5 h6 h7 h8 h9 h10 h11 misKept mtaped msort mfrom mto mvalue mbad mm_99 mkept mwas mother mfound mwarm_2 mdrip_68 mtape mbits msize mnumber) := by
                      intro n_99
                      induction n_99 with
                      | zero => intro _ _ hf; exact nomatch hf
                      | succ n_99 ih_99 =>
                        intro mm_99 x1_99 hf
                        replace hf : b_X7_hour_99 mwarm_2 mdrip_68 (ik_lp2 (b_X7_hour_99 mwarm_2 mdrip_68) n_99) mm_99 x1_99 = some (mm_r, mwarm_r, mdrip_r) := hf
                        unfold b_X7_hour_99 at hf
                        refine ik_iload_n C 0 rfl rfl dX7_hour_99 ?_
                        refine ik_bipush (v := (8 : Int32)) C (by decide) dX7_hour_100 ?_
                        refine ik_icmp_ge C 116 dX7_hour_102 (by decide) (fun hc => ?_) (fun hc => ?_)
                        · have hf := ik_pos hc hf
                          refine ik_aload_n C 1 rfl rfl dX7_hour_116 ?_
                          obtain ⟨g1, hc1, hf⟩ := ik_b1s hf
                          refine ik_goW [0, 1, 2, 3, 4, 5, 6, 7, 8, 9, 10, 11] rfl rfl (wz_X7 cI cS h0 h1 h2 h3 h4 h5 h6 h7 h8 h9 h10 h11 misKept mtaped msort mfrom mto mvalue mbad g1 mkept mwas mother mfound mwarm_2 mdrip_68 mtape mbits msize mnumber) rfl (ik_runV C (c_X7_emptyGo l D cI cS h0 h1 h2 h3 h4 h5 h6 h7 h8 h9 h10 h11 misKept mtaped msort mfrom mto mvalue mbad mm_99 mkept mwas mother mfound mwarm_2 mdrip_68 mtape mbits msize mnumber g1 hc1) mv_X7_emptyGo wl_21_6 ⟨rfl, rfl, Nat.le_of_ble_eq_true rfl, Nat.le_of_ble_eq_true rfl⟩ [0, 1, 2, 3, 4, 5, 6, 7, 8, 9, 10, 11] rfl (by decide) 0 rfl rfl rfl rfl (Nat.le_of_ble_eq_true rfl) dX7_hour_117) rfl ?_
                          refine ik_aload_n C 1 rfl rfl dX7_hour_120 ?_
                          obtain ⟨g2, hc2, hf⟩ := ik_b1s hf
                          refine ik_goW [0, 1, 2, 3, 4, 5, 6, 7, 8, 9, 10, 11] rfl rfl (wz_X7 cI cS h0 h1 h2 h3 h4 h5 h6 h7 h8 h9 h10 h11 misKept mtaped msort mfrom mto mvalue mbad g2 mkept mwas mother mfound mwarm_2 mdrip_68 mtape mbits msize mnumber) rfl (ik_runV C (c_X7_falls l D cI cS h0 h1 h2 h3 h4 h5 h6 h7 h8 h9 h10 h11 misKept mtaped msort mfrom mto mvalue mbad g1 mkept mwas mother mfound mwarm_2 mdrip_68 mtape mbits msize mnumber g2 hc2) mv_X7_falls wl_21_10 ⟨rfl, rfl, Nat.le_of_ble_eq_true rfl, Nat.le_of_ble_eq_true rfl⟩ [0, 1, 2, 3, 4, 5, 6, 7, 8, 9, 10, 11] rfl (by decide) 0 rfl rfl rfl rfl (Nat.le_of_ble_eq_true rfl) dX7_hour_121) rfl ?_
                          refine ik_aload_n C 1 rfl rfl dX7_hour_124 ?_
                          refine ik_get C inlX7 0 rfl rfl 0 (by decide) wl_4_12 rfl (v := .ref h1) rfl dX7_hour_125 ?_
                          refine ik_iconst (v := (0 : Int32)) C (by decide) dX7_hour_128 ?_
                          refine ik_dup2 C rfl rfl dX7_hour_129 ?_
                          refine ik_iald C 1 rfl (ik_vin (by decide)) dX7_hour_130 ?_
                          refine ik_iconst (v := (1 : Int32)) C (by decide) dX7_hour_131 ?_
                          refine ik_iadd C dX7_hour_132 ?_
                          refine ik_iast C 1 rfl (ik_vin (by decide)) (wz_X7 cI cS h0 h1 h2 h3 h4 h5 h6 h7 h8 h9 h10 h11 misKept mtaped msort mfrom mto mvalue mbad (upd g2 ((0 : Int32)).toNatClampNeg ((g2 ((0 : Int32)).toNatClampNeg) + (1 : Int32))) mkept mwas mother mfound mwarm_2 mdrip_68 mtape mbits msize mnumber) rfl dX7_hour_133 ?_
                          cases hf
                          exact ik_vretW C hr hlk dX7_hour_134
                        · have hf := ik_neg hc hf
                          refine ik_aload_n C 1 rfl rfl dX7_hour_105 ?_
                          refine ik_iload_n C 0 rfl rfl dX7_hour_106 ?_
                          obtain ⟨g1, hc1, hf⟩ := ik_b1s hf
                          refine ik_goW [0, 1, 2, 3, 4, 5, 6, 7, 8, 9, 10, 11] rfl rfl (wz_X7 cI cS h0 h1 h2 h3 h4 h5 h6 h7 h8 h9 h10 h11 misKept mtaped msort mfrom mto mvalue mbad g1 mkept mwas mother mfound mwarm_2 mdrip_68 mtape mbits msize mnumber) rfl (ik_runV C (c_X7_freezes l D cI cS h0 h1 h2 h3 h4 h5 h6 h7 h8 h9 h10 h11 misKept mtaped msort mfrom mto mvalue mbad mm_99 mkept mwas mother mfound mwarm_2 mdrip_68 mtape mbits msize mnumber x1_99 g1 hc1) mv_X7_freezes wl_21_2 ⟨rfl, rfl, Nat.le_of_ble_eq_true rfl, Nat.le_of_ble_eq_true rfl⟩ [0, 1, 2, 3, 4, 5, 6, 7, 8, 9, 10, 11] rfl (by decide) 0 rfl rfl rfl rfl (Nat.le_of_ble_eq_true rfl) dX7_hour_107) rfl ?_
                          refine ik_iinc C [(1, .int (x1_99 + (1 : Int32))), (0, .ref h0)] 0 rfl rfl (by decide) rfl dX7_hour_110 ?_
                          refine ik_goto C 99 dX7_hour_113 (by decide) ?_
                          exact ik_sub [0, 1] [(1, .int (x1_99 + (1 : Int32))), (0, .ref h0)] rfl (ih_99 g1 (x1_99 + (1 : Int32)) hf)
                    exact hL_99 ik_fu mm_68 (0 : Int32) hf
                  · have hf := ik_neg hc hf
                    refine ik_aload_n C 1 rfl rfl dX7_hour_78 ?_
                    refine ik_iload_n C 0 rfl rfl dX7_hour_79 ?_
                    obtain ⟨r1, hc1, hf⟩ := ik_b1s hf
                    refine ik_goR (ik_runV C (c_X7_isGone l D cI cS h0 h1 h2 h3 h4 h5 h6 h7 h8 h9 h10 h11 misKept mtaped msort mfrom mto mvalue mbad mm_68 mkept mwas mother mfound mwarm_2 mdrip_68 mtape mbits msize mnumber x1_68 r1 hc1) mv_X7_isGone wl_10_5 ⟨rfl, rfl, Nat.le_of_ble_eq_true rfl, Nat.le_of_ble_eq_true rfl⟩ [0, 1, 2, 3, 4, 5, 6, 7, 8, 9, 10, 11] rfl (by decide) 0 rfl rfl rfl rfl (Nat.le_of_ble_eq_true rfl) dX7_hour_80) rfl ?_
                    refine ik_if_ne C 91 dX7_hour_83 (by decide) (fun hc => ?_) (fun hc => ?_)
                    · have hf := ik_neg hc hf
                      refine ik_iinc C [(1, .int (x1_68 + (1 : Int32))), (0, .ref h0)] 0 rfl rfl (by decide) rfl dX7_hour_91 ?_
                      refine ik_goto C 68 dX7_hour_94 (by decide) ?_
                      exact ik_sub [0, 1] [(1, .int (x1_68 + (1 : Int32))), (0, .ref h0)] rfl (ih_68 mm_68 mdrip_68 (x1_68 + (1 : Int32)) hf)
                    · have hf := ik_pos hc hf
                      refine ik_aload_n C 1 rfl rfl dX7_hour_86 ?_
                      refine ik_iload_n C 0 rfl rfl dX7_hour_87 ?_
                      obtain ⟨g2, g3, hc3, hf⟩ := ik_b2s hf
                      refine ik_goW [0, 1, 2, 3, 4, 5, 6, 7, 8, 9, 10, 11] rfl rfl (wz_X7 cI cS h0 h1 h2 h3 h4 h5 h6 h7 h8 h9 h10 h11 misKept mtaped msort mfrom mto mvalue mbad g2 mkept mwas mother mfound mwarm_2 g3 mtape mbits msize mnumber) rfl (ik_runV C (c_X7_melts l D cI cS h0 h1 h2 h3 h4 h5 h6 h7 h8 h9 h10 h11 misKept mtaped msort mfrom mto mvalue mbad mm_68 mkept mwas mother mfound mwarm_2 mdrip_68 mtape mbits msize mnumber x1_68 g2 g3 hc3) mv_X7_melts wl_20_22 ⟨rfl, rfl, Nat.le_of_ble_eq_true rfl, Nat.le_of_ble_eq_true rfl⟩ [0, 1, 2, 3, 4, 5, 6, 7, 8, 9, 10, 11] rfl (by decide) 0 rfl rfl rfl rfl (Nat.le_of_ble_eq_true rfl) dX7_hour_88) rfl ?_
                      refine ik_iinc C [(1, .int (x1_68 + (1 : Int32))), (0, .ref h0)] 0 rfl rfl (by decide) rfl dX7_hour_91 ?_
                      refine ik_goto C 68 dX7_hour_94 (by decide) ?_
                      exact ik_sub [0, 1] [(1, .int (x1_68 + (1 : Int32))), (0, .ref h0)] rfl (ih_68 g2 g3 (x1_68 + (1 : Int32)) hf)
              exact hL_68 ik_fu mm mdrip_47 (0 : Int32) hf
            · have hf := ik_neg hc hf
              refine ik_aload_n C 1 rfl rfl dX7_hour_53 ?_
              refine ik_get C inlX7 0 rfl rfl 7 (by decide) wl_4_18 rfl (v := .ref h7) rfl dX7_hour_54 ?_
              refine ik_iload_n C 0 rfl rfl dX7_hour_57 ?_
              refine ik_iconst (v := (0 : Int32)) C (by decide) dX7_hour_58 ?_
              have hg := ik_gdi hf
              have hf := ik_gdk hf
              refine ik_iast C 7 rfl hg (wz_X7 cI cS h0 h1 h2 h3 h4 h5 h6 h7 h8 h9 h10 h11 misKept mtaped msort mfrom mto mvalue mbad mm mkept mwas mother mfound mwarm_2 (upd mdrip_47 (x1_47).toNatClampNeg (0 : Int32)) mtape mbits msize mnumber) rfl dX7_hour_59 ?_
              refine ik_iinc C [(1, .int (x1_47 + (1 : Int32))), (0, .ref h0)] 0 rfl rfl (by decide) rfl dX7_hour_60 ?_
              refine ik_goto C 47 dX7_hour_63 (by decide) ?_
              exact ik_sub [0, 1] [(1, .int (x1_47 + (1 : Int32))), (0, .ref h0)] rfl (ih_47 (upd mdrip_47 (x1_47).toNatClampNeg (0 : Int32)) (x1_47 + (1 : Int32)) hf)
        exact hL_47 ik_fu mdrip (0 : Int32) hf
      · have hf := ik_neg hc hf
        refine ik_aload_n C 1 rfl rfl dX7_hour_12 ?_
        refine ik_get C inlX7 0 rfl rfl 6 (by decide) wl_4_17 rfl (v := .ref h6) rfl dX7_hour_13 ?_
        refine ik_iload_n C 0 rfl rfl dX7_hour_16 ?_
        refine ik_aload_n C 1 rfl rfl dX7_hour_17 ?_
        refine ik_iload_n C 0 rfl rfl dX7_hour_18 ?_
        obtain ⟨r1, hc1, hf⟩ := ik_b1s hf
        refine ik_goR (ik_runV C (c_X7_isGone l D cI cS h0 h1 h2 h3 h4 h5 h6 h7 h8 h9 h10 h11 misKept mtaped msort mfrom mto mvalue mbad mm mkept mwas mother mfound mwarm_2 mdrip mtape mbits msize mnumber x1_2 r1 hc1) mv_X7_isGone wl_10_5 ⟨rfl, rfl, Nat.le_of_ble_eq_true rfl, Nat.le_of_ble_eq_true rfl⟩ [0, 1, 2, 3, 4, 5, 6, 7, 8, 9, 10, 11] rfl (by decide) 0 rfl rfl rfl rfl (Nat.le_of_ble_eq_true rfl) dX7_hour_19) rfl ?_
        refine ik_if_eq C 29 dX7_hour_22 (by decide) (fun hc => ?_) (fun hc => ?_)
        · have hf := ik_pos hc hf
          refine ik_aload_n C 1 rfl rfl dX7_hour_29 ?_
          refine ik_aload_n C 1 rfl rfl dX7_hour_30 ?_
          refine ik_iload_n C 0 rfl rfl dX7_hour_31 ?_
          obtain ⟨r2, hc2, hf⟩ := ik_b1s hf
          refine ik_goR (ik_runV C (c_X7_cellOf l D cI cS h0 h1 h2 h3 h4 h5 h6 h7 h8 h9 h10 h11 misKept mtaped msort mfrom mto mvalue mbad mm mkept mwas mother mfound mwarm_2 mdrip mtape mbits msize mnumber x1_2 r2 hc2) mv_X7_cellOf wl_7_16 ⟨rfl, rfl, Nat.le_of_ble_eq_true rfl, Nat.le_of_ble_eq_true rfl⟩ [0, 1, 2, 3, 4, 5, 6, 7, 8, 9, 10, 11] rfl (by decide) 0 rfl rfl rfl rfl (Nat.le_of_ble_eq_true rfl) dX7_hour_32) rfl ?_
          obtain ⟨r3, hc3, hf⟩ := ik_b1s hf
          refine ik_goR (ik_runV C (c_X7_warmthOf l D cI cS h0 h1 h2 h3 h4 h5 h6 h7 h8 h9 h10 h11 misKept mtaped msort mfrom mto mvalue mbad mm mkept mwas mother mfound mwarm_2 mdrip mtape mbits msize mnumber r2 r3 hc3) mv_X7_warmthOf wl_14_12 ⟨rfl, rfl, Nat.le_of_ble_eq_true rfl, Nat.le_of_ble_eq_true rfl⟩ [0, 1, 2, 3, 4, 5, 6, 7, 8, 9, 10, 11] rfl (by decide) 0 rfl rfl rfl rfl (Nat.le_of_ble_eq_true rfl) dX7_hour_35) rfl ?_
          have hg := ik_gdi hf
          have hf := ik_gdk hf
          refine ik_iast C 6 rfl hg (wz_X7 cI cS h0 h1 h2 h3 h4 h5 h6 h7 h8 h9 h10 h11 misKept mtaped msort mfrom mto mvalue mbad mm mkept mwas mother mfound (upd mwarm_2 (x1_2).toNatClampNeg r3) mdrip mtape mbits msize mnumber) rfl dX7_hour_38 ?_
          refine ik_iinc C [(1, .int (x1_2 + (1 : Int32))), (0, .ref h0)] 0 rfl rfl (by decide) rfl dX7_hour_39 ?_
          refine ik_goto C 2 dX7_hour_42 (by decide) ?_
          exact ik_sub [0, 1] [(1, .int (x1_2 + (1 : Int32))), (0, .ref h0)] rfl (ih_2 (upd mwarm_2 (x1_2).toNatClampNeg r3) (x1_2 + (1 : Int32)) hf)
        · have hf := ik_neg hc hf
          refine ik_iconst (v := (0 : Int32)) C (by decide) dX7_hour_25 ?_
          refine ik_goto C 38 dX7_hour_26 (by decide) ?_
          have hg := ik_gdi hf
          have hf := ik_gdk hf
          refine ik_iast C 6 rfl hg (wz_X7 cI cS h0 h1 h2 h3 h4 h5 h6 h7 h8 h9 h10 h11 misKept mtaped msort mfrom mto mvalue mbad mm mkept mwas mother mfound (upd mwarm_2 (x1_2).toNatClampNeg (0 : Int32)) mdrip mtape mbits msize mnumber) rfl dX7_hour_38 ?_
          refine ik_iinc C [(1, .int (x1_2 + (1 : Int32))), (0, .ref h0)] 0 rfl rfl (by decide) rfl dX7_hour_39 ?_
          refine ik_goto C 2 dX7_hour_42 (by decide) ?_
          exact ik_sub [0, 1] [(1, .int (x1_2 + (1 : Int32))), (0, .ref h0)] rfl (ih_2 (upd mwarm_2 (x1_2).toNatClampNeg (0 : Int32)) (x1_2 + (1 : Int32)) hf)
  exact hL_2 ik_fu mwarm (0 : Int32) hf
theorem mv_X7_goneNow : ik_V yX7_goneNow RX7 cX7_goneNow 3 (some .int) 0 := ⟨wl_20_15, wl_20_16, wl_1_5, wl_20_17, by decide +kernel⟩
set_option maxHeartbeats 4000000 in
set_option maxRecDepth 100000 in
theorem c_X7_goneNow (l : Launch) (D : va_G) (cI cS : ClassId) (h0 h1 h2 h3 h4 h5 h6 h7 h8 h9 h10 h11 : Nat) (misKept : Int32) (mtaped : Int32) (msort : Int32) (mfrom : Int32) (mto : Int32) (mvalue : Int32) (mbad : Int32) (mm : Nat → Int32) (mkept : Nat → Int32) (mwas : Nat → Int32) (mother : Nat → Int32) (mfound : Nat → Int32) (mwarm : Nat → Int32) (mdrip : Nat → Int32) (mtape : Nat → Int32) (mbits : Nat → Int32) (msize : Nat → Int32) (mnumber : Nat → Int32) (R : Int32) (hf : f_X7_goneNow mm = some (R)) : Met l yX7_goneNow (ik_ws yX7_goneNow cX7_goneNow 3 (some .int)) ({ frames := 2, cells := 0, slots := 0, locals := 42 } : Room) (ik_P D cI cS [.ref h0] (wz_X7 cI cS h0 h1 h2 h3 h4 h5 h6 h7 h8 h9 h10 h11 misKept mtaped msort mfrom mto mvalue mbad mm mkept mwas mother mfound mwarm mdrip mtape mbits msize mnumber)) (ik_R (some (.int R))) 0 0 ik_no := by
  refine ik_metR RX7 rfl (by decide) (Nat.le_of_ble_eq_true rfl) [(0, .ref h0)] rfl ?_
  intro p e s m below meth c C hr hlk
  unfold f_X7_goneNow at hf
  refine ik_iconst (v := (0 : Int32)) C (by decide) dX7_goneNow_0 ?_
  refine ik_istore_n C [(1, .int (0 : Int32)), (0, .ref h0)] rfl (by decide) rfl dX7_goneNow_1 ?_
  refine ik_iconst (v := (0 : Int32)) C (by decide) dX7_goneNow_2 ?_
  refine ik_istore_n C [(2, .int (0 : Int32)), (1, .int (0 : Int32)), (0, .ref h0)] rfl (by decide) rfl dX7_goneNow_3 ?_
  have hL_4 : ∀ (n_4 : Nat) (x1_4 : Int32) (x2_4 : Int32), ik_lp2 (b_X7_goneNow_4 mm) n_4 x1_4 x2_4 = some (R) → ik_G p l e ({ frames := 2, cells := 0, slots := 0, locals := 42 } : Room) s m ([.ref h0] : List Value).toArray below meth c D ik_no (fun _ => True) 3 (MQ below (ik_R (some (.int R))) ([.ref h0] : List Value).toArray s 0 0 ik_no) 4 [(2, .int x2_4), (1, .int x1_4), (0, .ref h0)] [] (wz_X7 cI cS h0 h1 h2 h3 h4 h5 h6 h7 h8 h9 h10 h11 misKept mtaped msort mfrom mto mvalue mbad mm mkept mwas mother mfound mwarm mdrip mtape mbits msize mnumber) := by
    intro n_4
    induction n_4 with
    | zero => intro _ _ hf; exact nomatch hf
    | succ n_4 ih_4 =>
      intro x1_4 x2_4 hf
      replace hf : b_X7_goneNow_4 mm (ik_lp2 (b_X7_goneNow_4 mm) n_4) x1_4 x2_4 = some (R) := hf
      unfold b_X7_goneNow_4 at hf
      refine ik_iload_n C 0 rfl rfl dX7_goneNow_4 ?_
      refine ik_aload_n C 2 rfl rfl dX7_goneNow_5 ?_
      refine ik_get C inlX7 0 rfl rfl 0 (by decide) wl_4_12 rfl (v := .ref h1) rfl dX7_goneNow_6 ?_
      refine ik_iconst (v := (5 : Int32)) C (by decide) dX7_goneNow_9 ?_
      refine ik_iald C 1 rfl (ik_vin (by decide)) dX7_goneNow_10 ?_
      refine ik_icmp_ge C 38 dX7_goneNow_11 (by decide) (fun hc => ?_) (fun hc => ?_)
      · have hf := ik_pos hc hf
        refine ik_iload_n C 1 rfl rfl dX7_goneNow_38 ?_
        cases hf
        exact ik_iretR C hr hlk dX7_goneNow_39
      · have hf := ik_neg hc hf
        refine ik_iload_n C 1 rfl rfl dX7_goneNow_14 ?_
        refine ik_aload_n C 2 rfl rfl dX7_goneNow_15 ?_
        refine ik_iload_n C 0 rfl rfl dX7_goneNow_16 ?_
        obtain ⟨r1, hc1, hf⟩ := ik_b1s hf
        refine ik_goR (ik_runV C (c_X7_isGone l D cI cS h0 h1 h2 h3 h4 h5 h6 h7 h8 h9 h10 h11 misKept mtaped msort mfrom mto mvalue mbad mm mkept mwas mother mfound mwarm mdrip mtape mbits msize mnumber x2_4 r1 hc1) mv_X7_isGone wl_10_5 ⟨rfl, rfl, Nat.le_of_ble_eq_true rfl, Nat.le_of_ble_eq_true rfl⟩ [0, 1, 2, 3, 4, 5, 6, 7, 8, 9, 10, 11] rfl (by decide) 0 rfl rfl rfl rfl (Nat.le_of_ble_eq_true rfl) dX7_goneNow_17) rfl ?_
        refine ik_if_eq C 29 dX7_goneNow_20 (by decide) (fun hc => ?_) (fun hc => ?_)
        · have hf := ik_pos hc hf
          refine ik_iconst (v := (0 : Int32)) C (by decide) dX7_goneNow_29 ?_
          refine ik_ior C dX7_goneNow_30 ?_
          refine ik_istore_n C [(1, .int (x1_4 ||| (0 : Int32))), (2, .int x2_4), (0, .ref h0)] rfl (by decide) rfl dX7_goneNow_31 ?_
          refine ik_iinc C [(2, .int (x2_4 + (1 : Int32))), (1, .int (x1_4 ||| (0 : Int32))), (0, .ref h0)] 1 rfl rfl (by decide) rfl dX7_goneNow_32 ?_
          refine ik_goto C 4 dX7_goneNow_35 (by decide) ?_
          exact ik_sub [0, 1, 2] [(2, .int (x2_4 + (1 : Int32))), (1, .int (x1_4 ||| (0 : Int32))), (0, .ref h0)] rfl (ih_4 (x1_4 ||| (0 : Int32)) (x2_4 + (1 : Int32)) hf)
        · have hf := ik_neg hc hf
          refine ik_iconst (v := (1 : Int32)) C (by decide) dX7_goneNow_23 ?_
          refine ik_iload_n C 0 rfl rfl dX7_goneNow_24 ?_
          refine ik_ishl C dX7_goneNow_25 ?_
          refine ik_goto C 30 dX7_goneNow_26 (by decide) ?_
          refine ik_ior C dX7_goneNow_30 ?_
          refine ik_istore_n C [(1, .int (x1_4 ||| ((1 : Int32) <<< (x2_4 &&& 31)))), (2, .int x2_4), (0, .ref h0)] rfl (by decide) rfl dX7_goneNow_31 ?_
          refine ik_iinc C [(2, .int (x2_4 + (1 : Int32))), (1, .int (x1_4 ||| ((1 : Int32) <<< (x2_4 &&& 31)))), (0, .ref h0)] 1 rfl rfl (by decide) rfl dX7_goneNow_32 ?_
          refine ik_goto C 4 dX7_goneNow_35 (by decide) ?_
          exact ik_sub [0, 1, 2] [(2, .int (x2_4 + (1 : Int32))), (1, .int (x1_4 ||| ((1 : Int32) <<< (x2_4 &&& 31)))), (0, .ref h0)] rfl (ih_4 (x1_4 ||| ((1 : Int32) <<< (x2_4 &&& 31))) (x2_4 + (1 : Int32)) hf)
  exact hL_4 ik_fu (0 : Int32) (0 : Int32) hf
