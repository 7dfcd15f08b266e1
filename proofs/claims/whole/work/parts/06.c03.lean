theorem mv_X7_turn : ik_V yX7_turn RX7 cX7_turn 3 (some .int) 2 := ⟨wl_12_1, wl_12_2, wl_1_5, wl_12_3, by decide +kernel⟩
set_option maxHeartbeats 4000000 in
set_option maxRecDepth 100000 in
theorem c_X7_turn (l : Launch) (D : va_G) (cI cS : ClassId) (h0 h1 h2 h3 h4 h5 h6 h7 h8 h9 h10 h11 : Nat) (misKept : Int32) (mtaped : Int32) (msort : Int32) (mfrom : Int32) (mto : Int32) (mvalue : Int32) (mbad : Int32) (mm : Nat → Int32) (mkept : Nat → Int32) (mwas : Nat → Int32) (mother : Nat → Int32) (mfound : Nat → Int32) (mwarm : Nat → Int32) (mdrip : Nat → Int32) (mtape : Nat → Int32) (mbits : Nat → Int32) (msize : Nat → Int32) (mnumber : Nat → Int32) (x1 : Int32) (x2 : Int32) (R : Int32) (mm_r : Nat → Int32) (mfound_r : Nat → Int32) (hf : f_X7_turn mm mfound x1 x2 = some (R, mm_r, mfound_r)) : Met l yX7_turn (ik_ws yX7_turn cX7_turn 3 (some .int)) ({ frames := 2, cells := 0, slots := 0, locals := 46 } : Room) (ik_P D cI cS [.ref h0, .int x1, .int x2] (wz_X7 cI cS h0 h1 h2 h3 h4 h5 h6 h7 h8 h9 h10 h11 misKept mtaped msort mfrom mto mvalue mbad mm mkept mwas mother mfound mwarm mdrip mtape mbits msize mnumber)) (ik_Q (some (.int R)) D (wz_X7 cI cS h0 h1 h2 h3 h4 h5 h6 h7 h8 h9 h10 h11 misKept mtaped msort mfrom mto mvalue mbad mm_r mkept mwas mother mfound_r mwarm mdrip mtape mbits msize mnumber) (wz_X7 cI cS h0 h1 h2 h3 h4 h5 h6 h7 h8 h9 h10 h11 misKept mtaped msort mfrom mto mvalue mbad mm mkept mwas mother mfound mwarm mdrip mtape mbits msize mnumber)) 0 0 (ik_in (wz_X7 cI cS h0 h1 h2 h3 h4 h5 h6 h7 h8 h9 h10 h11 misKept mtaped msort mfrom mto mvalue mbad mm mkept mwas mother mfound mwarm mdrip mtape mbits msize mnumber)) := by
  refine ik_metW RX7 rfl (by decide) (Nat.le_of_ble_eq_true rfl) [(0, .ref h0), (1, .int x1), (2, .int x2)] rfl ?_
  intro p e s m below meth c C hr hlk
  unfold f_X7_turn at hf
  refine ik_aload_n C 0 rfl rfl dX7_turn_0 ?_
  refine ik_iload_n C 1 rfl rfl dX7_turn_1 ?_
  obtain ⟨r1, hc1, hf⟩ := ik_b1s hf
  have hM := (c_X7_isBlock l D cI cS h0 h1 h2 h3 h4 h5 h6 h7 h8 h9 h10 h11 misKept mtaped msort mfrom mto mvalue mbad mm mkept mwas mother mfound mwarm mdrip mtape mbits msize mnumber x1 r1 hc1)
  refine ik_goR (ik_runV (st := []) (As := [.int x1]) C hM mv_X7_isBlock wl_9_17 ⟨rfl, rfl, Nat.le_of_ble_eq_true rfl, Nat.le_of_ble_eq_true rfl⟩ [0, 1, 2, 3, 4, 5, 6, 7, 8, 9, 10, 11] rfl (by decide +kernel) 0 rfl rfl rfl rfl (Nat.le_of_ble_eq_true rfl) dX7_turn_2 ⟨Nat.zero_le _, Nat.zero_le _⟩) rfl ?_
  refine ik_if_eq C 29 dX7_turn_5 (by decide) (fun hc => ?_) (fun hc => ?_)
  · have hf := ik_pos hc hf
    refine ik_aload_n C 0 rfl rfl dX7_turn_29 ?_
    refine ik_ldc C wl_6_14 dX7_turn_30 ?_
    obtain ⟨r2, g3, hc3, hf⟩ := ik_b2s hf
    have hM := (c_X7_finds l D cI cS h0 h1 h2 h3 h4 h5 h6 h7 h8 h9 h10 h11 misKept mtaped msort mfrom mto mvalue mbad mm mkept mwas mother mfound mwarm mdrip mtape mbits msize mnumber (-1000001 : Int32) r2 g3 hc3)
    refine ik_goW (v := (some (.int r2))) (wc := (wz_X7 cI cS h0 h1 h2 h3 h4 h5 h6 h7 h8 h9 h10 h11 misKept mtaped msort mfrom mto mvalue mbad mm mkept mwas mother mfound mwarm mdrip mtape mbits msize mnumber)) (w1 := (wz_X7 cI cS h0 h1 h2 h3 h4 h5 h6 h7 h8 h9 h10 h11 misKept mtaped msort mfrom mto mvalue mbad mm mkept mwas mother g3 mwarm mdrip mtape mbits msize mnumber)) [0, 1, 2, 3, 4, 5, 6, 7, 8, 9, 10, 11] [] 12 rfl rfl (wz_X7 cI cS h0 h1 h2 h3 h4 h5 h6 h7 h8 h9 h10 h11 misKept mtaped msort mfrom mto mvalue mbad mm mkept mwas mother g3 mwarm mdrip mtape mbits msize mnumber) rfl [] rfl rfl rfl (by decide +kernel) (ik_runV (st := []) (As := [.int (-1000001 : Int32)]) C hM mv_X7_finds wl_7_8 ⟨rfl, rfl, Nat.le_of_ble_eq_true rfl, Nat.le_of_ble_eq_true rfl⟩ [0, 1, 2, 3, 4, 5, 6, 7, 8, 9, 10, 11] rfl (by decide +kernel) 0 rfl rfl rfl rfl (Nat.le_of_ble_eq_true rfl) dX7_turn_32 ⟨Nat.zero_le _, Nat.zero_le _⟩) rfl ?_
    obtain ⟨rfl, rfl, rfl⟩ := ik_e3 hf
    exact ik_iretW C hr hlk dX7_turn_35
  · have hf := ik_neg hc hf
    refine ik_iload_n C 2 rfl rfl dX7_turn_8 ?_
    obtain ⟨r2, hc2, hf⟩ := ik_b1s hf
    have hM := (c_X7_isKind l D cI cS x2 r2 hc2)
    refine ik_goR (ik_runS (st := []) (As := [.int x2]) C hM ms_X7_isKind wl_6_17 ⟨rfl, rfl, Nat.le_of_ble_eq_true rfl, Nat.le_of_ble_eq_true rfl⟩ [] rfl (by decide +kernel) rfl rfl (Nat.le_of_ble_eq_true rfl) dX7_turn_9 ⟨Nat.zero_le _, Nat.zero_le _⟩) rfl ?_
    refine ik_if_eq C 29 dX7_turn_12 (by decide) (fun hc => ?_) (fun hc => ?_)
    · have hf := ik_pos hc hf
      refine ik_aload_n C 0 rfl rfl dX7_turn_29 ?_
      refine ik_ldc C wl_6_14 dX7_turn_30 ?_
      obtain ⟨r3, g4, hc4, hf⟩ := ik_b2s hf
      have hM := (c_X7_finds l D cI cS h0 h1 h2 h3 h4 h5 h6 h7 h8 h9 h10 h11 misKept mtaped msort mfrom mto mvalue mbad mm mkept mwas mother mfound mwarm mdrip mtape mbits msize mnumber (-1000001 : Int32) r3 g4 hc4)
      refine ik_goW (v := (some (.int r3))) (wc := (wz_X7 cI cS h0 h1 h2 h3 h4 h5 h6 h7 h8 h9 h10 h11 misKept mtaped msort mfrom mto mvalue mbad mm mkept mwas mother mfound mwarm mdrip mtape mbits msize mnumber)) (w1 := (wz_X7 cI cS h0 h1 h2 h3 h4 h5 h6 h7 h8 h9 h10 h11 misKept mtaped msort mfrom mto mvalue mbad mm mkept mwas mother g4 mwarm mdrip mtape mbits msize mnumber)) [0, 1, 2, 3, 4, 5, 6, 7, 8, 9, 10, 11] [] 12 rfl rfl (wz_X7 cI cS h0 h1 h2 h3 h4 h5 h6 h7 h8 h9 h10 h11 misKept mtaped msort mfrom mto mvalue mbad mm mkept mwas mother g4 mwarm mdrip mtape mbits msize mnumber) rfl [] rfl rfl rfl (by decide +kernel) (ik_runV (st := []) (As := [.int (-1000001 : Int32)]) C hM mv_X7_finds wl_7_8 ⟨rfl, rfl, Nat.le_of_ble_eq_true rfl, Nat.le_of_ble_eq_true rfl⟩ [0, 1, 2, 3, 4, 5, 6, 7, 8, 9, 10, 11] rfl (by decide +kernel) 0 rfl rfl rfl rfl (Nat.le_of_ble_eq_true rfl) dX7_turn_32 ⟨Nat.zero_le _, Nat.zero_le _⟩) rfl ?_
      obtain ⟨rfl, rfl, rfl⟩ := ik_e3 hf
      exact ik_iretW C hr hlk dX7_turn_35
    · have hf := ik_neg hc hf
      refine ik_aload_n C 0 rfl rfl dX7_turn_15 ?_
      refine ik_bipush (v := (24 : Int32)) C (by decide) dX7_turn_16 ?_
      refine ik_iconst (v := (3 : Int32)) C (by decide) dX7_turn_18 ?_
      refine ik_iload_n C 1 rfl rfl dX7_turn_19 ?_
      refine ik_imul C dX7_turn_20 ?_
      refine ik_iadd C dX7_turn_21 ?_
      refine ik_iload_n C 2 rfl rfl dX7_turn_22 ?_
      obtain ⟨r3, g4, hc4, hf⟩ := ik_b2s hf
      have hM := (c_X7_becomes l D cI cS h0 h1 h2 h3 h4 h5 h6 h7 h8 h9 h10 h11 misKept mtaped msort mfrom mto mvalue mbad mm mkept mwas mother mfound mwarm mdrip mtape mbits msize mnumber ((24 : Int32) + ((3 : Int32) * x1)) x2 r3 g4 hc4)
      refine ik_goW (v := (some (.int r3))) (wc := (wz_X7 cI cS h0 h1 h2 h3 h4 h5 h6 h7 h8 h9 h10 h11 misKept mtaped msort mfrom mto mvalue mbad mm mkept mwas mother mfound mwarm mdrip mtape mbits msize mnumber)) (w1 := (wz_X7 cI cS h0 h1 h2 h3 h4 h5 h6 h7 h8 h9 h10 h11 misKept mtaped msort mfrom mto mvalue mbad g4 mkept mwas mother mfound mwarm mdrip mtape mbits msize mnumber)) [0, 1, 2, 3, 4, 5, 6, 7, 8, 9, 10, 11] [] 12 rfl rfl (wz_X7 cI cS h0 h1 h2 h3 h4 h5 h6 h7 h8 h9 h10 h11 misKept mtaped msort mfrom mto mvalue mbad g4 mkept mwas mother mfound mwarm mdrip mtape mbits msize mnumber) rfl [] rfl rfl rfl (by decide +kernel) (ik_runV (st := []) (As := [.int ((24 : Int32) + ((3 : Int32) * x1)), .int x2]) C hM mv_X7_becomes wl_12_4 ⟨rfl, rfl, Nat.le_of_ble_eq_true rfl, Nat.le_of_ble_eq_true rfl⟩ [0, 1, 2, 3, 4, 5, 6, 7, 8, 9, 10, 11] rfl (by decide +kernel) 0 rfl rfl rfl rfl (Nat.le_of_ble_eq_true rfl) dX7_turn_23 ⟨Nat.zero_le _, Nat.zero_le _⟩) rfl ?_
      refine ik_goto C 35 dX7_turn_26 (by decide) ?_
      obtain ⟨rfl, rfl, rfl⟩ := ik_e3 hf
      exact ik_iretW C hr hlk dX7_turn_35
theorem mv_X7_take : ik_V yX7_take RX7 cX7_take 4 (some .int) 2 := ⟨wl_12_17, wl_12_18, wl_1_5, wl_12_19, by decide +kernel⟩
set_option maxHeartbeats 4000000 in
set_option maxRecDepth 100000 in
theorem c_X7_take (l : Launch) (D : va_G) (cI cS : ClassId) (h0 h1 h2 h3 h4 h5 h6 h7 h8 h9 h10 h11 : Nat) (misKept : Int32) (mtaped : Int32) (msort : Int32) (mfrom : Int32) (mto : Int32) (mvalue : Int32) (mbad : Int32) (mm : Nat → Int32) (mkept : Nat → Int32) (mwas : Nat → Int32) (mother : Nat → Int32) (mfound : Nat → Int32) (mwarm : Nat → Int32) (mdrip : Nat → Int32) (mtape : Nat → Int32) (mbits : Nat → Int32) (msize : Nat → Int32) (mnumber : Nat → Int32) (x1 : Int32) (x2 : Int32) (R : Int32) (mm_r : Nat → Int32) (mfound_r : Nat → Int32) (hf : f_X7_take mm mfound x1 x2 = some (R, mm_r, mfound_r)) : Met l yX7_take (ik_ws yX7_take cX7_take 4 (some .int)) ({ frames := 2, cells := 0, slots := 0, locals := 46 } : Room) (ik_P D cI cS [.ref h0, .int x1, .int x2] (wz_X7 cI cS h0 h1 h2 h3 h4 h5 h6 h7 h8 h9 h10 h11 misKept mtaped msort mfrom mto mvalue mbad mm mkept mwas mother mfound mwarm mdrip mtape mbits msize mnumber)) (ik_Q (some (.int R)) D (wz_X7 cI cS h0 h1 h2 h3 h4 h5 h6 h7 h8 h9 h10 h11 misKept mtaped msort mfrom mto mvalue mbad mm_r mkept mwas mother mfound_r mwarm mdrip mtape mbits msize mnumber) (wz_X7 cI cS h0 h1 h2 h3 h4 h5 h6 h7 h8 h9 h10 h11 misKept mtaped msort mfrom mto mvalue mbad mm mkept mwas mother mfound mwarm mdrip mtape mbits msize mnumber)) 0 0 (ik_in (wz_X7 cI cS h0 h1 h2 h3 h4 h5 h6 h7 h8 h9 h10 h11 misKept mtaped msort mfrom mto mvalue mbad mm mkept mwas mother mfound mwarm mdrip mtape mbits msize mnumber)) := by
  refine ik_metW RX7 rfl (by decide) (Nat.le_of_ble_eq_true rfl) [(0, .ref h0), (1, .int x1), (2, .int x2)] rfl ?_
  intro p e s m below meth c C hr hlk
  unfold f_X7_take at hf
  refine ik_aload_n C 0 rfl rfl dX7_take_0 ?_
  refine ik_iload_n C 1 rfl rfl dX7_take_1 ?_
  obtain ⟨r1, hc1, hf⟩ := ik_b1s hf
  have hM := (c_X7_isBlock l D cI cS h0 h1 h2 h3 h4 h5 h6 h7 h8 h9 h10 h11 misKept mtaped msort mfrom mto mvalue mbad mm mkept mwas mother mfound mwarm mdrip mtape mbits msize mnumber x1 r1 hc1)
  refine ik_goR (ik_runV (st := []) (As := [.int x1]) C hM mv_X7_isBlock wl_9_17 ⟨rfl, rfl, Nat.le_of_ble_eq_true rfl, Nat.le_of_ble_eq_true rfl⟩ [0, 1, 2, 3, 4, 5, 6, 7, 8, 9, 10, 11] rfl (by decide +kernel) 0 rfl rfl rfl rfl (Nat.le_of_ble_eq_true rfl) dX7_take_2 ⟨Nat.zero_le _, Nat.zero_le _⟩) rfl ?_
  refine ik_if_eq C 15 dX7_take_5 (by decide) (fun hc => ?_) (fun hc => ?_)
  · have hf := ik_pos hc hf
    refine ik_aload_n C 0 rfl rfl dX7_take_15 ?_
    refine ik_ldc C wl_6_14 dX7_take_16 ?_
    obtain ⟨r2, g3, hc3, hf⟩ := ik_b2s hf
    have hM := (c_X7_finds l D cI cS h0 h1 h2 h3 h4 h5 h6 h7 h8 h9 h10 h11 misKept mtaped msort mfrom mto mvalue mbad mm mkept mwas mother mfound mwarm mdrip mtape mbits msize mnumber (-1000001 : Int32) r2 g3 hc3)
    refine ik_goW (v := (some (.int r2))) (wc := (wz_X7 cI cS h0 h1 h2 h3 h4 h5 h6 h7 h8 h9 h10 h11 misKept mtaped msort mfrom mto mvalue mbad mm mkept mwas mother mfound mwarm mdrip mtape mbits msize mnumber)) (w1 := (wz_X7 cI cS h0 h1 h2 h3 h4 h5 h6 h7 h8 h9 h10 h11 misKept mtaped msort mfrom mto mvalue mbad mm mkept mwas mother g3 mwarm mdrip mtape mbits msize mnumber)) [0, 1, 2, 3, 4, 5, 6, 7, 8, 9, 10, 11] [] 12 rfl rfl (wz_X7 cI cS h0 h1 h2 h3 h4 h5 h6 h7 h8 h9 h10 h11 misKept mtaped msort mfrom mto mvalue mbad mm mkept mwas mother g3 mwarm mdrip mtape mbits msize mnumber) rfl [] rfl rfl rfl (by decide +kernel) (ik_runV (st := []) (As := [.int (-1000001 : Int32)]) C hM mv_X7_finds wl_7_8 ⟨rfl, rfl, Nat.le_of_ble_eq_true rfl, Nat.le_of_ble_eq_true rfl⟩ [0, 1, 2, 3, 4, 5, 6, 7, 8, 9, 10, 11] rfl (by decide +kernel) 0 rfl rfl rfl rfl (Nat.le_of_ble_eq_true rfl) dX7_take_18 ⟨Nat.zero_le _, Nat.zero_le _⟩) rfl ?_
    obtain ⟨rfl, rfl, rfl⟩ := ik_e3 hf
    exact ik_iretW C hr hlk dX7_take_21
  · have hf := ik_neg hc hf
    refine ik_iload_n C 2 rfl rfl dX7_take_8 ?_
    obtain ⟨r2, hc2, hf⟩ := ik_b1s hf
    have hM := (c_X7_isCell l D cI cS x2 r2 hc2)
    refine ik_goR (ik_runS (st := []) (As := [.int x2]) C hM ms_X7_isCell wl_7_0 ⟨rfl, rfl, Nat.le_of_ble_eq_true rfl, Nat.le_of_ble_eq_true rfl⟩ [] rfl (by decide +kernel) rfl rfl (Nat.le_of_ble_eq_true rfl) dX7_take_9 ⟨Nat.zero_le _, Nat.zero_le _⟩) rfl ?_
    refine ik_if_ne C 22 dX7_take_12 (by decide) (fun hc => ?_) (fun hc => ?_)
    · have hf := ik_neg hc hf
      refine ik_aload_n C 0 rfl rfl dX7_take_22 ?_
      refine ik_iload_n C 2 rfl rfl dX7_take_23 ?_
      obtain ⟨r3, hc3, hf⟩ := ik_b1s hf
      have hM := (c_X7_blockOn l D cI cS h0 h1 h2 h3 h4 h5 h6 h7 h8 h9 h10 h11 misKept mtaped msort mfrom mto mvalue mbad mm mkept mwas mother mfound mwarm mdrip mtape mbits msize mnumber x2 r3 hc3)
      refine ik_goR (ik_runV (st := []) (As := [.int x2]) C hM mv_X7_blockOn wl_7_12 ⟨rfl, rfl, Nat.le_of_ble_eq_true rfl, Nat.le_of_ble_eq_true rfl⟩ [0, 1, 2, 3, 4, 5, 6, 7, 8, 9, 10, 11] rfl (by decide +kernel) 0 rfl rfl rfl rfl (Nat.le_of_ble_eq_true rfl) dX7_take_24 ⟨Nat.zero_le _, Nat.zero_le _⟩) rfl ?_
      refine ik_istore_n C [(3, .int r3), (0, .ref h0), (1, .int x1), (2, .int x2)] rfl (by decide) rfl dX7_take_27 ?_
      refine ik_aload_n C 1 rfl rfl dX7_take_28 ?_
      refine ik_iload_n C 2 rfl rfl dX7_take_29 ?_
      obtain ⟨r4, hc4, hf⟩ := ik_b1s hf
      have hM := (c_X7_isGone l D cI cS h0 h1 h2 h3 h4 h5 h6 h7 h8 h9 h10 h11 misKept mtaped msort mfrom mto mvalue mbad mm mkept mwas mother mfound mwarm mdrip mtape mbits msize mnumber x1 r4 hc4)
      refine ik_goR (ik_runV (st := []) (As := [.int x1]) C hM mv_X7_isGone wl_10_5 ⟨rfl, rfl, Nat.le_of_ble_eq_true rfl, Nat.le_of_ble_eq_true rfl⟩ [0, 1, 2, 3, 4, 5, 6, 7, 8, 9, 10, 11] rfl (by decide +kernel) 0 rfl rfl rfl rfl (Nat.le_of_ble_eq_true rfl) dX7_take_30 ⟨Nat.zero_le _, Nat.zero_le _⟩) rfl ?_
      refine ik_if_ne C 45 dX7_take_33 (by decide) (fun hc => ?_) (fun hc => ?_)
      · have hf := ik_neg hc hf
        refine ik_aload_n C 1 rfl rfl dX7_take_45 ?_
        refine ik_ldc C wl_6_16 dX7_take_46 ?_
        obtain ⟨r5, g6, hc6, hf⟩ := ik_b2s hf
        have hM := (c_X7_finds l D cI cS h0 h1 h2 h3 h4 h5 h6 h7 h8 h9 h10 h11 misKept mtaped msort mfrom mto mvalue mbad mm mkept mwas mother mfound mwarm mdrip mtape mbits msize mnumber (-1000005 : Int32) r5 g6 hc6)
        refine ik_goW (v := (some (.int r5))) (wc := (wz_X7 cI cS h0 h1 h2 h3 h4 h5 h6 h7 h8 h9 h10 h11 misKept mtaped msort mfrom mto mvalue mbad mm mkept mwas mother mfound mwarm mdrip mtape mbits msize mnumber)) (w1 := (wz_X7 cI cS h0 h1 h2 h3 h4 h5 h6 h7 h8 h9 h10 h11 misKept mtaped msort mfrom mto mvalue mbad mm mkept mwas mother g6 mwarm mdrip mtape mbits msize mnumber)) [0, 1, 2, 3, 4, 5, 6, 7, 8, 9, 10, 11] [] 12 rfl rfl (wz_X7 cI cS h0 h1 h2 h3 h4 h5 h6 h7 h8 h9 h10 h11 misKept mtaped msort mfrom mto mvalue mbad mm mkept mwas mother g6 mwarm mdrip mtape mbits msize mnumber) rfl [] rfl rfl rfl (by decide +kernel) (ik_runV (st := []) (As := [.int (-1000005 : Int32)]) C hM mv_X7_finds wl_7_8 ⟨rfl, rfl, Nat.le_of_ble_eq_true rfl, Nat.le_of_ble_eq_true rfl⟩ [0, 1, 2, 3, 4, 5, 6, 7, 8, 9, 10, 11] rfl (by decide +kernel) 0 rfl rfl rfl rfl (Nat.le_of_ble_eq_true rfl) dX7_take_48 ⟨Nat.zero_le _, Nat.zero_le _⟩) rfl ?_
        obtain ⟨rfl, rfl, rfl⟩ := ik_e3 hf
        exact ik_iretW C hr hlk dX7_take_51
      · have hf := ik_pos hc hf
        refine ik_iload_n C 0 rfl rfl dX7_take_36 ?_
        refine ik_if_lt C 52 dX7_take_37 (by decide) (fun hc => ?_) (fun hc => ?_)
        · have hf := ik_pos hc hf
          refine ik_aload_n C 1 rfl rfl dX7_take_52 ?_
          refine ik_bipush (v := (24 : Int32)) C (by decide) dX7_take_53 ?_
          refine ik_iconst (v := (3 : Int32)) C (by decide) dX7_take_55 ?_
          refine ik_iload_n C 2 rfl rfl dX7_take_56 ?_
          refine ik_imul C dX7_take_57 ?_
          refine ik_iadd C dX7_take_58 ?_
          refine ik_iconst (v := (1 : Int32)) C (by decide) dX7_take_59 ?_
          refine ik_iadd C dX7_take_60 ?_
          refine ik_iload_n C 3 rfl rfl dX7_take_61 ?_
          obtain ⟨r5, g6, hc6, hf⟩ := ik_b2s hf
          have hM := (c_X7_becomes l D cI cS h0 h1 h2 h3 h4 h5 h6 h7 h8 h9 h10 h11 misKept mtaped msort mfrom mto mvalue mbad mm mkept mwas mother mfound mwarm mdrip mtape mbits msize mnumber (((24 : Int32) + ((3 : Int32) * x1)) + (1 : Int32)) x2 r5 g6 hc6)
          refine ik_goW (v := (some (.int r5))) (wc := (wz_X7 cI cS h0 h1 h2 h3 h4 h5 h6 h7 h8 h9 h10 h11 misKept mtaped msort mfrom mto mvalue mbad mm mkept mwas mother mfound mwarm mdrip mtape mbits msize mnumber)) (w1 := (wz_X7 cI cS h0 h1 h2 h3 h4 h5 h6 h7 h8 h9 h10 h11 misKept mtaped msort mfrom mto mvalue mbad g6 mkept mwas mother mfound mwarm mdrip mtape mbits msize mnumber)) [0, 1, 2, 3, 4, 5, 6, 7, 8, 9, 10, 11] [] 12 rfl rfl (wz_X7 cI cS h0 h1 h2 h3 h4 h5 h6 h7 h8 h9 h10 h11 misKept mtaped msort mfrom mto mvalue mbad g6 mkept mwas mother mfound mwarm mdrip mtape mbits msize mnumber) rfl [] rfl rfl rfl (by decide +kernel) (ik_runV (st := []) (As := [.int (((24 : Int32) + ((3 : Int32) * x1)) + (1 : Int32)), .int x2]) C hM mv_X7_becomes wl_12_4 ⟨rfl, rfl, Nat.le_of_ble_eq_true rfl, Nat.le_of_ble_eq_true rfl⟩ [0, 1, 2, 3, 4, 5, 6, 7, 8, 9, 10, 11] rfl (by decide +kernel) 0 rfl rfl rfl rfl (Nat.le_of_ble_eq_true rfl) dX7_take_62 ⟨Nat.zero_le _, Nat.zero_le _⟩) rfl ?_
          obtain ⟨rfl, rfl, rfl⟩ := ik_e3 hf
          exact ik_iretW C hr hlk dX7_take_65
        · have hf := ik_neg hc hf
          refine ik_iload_n C 0 rfl rfl dX7_take_40 ?_
          refine ik_iload_n C 2 rfl rfl dX7_take_41 ?_
          refine ik_icmp_eq C 52 dX7_take_42 (by decide) (fun hc => ?_) (fun hc => ?_)
          · have hf := ik_pos hc hf
            refine ik_aload_n C 1 rfl rfl dX7_take_52 ?_
            refine ik_bipush (v := (24 : Int32)) C (by decide) dX7_take_53 ?_
            refine ik_iconst (v := (3 : Int32)) C (by decide) dX7_take_55 ?_
            refine ik_iload_n C 2 rfl rfl dX7_take_56 ?_
            refine ik_imul C dX7_take_57 ?_
            refine ik_iadd C dX7_take_58 ?_
            refine ik_iconst (v := (1 : Int32)) C (by decide) dX7_take_59 ?_
            refine ik_iadd C dX7_take_60 ?_
            refine ik_iload_n C 3 rfl rfl dX7_take_61 ?_
            obtain ⟨r5, g6, hc6, hf⟩ := ik_b2s hf
            have hM := (c_X7_becomes l D cI cS h0 h1 h2 h3 h4 h5 h6 h7 h8 h9 h10 h11 misKept mtaped msort mfrom mto mvalue mbad mm mkept mwas mother mfound mwarm mdrip mtape mbits msize mnumber (((24 : Int32) + ((3 : Int32) * x1)) + (1 : Int32)) x2 r5 g6 hc6)
            refine ik_goW (v := (some (.int r5))) (wc := (wz_X7 cI cS h0 h1 h2 h3 h4 h5 h6 h7 h8 h9 h10 h11 misKept mtaped msort mfrom mto mvalue mbad mm mkept mwas mother mfound mwarm mdrip mtape mbits msize mnumber)) (w1 := (wz_X7 cI cS h0 h1 h2 h3 h4 h5 h6 h7 h8 h9 h10 h11 misKept mtaped msort mfrom mto mvalue mbad g6 mkept mwas mother mfound mwarm mdrip mtape mbits msize mnumber)) [0, 1, 2, 3, 4, 5, 6, 7, 8, 9, 10, 11] [] 12 rfl rfl (wz_X7 cI cS h0 h1 h2 h3 h4 h5 h6 h7 h8 h9 h10 h11 misKept mtaped msort mfrom mto mvalue mbad g6 mkept mwas mother mfound mwarm mdrip mtape mbits msize mnumber) rfl [] rfl rfl rfl (by decide +kernel) (ik_runV (st := []) (As := [.int (((24 : Int32) + ((3 : Int32) * x1)) + (1 : Int32)), .int x2]) C hM mv_X7_becomes wl_12_4 ⟨rfl, rfl, Nat.le_of_ble_eq_true rfl, Nat.le_of_ble_eq_true rfl⟩ [0, 1, 2, 3, 4, 5, 6, 7, 8, 9, 10, 11] rfl (by decide +kernel) 0 rfl rfl rfl rfl (Nat.le_of_ble_eq_true rfl) dX7_take_62 ⟨Nat.zero_le _, Nat.zero_le _⟩) rfl ?_
            obtain ⟨rfl, rfl, rfl⟩ := ik_e3 hf
            exact ik_iretW C hr hlk dX7_take_65
          · have hf := ik_neg hc hf
            refine ik_aload_n C 1 rfl rfl dX7_take_45 ?_
            refine ik_ldc C wl_6_16 dX7_take_46 ?_
            obtain ⟨r5, g6, hc6, hf⟩ := ik_b2s hf
            have hM := (c_X7_finds l D cI cS h0 h1 h2 h3 h4 h5 h6 h7 h8 h9 h10 h11 misKept mtaped msort mfrom mto mvalue mbad mm mkept mwas mother mfound mwarm mdrip mtape mbits msize mnumber (-1000005 : Int32) r5 g6 hc6)
            refine ik_goW (v := (some (.int r5))) (wc := (wz_X7 cI cS h0 h1 h2 h3 h4 h5 h6 h7 h8 h9 h10 h11 misKept mtaped msort mfrom mto mvalue mbad mm mkept mwas mother mfound mwarm mdrip mtape mbits msize mnumber)) (w1 := (wz_X7 cI cS h0 h1 h2 h3 h4 h5 h6 h7 h8 h9 h10 h11 misKept mtaped msort mfrom mto mvalue mbad mm mkept mwas mother g6 mwarm mdrip mtape mbits msize mnumber)) [0, 1, 2, 3, 4, 5, 6, 7, 8, 9, 10, 11] [] 12 rfl rfl (wz_X7 cI cS h0 h1 h2 h3 h4 h5 h6 h7 h8 h9 h10 h11 misKept mtaped msort mfrom mto mvalue mbad mm mkept mwas mother g6 mwarm mdrip mtape mbits msize mnumber) rfl [] rfl rfl rfl (by decide +kernel) (ik_runV (st := []) (As := [.int (-1000005 : Int32)]) C hM mv_X7_finds wl_7_8 ⟨rfl, rfl, Nat.le_of_ble_eq_true rfl, Nat.le_of_ble_eq_true rfl⟩ [0, 1, 2, 3, 4, 5, 6, 7, 8, 9, 10, 11] rfl (by decide +kernel) 0 rfl rfl rfl rfl (Nat.le_of_ble_eq_true rfl) dX7_take_48 ⟨Nat.zero_le _, Nat.zero_le _⟩) rfl ?_
            obtain ⟨rfl, rfl, rfl⟩ := ik_e3 hf
            exact ik_iretW C hr hlk dX7_take_51
    · have hf := ik_pos hc hf
      refine ik_aload_n C 0 rfl rfl dX7_take_15 ?_
      refine ik_ldc C wl_6_14 dX7_take_16 ?_
      obtain ⟨r3, g4, hc4, hf⟩ := ik_b2s hf
      have hM := (c_X7_finds l D cI cS h0 h1 h2 h3 h4 h5 h6 h7 h8 h9 h10 h11 misKept mtaped msort mfrom mto mvalue mbad mm mkept mwas mother mfound mwarm mdrip mtape mbits msize mnumber (-1000001 : Int32) r3 g4 hc4)
      refine ik_goW (v := (some (.int r3))) (wc := (wz_X7 cI cS h0 h1 h2 h3 h4 h5 h6 h7 h8 h9 h10 h11 misKept mtaped msort mfrom mto mvalue mbad mm mkept mwas mother mfound mwarm mdrip mtape mbits msize mnumber)) (w1 := (wz_X7 cI cS h0 h1 h2 h3 h4 h5 h6 h7 h8 h9 h10 h11 misKept mtaped msort mfrom mto mvalue mbad mm mkept mwas mother g4 mwarm mdrip mtape mbits msize mnumber)) [0, 1, 2, 3, 4, 5, 6, 7, 8, 9, 10, 11] [] 12 rfl rfl (wz_X7 cI cS h0 h1 h2 h3 h4 h5 h6 h7 h8 h9 h10 h11 misKept mtaped msort mfrom mto mvalue mbad mm mkept mwas mother g4 mwarm mdrip mtape mbits msize mnumber) rfl [] rfl rfl rfl (by decide +kernel) (ik_runV (st := []) (As := [.int (-1000001 : Int32)]) C hM mv_X7_finds wl_7_8 ⟨rfl, rfl, Nat.le_of_ble_eq_true rfl, Nat.le_of_ble_eq_true rfl⟩ [0, 1, 2, 3, 4, 5, 6, 7, 8, 9, 10, 11] rfl (by decide +kernel) 0 rfl rfl rfl rfl (Nat.le_of_ble_eq_true rfl) dX7_take_18 ⟨Nat.zero_le _, Nat.zero_le _⟩) rfl ?_
      obtain ⟨rfl, rfl, rfl⟩ := ik_e3 hf
      exact ik_iretW C hr hlk dX7_take_21
theorem mv_X7_on : ik_V yX7_on RX7 cX7_on 2 (some .int) 1 := ⟨wl_13_1, wl_13_2, wl_1_5, wl_13_3, by decide +kernel⟩
set_option maxHeartbeats 4000000 in
set_option maxRecDepth 100000 in
theorem c_X7_on (l : Launch) (D : va_G) (cI cS : ClassId) (h0 h1 h2 h3 h4 h5 h6 h7 h8 h9 h10 h11 : Nat) (misKept : Int32) (mtaped : Int32) (msort : Int32) (mfrom : Int32) (mto : Int32) (mvalue : Int32) (mbad : Int32) (mm : Nat → Int32) (mkept : Nat → Int32) (mwas : Nat → Int32) (mother : Nat → Int32) (mfound : Nat → Int32) (mwarm : Nat → Int32) (mdrip : Nat → Int32) (mtape : Nat → Int32) (mbits : Nat → Int32) (msize : Nat → Int32) (mnumber : Nat → Int32) (x1 : Int32) (R : Int32) (mfound_r : Nat → Int32) (hf : f_X7_on mm mfound x1 = some (R, mfound_r)) : Met l yX7_on (ik_ws yX7_on cX7_on 2 (some .int)) ({ frames := 2, cells := 0, slots := 0, locals := 45 } : Room) (ik_P D cI cS [.ref h0, .int x1] (wz_X7 cI cS h0 h1 h2 h3 h4 h5 h6 h7 h8 h9 h10 h11 misKept mtaped msort mfrom mto mvalue mbad mm mkept mwas mother mfound mwarm mdrip mtape mbits msize mnumber)) (ik_Q (some (.int R)) D (wz_X7 cI cS h0 h1 h2 h3 h4 h5 h6 h7 h8 h9 h10 h11 misKept mtaped msort mfrom mto mvalue mbad mm mkept mwas mother mfound_r mwarm mdrip mtape mbits msize mnumber) (wz_X7 cI cS h0 h1 h2 h3 h4 h5 h6 h7 h8 h9 h10 h11 misKept mtaped msort mfrom mto mvalue mbad mm mkept mwas mother mfound mwarm mdrip mtape mbits msize mnumber)) 0 0 (ik_in (wz_X7 cI cS h0 h1 h2 h3 h4 h5 h6 h7 h8 h9 h10 h11 misKept mtaped msort mfrom mto mvalue mbad mm mkept mwas mother mfound mwarm mdrip mtape mbits msize mnumber)) := by
  refine ik_metW RX7 rfl (by decide) (Nat.le_of_ble_eq_true rfl) [(0, .ref h0), (1, .int x1)] rfl ?_
  intro p e s m below meth c C hr hlk
  unfold f_X7_on at hf
  refine ik_iload_n C 1 rfl rfl dX7_on_0 ?_
  obtain ⟨r1, hc1, hf⟩ := ik_b1s hf
  have hM := (c_X7_isCell l D cI cS x1 r1 hc1)
  refine ik_goR (ik_runS (st := []) (As := [.int x1]) C hM ms_X7_isCell wl_7_0 ⟨rfl, rfl, Nat.le_of_ble_eq_true rfl, Nat.le_of_ble_eq_true rfl⟩ [] rfl (by decide +kernel) rfl rfl (Nat.le_of_ble_eq_true rfl) dX7_on_1 ⟨Nat.zero_le _, Nat.zero_le _⟩) rfl ?_
  refine ik_if_eq C 15 dX7_on_4 (by decide) (fun hc => ?_) (fun hc => ?_)
  · have hf := ik_pos hc hf
    refine ik_aload_n C 0 rfl rfl dX7_on_15 ?_
    refine ik_ldc C wl_6_14 dX7_on_16 ?_
    obtain ⟨r2, g3, hc3, hf⟩ := ik_b2s hf
    have hM := (c_X7_finds l D cI cS h0 h1 h2 h3 h4 h5 h6 h7 h8 h9 h10 h11 misKept mtaped msort mfrom mto mvalue mbad mm mkept mwas mother mfound mwarm mdrip mtape mbits msize mnumber (-1000001 : Int32) r2 g3 hc3)
    refine ik_goW (v := (some (.int r2))) (wc := (wz_X7 cI cS h0 h1 h2 h3 h4 h5 h6 h7 h8 h9 h10 h11 misKept mtaped msort mfrom mto mvalue mbad mm mkept mwas mother mfound mwarm mdrip mtape mbits msize mnumber)) (w1 := (wz_X7 cI cS h0 h1 h2 h3 h4 h5 h6 h7 h8 h9 h10 h11 misKept mtaped msort mfrom mto mvalue mbad mm mkept mwas mother g3 mwarm mdrip mtape mbits msize mnumber)) [0, 1, 2, 3, 4, 5, 6, 7, 8, 9, 10, 11] [] 12 rfl rfl (wz_X7 cI cS h0 h1 h2 h3 h4 h5 h6 h7 h8 h9 h10 h11 misKept mtaped msort mfrom mto mvalue mbad mm mkept mwas mother g3 mwarm mdrip mtape mbits msize mnumber) rfl [] rfl rfl rfl (by decide +kernel) (ik_runV (st := []) (As := [.int (-1000001 : Int32)]) C hM mv_X7_finds wl_7_8 ⟨rfl, rfl, Nat.le_of_ble_eq_true rfl, Nat.le_of_ble_eq_true rfl⟩ [0, 1, 2, 3, 4, 5, 6, 7, 8, 9, 10, 11] rfl (by decide +kernel) 0 rfl rfl rfl rfl (Nat.le_of_ble_eq_true rfl) dX7_on_18 ⟨Nat.zero_le _, Nat.zero_le _⟩) rfl ?_
    obtain ⟨rfl, rfl⟩ := ik_e2 hf
    exact ik_iretW C hr hlk dX7_on_21
  · have hf := ik_neg hc hf
    refine ik_aload_n C 0 rfl rfl dX7_on_7 ?_
    refine ik_iload_n C 1 rfl rfl dX7_on_8 ?_
    obtain ⟨r2, hc2, hf⟩ := ik_b1s hf
    have hM := (c_X7_blockOn l D cI cS h0 h1 h2 h3 h4 h5 h6 h7 h8 h9 h10 h11 misKept mtaped msort mfrom mto mvalue mbad mm mkept mwas mother mfound mwarm mdrip mtape mbits msize mnumber x1 r2 hc2)
    refine ik_goR (ik_runV (st := []) (As := [.int x1]) C hM mv_X7_blockOn wl_7_12 ⟨rfl, rfl, Nat.le_of_ble_eq_true rfl, Nat.le_of_ble_eq_true rfl⟩ [0, 1, 2, 3, 4, 5, 6, 7, 8, 9, 10, 11] rfl (by decide +kernel) 0 rfl rfl rfl rfl (Nat.le_of_ble_eq_true rfl) dX7_on_9 ⟨Nat.zero_le _, Nat.zero_le _⟩) rfl ?_
    refine ik_goto C 21 dX7_on_12 (by decide) ?_
    obtain ⟨rfl, rfl⟩ := ik_e2 hf
    exact ik_iretW C hr hlk dX7_on_21
theorem ms_X7_distance : ik_S yX7_distance RX7 cX7_distance 4 (some .int) 2 := ⟨wl_14_21, wl_1_5, wl_14_22, by decide +kernel⟩
set_option maxHeartbeats 4000000 in
set_option maxRecDepth 100000 in
theorem c_X7_distance (l : Launch) (D : va_G) (cI cS : ClassId) (x0 : Int32) (x1 : Int32) (R : Int32) (hf : f_X7_distance x0 x1 = some (R)) : Met l yX7_distance (ik_ws yX7_distance cX7_distance 4 (some .int)) ({ frames := 0, cells := 0, slots := 0, locals := 0 } : Room) (ik_P D cI cS [.int x0, .int x1] (wz_none cI cS)) (ik_R (some (.int R))) 0 0 ik_no := by
  refine ik_metR RX7 rfl (by decide) (Nat.le_of_ble_eq_true rfl) [(0, .int x0), (1, .int x1)] rfl ?_
  intro p e s m below meth c C hr hlk
  unfold f_X7_distance at hf
  refine ik_iload_n C 0 rfl rfl dX7_distance_0 ?_
  refine ik_bipush (v := (8 : Int32)) C (by decide) dX7_distance_1 ?_
  refine ik_idiv C (by decide) dX7_distance_3 ?_
  refine ik_iload_n C 1 rfl rfl dX7_distance_4 ?_
  refine ik_bipush (v := (8 : Int32)) C (by decide) dX7_distance_5 ?_
  refine ik_idiv C (by decide) dX7_distance_7 ?_
  refine ik_isub C dX7_distance_8 ?_
  refine ik_istore_n C [(2, .int ((x0 / (8 : Int32)) - (x1 / (8 : Int32)))), (0, .int x0), (1, .int x1)] rfl (by decide) rfl dX7_distance_9 ?_
  refine ik_iload_n C 1 rfl rfl dX7_distance_10 ?_
  refine ik_bipush (v := (8 : Int32)) C (by decide) dX7_distance_11 ?_
  refine ik_irem C (by decide) dX7_distance_13 ?_
  refine ik_iload_n C 2 rfl rfl dX7_distance_14 ?_
  refine ik_bipush (v := (8 : Int32)) C (by decide) dX7_distance_15 ?_
  refine ik_irem C (by decide) dX7_distance_17 ?_
  refine ik_isub C dX7_distance_18 ?_
  refine ik_istore_n C [(3, .int ((x0 - x0 / (8 : Int32) * (8 : Int32)) - (x1 - x1 / (8 : Int32) * (8 : Int32)))), (2, .int ((x0 / (8 : Int32)) - (x1 / (8 : Int32)))), (0, .int x0), (1, .int x1)] rfl (by decide) rfl dX7_distance_19 ?_
  refine ik_iload_n C 1 rfl rfl dX7_distance_20 ?_
  refine ik_if_ge C 29 dX7_distance_21 (by decide) (fun hc => ?_) (fun hc => ?_)
  · have hf := ik_pos hc hf
    refine ik_iload_n C 1 rfl rfl dX7_distance_29 ?_
    refine ik_iload_n C 0 rfl rfl dX7_distance_30 ?_
    refine ik_if_ge C 39 dX7_distance_31 (by decide) (fun hc => ?_) (fun hc => ?_)
    · have hf := ik_pos hc hf
      refine ik_iload_n C 0 rfl rfl dX7_distance_39 ?_
      refine ik_iadd C dX7_distance_40 ?_
      obtain rfl := Option.some.inj hf
      exact ik_iretR C hr hlk dX7_distance_41
    · have hf := ik_neg hc hf
      refine ik_iload_n C 0 rfl rfl dX7_distance_34 ?_
      refine ik_ineg C dX7_distance_35 ?_
      refine ik_goto C 40 dX7_distance_36 (by decide) ?_
      refine ik_iadd C dX7_distance_40 ?_
      obtain rfl := Option.some.inj hf
      exact ik_iretR C hr hlk dX7_distance_41
  · have hf := ik_neg hc hf
    refine ik_iload_n C 1 rfl rfl dX7_distance_24 ?_
    refine ik_ineg C dX7_distance_25 ?_
    refine ik_goto C 30 dX7_distance_26 (by decide) ?_
    refine ik_iload_n C 0 rfl rfl dX7_distance_30 ?_
    refine ik_if_ge C 39 dX7_distance_31 (by decide) (fun hc => ?_) (fun hc => ?_)
    · have hf := ik_pos hc hf
      refine ik_iload_n C 0 rfl rfl dX7_distance_39 ?_
      refine ik_iadd C dX7_distance_40 ?_
      obtain rfl := Option.some.inj hf
      exact ik_iretR C hr hlk dX7_distance_41
    · have hf := ik_neg hc hf
      refine ik_iload_n C 0 rfl rfl dX7_distance_34 ?_
      refine ik_ineg C dX7_distance_35 ?_
      refine ik_goto C 40 dX7_distance_36 (by decide) ?_
      refine ik_iadd C dX7_distance_40 ?_
      obtain rfl := Option.some.inj hf
      exact ik_iretR C hr hlk dX7_distance_41
theorem mv_X7_isLit : ik_V yX7_isLit RX7 cX7_isLit 2 (some .boolean) 1 := ⟨wl_14_17, wl_14_18, wl_1_5, wl_14_19, by decide +kernel⟩
set_option maxHeartbeats 4000000 in
set_option maxRecDepth 100000 in
theorem c_X7_isLit (l : Launch) (D : va_G) (cI cS : ClassId) (h0 h1 h2 h3 h4 h5 h6 h7 h8 h9 h10 h11 : Nat) (misKept : Int32) (mtaped : Int32) (msort : Int32) (mfrom : Int32) (mto : Int32) (mvalue : Int32) (mbad : Int32) (mm : Nat → Int32) (mkept : Nat → Int32) (mwas : Nat → Int32) (mother : Nat → Int32) (mfound : Nat → Int32) (mwarm : Nat → Int32) (mdrip : Nat → Int32) (mtape : Nat → Int32) (mbits : Nat → Int32) (msize : Nat → Int32) (mnumber : Nat → Int32) (x1 : Int32) (R : Int32) (hf : f_X7_isLit mm x1 = some (R)) : Met l yX7_isLit (ik_ws yX7_isLit cX7_isLit 2 (some .boolean)) ({ frames := 0, cells := 0, slots := 0, locals := 0 } : Room) (ik_P D cI cS [.ref h0, .int x1] (wz_X7 cI cS h0 h1 h2 h3 h4 h5 h6 h7 h8 h9 h10 h11 misKept mtaped msort mfrom mto mvalue mbad mm mkept mwas mother mfound mwarm mdrip mtape mbits msize mnumber)) (ik_R (some (.int R))) 0 0 ik_no := by
  refine ik_metR RX7 rfl (by decide) (Nat.le_of_ble_eq_true rfl) [(0, .ref h0), (1, .int x1)] rfl ?_
  intro p e s m below meth c C hr hlk
  unfold f_X7_isLit at hf
  refine ik_aload_n C 0 rfl rfl dX7_isLit_0 ?_
  refine ik_get C inlX7 0 rfl rfl 0 (by decide) wl_4_12 rfl (v := .ref h1) rfl dX7_isLit_1 ?_
  refine ik_bipush (v := (6 : Int32)) C (by decide) dX7_isLit_4 ?_
  refine ik_iconst (v := (3 : Int32)) C (by decide) dX7_isLit_6 ?_
  refine ik_iload_n C 1 rfl rfl dX7_isLit_7 ?_
  refine ik_imul C dX7_isLit_8 ?_
  refine ik_iadd C dX7_isLit_9 ?_
  refine ik_iconst (v := (2 : Int32)) C (by decide) dX7_isLit_10 ?_
  refine ik_iadd C dX7_isLit_11 ?_
  have hg := ik_gdi hf
  have hf := ik_gdk hf
  refine ik_iald C 1 rfl hg dX7_isLit_12 ?_
  refine ik_iconst (v := (1 : Int32)) C (by decide) dX7_isLit_13 ?_
  refine ik_icmp_ne C 21 dX7_isLit_14 (by decide) (fun hc => ?_) (fun hc => ?_)
  · have hf := ik_neg hc hf
    refine ik_iconst (v := (0 : Int32)) C (by decide) dX7_isLit_21 ?_
    obtain rfl := Option.some.inj hf
    exact ik_zretR C hr (by decide) hlk dX7_isLit_22
  · have hf := ik_pos hc hf
    refine ik_iconst (v := (1 : Int32)) C (by decide) dX7_isLit_17 ?_
    refine ik_goto C 22 dX7_isLit_18 (by decide) ?_
    obtain rfl := Option.some.inj hf
    exact ik_zretR C hr (by decide) hlk dX7_isLit_22
theorem mv_X7_warmthOf : ik_V yX7_warmthOf RX7 cX7_warmthOf 4 (some .int) 1 := ⟨wl_14_13, wl_14_14, wl_1_5, wl_14_15, by decide +kernel⟩
set_option maxHeartbeats 4000000 in
set_option maxRecDepth 100000 in
theorem c_X7_warmthOf (l : Launch) (D : va_G) (cI cS : ClassId) (h0 h1 h2 h3 h4 h5 h6 h7 h8 h9 h10 h11 : Nat) (misKept : Int32) (mtaped : Int32) (msort : Int32) (mfrom : Int32) (mto : Int32) (mvalue : Int32) (mbad : Int32) (mm : Nat → Int32) (mkept : Nat → Int32) (mwas : Nat → Int32) (mother : Nat → Int32) (mfound : Nat → Int32) (mwarm : Nat → Int32) (mdrip : Nat → Int32) (mtape : Nat → Int32) (mbits : Nat → Int32) (msize : Nat → Int32) (mnumber : Nat → Int32) (x1 : Int32) (R : Int32) (hf : f_X7_warmthOf mm x1 = some (R)) : Met l yX7_warmthOf (ik_ws yX7_warmthOf cX7_warmthOf 4 (some .int)) ({ frames := 1, cells := 0, slots := 0, locals := 23 } : Room) (ik_P D cI cS [.ref h0, .int x1] (wz_X7 cI cS h0 h1 h2 h3 h4 h5 h6 h7 h8 h9 h10 h11 misKept mtaped msort mfrom mto mvalue mbad mm mkept mwas mother mfound mwarm mdrip mtape mbits msize mnumber)) (ik_R (some (.int R))) 0 0 ik_no := by
  refine ik_metR RX7 rfl (by decide) (Nat.le_of_ble_eq_true rfl) [(0, .ref h0), (1, .int x1)] rfl ?_
  intro p e s m below meth c C hr hlk
  unfold f_X7_warmthOf at hf
  refine ik_aload_n C 0 rfl rfl dX7_warmthOf_0 ?_
  refine ik_get C inlX7 0 rfl rfl 0 (by decide) wl_4_12 rfl (v := .ref h1) rfl dX7_warmthOf_1 ?_
  refine ik_iconst (v := (1 : Int32)) C (by decide) dX7_warmthOf_4 ?_
  refine ik_iald C 1 rfl (ik_vin (by decide)) dX7_warmthOf_5 ?_
  refine ik_istore_n C [(2, .int (mm ((1 : Int32)).toNatClampNeg)), (0, .ref h0), (1, .int x1)] rfl (by decide) rfl dX7_warmthOf_6 ?_
  refine ik_iconst (v := (0 : Int32)) C (by decide) dX7_warmthOf_7 ?_
  refine ik_istore_n C [(3, .int (0 : Int32)), (2, .int (mm ((1 : Int32)).toNatClampNeg)), (0, .ref h0), (1, .int x1)] rfl (by decide) rfl dX7_warmthOf_8 ?_
  have hL_9 : ∀ (n_9 : Nat) (x2_9 : Int32) (x3_9 : Int32), ik_lp2 (b_X7_warmthOf_9 mm x1) n_9 x2_9 x3_9 = some (R) → ik_G p l e ({ frames := 1, cells := 0, slots := 0, locals := 23 } : Room) s m ([.ref h0, .int x1] : List Value).toArray below meth c D ik_no (fun _ => True) 4 0 0 (MQ below (ik_R (some (.int R))) ([.ref h0, .int x1] : List Value).toArray s 0 0 ik_no) 9 [(3, .int x3_9), (2, .int x2_9), (0, .ref h0), (1, .int x1)] [] (wz_X7 cI cS h0 h1 h2 h3 h4 h5 h6 h7 h8 h9 h10 h11 misKept mtaped msort mfrom mto mvalue mbad mm mkept mwas mother mfound mwarm mdrip mtape mbits msize mnumber) := by
    intro n_9
    induction n_9 with
    | zero => intro _ _ hf; exact nomatch hf
    | succ n_9 ih_9 =>
      intro x2_9 x3_9 hf
      replace hf : b_X7_warmthOf_9 mm x1 (ik_lp2 (b_X7_warmthOf_9 mm x1) n_9) x2_9 x3_9 = some (R) := hf
      unfold b_X7_warmthOf_9 at hf
      refine ik_iload_n C 0 rfl rfl dX7_warmthOf_9 ?_
      refine ik_bipush (v := (6 : Int32)) C (by decide) dX7_warmthOf_10 ?_
      refine ik_icmp_ge C 67 dX7_warmthOf_12 (by decide) (fun hc => ?_) (fun hc => ?_)
      · have hf := ik_pos hc hf
        refine ik_iload_n C 1 rfl rfl dX7_warmthOf_67 ?_
        obtain rfl := Option.some.inj hf
        exact ik_iretR C hr hlk dX7_warmthOf_68
      · have hf := ik_neg hc hf
        refine ik_iload_n C 1 rfl rfl dX7_warmthOf_15 ?_
        refine ik_aload_n C 2 rfl rfl dX7_warmthOf_16 ?_
        refine ik_iload_n C 0 rfl rfl dX7_warmthOf_17 ?_
        obtain ⟨r1, hc1, hf⟩ := ik_b1s hf
        have hM := (c_X7_isLit l D cI cS h0 h1 h2 h3 h4 h5 h6 h7 h8 h9 h10 h11 misKept mtaped msort mfrom mto mvalue mbad mm mkept mwas mother mfound mwarm mdrip mtape mbits msize mnumber x3_9 r1 hc1)
        refine ik_goR (ik_runV (st := [.int x2_9]) (As := [.int x3_9]) C hM mv_X7_isLit wl_14_16 ⟨rfl, rfl, Nat.le_of_ble_eq_true rfl, Nat.le_of_ble_eq_true rfl⟩ [0, 1, 2, 3, 4, 5, 6, 7, 8, 9, 10, 11] rfl (by decide +kernel) 0 rfl rfl rfl rfl (Nat.le_of_ble_eq_true rfl) dX7_warmthOf_18 ⟨Nat.zero_le _, Nat.zero_le _⟩) rfl ?_
        refine ik_if_eq C 58 dX7_warmthOf_21 (by decide) (fun hc => ?_) (fun hc => ?_)
        · have hf := ik_pos hc hf
          refine ik_iconst (v := (0 : Int32)) C (by decide) dX7_warmthOf_58 ?_
          refine ik_iadd C dX7_warmthOf_59 ?_
          refine ik_istore_n C [(2, .int (x2_9 + (0 : Int32))), (3, .int x3_9), (0, .ref h0), (1, .int x1)] rfl (by decide) rfl dX7_warmthOf_60 ?_
          refine ik_iinc C [(3, .int (x3_9 + (1 : Int32))), (2, .int (x2_9 + (0 : Int32))), (0, .ref h0), (1, .int x1)] 1 rfl rfl (by decide) rfl dX7_warmthOf_61 ?_
          refine ik_goto C 9 dX7_warmthOf_64 (by decide) ?_
          exact ik_sub [0, 1, 2, 3] [(3, .int (x3_9 + (1 : Int32))), (2, .int (x2_9 + (0 : Int32))), (0, .ref h0), (1, .int x1)] rfl (ih_9 (x2_9 + (0 : Int32)) (x3_9 + (1 : Int32)) hf)
        · have hf := ik_neg hc hf
          refine ik_aload_n C 2 rfl rfl dX7_warmthOf_24 ?_
          refine ik_get C inlX7 0 rfl rfl 0 (by decide) wl_4_12 rfl (v := .ref h1) rfl dX7_warmthOf_25 ?_
          refine ik_bipush (v := (6 : Int32)) C (by decide) dX7_warmthOf_28 ?_
          refine ik_iconst (v := (3 : Int32)) C (by decide) dX7_warmthOf_30 ?_
          refine ik_iload_n C 0 rfl rfl dX7_warmthOf_31 ?_
          refine ik_imul C dX7_warmthOf_32 ?_
          refine ik_iadd C dX7_warmthOf_33 ?_
          refine ik_iconst (v := (1 : Int32)) C (by decide) dX7_warmthOf_34 ?_
          refine ik_iadd C dX7_warmthOf_35 ?_
          have hg := ik_gdi hf
          have hf := ik_gdk hf
          refine ik_iald C 1 rfl hg dX7_warmthOf_36 ?_
          refine ik_iload_n C 3 rfl rfl dX7_warmthOf_37 ?_
          refine ik_aload_n C 2 rfl rfl dX7_warmthOf_38 ?_
          refine ik_get C inlX7 0 rfl rfl 0 (by decide) wl_4_12 rfl (v := .ref h1) rfl dX7_warmthOf_39 ?_
          refine ik_bipush (v := (6 : Int32)) C (by decide) dX7_warmthOf_42 ?_
          refine ik_iconst (v := (3 : Int32)) C (by decide) dX7_warmthOf_44 ?_
          refine ik_iload_n C 0 rfl rfl dX7_warmthOf_45 ?_
          refine ik_imul C dX7_warmthOf_46 ?_
          refine ik_iadd C dX7_warmthOf_47 ?_
          have hg := ik_gdi hf
          have hf := ik_gdk hf
          refine ik_iald C 1 rfl hg dX7_warmthOf_48 ?_
          obtain ⟨r2, hc2, hf⟩ := ik_b1s hf
          have hM := (c_X7_distance l D cI cS x1 (mm (((6 : Int32) + ((3 : Int32) * x3_9))).toNatClampNeg) r2 hc2)
          refine ik_goR (ik_runS (st := [.int (mm ((((6 : Int32) + ((3 : Int32) * x3_9)) + (1 : Int32))).toNatClampNeg), .int x2_9]) (As := [.int x1, .int (mm (((6 : Int32) + ((3 : Int32) * x3_9))).toNatClampNeg)]) C hM ms_X7_distance wl_14_20 ⟨rfl, rfl, Nat.le_of_ble_eq_true rfl, Nat.le_of_ble_eq_true rfl⟩ [] rfl (by decide +kernel) rfl rfl (Nat.le_of_ble_eq_true rfl) dX7_warmthOf_49 ⟨Nat.zero_le _, Nat.zero_le _⟩) rfl ?_
          refine ik_iconst (v := (1 : Int32)) C (by decide) dX7_warmthOf_52 ?_
          refine ik_iadd C dX7_warmthOf_53 ?_
          have hg := ik_gni hf
          have hf := ik_gnk hf
          refine ik_idiv C hg dX7_warmthOf_54 ?_
          refine ik_goto C 59 dX7_warmthOf_55 (by decide) ?_
          refine ik_iadd C dX7_warmthOf_59 ?_
          obtain ⟨n3, hv3, hf⟩ := ik_nvs hf
          refine ik_nm hv3 ?_
          refine ik_istore_n C [(2, .int n3), (3, .int x3_9), (0, .ref h0), (1, .int x1)] rfl (by decide) rfl dX7_warmthOf_60 ?_
          refine ik_iinc C [(3, .int (x3_9 + (1 : Int32))), (2, .int n3), (0, .ref h0), (1, .int x1)] 1 rfl rfl (by decide) rfl dX7_warmthOf_61 ?_
          refine ik_goto C 9 dX7_warmthOf_64 (by decide) ?_
          exact ik_sub [0, 1, 2, 3] [(3, .int (x3_9 + (1 : Int32))), (2, .int n3), (0, .ref h0), (1, .int x1)] rfl (ih_9 n3 (x3_9 + (1 : Int32)) hf)
  exact hL_9 ik_fu (mm ((1 : Int32)).toNatClampNeg) (0 : Int32) hf
theorem mv_X7_water : ik_V yX7_water RX7 cX7_water 5 (some .int) 2 := ⟨wl_14_9, wl_14_10, wl_1_5, wl_14_11, by decide +kernel⟩
set_option maxHeartbeats 4000000 in
set_option maxRecDepth 100000 in
theorem c_X7_water (l : Launch) (D : va_G) (cI cS : ClassId) (h0 h1 h2 h3 h4 h5 h6 h7 h8 h9 h10 h11 : Nat) (misKept : Int32) (mtaped : Int32) (msort : Int32) (mfrom : Int32) (mto : Int32) (mvalue : Int32) (mbad : Int32) (mm : Nat → Int32) (mkept : Nat → Int32) (mwas : Nat → Int32) (mother : Nat → Int32) (mfound : Nat → Int32) (mwarm : Nat → Int32) (mdrip : Nat → Int32) (mtape : Nat → Int32) (mbits : Nat → Int32) (msize : Nat → Int32) (mnumber : Nat → Int32) (x1 : Int32) (x2 : Int32) (R : Int32) (mm_r : Nat → Int32) (mfound_r : Nat → Int32) (hf : f_X7_water mm mfound x1 x2 = some (R, mm_r, mfound_r)) : Met l yX7_water (ik_ws yX7_water cX7_water 5 (some .int)) ({ frames := 2, cells := 0, slots := 0, locals := 46 } : Room) (ik_P D cI cS [.ref h0, .int x1, .int x2] (wz_X7 cI cS h0 h1 h2 h3 h4 h5 h6 h7 h8 h9 h10 h11 misKept mtaped msort mfrom mto mvalue mbad mm mkept mwas mother mfound mwarm mdrip mtape mbits msize mnumber)) (ik_Q (some (.int R)) D (wz_X7 cI cS h0 h1 h2 h3 h4 h5 h6 h7 h8 h9 h10 h11 misKept mtaped msort mfrom mto mvalue mbad mm_r mkept mwas mother mfound_r mwarm mdrip mtape mbits msize mnumber) (wz_X7 cI cS h0 h1 h2 h3 h4 h5 h6 h7 h8 h9 h10 h11 misKept mtaped msort mfrom mto mvalue mbad mm mkept mwas mother mfound mwarm mdrip mtape mbits msize mnumber)) 0 0 (ik_in (wz_X7 cI cS h0 h1 h2 h3 h4 h5 h6 h7 h8 h9 h10 h11 misKept mtaped msort mfrom mto mvalue mbad mm mkept mwas mother mfound mwarm mdrip mtape mbits msize mnumber)) := by
  refine ik_metW RX7 rfl (by decide) (Nat.le_of_ble_eq_true rfl) [(0, .ref h0), (1, .int x1), (2, .int x2)] rfl ?_
  intro p e s m below meth c C hr hlk
  unfold f_X7_water at hf
  refine ik_aload_n C 0 rfl rfl dX7_water_0 ?_
  refine ik_iload_n C 1 rfl rfl dX7_water_1 ?_
  obtain ⟨r1, hc1, hf⟩ := ik_b1s hf
  have hM := (c_X7_isBlock l D cI cS h0 h1 h2 h3 h4 h5 h6 h7 h8 h9 h10 h11 misKept mtaped msort mfrom mto mvalue mbad mm mkept mwas mother mfound mwarm mdrip mtape mbits msize mnumber x1 r1 hc1)
  refine ik_goR (ik_runV (st := []) (As := [.int x1]) C hM mv_X7_isBlock wl_9_17 ⟨rfl, rfl, Nat.le_of_ble_eq_true rfl, Nat.le_of_ble_eq_true rfl⟩ [0, 1, 2, 3, 4, 5, 6, 7, 8, 9, 10, 11] rfl (by decide +kernel) 0 rfl rfl rfl rfl (Nat.le_of_ble_eq_true rfl) dX7_water_2 ⟨Nat.zero_le _, Nat.zero_le _⟩) rfl ?_
  refine ik_if_eq C 15 dX7_water_5 (by decide) (fun hc => ?_) (fun hc => ?_)
  · have hf := ik_pos hc hf
    refine ik_aload_n C 0 rfl rfl dX7_water_15 ?_
    refine ik_ldc C wl_6_14 dX7_water_16 ?_
    obtain ⟨r2, g3, hc3, hf⟩ := ik_b2s hf
    have hM := (c_X7_finds l D cI cS h0 h1 h2 h3 h4 h5 h6 h7 h8 h9 h10 h11 misKept mtaped msort mfrom mto mvalue mbad mm mkept mwas mother mfound mwarm mdrip mtape mbits msize mnumber (-1000001 : Int32) r2 g3 hc3)
    refine ik_goW (v := (some (.int r2))) (wc := (wz_X7 cI cS h0 h1 h2 h3 h4 h5 h6 h7 h8 h9 h10 h11 misKept mtaped msort mfrom mto mvalue mbad mm mkept mwas mother mfound mwarm mdrip mtape mbits msize mnumber)) (w1 := (wz_X7 cI cS h0 h1 h2 h3 h4 h5 h6 h7 h8 h9 h10 h11 misKept mtaped msort mfrom mto mvalue mbad mm mkept mwas mother g3 mwarm mdrip mtape mbits msize mnumber)) [0, 1, 2, 3, 4, 5, 6, 7, 8, 9, 10, 11] [] 12 rfl rfl (wz_X7 cI cS h0 h1 h2 h3 h4 h5 h6 h7 h8 h9 h10 h11 misKept mtaped msort mfrom mto mvalue mbad mm mkept mwas mother g3 mwarm mdrip mtape mbits msize mnumber) rfl [] rfl rfl rfl (by decide +kernel) (ik_runV (st := []) (As := [.int (-1000001 : Int32)]) C hM mv_X7_finds wl_7_8 ⟨rfl, rfl, Nat.le_of_ble_eq_true rfl, Nat.le_of_ble_eq_true rfl⟩ [0, 1, 2, 3, 4, 5, 6, 7, 8, 9, 10, 11] rfl (by decide +kernel) 0 rfl rfl rfl rfl (Nat.le_of_ble_eq_true rfl) dX7_water_18 ⟨Nat.zero_le _, Nat.zero_le _⟩) rfl ?_
    obtain ⟨rfl, rfl, rfl⟩ := ik_e3 hf
    exact ik_iretW C hr hlk dX7_water_21
  · have hf := ik_neg hc hf
    refine ik_iload_n C 2 rfl rfl dX7_water_8 ?_
    obtain ⟨r2, hc2, hf⟩ := ik_b1s hf
    have hM := (c_X7_isSome l D cI cS x2 r2 hc2)
    refine ik_goR (ik_runS (st := []) (As := [.int x2]) C hM ms_X7_isSome wl_7_4 ⟨rfl, rfl, Nat.le_of_ble_eq_true rfl, Nat.le_of_ble_eq_true rfl⟩ [] rfl (by decide +kernel) rfl rfl (Nat.le_of_ble_eq_true rfl) dX7_water_9 ⟨Nat.zero_le _, Nat.zero_le _⟩) rfl ?_
    refine ik_if_ne C 22 dX7_water_12 (by decide) (fun hc => ?_) (fun hc => ?_)
    · have hf := ik_neg hc hf
      refine ik_aload_n C 0 rfl rfl dX7_water_22 ?_
      refine ik_iload_n C 1 rfl rfl dX7_water_23 ?_
      obtain ⟨r3, hc3, hf⟩ := ik_b1s hf
      have hM := (c_X7_isGone l D cI cS h0 h1 h2 h3 h4 h5 h6 h7 h8 h9 h10 h11 misKept mtaped msort mfrom mto mvalue mbad mm mkept mwas mother mfound mwarm mdrip mtape mbits msize mnumber x1 r3 hc3)
      refine ik_goR (ik_runV (st := []) (As := [.int x1]) C hM mv_X7_isGone wl_10_5 ⟨rfl, rfl, Nat.le_of_ble_eq_true rfl, Nat.le_of_ble_eq_true rfl⟩ [0, 1, 2, 3, 4, 5, 6, 7, 8, 9, 10, 11] rfl (by decide +kernel) 0 rfl rfl rfl rfl (Nat.le_of_ble_eq_true rfl) dX7_water_24 ⟨Nat.zero_le _, Nat.zero_le _⟩) rfl ?_
      refine ik_if_ne C 42 dX7_water_27 (by decide) (fun hc => ?_) (fun hc => ?_)
      · have hf := ik_neg hc hf
        refine ik_aload_n C 0 rfl rfl dX7_water_42 ?_
        refine ik_ldc C wl_6_16 dX7_water_43 ?_
        obtain ⟨r4, g5, hc5, hf⟩ := ik_b2s hf
        have hM := (c_X7_finds l D cI cS h0 h1 h2 h3 h4 h5 h6 h7 h8 h9 h10 h11 misKept mtaped msort mfrom mto mvalue mbad mm mkept mwas mother mfound mwarm mdrip mtape mbits msize mnumber (-1000005 : Int32) r4 g5 hc5)
        refine ik_goW (v := (some (.int r4))) (wc := (wz_X7 cI cS h0 h1 h2 h3 h4 h5 h6 h7 h8 h9 h10 h11 misKept mtaped msort mfrom mto mvalue mbad mm mkept mwas mother mfound mwarm mdrip mtape mbits msize mnumber)) (w1 := (wz_X7 cI cS h0 h1 h2 h3 h4 h5 h6 h7 h8 h9 h10 h11 misKept mtaped msort mfrom mto mvalue mbad mm mkept mwas mother g5 mwarm mdrip mtape mbits msize mnumber)) [0, 1, 2, 3, 4, 5, 6, 7, 8, 9, 10, 11] [] 12 rfl rfl (wz_X7 cI cS h0 h1 h2 h3 h4 h5 h6 h7 h8 h9 h10 h11 misKept mtaped msort mfrom mto mvalue mbad mm mkept mwas mother g5 mwarm mdrip mtape mbits msize mnumber) rfl [] rfl rfl rfl (by decide +kernel) (ik_runV (st := []) (As := [.int (-1000005 : Int32)]) C hM mv_X7_finds wl_7_8 ⟨rfl, rfl, Nat.le_of_ble_eq_true rfl, Nat.le_of_ble_eq_true rfl⟩ [0, 1, 2, 3, 4, 5, 6, 7, 8, 9, 10, 11] rfl (by decide +kernel) 0 rfl rfl rfl rfl (Nat.le_of_ble_eq_true rfl) dX7_water_45 ⟨Nat.zero_le _, Nat.zero_le _⟩) rfl ?_
        obtain ⟨rfl, rfl, rfl⟩ := ik_e3 hf
        exact ik_iretW C hr hlk dX7_water_48
      · have hf := ik_pos hc hf
        refine ik_aload_n C 0 rfl rfl dX7_water_30 ?_
        refine ik_aload_n C 0 rfl rfl dX7_water_31 ?_
        refine ik_iload_n C 1 rfl rfl dX7_water_32 ?_
        obtain ⟨r4, hc4, hf⟩ := ik_b1s hf
        have hM := (c_X7_cellOf l D cI cS h0 h1 h2 h3 h4 h5 h6 h7 h8 h9 h10 h11 misKept mtaped msort mfrom mto mvalue mbad mm mkept mwas mother mfound mwarm mdrip mtape mbits msize mnumber x1 r4 hc4)
        refine ik_goR (ik_runV (st := [.ref h0]) (As := [.int x1]) C hM mv_X7_cellOf wl_7_16 ⟨rfl, rfl, Nat.le_of_ble_eq_true rfl, Nat.le_of_ble_eq_true rfl⟩ [0, 1, 2, 3, 4, 5, 6, 7, 8, 9, 10, 11] rfl (by decide +kernel) 0 rfl rfl rfl rfl (Nat.le_of_ble_eq_true rfl) dX7_water_33 ⟨Nat.zero_le _, Nat.zero_le _⟩) rfl ?_
        obtain ⟨r5, hc5, hf⟩ := ik_b1s hf
        have hM := (c_X7_warmthOf l D cI cS h0 h1 h2 h3 h4 h5 h6 h7 h8 h9 h10 h11 misKept mtaped msort mfrom mto mvalue mbad mm mkept mwas mother mfound mwarm mdrip mtape mbits msize mnumber r4 r5 hc5)
        refine ik_goR (ik_runV (st := []) (As := [.int r4]) C hM mv_X7_warmthOf wl_14_12 ⟨rfl, rfl, Nat.le_of_ble_eq_true rfl, Nat.le_of_ble_eq_true rfl⟩ [0, 1, 2, 3, 4, 5, 6, 7, 8, 9, 10, 11] rfl (by decide +kernel) 0 rfl rfl rfl rfl (Nat.le_of_ble_eq_true rfl) dX7_water_36 ⟨Nat.zero_le _, Nat.zero_le _⟩) rfl ?_
        refine ik_if_lt C 49 dX7_water_39 (by decide) (fun hc => ?_) (fun hc => ?_)
        · have hf := ik_pos hc hf
          refine ik_bipush (v := (99 : Int32)) C (by decide) dX7_water_49 ?_
          refine ik_aload_n C 0 rfl rfl dX7_water_51 ?_
          refine ik_iload_n C 1 rfl rfl dX7_water_52 ?_
          obtain ⟨r6, hc6, hf⟩ := ik_b1s hf
          have hM := (c_X7_grains l D cI cS h0 h1 h2 h3 h4 h5 h6 h7 h8 h9 h10 h11 misKept mtaped msort mfrom mto mvalue mbad mm mkept mwas mother mfound mwarm mdrip mtape mbits msize mnumber x1 r6 hc6)
          refine ik_goR (ik_runV (st := [.int (99 : Int32)]) (As := [.int x1]) C hM mv_X7_grains wl_10_1 ⟨rfl, rfl, Nat.le_of_ble_eq_true rfl, Nat.le_of_ble_eq_true rfl⟩ [0, 1, 2, 3, 4, 5, 6, 7, 8, 9, 10, 11] rfl (by decide +kernel) 0 rfl rfl rfl rfl (Nat.le_of_ble_eq_true rfl) dX7_water_53 ⟨Nat.zero_le _, Nat.zero_le _⟩) rfl ?_
          refine ik_isub C dX7_water_56 ?_
          refine ik_istore_n C [(3, .int ((99 : Int32) - r6)), (0, .ref h0), (1, .int x1), (2, .int x2)] rfl (by decide) rfl dX7_water_57 ?_
          refine ik_iload_n C 3 rfl rfl dX7_water_58 ?_
          refine ik_iload_n C 0 rfl rfl dX7_water_59 ?_
          refine ik_icmp_ge C 67 dX7_water_60 (by decide) (fun hc => ?_) (fun hc => ?_)
          · have hf := ik_pos hc hf
            refine ik_iload_n C 0 rfl rfl dX7_water_67 ?_
            refine ik_istore C [(4, .int ((99 : Int32) - r6)), (3, .int ((99 : Int32) - r6)), (0, .ref h0), (1, .int x1), (2, .int x2)] (by decide) rfl dX7_water_68 ?_
            refine ik_aload_n C 2 rfl rfl dX7_water_70 ?_
            refine ik_iload_n C 3 rfl rfl dX7_water_71 ?_
            refine ik_aload_n C 2 rfl rfl dX7_water_72 ?_
            refine ik_iload_n C 3 rfl rfl dX7_water_73 ?_
            obtain ⟨r7, hc7, hf⟩ := ik_b1s hf
            have hM := (c_X7_grains l D cI cS h0 h1 h2 h3 h4 h5 h6 h7 h8 h9 h10 h11 misKept mtaped msort mfrom mto mvalue mbad mm mkept mwas mother mfound mwarm mdrip mtape mbits msize mnumber x1 r7 hc7)
            refine ik_goR (ik_runV (st := [.int x1, .ref h0]) (As := [.int x1]) C hM mv_X7_grains wl_10_1 ⟨rfl, rfl, Nat.le_of_ble_eq_true rfl, Nat.le_of_ble_eq_true rfl⟩ [0, 1, 2, 3, 4, 5, 6, 7, 8, 9, 10, 11] rfl (by decide +kernel) 0 rfl rfl rfl rfl (Nat.le_of_ble_eq_true rfl) dX7_water_74 ⟨Nat.zero_le _, Nat.zero_le _⟩) rfl ?_
            refine ik_iload C 0 rfl dX7_water_77 ?_
            refine ik_iadd C dX7_water_79 ?_
            obtain ⟨g8, hc8, hf⟩ := ik_b1s hf
            have hM := (c_X7_makes l D cI cS h0 h1 h2 h3 h4 h5 h6 h7 h8 h9 h10 h11 misKept mtaped msort mfrom mto mvalue mbad mm mkept mwas mother mfound mwarm mdrip mtape mbits msize mnumber x1 (r7 + ((99 : Int32) - r6)) g8 hc8)
            refine ik_goW (v := none) (wc := (wz_X7 cI cS h0 h1 h2 h3 h4 h5 h6 h7 h8 h9 h10 h11 misKept mtaped msort mfrom mto mvalue mbad mm mkept mwas mother mfound mwarm mdrip mtape mbits msize mnumber)) (w1 := (wz_X7 cI cS h0 h1 h2 h3 h4 h5 h6 h7 h8 h9 h10 h11 misKept mtaped msort mfrom mto mvalue mbad g8 mkept mwas mother mfound mwarm mdrip mtape mbits msize mnumber)) [0, 1, 2, 3, 4, 5, 6, 7, 8, 9, 10, 11] [] 12 rfl rfl (wz_X7 cI cS h0 h1 h2 h3 h4 h5 h6 h7 h8 h9 h10 h11 misKept mtaped msort mfrom mto mvalue mbad g8 mkept mwas mother mfound mwarm mdrip mtape mbits msize mnumber) rfl [] rfl rfl rfl (by decide +kernel) (ik_runV (st := []) (As := [.int x1, .int (r7 + ((99 : Int32) - r6))]) C hM mv_X7_makes wl_14_23 ⟨rfl, rfl, Nat.le_of_ble_eq_true rfl, Nat.le_of_ble_eq_true rfl⟩ [0, 1, 2, 3, 4, 5, 6, 7, 8, 9, 10, 11] rfl (by decide +kernel) 0 rfl rfl rfl rfl (Nat.le_of_ble_eq_true rfl) dX7_water_80 ⟨Nat.zero_le _, Nat.zero_le _⟩) rfl ?_
            refine ik_iload C 0 rfl dX7_water_83 ?_
            obtain ⟨rfl, rfl, rfl⟩ := ik_e3 hf
            exact ik_iretW C hr hlk dX7_water_85
          · have hf := ik_neg hc hf
            refine ik_iload_n C 3 rfl rfl dX7_water_63 ?_
            refine ik_goto C 68 dX7_water_64 (by decide) ?_
            refine ik_istore C [(4, .int x2), (3, .int ((99 : Int32) - r6)), (0, .ref h0), (1, .int x1), (2, .int x2)] (by decide) rfl dX7_water_68 ?_
            refine ik_aload_n C 2 rfl rfl dX7_water_70 ?_
            refine ik_iload_n C 3 rfl rfl dX7_water_71 ?_
            refine ik_aload_n C 2 rfl rfl dX7_water_72 ?_
            refine ik_iload_n C 3 rfl rfl dX7_water_73 ?_
            obtain ⟨r7, hc7, hf⟩ := ik_b1s hf
            have hM := (c_X7_grains l D cI cS h0 h1 h2 h3 h4 h5 h6 h7 h8 h9 h10 h11 misKept mtaped msort mfrom mto mvalue mbad mm mkept mwas mother mfound mwarm mdrip mtape mbits msize mnumber x1 r7 hc7)
            refine ik_goR (ik_runV (st := [.int x1, .ref h0]) (As := [.int x1]) C hM mv_X7_grains wl_10_1 ⟨rfl, rfl, Nat.le_of_ble_eq_true rfl, Nat.le_of_ble_eq_true rfl⟩ [0, 1, 2, 3, 4, 5, 6, 7, 8, 9, 10, 11] rfl (by decide +kernel) 0 rfl rfl rfl rfl (Nat.le_of_ble_eq_true rfl) dX7_water_74 ⟨Nat.zero_le _, Nat.zero_le _⟩) rfl ?_
            refine ik_iload C 0 rfl dX7_water_77 ?_
            refine ik_iadd C dX7_water_79 ?_
            obtain ⟨g8, hc8, hf⟩ := ik_b1s hf
            have hM := (c_X7_makes l D cI cS h0 h1 h2 h3 h4 h5 h6 h7 h8 h9 h10 h11 misKept mtaped msort mfrom mto mvalue mbad mm mkept mwas mother mfound mwarm mdrip mtape mbits msize mnumber x1 (r7 + x2) g8 hc8)
            refine ik_goW (v := none) (wc := (wz_X7 cI cS h0 h1 h2 h3 h4 h5 h6 h7 h8 h9 h10 h11 misKept mtaped msort mfrom mto mvalue mbad mm mkept mwas mother mfound mwarm mdrip mtape mbits msize mnumber)) (w1 := (wz_X7 cI cS h0 h1 h2 h3 h4 h5 h6 h7 h8 h9 h10 h11 misKept mtaped msort mfrom mto mvalue mbad g8 mkept mwas mother mfound mwarm mdrip mtape mbits msize mnumber)) [0, 1, 2, 3, 4, 5, 6, 7, 8, 9, 10, 11] [] 12 rfl rfl (wz_X7 cI cS h0 h1 h2 h3 h4 h5 h6 h7 h8 h9 h10 h11 misKept mtaped msort mfrom mto mvalue mbad g8 mkept mwas mother mfound mwarm mdrip mtape mbits msize mnumber) rfl [] rfl rfl rfl (by decide +kernel) (ik_runV (st := []) (As := [.int x1, .int (r7 + x2)]) C hM mv_X7_makes wl_14_23 ⟨rfl, rfl, Nat.le_of_ble_eq_true rfl, Nat.le_of_ble_eq_true rfl⟩ [0, 1, 2, 3, 4, 5, 6, 7, 8, 9, 10, 11] rfl (by decide +kernel) 0 rfl rfl rfl rfl (Nat.le_of_ble_eq_true rfl) dX7_water_80 ⟨Nat.zero_le _, Nat.zero_le _⟩) rfl ?_
            refine ik_iload C 0 rfl dX7_water_83 ?_
            obtain ⟨rfl, rfl, rfl⟩ := ik_e3 hf
            exact ik_iretW C hr hlk dX7_water_85
        · have hf := ik_neg hc hf
          refine ik_aload_n C 0 rfl rfl dX7_water_42 ?_
          refine ik_ldc C wl_6_16 dX7_water_43 ?_
          obtain ⟨r6, g7, hc7, hf⟩ := ik_b2s hf
          have hM := (c_X7_finds l D cI cS h0 h1 h2 h3 h4 h5 h6 h7 h8 h9 h10 h11 misKept mtaped msort mfrom mto mvalue mbad mm mkept mwas mother mfound mwarm mdrip mtape mbits msize mnumber (-1000005 : Int32) r6 g7 hc7)
          refine ik_goW (v := (some (.int r6))) (wc := (wz_X7 cI cS h0 h1 h2 h3 h4 h5 h6 h7 h8 h9 h10 h11 misKept mtaped msort mfrom mto mvalue mbad mm mkept mwas mother mfound mwarm mdrip mtape mbits msize mnumber)) (w1 := (wz_X7 cI cS h0 h1 h2 h3 h4 h5 h6 h7 h8 h9 h10 h11 misKept mtaped msort mfrom mto mvalue mbad mm mkept mwas mother g7 mwarm mdrip mtape mbits msize mnumber)) [0, 1, 2, 3, 4, 5, 6, 7, 8, 9, 10, 11] [] 12 rfl rfl (wz_X7 cI cS h0 h1 h2 h3 h4 h5 h6 h7 h8 h9 h10 h11 misKept mtaped msort mfrom mto mvalue mbad mm mkept mwas mother g7 mwarm mdrip mtape mbits msize mnumber) rfl [] rfl rfl rfl (by decide +kernel) (ik_runV (st := []) (As := [.int (-1000005 : Int32)]) C hM mv_X7_finds wl_7_8 ⟨rfl, rfl, Nat.le_of_ble_eq_true rfl, Nat.le_of_ble_eq_true rfl⟩ [0, 1, 2, 3, 4, 5, 6, 7, 8, 9, 10, 11] rfl (by decide +kernel) 0 rfl rfl rfl rfl (Nat.le_of_ble_eq_true rfl) dX7_water_45 ⟨Nat.zero_le _, Nat.zero_le _⟩) rfl ?_
          obtain ⟨rfl, rfl, rfl⟩ := ik_e3 hf
          exact ik_iretW C hr hlk dX7_water_48
    · have hf := ik_pos hc hf
      refine ik_aload_n C 0 rfl rfl dX7_water_15 ?_
      refine ik_ldc C wl_6_14 dX7_water_16 ?_
      obtain ⟨r3, g4, hc4, hf⟩ := ik_b2s hf
      have hM := (c_X7_finds l D cI cS h0 h1 h2 h3 h4 h5 h6 h7 h8 h9 h10 h11 misKept mtaped msort mfrom mto mvalue mbad mm mkept mwas mother mfound mwarm mdrip mtape mbits msize mnumber (-1000001 : Int32) r3 g4 hc4)
      refine ik_goW (v := (some (.int r3))) (wc := (wz_X7 cI cS h0 h1 h2 h3 h4 h5 h6 h7 h8 h9 h10 h11 misKept mtaped msort mfrom mto mvalue mbad mm mkept mwas mother mfound mwarm mdrip mtape mbits msize mnumber)) (w1 := (wz_X7 cI cS h0 h1 h2 h3 h4 h5 h6 h7 h8 h9 h10 h11 misKept mtaped msort mfrom mto mvalue mbad mm mkept mwas mother g4 mwarm mdrip mtape mbits msize mnumber)) [0, 1, 2, 3, 4, 5, 6, 7, 8, 9, 10, 11] [] 12 rfl rfl (wz_X7 cI cS h0 h1 h2 h3 h4 h5 h6 h7 h8 h9 h10 h11 misKept mtaped msort mfrom mto mvalue mbad mm mkept mwas mother g4 mwarm mdrip mtape mbits msize mnumber) rfl [] rfl rfl rfl (by decide +kernel) (ik_runV (st := []) (As := [.int (-1000001 : Int32)]) C hM mv_X7_finds wl_7_8 ⟨rfl, rfl, Nat.le_of_ble_eq_true rfl, Nat.le_of_ble_eq_true rfl⟩ [0, 1, 2, 3, 4, 5, 6, 7, 8, 9, 10, 11] rfl (by decide +kernel) 0 rfl rfl rfl rfl (Nat.le_of_ble_eq_true rfl) dX7_water_18 ⟨Nat.zero_le _, Nat.zero_le _⟩) rfl ?_
      obtain ⟨rfl, rfl, rfl⟩ := ik_e3 hf
      exact ik_iretW C hr hlk dX7_water_21
theorem mv_X7_candle : ik_V yX7_candle RX7 cX7_candle 5 (some .int) 3 := ⟨wl_15_13, wl_15_14, wl_1_5, wl_15_15, by decide +kernel⟩
set_option maxHeartbeats 4000000 in
set_option maxRecDepth 100000 in
theorem c_X7_candle (l : Launch) (D : va_G) (cI cS : ClassId) (h0 h1 h2 h3 h4 h5 h6 h7 h8 h9 h10 h11 : Nat) (misKept : Int32) (mtaped : Int32) (msort : Int32) (mfrom : Int32) (mto : Int32) (mvalue : Int32) (mbad : Int32) (mm : Nat → Int32) (mkept : Nat → Int32) (mwas : Nat → Int32) (mother : Nat → Int32) (mfound : Nat → Int32) (mwarm : Nat → Int32) (mdrip : Nat → Int32) (mtape : Nat → Int32) (mbits : Nat → Int32) (msize : Nat → Int32) (mnumber : Nat → Int32) (x1 : Int32) (x2 : Int32) (x3 : Int32) (R : Int32) (mm_r : Nat → Int32) (mfound_r : Nat → Int32) (hf : f_X7_candle mm mfound x1 x2 x3 = some (R, mm_r, mfound_r)) : Met l yX7_candle (ik_ws yX7_candle cX7_candle 5 (some .int)) ({ frames := 2, cells := 0, slots := 0, locals := 45 } : Room) (ik_P D cI cS [.ref h0, .int x1, .int x2, .int x3] (wz_X7 cI cS h0 h1 h2 h3 h4 h5 h6 h7 h8 h9 h10 h11 misKept mtaped msort mfrom mto mvalue mbad mm mkept mwas mother mfound mwarm mdrip mtape mbits msize mnumber)) (ik_Q (some (.int R)) D (wz_X7 cI cS h0 h1 h2 h3 h4 h5 h6 h7 h8 h9 h10 h11 misKept mtaped msort mfrom mto mvalue mbad mm_r mkept mwas mother mfound_r mwarm mdrip mtape mbits msize mnumber) (wz_X7 cI cS h0 h1 h2 h3 h4 h5 h6 h7 h8 h9 h10 h11 misKept mtaped msort mfrom mto mvalue mbad mm mkept mwas mother mfound mwarm mdrip mtape mbits msize mnumber)) 0 0 (ik_in (wz_X7 cI cS h0 h1 h2 h3 h4 h5 h6 h7 h8 h9 h10 h11 misKept mtaped msort mfrom mto mvalue mbad mm mkept mwas mother mfound mwarm mdrip mtape mbits msize mnumber)) := by
  refine ik_metW RX7 rfl (by decide) (Nat.le_of_ble_eq_true rfl) [(0, .ref h0), (1, .int x1), (2, .int x2), (3, .int x3)] rfl ?_
  intro p e s m below meth c C hr hlk
  unfold f_X7_candle at hf
  refine ik_iload_n C 2 rfl rfl dX7_candle_0 ?_
  refine ik_if_ne C 11 dX7_candle_1 (by decide) (fun hc => ?_) (fun hc => ?_)
  · have hf := ik_neg hc hf
    refine ik_iload_n C 2 rfl rfl dX7_candle_11 ?_
    refine ik_iconst (v := (1 : Int32)) C (by decide) dX7_candle_12 ?_
    refine ik_icmp_ne C 32 dX7_candle_13 (by decide) (fun hc => ?_) (fun hc => ?_)
    · have hf := ik_neg hc hf
      refine ik_iconst (v := (0 : Int32)) C (by decide) dX7_candle_32 ?_
      refine ik_istore C [(4, .int (0 : Int32)), (0, .ref h0), (1, .int x1), (2, .int x2), (3, .int x3)] (by decide) rfl dX7_candle_33 ?_
      refine ik_iload_n C 2 rfl rfl dX7_candle_35 ?_
      obtain ⟨r1, hc1, hf⟩ := ik_b1s hf
      have hM := (c_X7_isCandle l D cI cS x1 r1 hc1)
      refine ik_goR (ik_runS (st := []) (As := [.int x1]) C hM ms_X7_isCandle wl_15_17 ⟨rfl, rfl, Nat.le_of_ble_eq_true rfl, Nat.le_of_ble_eq_true rfl⟩ [] rfl (by decide +kernel) rfl rfl (Nat.le_of_ble_eq_true rfl) dX7_candle_36 ⟨Nat.zero_le _, Nat.zero_le _⟩) rfl ?_
      refine ik_if_eq C 63 dX7_candle_39 (by decide) (fun hc => ?_) (fun hc => ?_)
      · have hf := ik_pos hc hf
        refine ik_aload_n C 1 rfl rfl dX7_candle_63 ?_
        refine ik_ldc C wl_6_14 dX7_candle_64 ?_
        obtain ⟨r2, g3, hc3, hf⟩ := ik_b2s hf
        have hM := (c_X7_finds l D cI cS h0 h1 h2 h3 h4 h5 h6 h7 h8 h9 h10 h11 misKept mtaped msort mfrom mto mvalue mbad mm mkept mwas mother mfound mwarm mdrip mtape mbits msize mnumber (-1000001 : Int32) r2 g3 hc3)
        refine ik_goW (v := (some (.int r2))) (wc := (wz_X7 cI cS h0 h1 h2 h3 h4 h5 h6 h7 h8 h9 h10 h11 misKept mtaped msort mfrom mto mvalue mbad mm mkept mwas mother mfound mwarm mdrip mtape mbits msize mnumber)) (w1 := (wz_X7 cI cS h0 h1 h2 h3 h4 h5 h6 h7 h8 h9 h10 h11 misKept mtaped msort mfrom mto mvalue mbad mm mkept mwas mother g3 mwarm mdrip mtape mbits msize mnumber)) [0, 1, 2, 3, 4, 5, 6, 7, 8, 9, 10, 11] [] 12 rfl rfl (wz_X7 cI cS h0 h1 h2 h3 h4 h5 h6 h7 h8 h9 h10 h11 misKept mtaped msort mfrom mto mvalue mbad mm mkept mwas mother g3 mwarm mdrip mtape mbits msize mnumber) rfl [] rfl rfl rfl (by decide +kernel) (ik_runV (st := []) (As := [.int (-1000001 : Int32)]) C hM mv_X7_finds wl_7_8 ⟨rfl, rfl, Nat.le_of_ble_eq_true rfl, Nat.le_of_ble_eq_true rfl⟩ [0, 1, 2, 3, 4, 5, 6, 7, 8, 9, 10, 11] rfl (by decide +kernel) 0 rfl rfl rfl rfl (Nat.le_of_ble_eq_true rfl) dX7_candle_66 ⟨Nat.zero_le _, Nat.zero_le _⟩) rfl ?_
        obtain ⟨rfl, rfl, rfl⟩ := ik_e3 hf
        exact ik_iretW C hr hlk dX7_candle_69
      · have hf := ik_neg hc hf
        refine ik_iload C 0 rfl dX7_candle_42 ?_
        refine ik_if_eq C 63 dX7_candle_44 (by decide) (fun hc => ?_) (fun hc => ?_)
        · have hf := ik_pos hc hf
          refine ik_aload_n C 1 rfl rfl dX7_candle_63 ?_
          refine ik_ldc C wl_6_14 dX7_candle_64 ?_
          obtain ⟨r2, g3, hc3, hf⟩ := ik_b2s hf
          have hM := (c_X7_finds l D cI cS h0 h1 h2 h3 h4 h5 h6 h7 h8 h9 h10 h11 misKept mtaped msort mfrom mto mvalue mbad mm mkept mwas mother mfound mwarm mdrip mtape mbits msize mnumber (-1000001 : Int32) r2 g3 hc3)
          refine ik_goW (v := (some (.int r2))) (wc := (wz_X7 cI cS h0 h1 h2 h3 h4 h5 h6 h7 h8 h9 h10 h11 misKept mtaped msort mfrom mto mvalue mbad mm mkept mwas mother mfound mwarm mdrip mtape mbits msize mnumber)) (w1 := (wz_X7 cI cS h0 h1 h2 h3 h4 h5 h6 h7 h8 h9 h10 h11 misKept mtaped msort mfrom mto mvalue mbad mm mkept mwas mother g3 mwarm mdrip mtape mbits msize mnumber)) [0, 1, 2, 3, 4, 5, 6, 7, 8, 9, 10, 11] [] 12 rfl rfl (wz_X7 cI cS h0 h1 h2 h3 h4 h5 h6 h7 h8 h9 h10 h11 misKept mtaped msort mfrom mto mvalue mbad mm mkept mwas mother g3 mwarm mdrip mtape mbits msize mnumber) rfl [] rfl rfl rfl (by decide +kernel) (ik_runV (st := []) (As := [.int (-1000001 : Int32)]) C hM mv_X7_finds wl_7_8 ⟨rfl, rfl, Nat.le_of_ble_eq_true rfl, Nat.le_of_ble_eq_true rfl⟩ [0, 1, 2, 3, 4, 5, 6, 7, 8, 9, 10, 11] rfl (by decide +kernel) 0 rfl rfl rfl rfl (Nat.le_of_ble_eq_true rfl) dX7_candle_66 ⟨Nat.zero_le _, Nat.zero_le _⟩) rfl ?_
          obtain ⟨rfl, rfl, rfl⟩ := ik_e3 hf
          exact ik_iretW C hr hlk dX7_candle_69
        · have hf := ik_neg hc hf
          refine ik_aload_n C 1 rfl rfl dX7_candle_47 ?_
          refine ik_bipush (v := (6 : Int32)) C (by decide) dX7_candle_48 ?_
          refine ik_iconst (v := (3 : Int32)) C (by decide) dX7_candle_50 ?_
          refine ik_iload_n C 2 rfl rfl dX7_candle_51 ?_
          refine ik_imul C dX7_candle_52 ?_
          refine ik_iadd C dX7_candle_53 ?_
          refine ik_iload_n C 3 rfl rfl dX7_candle_54 ?_
          refine ik_iadd C dX7_candle_55 ?_
          refine ik_iload_n C 4 rfl rfl dX7_candle_56 ?_
          obtain ⟨r2, g3, hc3, hf⟩ := ik_b2s hf
          have hM := (c_X7_becomes l D cI cS h0 h1 h2 h3 h4 h5 h6 h7 h8 h9 h10 h11 misKept mtaped msort mfrom mto mvalue mbad mm mkept mwas mother mfound mwarm mdrip mtape mbits msize mnumber (((6 : Int32) + ((3 : Int32) * x1)) + x2) x3 r2 g3 hc3)
          refine ik_goW (v := (some (.int r2))) (wc := (wz_X7 cI cS h0 h1 h2 h3 h4 h5 h6 h7 h8 h9 h10 h11 misKept mtaped msort mfrom mto mvalue mbad mm mkept mwas mother mfound mwarm mdrip mtape mbits msize mnumber)) (w1 := (wz_X7 cI cS h0 h1 h2 h3 h4 h5 h6 h7 h8 h9 h10 h11 misKept mtaped msort mfrom mto mvalue mbad g3 mkept mwas mother mfound mwarm mdrip mtape mbits msize mnumber)) [0, 1, 2, 3, 4, 5, 6, 7, 8, 9, 10, 11] [] 12 rfl rfl (wz_X7 cI cS h0 h1 h2 h3 h4 h5 h6 h7 h8 h9 h10 h11 misKept mtaped msort mfrom mto mvalue mbad g3 mkept mwas mother mfound mwarm mdrip mtape mbits msize mnumber) rfl [] rfl rfl rfl (by decide +kernel) (ik_runV (st := []) (As := [.int (((6 : Int32) + ((3 : Int32) * x1)) + x2), .int x3]) C hM mv_X7_becomes wl_12_4 ⟨rfl, rfl, Nat.le_of_ble_eq_true rfl, Nat.le_of_ble_eq_true rfl⟩ [0, 1, 2, 3, 4, 5, 6, 7, 8, 9, 10, 11] rfl (by decide +kernel) 0 rfl rfl rfl rfl (Nat.le_of_ble_eq_true rfl) dX7_candle_57 ⟨Nat.zero_le _, Nat.zero_le _⟩) rfl ?_
          refine ik_goto C 69 dX7_candle_60 (by decide) ?_
          obtain ⟨rfl, rfl, rfl⟩ := ik_e3 hf
          exact ik_iretW C hr hlk dX7_candle_69
    · have hf := ik_pos hc hf
      refine ik_iload_n C 3 rfl rfl dX7_candle_16 ?_
      refine ik_i2l C dX7_candle_17 ?_
      refine ik_lconst (v := (0 : Int64)) C (by decide) dX7_candle_18 ?_
      refine ik_ldc2 C wl_15_16 dX7_candle_19 ?_
      obtain ⟨r1, hc1, hf⟩ := ik_b1s hf
      have hM := (c_X7_in l D cI cS (x3).toInt64 (0 : Int64) (30 : Int64) r1 hc1)
      refine ik_goR (ik_runS (st := []) (As := [.long (x3).toInt64, .long (0 : Int64), .long (30 : Int64)]) C hM ms_X7_in wl_6_21 ⟨rfl, rfl, Nat.le_of_ble_eq_true rfl, Nat.le_of_ble_eq_true rfl⟩ [] rfl (by decide +kernel) rfl rfl (Nat.le_of_ble_eq_true rfl) dX7_candle_22 ⟨Nat.zero_le _, Nat.zero_le _⟩) rfl ?_
      refine ik_if_eq C 32 dX7_candle_25 (by decide) (fun hc => ?_) (fun hc => ?_)
      · have hf := ik_pos hc hf
        refine ik_iconst (v := (0 : Int32)) C (by decide) dX7_candle_32 ?_
        refine ik_istore C [(4, .int (0 : Int32)), (0, .ref h0), (1, .int x1), (2, .int x2), (3, .int x3)] (by decide) rfl dX7_candle_33 ?_
        refine ik_iload_n C 2 rfl rfl dX7_candle_35 ?_
        obtain ⟨r2, hc2, hf⟩ := ik_b1s hf
        have hM := (c_X7_isCandle l D cI cS x1 r2 hc2)
        refine ik_goR (ik_runS (st := []) (As := [.int x1]) C hM ms_X7_isCandle wl_15_17 ⟨rfl, rfl, Nat.le_of_ble_eq_true rfl, Nat.le_of_ble_eq_true rfl⟩ [] rfl (by decide +kernel) rfl rfl (Nat.le_of_ble_eq_true rfl) dX7_candle_36 ⟨Nat.zero_le _, Nat.zero_le _⟩) rfl ?_
        refine ik_if_eq C 63 dX7_candle_39 (by decide) (fun hc => ?_) (fun hc => ?_)
        · have hf := ik_pos hc hf
          refine ik_aload_n C 1 rfl rfl dX7_candle_63 ?_
          refine ik_ldc C wl_6_14 dX7_candle_64 ?_
          obtain ⟨r3, g4, hc4, hf⟩ := ik_b2s hf
          have hM := (c_X7_finds l D cI cS h0 h1 h2 h3 h4 h5 h6 h7 h8 h9 h10 h11 misKept mtaped msort mfrom mto mvalue mbad mm mkept mwas mother mfound mwarm mdrip mtape mbits msize mnumber (-1000001 : Int32) r3 g4 hc4)
          refine ik_goW (v := (some (.int r3))) (wc := (wz_X7 cI cS h0 h1 h2 h3 h4 h5 h6 h7 h8 h9 h10 h11 misKept mtaped msort mfrom mto mvalue mbad mm mkept mwas mother mfound mwarm mdrip mtape mbits msize mnumber)) (w1 := (wz_X7 cI cS h0 h1 h2 h3 h4 h5 h6 h7 h8 h9 h10 h11 misKept mtaped msort mfrom mto mvalue mbad mm mkept mwas mother g4 mwarm mdrip mtape mbits msize mnumber)) [0, 1, 2, 3, 4, 5, 6, 7, 8, 9, 10, 11] [] 12 rfl rfl (wz_X7 cI cS h0 h1 h2 h3 h4 h5 h6 h7 h8 h9 h10 h11 misKept mtaped msort mfrom mto mvalue mbad mm mkept mwas mother g4 mwarm mdrip mtape mbits msize mnumber) rfl [] rfl rfl rfl (by decide +kernel) (ik_runV (st := []) (As := [.int (-1000001 : Int32)]) C hM mv_X7_finds wl_7_8 ⟨rfl, rfl, Nat.le_of_ble_eq_true rfl, Nat.le_of_ble_eq_true rfl⟩ [0, 1, 2, 3, 4, 5, 6, 7, 8, 9, 10, 11] rfl (by decide +kernel) 0 rfl rfl rfl rfl (Nat.le_of_ble_eq_true rfl) dX7_candle_66 ⟨Nat.zero_le _, Nat.zero_le _⟩) rfl ?_
          obtain ⟨rfl, rfl, rfl⟩ := ik_e3 hf
          exact ik_iretW C hr hlk dX7_candle_69
        · have hf := ik_neg hc hf
          refine ik_iload C 0 rfl dX7_candle_42 ?_
          refine ik_if_eq C 63 dX7_candle_44 (by decide) (fun hc => ?_) (fun hc => ?_)
          · have hf := ik_pos hc hf
            refine ik_aload_n C 1 rfl rfl dX7_candle_63 ?_
            refine ik_ldc C wl_6_14 dX7_candle_64 ?_
            obtain ⟨r3, g4, hc4, hf⟩ := ik_b2s hf
            have hM := (c_X7_finds l D cI cS h0 h1 h2 h3 h4 h5 h6 h7 h8 h9 h10 h11 misKept mtaped msort mfrom mto mvalue mbad mm mkept mwas mother mfound mwarm mdrip mtape mbits msize mnumber (-1000001 : Int32) r3 g4 hc4)
            refine ik_goW (v := (some (.int r3))) (wc := (wz_X7 cI cS h0 h1 h2 h3 h4 h5 h6 h7 h8 h9 h10 h11 misKept mtaped msort mfrom mto mvalue mbad mm mkept mwas mother mfound mwarm mdrip mtape mbits msize mnumber)) (w1 := (wz_X7 cI cS h0 h1 h2 h3 h4 h5 h6 h7 h8 h9 h10 h11 misKept mtaped msort mfrom mto mvalue mbad mm mkept mwas mother g4 mwarm mdrip mtape mbits msize mnumber)) [0, 1, 2, 3, 4, 5, 6, 7, 8, 9, 10, 11] [] 12 rfl rfl (wz_X7 cI cS h0 h1 h2 h3 h4 h5 h6 h7 h8 h9 h10 h11 misKept mtaped msort mfrom mto mvalue mbad mm mkept mwas mother g4 mwarm mdrip mtape mbits msize mnumber) rfl [] rfl rfl rfl (by decide +kernel) (ik_runV (st := []) (As := [.int (-1000001 : Int32)]) C hM mv_X7_finds wl_7_8 ⟨rfl, rfl, Nat.le_of_ble_eq_true rfl, Nat.le_of_ble_eq_true rfl⟩ [0, 1, 2, 3, 4, 5, 6, 7, 8, 9, 10, 11] rfl (by decide +kernel) 0 rfl rfl rfl rfl (Nat.le_of_ble_eq_true rfl) dX7_candle_66 ⟨Nat.zero_le _, Nat.zero_le _⟩) rfl ?_
            obtain ⟨rfl, rfl, rfl⟩ := ik_e3 hf
            exact ik_iretW C hr hlk dX7_candle_69
          · have hf := ik_neg hc hf
            refine ik_aload_n C 1 rfl rfl dX7_candle_47 ?_
            refine ik_bipush (v := (6 : Int32)) C (by decide) dX7_candle_48 ?_
            refine ik_iconst (v := (3 : Int32)) C (by decide) dX7_candle_50 ?_
            refine ik_iload_n C 2 rfl rfl dX7_candle_51 ?_
            refine ik_imul C dX7_candle_52 ?_
            refine ik_iadd C dX7_candle_53 ?_
            refine ik_iload_n C 3 rfl rfl dX7_candle_54 ?_
            refine ik_iadd C dX7_candle_55 ?_
            refine ik_iload_n C 4 rfl rfl dX7_candle_56 ?_
            obtain ⟨r3, g4, hc4, hf⟩ := ik_b2s hf
            have hM := (c_X7_becomes l D cI cS h0 h1 h2 h3 h4 h5 h6 h7 h8 h9 h10 h11 misKept mtaped msort mfrom mto mvalue mbad mm mkept mwas mother mfound mwarm mdrip mtape mbits msize mnumber (((6 : Int32) + ((3 : Int32) * x1)) + x2) x3 r3 g4 hc4)
            refine ik_goW (v := (some (.int r3))) (wc := (wz_X7 cI cS h0 h1 h2 h3 h4 h5 h6 h7 h8 h9 h10 h11 misKept mtaped msort mfrom mto mvalue mbad mm mkept mwas mother mfound mwarm mdrip mtape mbits msize mnumber)) (w1 := (wz_X7 cI cS h0 h1 h2 h3 h4 h5 h6 h7 h8 h9 h10 h11 misKept mtaped msort mfrom mto mvalue mbad g4 mkept mwas mother mfound mwarm mdrip mtape mbits msize mnumber)) [0, 1, 2, 3, 4, 5, 6, 7, 8, 9, 10, 11] [] 12 rfl rfl (wz_X7 cI cS h0 h1 h2 h3 h4 h5 h6 h7 h8 h9 h10 h11 misKept mtaped msort mfrom mto mvalue mbad g4 mkept mwas mother mfound mwarm mdrip mtape mbits msize mnumber) rfl [] rfl rfl rfl (by decide +kernel) (ik_runV (st := []) (As := [.int (((6 : Int32) + ((3 : Int32) * x1)) + x2), .int x3]) C hM mv_X7_becomes wl_12_4 ⟨rfl, rfl, Nat.le_of_ble_eq_true rfl, Nat.le_of_ble_eq_true rfl⟩ [0, 1, 2, 3, 4, 5, 6, 7, 8, 9, 10, 11] rfl (by decide +kernel) 0 rfl rfl rfl rfl (Nat.le_of_ble_eq_true rfl) dX7_candle_57 ⟨Nat.zero_le _, Nat.zero_le _⟩) rfl ?_
            refine ik_goto C 69 dX7_candle_60 (by decide) ?_
            obtain ⟨rfl, rfl, rfl⟩ := ik_e3 hf
            exact ik_iretW C hr hlk dX7_candle_69
      · have hf := ik_neg hc hf
        refine ik_iconst (v := (1 : Int32)) C (by decide) dX7_candle_28 ?_
        refine ik_goto C 33 dX7_candle_29 (by decide) ?_
        refine ik_istore C [(4, .int (1 : Int32)), (0, .ref h0), (1, .int x1), (2, .int x2), (3, .int x3)] (by decide) rfl dX7_candle_33 ?_
        refine ik_iload_n C 2 rfl rfl dX7_candle_35 ?_
        obtain ⟨r2, hc2, hf⟩ := ik_b1s hf
        have hM := (c_X7_isCandle l D cI cS x1 r2 hc2)
        refine ik_goR (ik_runS (st := []) (As := [.int x1]) C hM ms_X7_isCandle wl_15_17 ⟨rfl, rfl, Nat.le_of_ble_eq_true rfl, Nat.le_of_ble_eq_true rfl⟩ [] rfl (by decide +kernel) rfl rfl (Nat.le_of_ble_eq_true rfl) dX7_candle_36 ⟨Nat.zero_le _, Nat.zero_le _⟩) rfl ?_
        refine ik_if_eq C 63 dX7_candle_39 (by decide) (fun hc => ?_) (fun hc => ?_)
        · have hf := ik_pos hc hf
          refine ik_aload_n C 1 rfl rfl dX7_candle_63 ?_
          refine ik_ldc C wl_6_14 dX7_candle_64 ?_
          obtain ⟨r3, g4, hc4, hf⟩ := ik_b2s hf
          have hM := (c_X7_finds l D cI cS h0 h1 h2 h3 h4 h5 h6 h7 h8 h9 h10 h11 misKept mtaped msort mfrom mto mvalue mbad mm mkept mwas mother mfound mwarm mdrip mtape mbits msize mnumber (-1000001 : Int32) r3 g4 hc4)
          refine ik_goW (v := (some (.int r3))) (wc := (wz_X7 cI cS h0 h1 h2 h3 h4 h5 h6 h7 h8 h9 h10 h11 misKept mtaped msort mfrom mto mvalue mbad mm mkept mwas mother mfound mwarm mdrip mtape mbits msize mnumber)) (w1 := (wz_X7 cI cS h0 h1 h2 h3 h4 h5 h6 h7 h8 h9 h10 h11 misKept mtaped msort mfrom mto mvalue mbad mm mkept mwas mother g4 mwarm mdrip mtape mbits msize mnumber)) [0, 1, 2, 3, 4, 5, 6, 7, 8, 9, 10, 11] [] 12 rfl rfl (wz_X7 cI cS h0 h1 h2 h3 h4 h5 h6 h7 h8 h9 h10 h11 misKept mtaped msort mfrom mto mvalue mbad mm mkept mwas mother g4 mwarm mdrip mtape mbits msize mnumber) rfl [] rfl rfl rfl (by decide +kernel) (ik_runV (st := []) (As := [.int (-1000001 : Int32)]) C hM mv_X7_finds wl_7_8 ⟨rfl, rfl, Nat.le_of_ble_eq_true rfl, Nat.le_of_ble_eq_true rfl⟩ [0, 1, 2, 3, 4, 5, 6, 7, 8, 9, 10, 11] rfl (by decide +kernel) 0 rfl rfl rfl rfl (Nat.le_of_ble_eq_true rfl) dX7_candle_66 ⟨Nat.zero_le _, Nat.zero_le _⟩) rfl ?_
          obtain ⟨rfl, rfl, rfl⟩ := ik_e3 hf
          exact ik_iretW C hr hlk dX7_candle_69
        · have hf := ik_neg hc hf
          refine ik_iload C 0 rfl dX7_candle_42 ?_
          refine ik_if_eq C 63 dX7_candle_44 (by decide) (fun hc => ?_) (fun hc => ?_)
          · have hf := ik_pos hc hf
            refine ik_aload_n C 1 rfl rfl dX7_candle_63 ?_
            refine ik_ldc C wl_6_14 dX7_candle_64 ?_
            obtain ⟨r3, g4, hc4, hf⟩ := ik_b2s hf
            have hM := (c_X7_finds l D cI cS h0 h1 h2 h3 h4 h5 h6 h7 h8 h9 h10 h11 misKept mtaped msort mfrom mto mvalue mbad mm mkept mwas mother mfound mwarm mdrip mtape mbits msize mnumber (-1000001 : Int32) r3 g4 hc4)
            refine ik_goW (v := (some (.int r3))) (wc := (wz_X7 cI cS h0 h1 h2 h3 h4 h5 h6 h7 h8 h9 h10 h11 misKept mtaped msort mfrom mto mvalue mbad mm mkept mwas mother mfound mwarm mdrip mtape mbits msize mnumber)) (w1 := (wz_X7 cI cS h0 h1 h2 h3 h4 h5 h6 h7 h8 h9 h10 h11 misKept mtaped msort mfrom mto mvalue mbad mm mkept mwas mother g4 mwarm mdrip mtape mbits msize mnumber)) [0, 1, 2, 3, 4, 5, 6, 7, 8, 9, 10, 11] [] 12 rfl rfl (wz_X7 cI cS h0 h1 h2 h3 h4 h5 h6 h7 h8 h9 h10 h11 misKept mtaped msort mfrom mto mvalue mbad mm mkept mwas mother g4 mwarm mdrip mtape mbits msize mnumber) rfl [] rfl rfl rfl (by decide +kernel) (ik_runV (st := []) (As := [.int (-1000001 : Int32)]) C hM mv_X7_finds wl_7_8 ⟨rfl, rfl, Nat.le_of_ble_eq_true rfl, Nat.le_of_ble_eq_true rfl⟩ [0, 1, 2, 3, 4, 5, 6, 7, 8, 9, 10, 11] rfl (by decide +kernel) 0 rfl rfl rfl rfl (Nat.le_of_ble_eq_true rfl) dX7_candle_66 ⟨Nat.zero_le _, Nat.zero_le _⟩) rfl ?_
            obtain ⟨rfl, rfl, rfl⟩ := ik_e3 hf
            exact ik_iretW C hr hlk dX7_candle_69
          · have hf := ik_neg hc hf
            refine ik_aload_n C 1 rfl rfl dX7_candle_47 ?_
            refine ik_bipush (v := (6 : Int32)) C (by decide) dX7_candle_48 ?_
            refine ik_iconst (v := (3 : Int32)) C (by decide) dX7_candle_50 ?_
            refine ik_iload_n C 2 rfl rfl dX7_candle_51 ?_
            refine ik_imul C dX7_candle_52 ?_
            refine ik_iadd C dX7_candle_53 ?_
            refine ik_iload_n C 3 rfl rfl dX7_candle_54 ?_
            refine ik_iadd C dX7_candle_55 ?_
            refine ik_iload_n C 4 rfl rfl dX7_candle_56 ?_
            obtain ⟨r3, g4, hc4, hf⟩ := ik_b2s hf
            have hM := (c_X7_becomes l D cI cS h0 h1 h2 h3 h4 h5 h6 h7 h8 h9 h10 h11 misKept mtaped msort mfrom mto mvalue mbad mm mkept mwas mother mfound mwarm mdrip mtape mbits msize mnumber (((6 : Int32) + ((3 : Int32) * x1)) + x2) x3 r3 g4 hc4)
            refine ik_goW (v := (some (.int r3))) (wc := (wz_X7 cI cS h0 h1 h2 h3 h4 h5 h6 h7 h8 h9 h10 h11 misKept mtaped msort mfrom mto mvalue mbad mm mkept mwas mother mfound mwarm mdrip mtape mbits msize mnumber)) (w1 := (wz_X7 cI cS h0 h1 h2 h3 h4 h5 h6 h7 h8 h9 h10 h11 misKept mtaped msort mfrom mto mvalue mbad g4 mkept mwas mother mfound mwarm mdrip mtape mbits msize mnumber)) [0, 1, 2, 3, 4, 5, 6, 7, 8, 9, 10, 11] [] 12 rfl rfl (wz_X7 cI cS h0 h1 h2 h3 h4 h5 h6 h7 h8 h9 h10 h11 misKept mtaped msort mfrom mto mvalue mbad g4 mkept mwas mother mfound mwarm mdrip mtape mbits msize mnumber) rfl [] rfl rfl rfl (by decide +kernel) (ik_runV (st := []) (As := [.int (((6 : Int32) + ((3 : Int32) * x1)) + x2), .int x3]) C hM mv_X7_becomes wl_12_4 ⟨rfl, rfl, Nat.le_of_ble_eq_true rfl, Nat.le_of_ble_eq_true rfl⟩ [0, 1, 2, 3, 4, 5, 6, 7, 8, 9, 10, 11] rfl (by decide +kernel) 0 rfl rfl rfl rfl (Nat.le_of_ble_eq_true rfl) dX7_candle_57 ⟨Nat.zero_le _, Nat.zero_le _⟩) rfl ?_
            refine ik_goto C 69 dX7_candle_60 (by decide) ?_
            obtain ⟨rfl, rfl, rfl⟩ := ik_e3 hf
            exact ik_iretW C hr hlk dX7_candle_69
  · have hf := ik_pos hc hf
    refine ik_iload_n C 3 rfl rfl dX7_candle_4 ?_
    obtain ⟨r1, hc1, hf⟩ := ik_b1s hf
    have hM := (c_X7_isCell l D cI cS x3 r1 hc1)
    refine ik_goR (ik_runS (st := []) (As := [.int x3]) C hM ms_X7_isCell wl_7_0 ⟨rfl, rfl, Nat.le_of_ble_eq_true rfl, Nat.le_of_ble_eq_true rfl⟩ [] rfl (by decide +kernel) rfl rfl (Nat.le_of_ble_eq_true rfl) dX7_candle_5 ⟨Nat.zero_le _, Nat.zero_le _⟩) rfl ?_
    refine ik_goto C 33 dX7_candle_8 (by decide) ?_
    refine ik_istore C [(4, .int r1), (0, .ref h0), (1, .int x1), (2, .int x2), (3, .int x3)] (by decide) rfl dX7_candle_33 ?_
    refine ik_iload_n C 2 rfl rfl dX7_candle_35 ?_
    obtain ⟨r2, hc2, hf⟩ := ik_b1s hf
    have hM := (c_X7_isCandle l D cI cS x1 r2 hc2)
    refine ik_goR (ik_runS (st := []) (As := [.int x1]) C hM ms_X7_isCandle wl_15_17 ⟨rfl, rfl, Nat.le_of_ble_eq_true rfl, Nat.le_of_ble_eq_true rfl⟩ [] rfl (by decide +kernel) rfl rfl (Nat.le_of_ble_eq_true rfl) dX7_candle_36 ⟨Nat.zero_le _, Nat.zero_le _⟩) rfl ?_
    refine ik_if_eq C 63 dX7_candle_39 (by decide) (fun hc => ?_) (fun hc => ?_)
    · have hf := ik_pos hc hf
      refine ik_aload_n C 1 rfl rfl dX7_candle_63 ?_
      refine ik_ldc C wl_6_14 dX7_candle_64 ?_
      obtain ⟨r3, g4, hc4, hf⟩ := ik_b2s hf
      have hM := (c_X7_finds l D cI cS h0 h1 h2 h3 h4 h5 h6 h7 h8 h9 h10 h11 misKept mtaped msort mfrom mto mvalue mbad mm mkept mwas mother mfound mwarm mdrip mtape mbits msize mnumber (-1000001 : Int32) r3 g4 hc4)
      refine ik_goW (v := (some (.int r3))) (wc := (wz_X7 cI cS h0 h1 h2 h3 h4 h5 h6 h7 h8 h9 h10 h11 misKept mtaped msort mfrom mto mvalue mbad mm mkept mwas mother mfound mwarm mdrip mtape mbits msize mnumber)) (w1 := (wz_X7 cI cS h0 h1 h2 h3 h4 h5 h6 h7 h8 h9 h10 h11 misKept mtaped msort mfrom mto mvalue mbad mm mkept mwas mother g4 mwarm mdrip mtape mbits msize mnumber)) [0, 1, 2, 3, 4, 5, 6, 7, 8, 9, 10, 11] [] 12 rfl rfl (wz_X7 cI cS h0 h1 h2 h3 h4 h5 h6 h7 h8 h9 h10 h11 misKept mtaped msort mfrom mto mvalue mbad mm mkept mwas mother g4 mwarm mdrip mtape mbits msize mnumber) rfl [] rfl rfl rfl (by decide +kernel) (ik_runV (st := []) (As := [.int (-1000001 : Int32)]) C hM mv_X7_finds wl_7_8 ⟨rfl, rfl, Nat.le_of_ble_eq_true rfl, Nat.le_of_ble_eq_true rfl⟩ [0, 1, 2, 3, 4, 5, 6, 7, 8, 9, 10, 11] rfl (by decide +kernel) 0 rfl rfl rfl rfl (Nat.le_of_ble_eq_true rfl) dX7_candle_66 ⟨Nat.zero_le _, Nat.zero_le _⟩) rfl ?_
      obtain ⟨rfl, rfl, rfl⟩ := ik_e3 hf
      exact ik_iretW C hr hlk dX7_candle_69
    · have hf := ik_neg hc hf
      refine ik_iload C 0 rfl dX7_candle_42 ?_
      refine ik_if_eq C 63 dX7_candle_44 (by decide) (fun hc => ?_) (fun hc => ?_)
      · have hf := ik_pos hc hf
        refine ik_aload_n C 1 rfl rfl dX7_candle_63 ?_
        refine ik_ldc C wl_6_14 dX7_candle_64 ?_
        obtain ⟨r3, g4, hc4, hf⟩ := ik_b2s hf
        have hM := (c_X7_finds l D cI cS h0 h1 h2 h3 h4 h5 h6 h7 h8 h9 h10 h11 misKept mtaped msort mfrom mto mvalue mbad mm mkept mwas mother mfound mwarm mdrip mtape mbits msize mnumber (-1000001 : Int32) r3 g4 hc4)
        refine ik_goW (v := (some (.int r3))) (wc := (wz_X7 cI cS h0 h1 h2 h3 h4 h5 h6 h7 h8 h9 h10 h11 misKept mtaped msort mfrom mto mvalue mbad mm mkept mwas mother mfound mwarm mdrip mtape mbits msize mnumber)) (w1 := (wz_X7 cI cS h0 h1 h2 h3 h4 h5 h6 h7 h8 h9 h10 h11 misKept mtaped msort mfrom mto mvalue mbad mm mkept mwas mother g4 mwarm mdrip mtape mbits msize mnumber)) [0, 1, 2, 3, 4, 5, 6, 7, 8, 9, 10, 11] [] 12 rfl rfl (wz_X7 cI cS h0 h1 h2 h3 h4 h5 h6 h7 h8 h9 h10 h11 misKept mtaped msort mfrom mto mvalue mbad mm mkept mwas mother g4 mwarm mdrip mtape mbits msize mnumber) rfl [] rfl rfl rfl (by decide +kernel) (ik_runV (st := []) (As := [.int (-1000001 : Int32)]) C hM mv_X7_finds wl_7_8 ⟨rfl, rfl, Nat.le_of_ble_eq_true rfl, Nat.le_of_ble_eq_true rfl⟩ [0, 1, 2, 3, 4, 5, 6, 7, 8, 9, 10, 11] rfl (by decide +kernel) 0 rfl rfl rfl rfl (Nat.le_of_ble_eq_true rfl) dX7_candle_66 ⟨Nat.zero_le _, Nat.zero_le _⟩) rfl ?_
        obtain ⟨rfl, rfl, rfl⟩ := ik_e3 hf
        exact ik_iretW C hr hlk dX7_candle_69
      · have hf := ik_neg hc hf
        refine ik_aload_n C 1 rfl rfl dX7_candle_47 ?_
        refine ik_bipush (v := (6 : Int32)) C (by decide) dX7_candle_48 ?_
        refine ik_iconst (v := (3 : Int32)) C (by decide) dX7_candle_50 ?_
        refine ik_iload_n C 2 rfl rfl dX7_candle_51 ?_
        refine ik_imul C dX7_candle_52 ?_
        refine ik_iadd C dX7_candle_53 ?_
        refine ik_iload_n C 3 rfl rfl dX7_candle_54 ?_
        refine ik_iadd C dX7_candle_55 ?_
        refine ik_iload_n C 4 rfl rfl dX7_candle_56 ?_
        obtain ⟨r3, g4, hc4, hf⟩ := ik_b2s hf
        have hM := (c_X7_becomes l D cI cS h0 h1 h2 h3 h4 h5 h6 h7 h8 h9 h10 h11 misKept mtaped msort mfrom mto mvalue mbad mm mkept mwas mother mfound mwarm mdrip mtape mbits msize mnumber (((6 : Int32) + ((3 : Int32) * x1)) + x2) x3 r3 g4 hc4)
        refine ik_goW (v := (some (.int r3))) (wc := (wz_X7 cI cS h0 h1 h2 h3 h4 h5 h6 h7 h8 h9 h10 h11 misKept mtaped msort mfrom mto mvalue mbad mm mkept mwas mother mfound mwarm mdrip mtape mbits msize mnumber)) (w1 := (wz_X7 cI cS h0 h1 h2 h3 h4 h5 h6 h7 h8 h9 h10 h11 misKept mtaped msort mfrom mto mvalue mbad g4 mkept mwas mother mfound mwarm mdrip mtape mbits msize mnumber)) [0, 1, 2, 3, 4, 5, 6, 7, 8, 9, 10, 11] [] 12 rfl rfl (wz_X7 cI cS h0 h1 h2 h3 h4 h5 h6 h7 h8 h9 h10 h11 misKept mtaped msort mfrom mto mvalue mbad g4 mkept mwas mother mfound mwarm mdrip mtape mbits msize mnumber) rfl [] rfl rfl rfl (by decide +kernel) (ik_runV (st := []) (As := [.int (((6 : Int32) + ((3 : Int32) * x1)) + x2), .int x3]) C hM mv_X7_becomes wl_12_4 ⟨rfl, rfl, Nat.le_of_ble_eq_true rfl, Nat.le_of_ble_eq_true rfl⟩ [0, 1, 2, 3, 4, 5, 6, 7, 8, 9, 10, 11] rfl (by decide +kernel) 0 rfl rfl rfl rfl (Nat.le_of_ble_eq_true rfl) dX7_candle_57 ⟨Nat.zero_le _, Nat.zero_le _⟩) rfl ?_
        refine ik_goto C 69 dX7_candle_60 (by decide) ?_
        obtain ⟨rfl, rfl, rfl⟩ := ik_e3 hf
        exact ik_iretW C hr hlk dX7_candle_69
theorem mv_X7_lit : ik_V yX7_lit RX7 cX7_lit 3 (some .int) 2 := ⟨wl_16_7, wl_16_8, wl_1_5, wl_16_9, by decide +kernel⟩
set_option maxHeartbeats 4000000 in
set_option maxRecDepth 100000 in
theorem c_X7_lit (l : Launch) (D : va_G) (cI cS : ClassId) (h0 h1 h2 h3 h4 h5 h6 h7 h8 h9 h10 h11 : Nat) (misKept : Int32) (mtaped : Int32) (msort : Int32) (mfrom : Int32) (mto : Int32) (mvalue : Int32) (mbad : Int32) (mm : Nat → Int32) (mkept : Nat → Int32) (mwas : Nat → Int32) (mother : Nat → Int32) (mfound : Nat → Int32) (mwarm : Nat → Int32) (mdrip : Nat → Int32) (mtape : Nat → Int32) (mbits : Nat → Int32) (msize : Nat → Int32) (mnumber : Nat → Int32) (x1 : Int32) (x2 : Int32) (R : Int32) (mm_r : Nat → Int32) (mfound_r : Nat → Int32) (hf : f_X7_lit mm mfound x1 x2 = some (R, mm_r, mfound_r)) : Met l yX7_lit (ik_ws yX7_lit cX7_lit 3 (some .int)) ({ frames := 2, cells := 0, slots := 0, locals := 45 } : Room) (ik_P D cI cS [.ref h0, .int x1, .int x2] (wz_X7 cI cS h0 h1 h2 h3 h4 h5 h6 h7 h8 h9 h10 h11 misKept mtaped msort mfrom mto mvalue mbad mm mkept mwas mother mfound mwarm mdrip mtape mbits msize mnumber)) (ik_Q (some (.int R)) D (wz_X7 cI cS h0 h1 h2 h3 h4 h5 h6 h7 h8 h9 h10 h11 misKept mtaped msort mfrom mto mvalue mbad mm_r mkept mwas mother mfound_r mwarm mdrip mtape mbits msize mnumber) (wz_X7 cI cS h0 h1 h2 h3 h4 h5 h6 h7 h8 h9 h10 h11 misKept mtaped msort mfrom mto mvalue mbad mm mkept mwas mother mfound mwarm mdrip mtape mbits msize mnumber)) 0 0 (ik_in (wz_X7 cI cS h0 h1 h2 h3 h4 h5 h6 h7 h8 h9 h10 h11 misKept mtaped msort mfrom mto mvalue mbad mm mkept mwas mother mfound mwarm mdrip mtape mbits msize mnumber)) := by
  refine ik_metW RX7 rfl (by decide) (Nat.le_of_ble_eq_true rfl) [(0, .ref h0), (1, .int x1), (2, .int x2)] rfl ?_
  intro p e s m below meth c C hr hlk
  unfold f_X7_lit at hf
  refine ik_iload_n C 1 rfl rfl dX7_lit_0 ?_
  obtain ⟨r1, hc1, hf⟩ := ik_b1s hf
  have hM := (c_X7_isCandle l D cI cS x1 r1 hc1)
  refine ik_goR (ik_runS (st := []) (As := [.int x1]) C hM ms_X7_isCandle wl_15_17 ⟨rfl, rfl, Nat.le_of_ble_eq_true rfl, Nat.le_of_ble_eq_true rfl⟩ [] rfl (by decide +kernel) rfl rfl (Nat.le_of_ble_eq_true rfl) dX7_lit_1 ⟨Nat.zero_le _, Nat.zero_le _⟩) rfl ?_
  refine ik_if_eq C 31 dX7_lit_4 (by decide) (fun hc => ?_) (fun hc => ?_)
  · have hf := ik_pos hc hf
    refine ik_aload_n C 0 rfl rfl dX7_lit_31 ?_
    refine ik_ldc C wl_6_14 dX7_lit_32 ?_
    obtain ⟨r2, g3, hc3, hf⟩ := ik_b2s hf
    have hM := (c_X7_finds l D cI cS h0 h1 h2 h3 h4 h5 h6 h7 h8 h9 h10 h11 misKept mtaped msort mfrom mto mvalue mbad mm mkept mwas mother mfound mwarm mdrip mtape mbits msize mnumber (-1000001 : Int32) r2 g3 hc3)
    refine ik_goW (v := (some (.int r2))) (wc := (wz_X7 cI cS h0 h1 h2 h3 h4 h5 h6 h7 h8 h9 h10 h11 misKept mtaped msort mfrom mto mvalue mbad mm mkept mwas mother mfound mwarm mdrip mtape mbits msize mnumber)) (w1 := (wz_X7 cI cS h0 h1 h2 h3 h4 h5 h6 h7 h8 h9 h10 h11 misKept mtaped msort mfrom mto mvalue mbad mm mkept mwas mother g3 mwarm mdrip mtape mbits msize mnumber)) [0, 1, 2, 3, 4, 5, 6, 7, 8, 9, 10, 11] [] 12 rfl rfl (wz_X7 cI cS h0 h1 h2 h3 h4 h5 h6 h7 h8 h9 h10 h11 misKept mtaped msort mfrom mto mvalue mbad mm mkept mwas mother g3 mwarm mdrip mtape mbits msize mnumber) rfl [] rfl rfl rfl (by decide +kernel) (ik_runV (st := []) (As := [.int (-1000001 : Int32)]) C hM mv_X7_finds wl_7_8 ⟨rfl, rfl, Nat.le_of_ble_eq_true rfl, Nat.le_of_ble_eq_true rfl⟩ [0, 1, 2, 3, 4, 5, 6, 7, 8, 9, 10, 11] rfl (by decide +kernel) 0 rfl rfl rfl rfl (Nat.le_of_ble_eq_true rfl) dX7_lit_34 ⟨Nat.zero_le _, Nat.zero_le _⟩) rfl ?_
    obtain ⟨rfl, rfl, rfl⟩ := ik_e3 hf
    exact ik_iretW C hr hlk dX7_lit_37
  · have hf := ik_neg hc hf
    refine ik_aload_n C 0 rfl rfl dX7_lit_7 ?_
    refine ik_bipush (v := (6 : Int32)) C (by decide) dX7_lit_8 ?_
    refine ik_iconst (v := (3 : Int32)) C (by decide) dX7_lit_10 ?_
    refine ik_iload_n C 1 rfl rfl dX7_lit_11 ?_
    refine ik_imul C dX7_lit_12 ?_
    refine ik_iadd C dX7_lit_13 ?_
    refine ik_iconst (v := (2 : Int32)) C (by decide) dX7_lit_14 ?_
    refine ik_iadd C dX7_lit_15 ?_
    refine ik_iload_n C 2 rfl rfl dX7_lit_16 ?_
    refine ik_if_eq C 24 dX7_lit_17 (by decide) (fun hc => ?_) (fun hc => ?_)
    · have hf := ik_pos hc hf
      refine ik_iconst (v := (0 : Int32)) C (by decide) dX7_lit_24 ?_
      obtain ⟨r2, g3, hc3, hf⟩ := ik_b2s hf
      have hM := (c_X7_becomes l D cI cS h0 h1 h2 h3 h4 h5 h6 h7 h8 h9 h10 h11 misKept mtaped msort mfrom mto mvalue mbad mm mkept mwas mother mfound mwarm mdrip mtape mbits msize mnumber (((6 : Int32) + ((3 : Int32) * x1)) + (2 : Int32)) (0 : Int32) r2 g3 hc3)
      refine ik_goW (v := (some (.int r2))) (wc := (wz_X7 cI cS h0 h1 h2 h3 h4 h5 h6 h7 h8 h9 h10 h11 misKept mtaped msort mfrom mto mvalue mbad mm mkept mwas mother mfound mwarm mdrip mtape mbits msize mnumber)) (w1 := (wz_X7 cI cS h0 h1 h2 h3 h4 h5 h6 h7 h8 h9 h10 h11 misKept mtaped msort mfrom mto mvalue mbad g3 mkept mwas mother mfound mwarm mdrip mtape mbits msize mnumber)) [0, 1, 2, 3, 4, 5, 6, 7, 8, 9, 10, 11] [] 12 rfl rfl (wz_X7 cI cS h0 h1 h2 h3 h4 h5 h6 h7 h8 h9 h10 h11 misKept mtaped msort mfrom mto mvalue mbad g3 mkept mwas mother mfound mwarm mdrip mtape mbits msize mnumber) rfl [] rfl rfl rfl (by decide +kernel) (ik_runV (st := []) (As := [.int (((6 : Int32) + ((3 : Int32) * x1)) + (2 : Int32)), .int (0 : Int32)]) C hM mv_X7_becomes wl_12_4 ⟨rfl, rfl, Nat.le_of_ble_eq_true rfl, Nat.le_of_ble_eq_true rfl⟩ [0, 1, 2, 3, 4, 5, 6, 7, 8, 9, 10, 11] rfl (by decide +kernel) 0 rfl rfl rfl rfl (Nat.le_of_ble_eq_true rfl) dX7_lit_25 ⟨Nat.zero_le _, Nat.zero_le _⟩) rfl ?_
      refine ik_goto C 37 dX7_lit_28 (by decide) ?_
      obtain ⟨rfl, rfl, rfl⟩ := ik_e3 hf
      exact ik_iretW C hr hlk dX7_lit_37
    · have hf := ik_neg hc hf
      refine ik_iconst (v := (1 : Int32)) C (by decide) dX7_lit_20 ?_
      refine ik_goto C 25 dX7_lit_21 (by decide) ?_
      obtain ⟨r2, g3, hc3, hf⟩ := ik_b2s hf
      have hM := (c_X7_becomes l D cI cS h0 h1 h2 h3 h4 h5 h6 h7 h8 h9 h10 h11 misKept mtaped msort mfrom mto mvalue mbad mm mkept mwas mother mfound mwarm mdrip mtape mbits msize mnumber (((6 : Int32) + ((3 : Int32) * x1)) + (2 : Int32)) (1 : Int32) r2 g3 hc3)
      refine ik_goW (v := (some (.int r2))) (wc := (wz_X7 cI cS h0 h1 h2 h3 h4 h5 h6 h7 h8 h9 h10 h11 misKept mtaped msort mfrom mto mvalue mbad mm mkept mwas mother mfound mwarm mdrip mtape mbits msize mnumber)) (w1 := (wz_X7 cI cS h0 h1 h2 h3 h4 h5 h6 h7 h8 h9 h10 h11 misKept mtaped msort mfrom mto mvalue mbad g3 mkept mwas mother mfound mwarm mdrip mtape mbits msize mnumber)) [0, 1, 2, 3, 4, 5, 6, 7, 8, 9, 10, 11] [] 12 rfl rfl (wz_X7 cI cS h0 h1 h2 h3 h4 h5 h6 h7 h8 h9 h10 h11 misKept mtaped msort mfrom mto mvalue mbad g3 mkept mwas mother mfound mwarm mdrip mtape mbits msize mnumber) rfl [] rfl rfl rfl (by decide +kernel) (ik_runV (st := []) (As := [.int (((6 : Int32) + ((3 : Int32) * x1)) + (2 : Int32)), .int (1 : Int32)]) C hM mv_X7_becomes wl_12_4 ⟨rfl, rfl, Nat.le_of_ble_eq_true rfl, Nat.le_of_ble_eq_true rfl⟩ [0, 1, 2, 3, 4, 5, 6, 7, 8, 9, 10, 11] rfl (by decide +kernel) 0 rfl rfl rfl rfl (Nat.le_of_ble_eq_true rfl) dX7_lit_25 ⟨Nat.zero_le _, Nat.zero_le _⟩) rfl ?_
      refine ik_goto C 37 dX7_lit_28 (by decide) ?_
      obtain ⟨rfl, rfl, rfl⟩ := ik_e3 hf
      exact ik_iretW C hr hlk dX7_lit_37
theorem mv_X7_cold : ik_V yX7_cold RX7 cX7_cold 2 (some .int) 1 := ⟨wl_16_16, wl_16_17, wl_1_5, wl_16_18, by decide +kernel⟩
set_option maxHeartbeats 4000000 in
set_option maxRecDepth 100000 in
theorem c_X7_cold (l : Launch) (D : va_G) (cI cS : ClassId) (h0 h1 h2 h3 h4 h5 h6 h7 h8 h9 h10 h11 : Nat) (misKept : Int32) (mtaped : Int32) (msort : Int32) (mfrom : Int32) (mto : Int32) (mvalue : Int32) (mbad : Int32) (mm : Nat → Int32) (mkept : Nat → Int32) (mwas : Nat → Int32) (mother : Nat → Int32) (mfound : Nat → Int32) (mwarm : Nat → Int32) (mdrip : Nat → Int32) (mtape : Nat → Int32) (mbits : Nat → Int32) (msize : Nat → Int32) (mnumber : Nat → Int32) (x1 : Int32) (R : Int32) (mm_r : Nat → Int32) (mfound_r : Nat → Int32) (hf : f_X7_cold mm mfound x1 = some (R, mm_r, mfound_r)) : Met l yX7_cold (ik_ws yX7_cold cX7_cold 2 (some .int)) ({ frames := 1, cells := 0, slots := 0, locals := 25 } : Room) (ik_P D cI cS [.ref h0, .int x1] (wz_X7 cI cS h0 h1 h2 h3 h4 h5 h6 h7 h8 h9 h10 h11 misKept mtaped msort mfrom mto mvalue mbad mm mkept mwas mother mfound mwarm mdrip mtape mbits msize mnumber)) (ik_Q (some (.int R)) D (wz_X7 cI cS h0 h1 h2 h3 h4 h5 h6 h7 h8 h9 h10 h11 misKept mtaped msort mfrom mto mvalue mbad mm_r mkept mwas mother mfound_r mwarm mdrip mtape mbits msize mnumber) (wz_X7 cI cS h0 h1 h2 h3 h4 h5 h6 h7 h8 h9 h10 h11 misKept mtaped msort mfrom mto mvalue mbad mm mkept mwas mother mfound mwarm mdrip mtape mbits msize mnumber)) 0 0 (ik_in (wz_X7 cI cS h0 h1 h2 h3 h4 h5 h6 h7 h8 h9 h10 h11 misKept mtaped msort mfrom mto mvalue mbad mm mkept mwas mother mfound mwarm mdrip mtape mbits msize mnumber)) := by
  refine ik_metW RX7 rfl (by decide) (Nat.le_of_ble_eq_true rfl) [(0, .ref h0), (1, .int x1)] rfl ?_
  intro p e s m below meth c C hr hlk
  unfold f_X7_cold at hf
  refine ik_iload_n C 1 rfl rfl dX7_cold_0 ?_
  refine ik_i2l C dX7_cold_1 ?_
  refine ik_ldc2 C wl_16_19 dX7_cold_2 ?_
  refine ik_ldc2 C wl_16_20 dX7_cold_5 ?_
  obtain ⟨r1, hc1, hf⟩ := ik_b1s hf
  have hM := (c_X7_in l D cI cS (x1).toInt64 (-20 : Int64) (20 : Int64) r1 hc1)
  refine ik_goR (ik_runS (st := []) (As := [.long (x1).toInt64, .long (-20 : Int64), .long (20 : Int64)]) C hM ms_X7_in wl_6_21 ⟨rfl, rfl, Nat.le_of_ble_eq_true rfl, Nat.le_of_ble_eq_true rfl⟩ [] rfl (by decide +kernel) rfl rfl (Nat.le_of_ble_eq_true rfl) dX7_cold_8 ⟨Nat.zero_le _, Nat.zero_le _⟩) rfl ?_
  refine ik_if_eq C 23 dX7_cold_11 (by decide) (fun hc => ?_) (fun hc => ?_)
  · have hf := ik_pos hc hf
    refine ik_aload_n C 0 rfl rfl dX7_cold_23 ?_
    refine ik_ldc C wl_6_14 dX7_cold_24 ?_
    obtain ⟨r2, g3, hc3, hf⟩ := ik_b2s hf
    have hM := (c_X7_finds l D cI cS h0 h1 h2 h3 h4 h5 h6 h7 h8 h9 h10 h11 misKept mtaped msort mfrom mto mvalue mbad mm mkept mwas mother mfound mwarm mdrip mtape mbits msize mnumber (-1000001 : Int32) r2 g3 hc3)
    refine ik_goW (v := (some (.int r2))) (wc := (wz_X7 cI cS h0 h1 h2 h3 h4 h5 h6 h7 h8 h9 h10 h11 misKept mtaped msort mfrom mto mvalue mbad mm mkept mwas mother mfound mwarm mdrip mtape mbits msize mnumber)) (w1 := (wz_X7 cI cS h0 h1 h2 h3 h4 h5 h6 h7 h8 h9 h10 h11 misKept mtaped msort mfrom mto mvalue mbad mm mkept mwas mother g3 mwarm mdrip mtape mbits msize mnumber)) [0, 1, 2, 3, 4, 5, 6, 7, 8, 9, 10, 11] [] 12 rfl rfl (wz_X7 cI cS h0 h1 h2 h3 h4 h5 h6 h7 h8 h9 h10 h11 misKept mtaped msort mfrom mto mvalue mbad mm mkept mwas mother g3 mwarm mdrip mtape mbits msize mnumber) rfl [] rfl rfl rfl (by decide +kernel) (ik_runV (st := []) (As := [.int (-1000001 : Int32)]) C hM mv_X7_finds wl_7_8 ⟨rfl, rfl, Nat.le_of_ble_eq_true rfl, Nat.le_of_ble_eq_true rfl⟩ [0, 1, 2, 3, 4, 5, 6, 7, 8, 9, 10, 11] rfl (by decide +kernel) 0 rfl rfl rfl rfl (Nat.le_of_ble_eq_true rfl) dX7_cold_26 ⟨Nat.zero_le _, Nat.zero_le _⟩) rfl ?_
    obtain ⟨rfl, rfl, rfl⟩ := ik_e3 hf
    exact ik_iretW C hr hlk dX7_cold_29
  · have hf := ik_neg hc hf
    refine ik_aload_n C 0 rfl rfl dX7_cold_14 ?_
    refine ik_iconst (v := (1 : Int32)) C (by decide) dX7_cold_15 ?_
    refine ik_iload_n C 1 rfl rfl dX7_cold_16 ?_
    obtain ⟨r2, g3, hc3, hf⟩ := ik_b2s hf
    have hM := (c_X7_becomes l D cI cS h0 h1 h2 h3 h4 h5 h6 h7 h8 h9 h10 h11 misKept mtaped msort mfrom mto mvalue mbad mm mkept mwas mother mfound mwarm mdrip mtape mbits msize mnumber (1 : Int32) x1 r2 g3 hc3)
    refine ik_goW (v := (some (.int r2))) (wc := (wz_X7 cI cS h0 h1 h2 h3 h4 h5 h6 h7 h8 h9 h10 h11 misKept mtaped msort mfrom mto mvalue mbad mm mkept mwas mother mfound mwarm mdrip mtape mbits msize mnumber)) (w1 := (wz_X7 cI cS h0 h1 h2 h3 h4 h5 h6 h7 h8 h9 h10 h11 misKept mtaped msort mfrom mto mvalue mbad g3 mkept mwas mother mfound mwarm mdrip mtape mbits msize mnumber)) [0, 1, 2, 3, 4, 5, 6, 7, 8, 9, 10, 11] [] 12 rfl rfl (wz_X7 cI cS h0 h1 h2 h3 h4 h5 h6 h7 h8 h9 h10 h11 misKept mtaped msort mfrom mto mvalue mbad g3 mkept mwas mother mfound mwarm mdrip mtape mbits msize mnumber) rfl [] rfl rfl rfl (by decide +kernel) (ik_runV (st := []) (As := [.int (1 : Int32), .int x1]) C hM mv_X7_becomes wl_12_4 ⟨rfl, rfl, Nat.le_of_ble_eq_true rfl, Nat.le_of_ble_eq_true rfl⟩ [0, 1, 2, 3, 4, 5, 6, 7, 8, 9, 10, 11] rfl (by decide +kernel) 0 rfl rfl rfl rfl (Nat.le_of_ble_eq_true rfl) dX7_cold_17 ⟨Nat.zero_le _, Nat.zero_le _⟩) rfl ?_
    refine ik_goto C 29 dX7_cold_20 (by decide) ?_
    obtain ⟨rfl, rfl, rfl⟩ := ik_e3 hf
    exact ik_iretW C hr hlk dX7_cold_29
theorem mv_X7_warmth : ik_V yX7_warmth RX7 cX7_warmth 2 (some .int) 1 := ⟨wl_17_2, wl_17_3, wl_1_5, wl_17_4, by decide +kernel⟩
set_option maxHeartbeats 4000000 in
set_option maxRecDepth 100000 in
theorem c_X7_warmth (l : Launch) (D : va_G) (cI cS : ClassId) (h0 h1 h2 h3 h4 h5 h6 h7 h8 h9 h10 h11 : Nat) (misKept : Int32) (mtaped : Int32) (msort : Int32) (mfrom : Int32) (mto : Int32) (mvalue : Int32) (mbad : Int32) (mm : Nat → Int32) (mkept : Nat → Int32) (mwas : Nat → Int32) (mother : Nat → Int32) (mfound : Nat → Int32) (mwarm : Nat → Int32) (mdrip : Nat → Int32) (mtape : Nat → Int32) (mbits : Nat → Int32) (msize : Nat → Int32) (mnumber : Nat → Int32) (x1 : Int32) (R : Int32) (mfound_r : Nat → Int32) (hf : f_X7_warmth mm mfound x1 = some (R, mfound_r)) : Met l yX7_warmth (ik_ws yX7_warmth cX7_warmth 2 (some .int)) ({ frames := 2, cells := 0, slots := 0, locals := 46 } : Room) (ik_P D cI cS [.ref h0, .int x1] (wz_X7 cI cS h0 h1 h2 h3 h4 h5 h6 h7 h8 h9 h10 h11 misKept mtaped msort mfrom mto mvalue mbad mm mkept mwas mother mfound mwarm mdrip mtape mbits msize mnumber)) (ik_Q (some (.int R)) D (wz_X7 cI cS h0 h1 h2 h3 h4 h5 h6 h7 h8 h9 h10 h11 misKept mtaped msort mfrom mto mvalue mbad mm mkept mwas mother mfound_r mwarm mdrip mtape mbits msize mnumber) (wz_X7 cI cS h0 h1 h2 h3 h4 h5 h6 h7 h8 h9 h10 h11 misKept mtaped msort mfrom mto mvalue mbad mm mkept mwas mother mfound mwarm mdrip mtape mbits msize mnumber)) 0 0 (ik_in (wz_X7 cI cS h0 h1 h2 h3 h4 h5 h6 h7 h8 h9 h10 h11 misKept mtaped msort mfrom mto mvalue mbad mm mkept mwas mother mfound mwarm mdrip mtape mbits msize mnumber)) := by
  refine ik_metW RX7 rfl (by decide) (Nat.le_of_ble_eq_true rfl) [(0, .ref h0), (1, .int x1)] rfl ?_
  intro p e s m below meth c C hr hlk
  unfold f_X7_warmth at hf
  refine ik_iload_n C 1 rfl rfl dX7_warmth_0 ?_
  obtain ⟨r1, hc1, hf⟩ := ik_b1s hf
  have hM := (c_X7_isCell l D cI cS x1 r1 hc1)
  refine ik_goR (ik_runS (st := []) (As := [.int x1]) C hM ms_X7_isCell wl_7_0 ⟨rfl, rfl, Nat.le_of_ble_eq_true rfl, Nat.le_of_ble_eq_true rfl⟩ [] rfl (by decide +kernel) rfl rfl (Nat.le_of_ble_eq_true rfl) dX7_warmth_1 ⟨Nat.zero_le _, Nat.zero_le _⟩) rfl ?_
  refine ik_if_eq C 15 dX7_warmth_4 (by decide) (fun hc => ?_) (fun hc => ?_)
  · have hf := ik_pos hc hf
    refine ik_aload_n C 0 rfl rfl dX7_warmth_15 ?_
    refine ik_ldc C wl_6_14 dX7_warmth_16 ?_
    obtain ⟨r2, g3, hc3, hf⟩ := ik_b2s hf
    have hM := (c_X7_finds l D cI cS h0 h1 h2 h3 h4 h5 h6 h7 h8 h9 h10 h11 misKept mtaped msort mfrom mto mvalue mbad mm mkept mwas mother mfound mwarm mdrip mtape mbits msize mnumber (-1000001 : Int32) r2 g3 hc3)
    refine ik_goW (v := (some (.int r2))) (wc := (wz_X7 cI cS h0 h1 h2 h3 h4 h5 h6 h7 h8 h9 h10 h11 misKept mtaped msort mfrom mto mvalue mbad mm mkept mwas mother mfound mwarm mdrip mtape mbits msize mnumber)) (w1 := (wz_X7 cI cS h0 h1 h2 h3 h4 h5 h6 h7 h8 h9 h10 h11 misKept mtaped msort mfrom mto mvalue mbad mm mkept mwas mother g3 mwarm mdrip mtape mbits msize mnumber)) [0, 1, 2, 3, 4, 5, 6, 7, 8, 9, 10, 11] [] 12 rfl rfl (wz_X7 cI cS h0 h1 h2 h3 h4 h5 h6 h7 h8 h9 h10 h11 misKept mtaped msort mfrom mto mvalue mbad mm mkept mwas mother g3 mwarm mdrip mtape mbits msize mnumber) rfl [] rfl rfl rfl (by decide +kernel) (ik_runV (st := []) (As := [.int (-1000001 : Int32)]) C hM mv_X7_finds wl_7_8 ⟨rfl, rfl, Nat.le_of_ble_eq_true rfl, Nat.le_of_ble_eq_true rfl⟩ [0, 1, 2, 3, 4, 5, 6, 7, 8, 9, 10, 11] rfl (by decide +kernel) 0 rfl rfl rfl rfl (Nat.le_of_ble_eq_true rfl) dX7_warmth_18 ⟨Nat.zero_le _, Nat.zero_le _⟩) rfl ?_
    obtain ⟨rfl, rfl⟩ := ik_e2 hf
    exact ik_iretW C hr hlk dX7_warmth_21
  · have hf := ik_neg hc hf
    refine ik_aload_n C 0 rfl rfl dX7_warmth_7 ?_
    refine ik_iload_n C 1 rfl rfl dX7_warmth_8 ?_
    obtain ⟨r2, hc2, hf⟩ := ik_b1s hf
    have hM := (c_X7_warmthOf l D cI cS h0 h1 h2 h3 h4 h5 h6 h7 h8 h9 h10 h11 misKept mtaped msort mfrom mto mvalue mbad mm mkept mwas mother mfound mwarm mdrip mtape mbits msize mnumber x1 r2 hc2)
    refine ik_goR (ik_runV (st := []) (As := [.int x1]) C hM mv_X7_warmthOf wl_14_12 ⟨rfl, rfl, Nat.le_of_ble_eq_true rfl, Nat.le_of_ble_eq_true rfl⟩ [0, 1, 2, 3, 4, 5, 6, 7, 8, 9, 10, 11] rfl (by decide +kernel) 0 rfl rfl rfl rfl (Nat.le_of_ble_eq_true rfl) dX7_warmth_9 ⟨Nat.zero_le _, Nat.zero_le _⟩) rfl ?_
    refine ik_goto C 21 dX7_warmth_12 (by decide) ?_
    obtain ⟨rfl, rfl⟩ := ik_e2 hf
    exact ik_iretW C hr hlk dX7_warmth_21
theorem mv_X7_light : ik_V yX7_light RX7 cX7_light 3 (some .int) 0 := ⟨wl_17_15, wl_17_16, wl_1_5, wl_17_17, by decide +kernel⟩
set_option maxHeartbeats 4000000 in
set_option maxRecDepth 100000 in
theorem c_X7_light (l : Launch) (D : va_G) (cI cS : ClassId) (h0 h1 h2 h3 h4 h5 h6 h7 h8 h9 h10 h11 : Nat) (misKept : Int32) (mtaped : Int32) (msort : Int32) (mfrom : Int32) (mto : Int32) (mvalue : Int32) (mbad : Int32) (mm : Nat → Int32) (mkept : Nat → Int32) (mwas : Nat → Int32) (mother : Nat → Int32) (mfound : Nat → Int32) (mwarm : Nat → Int32) (mdrip : Nat → Int32) (mtape : Nat → Int32) (mbits : Nat → Int32) (msize : Nat → Int32) (mnumber : Nat → Int32) (R : Int32) (hf : f_X7_light mm = some (R)) : Met l yX7_light (ik_ws yX7_light cX7_light 3 (some .int)) ({ frames := 1, cells := 0, slots := 0, locals := 21 } : Room) (ik_P D cI cS [.ref h0] (wz_X7 cI cS h0 h1 h2 h3 h4 h5 h6 h7 h8 h9 h10 h11 misKept mtaped msort mfrom mto mvalue mbad mm mkept mwas mother mfound mwarm mdrip mtape mbits msize mnumber)) (ik_R (some (.int R))) 0 0 ik_no := by
  refine ik_metR RX7 rfl (by decide) (Nat.le_of_ble_eq_true rfl) [(0, .ref h0)] rfl ?_
  intro p e s m below meth c C hr hlk
  unfold f_X7_light at hf
  refine ik_iconst (v := (0 : Int32)) C (by decide) dX7_light_0 ?_
  refine ik_istore_n C [(1, .int (0 : Int32)), (0, .ref h0)] rfl (by decide) rfl dX7_light_1 ?_
  refine ik_iconst (v := (0 : Int32)) C (by decide) dX7_light_2 ?_
  refine ik_istore_n C [(2, .int (0 : Int32)), (1, .int (0 : Int32)), (0, .ref h0)] rfl (by decide) rfl dX7_light_3 ?_
  have hL_4 : ∀ (n_4 : Nat) (x1_4 : Int32) (x2_4 : Int32), ik_lp2 (b_X7_light_4 mm) n_4 x1_4 x2_4 = some (R) → ik_G p l e ({ frames := 1, cells := 0, slots := 0, locals := 21 } : Room) s m ([.ref h0] : List Value).toArray below meth c D ik_no (fun _ => True) 3 0 0 (MQ below (ik_R (some (.int R))) ([.ref h0] : List Value).toArray s 0 0 ik_no) 4 [(2, .int x2_4), (1, .int x1_4), (0, .ref h0)] [] (wz_X7 cI cS h0 h1 h2 h3 h4 h5 h6 h7 h8 h9 h10 h11 misKept mtaped msort mfrom mto mvalue mbad mm mkept mwas mother mfound mwarm mdrip mtape mbits msize mnumber) := by
    intro n_4
    induction n_4 with
    | zero => intro _ _ hf; exact nomatch hf
    | succ n_4 ih_4 =>
      intro x1_4 x2_4 hf
      replace hf : b_X7_light_4 mm (ik_lp2 (b_X7_light_4 mm) n_4) x1_4 x2_4 = some (R) := hf
      unfold b_X7_light_4 at hf
      refine ik_iload_n C 0 rfl rfl dX7_light_4 ?_
      refine ik_bipush (v := (6 : Int32)) C (by decide) dX7_light_5 ?_
      refine ik_icmp_ge C 44 dX7_light_7 (by decide) (fun hc => ?_) (fun hc => ?_)
      · have hf := ik_pos hc hf
        refine ik_iload_n C 1 rfl rfl dX7_light_44 ?_
        obtain rfl := Option.some.inj hf
        exact ik_iretR C hr hlk dX7_light_45
      · have hf := ik_neg hc hf
        refine ik_iload_n C 1 rfl rfl dX7_light_10 ?_
        refine ik_aload_n C 2 rfl rfl dX7_light_11 ?_
        refine ik_iload_n C 0 rfl rfl dX7_light_12 ?_
        obtain ⟨r1, hc1, hf⟩ := ik_b1s hf
        have hM := (c_X7_isLit l D cI cS h0 h1 h2 h3 h4 h5 h6 h7 h8 h9 h10 h11 misKept mtaped msort mfrom mto mvalue mbad mm mkept mwas mother mfound mwarm mdrip mtape mbits msize mnumber x2_4 r1 hc1)
        refine ik_goR (ik_runV (st := [.int x1_4]) (As := [.int x2_4]) C hM mv_X7_isLit wl_14_16 ⟨rfl, rfl, Nat.le_of_ble_eq_true rfl, Nat.le_of_ble_eq_true rfl⟩ [0, 1, 2, 3, 4, 5, 6, 7, 8, 9, 10, 11] rfl (by decide +kernel) 0 rfl rfl rfl rfl (Nat.le_of_ble_eq_true rfl) dX7_light_13 ⟨Nat.zero_le _, Nat.zero_le _⟩) rfl ?_
        refine ik_if_eq C 35 dX7_light_16 (by decide) (fun hc => ?_) (fun hc => ?_)
        · have hf := ik_pos hc hf
          refine ik_iconst (v := (0 : Int32)) C (by decide) dX7_light_35 ?_
          refine ik_iadd C dX7_light_36 ?_
          refine ik_istore_n C [(1, .int (x1_4 + (0 : Int32))), (2, .int x2_4), (0, .ref h0)] rfl (by decide) rfl dX7_light_37 ?_
          refine ik_iinc C [(2, .int (x2_4 + (1 : Int32))), (1, .int (x1_4 + (0 : Int32))), (0, .ref h0)] 1 rfl rfl (by decide) rfl dX7_light_38 ?_
          refine ik_goto C 4 dX7_light_41 (by decide) ?_
          exact ik_sub [0, 1, 2] [(2, .int (x2_4 + (1 : Int32))), (1, .int (x1_4 + (0 : Int32))), (0, .ref h0)] rfl (ih_4 (x1_4 + (0 : Int32)) (x2_4 + (1 : Int32)) hf)
        · have hf := ik_neg hc hf
          refine ik_aload_n C 2 rfl rfl dX7_light_19 ?_
          refine ik_get C inlX7 0 rfl rfl 0 (by decide) wl_4_12 rfl (v := .ref h1) rfl dX7_light_20 ?_
          refine ik_bipush (v := (6 : Int32)) C (by decide) dX7_light_23 ?_
          refine ik_iconst (v := (3 : Int32)) C (by decide) dX7_light_25 ?_
          refine ik_iload_n C 0 rfl rfl dX7_light_26 ?_
          refine ik_imul C dX7_light_27 ?_
          refine ik_iadd C dX7_light_28 ?_
          refine ik_iconst (v := (1 : Int32)) C (by decide) dX7_light_29 ?_
          refine ik_iadd C dX7_light_30 ?_
          have hg := ik_gdi hf
          have hf := ik_gdk hf
          refine ik_iald C 1 rfl hg dX7_light_31 ?_
          refine ik_goto C 36 dX7_light_32 (by decide) ?_
          refine ik_iadd C dX7_light_36 ?_
          refine ik_istore_n C [(1, .int (x1_4 + (mm ((((6 : Int32) + ((3 : Int32) * x2_4)) + (1 : Int32))).toNatClampNeg))), (2, .int x2_4), (0, .ref h0)] rfl (by decide) rfl dX7_light_37 ?_
          refine ik_iinc C [(2, .int (x2_4 + (1 : Int32))), (1, .int (x1_4 + (mm ((((6 : Int32) + ((3 : Int32) * x2_4)) + (1 : Int32))).toNatClampNeg))), (0, .ref h0)] 1 rfl rfl (by decide) rfl dX7_light_38 ?_
          refine ik_goto C 4 dX7_light_41 (by decide) ?_
          exact ik_sub [0, 1, 2] [(2, .int (x2_4 + (1 : Int32))), (1, .int (x1_4 + (mm ((((6 : Int32) + ((3 : Int32) * x2_4)) + (1 : Int32))).toNatClampNeg))), (0, .ref h0)] rfl (ih_4 (x1_4 + (mm ((((6 : Int32) + ((3 : Int32) * x2_4)) + (1 : Int32))).toNatClampNeg)) (x2_4 + (1 : Int32)) hf)
  exact hL_4 ik_fu (0 : Int32) (0 : Int32) hf
theorem mv_X7_melts : ik_V yX7_melts RX7 cX7_melts 3 none 1 := ⟨wl_20_23, wl_21_0, wl_1_5, wl_21_1, by decide +kernel⟩
set_option maxHeartbeats 4000000 in
set_option maxRecDepth 100000 in
theorem c_X7_melts (l : Launch) (D : va_G) (cI cS : ClassId) (h0 h1 h2 h3 h4 h5 h6 h7 h8 h9 h10 h11 : Nat) (misKept : Int32) (mtaped : Int32) (msort : Int32) (mfrom : Int32) (mto : Int32) (mvalue : Int32) (mbad : Int32) (mm : Nat → Int32) (mkept : Nat → Int32) (mwas : Nat → Int32) (mother : Nat → Int32) (mfound : Nat → Int32) (mwarm : Nat → Int32) (mdrip : Nat → Int32) (mtape : Nat → Int32) (mbits : Nat → Int32) (msize : Nat → Int32) (mnumber : Nat → Int32) (x1 : Int32) (mm_r : Nat → Int32) (mdrip_r : Nat → Int32) (hf : f_X7_melts mm mwarm mdrip x1 = some (mm_r, mdrip_r)) : Met l yX7_melts (ik_ws yX7_melts cX7_melts 3 none) ({ frames := 1, cells := 0, slots := 0, locals := 22 } : Room) (ik_P D cI cS [.ref h0, .int x1] (wz_X7 cI cS h0 h1 h2 h3 h4 h5 h6 h7 h8 h9 h10 h11 misKept mtaped msort mfrom mto mvalue mbad mm mkept mwas mother mfound mwarm mdrip mtape mbits msize mnumber)) (ik_Q none D (wz_X7 cI cS h0 h1 h2 h3 h4 h5 h6 h7 h8 h9 h10 h11 misKept mtaped msort mfrom mto mvalue mbad mm_r mkept mwas mother mfound mwarm mdrip_r mtape mbits msize mnumber) (wz_X7 cI cS h0 h1 h2 h3 h4 h5 h6 h7 h8 h9 h10 h11 misKept mtaped msort mfrom mto mvalue mbad mm mkept mwas mother mfound mwarm mdrip mtape mbits msize mnumber)) 0 0 (ik_in (wz_X7 cI cS h0 h1 h2 h3 h4 h5 h6 h7 h8 h9 h10 h11 misKept mtaped msort mfrom mto mvalue mbad mm mkept mwas mother mfound mwarm mdrip mtape mbits msize mnumber)) := by
  refine ik_metW RX7 rfl (by decide) (Nat.le_of_ble_eq_true rfl) [(0, .ref h0), (1, .int x1)] rfl ?_
  intro p e s m below meth c C hr hlk
  unfold f_X7_melts at hf
  refine ik_aload_n C 0 rfl rfl dX7_melts_0 ?_
  refine ik_get C inlX7 0 rfl rfl 6 (by decide) wl_4_17 rfl (v := .ref h6) rfl dX7_melts_1 ?_
  refine ik_iload_n C 1 rfl rfl dX7_melts_4 ?_
  have hg := ik_gdi hf
  have hf := ik_gdk hf
  refine ik_iald C 6 rfl hg dX7_melts_5 ?_
  refine ik_if_le C 84 dX7_melts_6 (by decide) (fun hc => ?_) (fun hc => ?_)
  · have hf := ik_pos hc hf
    refine ik_aload_n C 0 rfl rfl dX7_melts_84 ?_
    refine ik_get C inlX7 0 rfl rfl 6 (by decide) wl_4_17 rfl (v := .ref h6) rfl dX7_melts_85 ?_
    refine ik_iload_n C 1 rfl rfl dX7_melts_88 ?_
    have hg := ik_gdi hf
    have hf := ik_gdk hf
    refine ik_iald C 6 rfl hg dX7_melts_89 ?_
    refine ik_ineg C dX7_melts_90 ?_
    refine ik_iconst (v := (2 : Int32)) C (by decide) dX7_melts_91 ?_
    refine ik_idiv C (by decide) dX7_melts_92 ?_
    refine ik_istore_n C [(2, .int ((-(mwarm (x1).toNatClampNeg)) / (2 : Int32))), (0, .ref h0), (1, .int x1)] rfl (by decide) rfl dX7_melts_93 ?_
    have hJ_114 : ∀ (v0_114 : Int32), j_X7_melts_114 mm mdrip x1 v0_114 = some (mm_r, mdrip_r) → ik_G p l e ({ frames := 1, cells := 0, slots := 0, locals := 22 } : Room) s m ([.ref h0, .int x1] : List Value).toArray below meth c D (ik_in (wz_X7 cI cS h0 h1 h2 h3 h4 h5 h6 h7 h8 h9 h10 h11 misKept mtaped msort mfrom mto mvalue mbad mm mkept mwas mother mfound mwarm mdrip mtape mbits msize mnumber)) (ik_in (wz_X7 cI cS h0 h1 h2 h3 h4 h5 h6 h7 h8 h9 h10 h11 misKept mtaped msort mfrom mto mvalue mbad mm mkept mwas mother mfound mwarm mdrip mtape mbits msize mnumber)) 3 0 0 (MQ below (ik_Q none D (wz_X7 cI cS h0 h1 h2 h3 h4 h5 h6 h7 h8 h9 h10 h11 misKept mtaped msort mfrom mto mvalue mbad mm_r mkept mwas mother mfound mwarm mdrip_r mtape mbits msize mnumber) (wz_X7 cI cS h0 h1 h2 h3 h4 h5 h6 h7 h8 h9 h10 h11 misKept mtaped msort mfrom mto mvalue mbad mm mkept mwas mother mfound mwarm mdrip mtape mbits msize mnumber)) ([.ref h0, .int x1] : List Value).toArray s 0 0 (ik_in (wz_X7 cI cS h0 h1 h2 h3 h4 h5 h6 h7 h8 h9 h10 h11 misKept mtaped msort mfrom mto mvalue mbad mm mkept mwas mother mfound mwarm mdrip mtape mbits msize mnumber))) 114 [(2, .int ((-(mwarm (x1).toNatClampNeg)) / (2 : Int32))), (0, .ref h0), (1, .int x1)] [.int v0_114] (wz_X7 cI cS h0 h1 h2 h3 h4 h5 h6 h7 h8 h9 h10 h11 misKept mtaped msort mfrom mto mvalue mbad mm mkept mwas mother mfound mwarm mdrip mtape mbits msize mnumber) := by
      intro v0_114 hf
      unfold j_X7_melts_114 at hf
      refine ik_istore_n C [(2, .int v0_114), (0, .ref h0), (1, .int x1)] rfl (by decide) rfl dX7_melts_114 ?_
      have hJ_139 : ∀ (v0_139 : Int32), j_X7_melts_139 mm mdrip x1 v0_139 = some (mm_r, mdrip_r) → ik_G p l e ({ frames := 1, cells := 0, slots := 0, locals := 22 } : Room) s m ([.ref h0, .int x1] : List Value).toArray below meth c D (ik_in (wz_X7 cI cS h0 h1 h2 h3 h4 h5 h6 h7 h8 h9 h10 h11 misKept mtaped msort mfrom mto mvalue mbad mm mkept mwas mother mfound mwarm mdrip mtape mbits msize mnumber)) (ik_in (wz_X7 cI cS h0 h1 h2 h3 h4 h5 h6 h7 h8 h9 h10 h11 misKept mtaped msort mfrom mto mvalue mbad mm mkept mwas mother mfound mwarm mdrip mtape mbits msize mnumber)) 3 0 0 (MQ below (ik_Q none D (wz_X7 cI cS h0 h1 h2 h3 h4 h5 h6 h7 h8 h9 h10 h11 misKept mtaped msort mfrom mto mvalue mbad mm_r mkept mwas mother mfound mwarm mdrip_r mtape mbits msize mnumber) (wz_X7 cI cS h0 h1 h2 h3 h4 h5 h6 h7 h8 h9 h10 h11 misKept mtaped msort mfrom mto mvalue mbad mm mkept mwas mother mfound mwarm mdrip mtape mbits msize mnumber)) ([.ref h0, .int x1] : List Value).toArray s 0 0 (ik_in (wz_X7 cI cS h0 h1 h2 h3 h4 h5 h6 h7 h8 h9 h10 h11 misKept mtaped msort mfrom mto mvalue mbad mm mkept mwas mother mfound mwarm mdrip mtape mbits msize mnumber))) 139 [(2, .int v0_114), (0, .ref h0), (1, .int x1)] [.int v0_139] (wz_X7 cI cS h0 h1 h2 h3 h4 h5 h6 h7 h8 h9 h10 h11 misKept mtaped msort mfrom mto mvalue mbad mm mkept mwas mother mfound mwarm mdrip mtape mbits msize mnumber) := by
        intro v0_139 hf
        unfold j_X7_melts_139 at hf
        refine ik_istore_n C [(2, .int v0_139), (0, .ref h0), (1, .int x1)] rfl (by decide) rfl dX7_melts_139 ?_
        refine ik_aload_n C 1 rfl rfl dX7_melts_140 ?_
        refine ik_iload_n C 2 rfl rfl dX7_melts_141 ?_
        refine ik_aload_n C 1 rfl rfl dX7_melts_142 ?_
        refine ik_iload_n C 2 rfl rfl dX7_melts_143 ?_
        obtain ⟨r1, hc1, hf⟩ := ik_b1s hf
        have hM := (c_X7_grains l D cI cS h0 h1 h2 h3 h4 h5 h6 h7 h8 h9 h10 h11 misKept mtaped msort mfrom mto mvalue mbad mm mkept mwas mother mfound mwarm mdrip mtape mbits msize mnumber x1 r1 hc1)
        refine ik_goR (ik_runV (st := [.int x1, .ref h0]) (As := [.int x1]) C hM mv_X7_grains wl_10_1 ⟨rfl, rfl, Nat.le_of_ble_eq_true rfl, Nat.le_of_ble_eq_true rfl⟩ [0, 1, 2, 3, 4, 5, 6, 7, 8, 9, 10, 11] rfl (by decide +kernel) 0 rfl rfl rfl rfl (Nat.le_of_ble_eq_true rfl) dX7_melts_144 ⟨Nat.zero_le _, Nat.zero_le _⟩) rfl ?_
        refine ik_iload_n C 0 rfl rfl dX7_melts_147 ?_
        refine ik_iadd C dX7_melts_148 ?_
        obtain ⟨g2, hc2, hf⟩ := ik_b1s hf
        have hM := (c_X7_makes l D cI cS h0 h1 h2 h3 h4 h5 h6 h7 h8 h9 h10 h11 misKept mtaped msort mfrom mto mvalue mbad mm mkept mwas mother mfound mwarm mdrip mtape mbits msize mnumber x1 (r1 + v0_139) g2 hc2)
        refine ik_goW (v := none) (wc := (wz_X7 cI cS h0 h1 h2 h3 h4 h5 h6 h7 h8 h9 h10 h11 misKept mtaped msort mfrom mto mvalue mbad mm mkept mwas mother mfound mwarm mdrip mtape mbits msize mnumber)) (w1 := (wz_X7 cI cS h0 h1 h2 h3 h4 h5 h6 h7 h8 h9 h10 h11 misKept mtaped msort mfrom mto mvalue mbad g2 mkept mwas mother mfound mwarm mdrip mtape mbits msize mnumber)) [0, 1, 2, 3, 4, 5, 6, 7, 8, 9, 10, 11] [] 12 rfl rfl (wz_X7 cI cS h0 h1 h2 h3 h4 h5 h6 h7 h8 h9 h10 h11 misKept mtaped msort mfrom mto mvalue mbad g2 mkept mwas mother mfound mwarm mdrip mtape mbits msize mnumber) rfl [] rfl rfl rfl (by decide +kernel) (ik_runV (st := []) (As := [.int x1, .int (r1 + v0_139)]) C hM mv_X7_makes wl_14_23 ⟨rfl, rfl, Nat.le_of_ble_eq_true rfl, Nat.le_of_ble_eq_true rfl⟩ [0, 1, 2, 3, 4, 5, 6, 7, 8, 9, 10, 11] rfl (by decide +kernel) 0 rfl rfl rfl rfl (Nat.le_of_ble_eq_true rfl) dX7_melts_149 ⟨Nat.zero_le _, Nat.zero_le _⟩) rfl ?_
        refine ik_aload_n C 1 rfl rfl dX7_melts_152 ?_
        refine ik_get C inlX7 0 rfl rfl 0 (by decide) wl_4_12 rfl (v := .ref h1) rfl dX7_melts_153 ?_
        refine ik_iconst (v := (2 : Int32)) C (by decide) dX7_melts_156 ?_
        refine ik_dup2 C rfl rfl dX7_melts_157 ?_
        refine ik_iald C 1 rfl (ik_vin (by decide)) dX7_melts_158 ?_
        refine ik_iload_n C 0 rfl rfl dX7_melts_159 ?_
        refine ik_isub C dX7_melts_160 ?_
        refine ik_iast C 1 rfl (ik_vin (by decide)) (wz_X7 cI cS h0 h1 h2 h3 h4 h5 h6 h7 h8 h9 h10 h11 misKept mtaped msort mfrom mto mvalue mbad (upd g2 ((2 : Int32)).toNatClampNeg ((g2 ((2 : Int32)).toNatClampNeg) - v0_139)) mkept mwas mother mfound mwarm mdrip mtape mbits msize mnumber) rfl dX7_melts_161 ?_
        obtain ⟨rfl, rfl⟩ := ik_e2 hf
        exact ik_vretW C hr hlk dX7_melts_162
      refine ik_iload_n C 0 rfl rfl dX7_melts_115 ?_
      refine ik_bipush (v := (99 : Int32)) C (by decide) dX7_melts_116 ?_
      refine ik_aload_n C 1 rfl rfl dX7_melts_118 ?_
      refine ik_iload_n C 2 rfl rfl dX7_melts_119 ?_
      obtain ⟨r1, hc1, hf⟩ := ik_b1s hf
      have hM := (c_X7_grains l D cI cS h0 h1 h2 h3 h4 h5 h6 h7 h8 h9 h10 h11 misKept mtaped msort mfrom mto mvalue mbad mm mkept mwas mother mfound mwarm mdrip mtape mbits msize mnumber x1 r1 hc1)
      refine ik_goR (ik_runV (st := [.int (99 : Int32), .int v0_114]) (As := [.int x1]) C hM mv_X7_grains wl_10_1 ⟨rfl, rfl, Nat.le_of_ble_eq_true rfl, Nat.le_of_ble_eq_true rfl⟩ [0, 1, 2, 3, 4, 5, 6, 7, 8, 9, 10, 11] rfl (by decide +kernel) 0 rfl rfl rfl rfl (Nat.le_of_ble_eq_true rfl) dX7_melts_120 ⟨Nat.zero_le _, Nat.zero_le _⟩) rfl ?_
      refine ik_isub C dX7_melts_123 ?_
      refine ik_icmp_ge C 131 dX7_melts_124 (by decide) (fun hc => ?_) (fun hc => ?_)
      · have hf := ik_pos hc hf
        refine ik_bipush (v := (99 : Int32)) C (by decide) dX7_melts_131 ?_
        refine ik_aload_n C 1 rfl rfl dX7_melts_133 ?_
        refine ik_iload_n C 2 rfl rfl dX7_melts_134 ?_
        obtain ⟨r2, hc2, hf⟩ := ik_b1s hf
        have hM := (c_X7_grains l D cI cS h0 h1 h2 h3 h4 h5 h6 h7 h8 h9 h10 h11 misKept mtaped msort mfrom mto mvalue mbad mm mkept mwas mother mfound mwarm mdrip mtape mbits msize mnumber x1 r2 hc2)
        refine ik_goR (ik_runV (st := [.int (99 : Int32)]) (As := [.int x1]) C hM mv_X7_grains wl_10_1 ⟨rfl, rfl, Nat.le_of_ble_eq_true rfl, Nat.le_of_ble_eq_true rfl⟩ [0, 1, 2, 3, 4, 5, 6, 7, 8, 9, 10, 11] rfl (by decide +kernel) 0 rfl rfl rfl rfl (Nat.le_of_ble_eq_true rfl) dX7_melts_135 ⟨Nat.zero_le _, Nat.zero_le _⟩) rfl ?_
        refine ik_isub C dX7_melts_138 ?_
        exact ik_sub [0, 1, 2] [(2, .int v0_114), (0, .ref h0), (1, .int x1)] rfl (hJ_139 ((99 : Int32) - r2) hf)
      · have hf := ik_neg hc hf
        refine ik_iload_n C 0 rfl rfl dX7_melts_127 ?_
        refine ik_goto C 139 dX7_melts_128 (by decide) ?_
        exact ik_sub [0, 1, 2] [(2, .int v0_114), (0, .ref h0), (1, .int x1)] rfl (hJ_139 v0_114 hf)
    refine ik_iload_n C 0 rfl rfl dX7_melts_94 ?_
    refine ik_aload_n C 1 rfl rfl dX7_melts_95 ?_
    refine ik_get C inlX7 0 rfl rfl 0 (by decide) wl_4_12 rfl (v := .ref h1) rfl dX7_melts_96 ?_
    refine ik_iconst (v := (2 : Int32)) C (by decide) dX7_melts_99 ?_
    refine ik_iald C 1 rfl (ik_vin (by decide)) dX7_melts_100 ?_
    refine ik_icmp_ge C 108 dX7_melts_101 (by decide) (fun hc => ?_) (fun hc => ?_)
    · have hf := ik_pos hc hf
      refine ik_aload_n C 1 rfl rfl dX7_melts_108 ?_
      refine ik_get C inlX7 0 rfl rfl 0 (by decide) wl_4_12 rfl (v := .ref h1) rfl dX7_melts_109 ?_
      refine ik_iconst (v := (2 : Int32)) C (by decide) dX7_melts_112 ?_
      refine ik_iald C 1 rfl (ik_vin (by decide)) dX7_melts_113 ?_
      exact ik_sub [0, 1, 2] [(2, .int ((-(mwarm (x1).toNatClampNeg)) / (2 : Int32))), (0, .ref h0), (1, .int x1)] rfl (hJ_114 (mm ((2 : Int32)).toNatClampNeg) hf)
    · have hf := ik_neg hc hf
      refine ik_iload_n C 0 rfl rfl dX7_melts_104 ?_
      refine ik_goto C 114 dX7_melts_105 (by decide) ?_
      exact ik_sub [0, 1, 2] [(2, .int ((-(mwarm (x1).toNatClampNeg)) / (2 : Int32))), (0, .ref h0), (1, .int x1)] rfl (hJ_114 ((-(mwarm (x1).toNatClampNeg)) / (2 : Int32)) hf)
  · have hf := ik_neg hc hf
    have hJ_37 : ∀ (v0_37 : Int32), j_X7_melts_37 mm mdrip x1 v0_37 = some (mm_r, mdrip_r) → ik_G p l e ({ frames := 1, cells := 0, slots := 0, locals := 22 } : Room) s m ([.ref h0, .int x1] : List Value).toArray below meth c D (ik_in (wz_X7 cI cS h0 h1 h2 h3 h4 h5 h6 h7 h8 h9 h10 h11 misKept mtaped msort mfrom mto mvalue mbad mm mkept mwas mother mfound mwarm mdrip mtape mbits msize mnumber)) (ik_in (wz_X7 cI cS h0 h1 h2 h3 h4 h5 h6 h7 h8 h9 h10 h11 misKept mtaped msort mfrom mto mvalue mbad mm mkept mwas mother mfound mwarm mdrip mtape mbits msize mnumber)) 3 0 0 (MQ below (ik_Q none D (wz_X7 cI cS h0 h1 h2 h3 h4 h5 h6 h7 h8 h9 h10 h11 misKept mtaped msort mfrom mto mvalue mbad mm_r mkept mwas mother mfound mwarm mdrip_r mtape mbits msize mnumber) (wz_X7 cI cS h0 h1 h2 h3 h4 h5 h6 h7 h8 h9 h10 h11 misKept mtaped msort mfrom mto mvalue mbad mm mkept mwas mother mfound mwarm mdrip mtape mbits msize mnumber)) ([.ref h0, .int x1] : List Value).toArray s 0 0 (ik_in (wz_X7 cI cS h0 h1 h2 h3 h4 h5 h6 h7 h8 h9 h10 h11 misKept mtaped msort mfrom mto mvalue mbad mm mkept mwas mother mfound mwarm mdrip mtape mbits msize mnumber))) 37 [(0, .ref h0), (1, .int x1)] [.int v0_37] (wz_X7 cI cS h0 h1 h2 h3 h4 h5 h6 h7 h8 h9 h10 h11 misKept mtaped msort mfrom mto mvalue mbad mm mkept mwas mother mfound mwarm mdrip mtape mbits msize mnumber) := by
      intro v0_37 hf
      unfold j_X7_melts_37 at hf
      refine ik_istore_n C [(2, .int v0_37), (0, .ref h0), (1, .int x1)] rfl (by decide) rfl dX7_melts_37 ?_
      refine ik_aload_n C 1 rfl rfl dX7_melts_38 ?_
      refine ik_iload_n C 2 rfl rfl dX7_melts_39 ?_
      refine ik_aload_n C 1 rfl rfl dX7_melts_40 ?_
      refine ik_iload_n C 2 rfl rfl dX7_melts_41 ?_
      obtain ⟨r1, hc1, hf⟩ := ik_b1s hf
      have hM := (c_X7_grains l D cI cS h0 h1 h2 h3 h4 h5 h6 h7 h8 h9 h10 h11 misKept mtaped msort mfrom mto mvalue mbad mm mkept mwas mother mfound mwarm mdrip mtape mbits msize mnumber x1 r1 hc1)
      refine ik_goR (ik_runV (st := [.int x1, .ref h0]) (As := [.int x1]) C hM mv_X7_grains wl_10_1 ⟨rfl, rfl, Nat.le_of_ble_eq_true rfl, Nat.le_of_ble_eq_true rfl⟩ [0, 1, 2, 3, 4, 5, 6, 7, 8, 9, 10, 11] rfl (by decide +kernel) 0 rfl rfl rfl rfl (Nat.le_of_ble_eq_true rfl) dX7_melts_42 ⟨Nat.zero_le _, Nat.zero_le _⟩) rfl ?_
      refine ik_iload_n C 0 rfl rfl dX7_melts_45 ?_
      refine ik_isub C dX7_melts_46 ?_
      obtain ⟨g2, hc2, hf⟩ := ik_b1s hf
      have hM := (c_X7_makes l D cI cS h0 h1 h2 h3 h4 h5 h6 h7 h8 h9 h10 h11 misKept mtaped msort mfrom mto mvalue mbad mm mkept mwas mother mfound mwarm mdrip mtape mbits msize mnumber x1 (r1 - v0_37) g2 hc2)
      refine ik_goW (v := none) (wc := (wz_X7 cI cS h0 h1 h2 h3 h4 h5 h6 h7 h8 h9 h10 h11 misKept mtaped msort mfrom mto mvalue mbad mm mkept mwas mother mfound mwarm mdrip mtape mbits msize mnumber)) (w1 := (wz_X7 cI cS h0 h1 h2 h3 h4 h5 h6 h7 h8 h9 h10 h11 misKept mtaped msort mfrom mto mvalue mbad g2 mkept mwas mother mfound mwarm mdrip mtape mbits msize mnumber)) [0, 1, 2, 3, 4, 5, 6, 7, 8, 9, 10, 11] [] 12 rfl rfl (wz_X7 cI cS h0 h1 h2 h3 h4 h5 h6 h7 h8 h9 h10 h11 misKept mtaped msort mfrom mto mvalue mbad g2 mkept mwas mother mfound mwarm mdrip mtape mbits msize mnumber) rfl [] rfl rfl rfl (by decide +kernel) (ik_runV (st := []) (As := [.int x1, .int (r1 - v0_37)]) C hM mv_X7_makes wl_14_23 ⟨rfl, rfl, Nat.le_of_ble_eq_true rfl, Nat.le_of_ble_eq_true rfl⟩ [0, 1, 2, 3, 4, 5, 6, 7, 8, 9, 10, 11] rfl (by decide +kernel) 0 rfl rfl rfl rfl (Nat.le_of_ble_eq_true rfl) dX7_melts_47 ⟨Nat.zero_le _, Nat.zero_le _⟩) rfl ?_
      refine ik_aload_n C 1 rfl rfl dX7_melts_50 ?_
      refine ik_get C inlX7 0 rfl rfl 7 (by decide) wl_4_18 rfl (v := .ref h7) rfl dX7_melts_51 ?_
      refine ik_aload_n C 1 rfl rfl dX7_melts_54 ?_
      refine ik_iload_n C 2 rfl rfl dX7_melts_55 ?_
      obtain ⟨r3, hc3, hf⟩ := ik_b1s hf
      have hM := (c_X7_cellOf l D cI cS h0 h1 h2 h3 h4 h5 h6 h7 h8 h9 h10 h11 misKept mtaped msort mfrom mto mvalue mbad g2 mkept mwas mother mfound mwarm mdrip mtape mbits msize mnumber x1 r3 hc3)
      refine ik_goR (ik_runV (st := [.ref h7]) (As := [.int x1]) C hM mv_X7_cellOf wl_7_16 ⟨rfl, rfl, Nat.le_of_ble_eq_true rfl, Nat.le_of_ble_eq_true rfl⟩ [0, 1, 2, 3, 4, 5, 6, 7, 8, 9, 10, 11] rfl (by decide +kernel) 0 rfl rfl rfl rfl (Nat.le_of_ble_eq_true rfl) dX7_melts_56 ⟨Nat.zero_le _, Nat.zero_le _⟩) rfl ?_
      refine ik_bipush (v := (8 : Int32)) C (by decide) dX7_melts_59 ?_
      refine ik_irem C (by decide) dX7_melts_61 ?_
      refine ik_dup2 C rfl rfl dX7_melts_62 ?_
      have hg := ik_gdi hf
      have hf := ik_gdk hf
      refine ik_iald C 7 rfl hg dX7_melts_63 ?_
      refine ik_iload_n C 0 rfl rfl dX7_melts_64 ?_
      refine ik_iconst (v := (2 : Int32)) C (by decide) dX7_melts_65 ?_
      refine ik_idiv C (by decide) dX7_melts_66 ?_
      refine ik_iadd C dX7_melts_67 ?_
      have hg := ik_gdi hf
      have hf := ik_gdk hf
      refine ik_iast C 7 rfl hg (wz_X7 cI cS h0 h1 h2 h3 h4 h5 h6 h7 h8 h9 h10 h11 misKept mtaped msort mfrom mto mvalue mbad g2 mkept mwas mother mfound mwarm (upd mdrip ((r3 - r3 / (8 : Int32) * (8 : Int32))).toNatClampNeg ((mdrip ((r3 - r3 / (8 : Int32) * (8 : Int32))).toNatClampNeg) + (v0_37 / (2 : Int32)))) mtape mbits msize mnumber) rfl dX7_melts_68 ?_
      refine ik_aload_n C 1 rfl rfl dX7_melts_69 ?_
      refine ik_get C inlX7 0 rfl rfl 0 (by decide) wl_4_12 rfl (v := .ref h1) rfl dX7_melts_70 ?_
      refine ik_iconst (v := (2 : Int32)) C (by decide) dX7_melts_73 ?_
      refine ik_dup2 C rfl rfl dX7_melts_74 ?_
      refine ik_iald C 1 rfl (ik_vin (by decide)) dX7_melts_75 ?_
      refine ik_iload_n C 0 rfl rfl dX7_melts_76 ?_
      refine ik_iload_n C 0 rfl rfl dX7_melts_77 ?_
      refine ik_iconst (v := (2 : Int32)) C (by decide) dX7_melts_78 ?_
      refine ik_idiv C (by decide) dX7_melts_79 ?_
      refine ik_isub C dX7_melts_80 ?_
      refine ik_iadd C dX7_melts_81 ?_
      refine ik_iast C 1 rfl (ik_vin (by decide)) (wz_X7 cI cS h0 h1 h2 h3 h4 h5 h6 h7 h8 h9 h10 h11 misKept mtaped msort mfrom mto mvalue mbad (upd g2 ((2 : Int32)).toNatClampNeg ((g2 ((2 : Int32)).toNatClampNeg) + (v0_37 - (v0_37 / (2 : Int32))))) mkept mwas mother mfound mwarm (upd mdrip ((r3 - r3 / (8 : Int32) * (8 : Int32))).toNatClampNeg ((mdrip ((r3 - r3 / (8 : Int32) * (8 : Int32))).toNatClampNeg) + (v0_37 / (2 : Int32)))) mtape mbits msize mnumber) rfl dX7_melts_82 ?_
      obtain ⟨rfl, rfl⟩ := ik_e2 hf
      exact ik_vretW C hr hlk dX7_melts_83
    refine ik_aload_n C 0 rfl rfl dX7_melts_9 ?_
    refine ik_get C inlX7 0 rfl rfl 6 (by decide) wl_4_17 rfl (v := .ref h6) rfl dX7_melts_10 ?_
    refine ik_iload_n C 1 rfl rfl dX7_melts_13 ?_
    have hg := ik_gdi hf
    have hf := ik_gdk hf
    refine ik_iald C 6 rfl hg dX7_melts_14 ?_
    refine ik_aload_n C 0 rfl rfl dX7_melts_15 ?_
    refine ik_iload_n C 1 rfl rfl dX7_melts_16 ?_
    obtain ⟨r1, hc1, hf⟩ := ik_b1s hf
    have hM := (c_X7_grains l D cI cS h0 h1 h2 h3 h4 h5 h6 h7 h8 h9 h10 h11 misKept mtaped msort mfrom mto mvalue mbad mm mkept mwas mother mfound mwarm mdrip mtape mbits msize mnumber x1 r1 hc1)
    refine ik_goR (ik_runV (st := [.int (mwarm (x1).toNatClampNeg)]) (As := [.int x1]) C hM mv_X7_grains wl_10_1 ⟨rfl, rfl, Nat.le_of_ble_eq_true rfl, Nat.le_of_ble_eq_true rfl⟩ [0, 1, 2, 3, 4, 5, 6, 7, 8, 9, 10, 11] rfl (by decide +kernel) 0 rfl rfl rfl rfl (Nat.le_of_ble_eq_true rfl) dX7_melts_17 ⟨Nat.zero_le _, Nat.zero_le _⟩) rfl ?_
    refine ik_icmp_ge C 32 dX7_melts_20 (by decide) (fun hc => ?_) (fun hc => ?_)
    · have hf := ik_pos hc hf
      refine ik_aload_n C 0 rfl rfl dX7_melts_32 ?_
      refine ik_iload_n C 1 rfl rfl dX7_melts_33 ?_
      obtain ⟨r2, hc2, hf⟩ := ik_b1s hf
      have hM := (c_X7_grains l D cI cS h0 h1 h2 h3 h4 h5 h6 h7 h8 h9 h10 h11 misKept mtaped msort mfrom mto mvalue mbad mm mkept mwas mother mfound mwarm mdrip mtape mbits msize mnumber x1 r2 hc2)
      refine ik_goR (ik_runV (st := []) (As := [.int x1]) C hM mv_X7_grains wl_10_1 ⟨rfl, rfl, Nat.le_of_ble_eq_true rfl, Nat.le_of_ble_eq_true rfl⟩ [0, 1, 2, 3, 4, 5, 6, 7, 8, 9, 10, 11] rfl (by decide +kernel) 0 rfl rfl rfl rfl (Nat.le_of_ble_eq_true rfl) dX7_melts_34 ⟨Nat.zero_le _, Nat.zero_le _⟩) rfl ?_
      exact ik_sub [0, 1] [(0, .ref h0), (1, .int x1)] rfl (hJ_37 r2 hf)
    · have hf := ik_neg hc hf
      refine ik_aload_n C 0 rfl rfl dX7_melts_23 ?_
      refine ik_get C inlX7 0 rfl rfl 6 (by decide) wl_4_17 rfl (v := .ref h6) rfl dX7_melts_24 ?_
      refine ik_iload_n C 1 rfl rfl dX7_melts_27 ?_
      have hg := ik_gdi hf
      have hf := ik_gdk hf
      refine ik_iald C 6 rfl hg dX7_melts_28 ?_
      refine ik_goto C 37 dX7_melts_29 (by decide) ?_
      exact ik_sub [0, 1] [(0, .ref h0), (1, .int x1)] rfl (hJ_37 (mwarm (x1).toNatClampNeg) hf)
