theorem mv_X7_coldItem : ik_V yX7_coldItem RX7 cX7_coldItem 3 none 0 := ⟨wl_42_6, wl_42_7, wl_1_5, wl_42_8, by decide +kernel⟩
set_option maxHeartbeats 4000000 in
set_option maxRecDepth 100000 in
theorem c_X7_coldItem (l : Launch) (D : va_G) (cI cS : ClassId) (h0 h1 h2 h3 h4 h5 h6 h7 h8 h9 h10 h11 : Nat) (misKept : Int32) (mtaped : Int32) (msort : Int32) (mfrom : Int32) (mto : Int32) (mvalue : Int32) (mbad : Int32) (mm : Nat → Int32) (mkept : Nat → Int32) (mwas : Nat → Int32) (mother : Nat → Int32) (mfound : Nat → Int32) (mwarm : Nat → Int32) (mdrip : Nat → Int32) (mtape : Nat → Int32) (mbits : Nat → Int32) (msize : Nat → Int32) (mnumber : Nat → Int32) (msort_r : Int32) (mfrom_r : Int32) (mto_r : Int32) (mvalue_r : Int32) (mbad_r : Int32) (mm_r : Nat → Int32) (hf : f_X7_coldItem mtaped msort mfrom mto mvalue mbad mm mtape = some (msort_r, mfrom_r, mto_r, mvalue_r, mbad_r, mm_r)) : Met l yX7_coldItem (ik_ws yX7_coldItem cX7_coldItem 3 none) ({ frames := 4, cells := 0, slots := 0, locals := 92 } : Room) (ik_P D cI cS [.ref h0] (wz_X7 cI cS h0 h1 h2 h3 h4 h5 h6 h7 h8 h9 h10 h11 misKept mtaped msort mfrom mto mvalue mbad mm mkept mwas mother mfound mwarm mdrip mtape mbits msize mnumber)) (ik_Q none D (wz_X7 cI cS h0 h1 h2 h3 h4 h5 h6 h7 h8 h9 h10 h11 misKept mtaped msort_r mfrom_r mto_r mvalue_r mbad_r mm_r mkept mwas mother mfound mwarm mdrip mtape mbits msize mnumber) (wz_X7 cI cS h0 h1 h2 h3 h4 h5 h6 h7 h8 h9 h10 h11 misKept mtaped msort mfrom mto mvalue mbad mm mkept mwas mother mfound mwarm mdrip mtape mbits msize mnumber)) 0 0 (ik_in (wz_X7 cI cS h0 h1 h2 h3 h4 h5 h6 h7 h8 h9 h10 h11 misKept mtaped msort mfrom mto mvalue mbad mm mkept mwas mother mfound mwarm mdrip mtape mbits msize mnumber)) := by
  refine ik_metW RX7 rfl (by decide) (Nat.le_of_ble_eq_true rfl) [(0, .ref h0)] rfl ?_
  intro p e s m below meth c C hr hlk
  unfold f_X7_coldItem at hf
  refine ik_aload_n C 0 rfl rfl dX7_coldItem_0 ?_
  refine ik_bipush (v := (45 : Int32)) C (by decide) dX7_coldItem_1 ?_
  obtain ⟨r1, hc1, hf⟩ := ik_b1s hf
  have hM := (c_X7_isSign l D cI cS h0 h1 h2 h3 h4 h5 h6 h7 h8 h9 h10 h11 misKept mtaped msort mfrom mto mvalue mbad mm mkept mwas mother mfound mwarm mdrip mtape mbits msize mnumber (45 : Int32) r1 hc1)
  refine ik_goR (ik_runV (st := []) (As := [.int (45 : Int32)]) C hM mv_X7_isSign wl_42_9 ⟨rfl, rfl, Nat.le_of_ble_eq_true rfl, Nat.le_of_ble_eq_true rfl⟩ [0, 1, 2, 3, 4, 5, 6, 7, 8, 9, 10, 11] rfl (by decide +kernel) 0 rfl rfl rfl rfl (Nat.le_of_ble_eq_true rfl) dX7_coldItem_3 ⟨Nat.zero_le _, Nat.zero_le _⟩) rfl ?_
  refine ik_istore_n C [(1, .int r1), (0, .ref h0)] rfl (by decide) rfl dX7_coldItem_6 ?_
  refine ik_iload_n C 0 rfl rfl dX7_coldItem_7 ?_
  refine ik_if_eq C 15 dX7_coldItem_8 (by decide) (fun hc => ?_) (fun hc => ?_)
  · have hf := ik_pos hc hf
    refine ik_aload_n C 1 rfl rfl dX7_coldItem_15 ?_
    refine ik_iconst (v := (0 : Int32)) C (by decide) dX7_coldItem_16 ?_
    refine ik_bipush (v := (20 : Int32)) C (by decide) dX7_coldItem_17 ?_
    refine ik_iconst (v := (1 : Int32)) C (by decide) dX7_coldItem_19 ?_
    obtain ⟨r2, g3, g4, g5, g6, g7, hc7, hf⟩ := ik_b6s hf
    have hM := (c_X7_number l D cI cS h0 h1 h2 h3 h4 h5 h6 h7 h8 h9 h10 h11 misKept mtaped msort mfrom mto mvalue mbad mm mkept mwas mother mfound mwarm mdrip mtape mbits msize mnumber (0 : Int32) (20 : Int32) (1 : Int32) r2 g3 g4 g5 g6 g7 hc7)
    refine ik_goW (v := (some (.int r2))) (wc := (wz_X7 cI cS h0 h1 h2 h3 h4 h5 h6 h7 h8 h9 h10 h11 misKept mtaped msort mfrom mto mvalue mbad mm mkept mwas mother mfound mwarm mdrip mtape mbits msize mnumber)) (w1 := (wz_X7 cI cS h0 h1 h2 h3 h4 h5 h6 h7 h8 h9 h10 h11 misKept mtaped g3 g4 g5 g6 g7 mm mkept mwas mother mfound mwarm mdrip mtape mbits msize mnumber)) [0, 1, 2, 3, 4, 5, 6, 7, 8, 9, 10, 11] [] 12 rfl rfl (wz_X7 cI cS h0 h1 h2 h3 h4 h5 h6 h7 h8 h9 h10 h11 misKept mtaped g3 g4 g5 g6 g7 mm mkept mwas mother mfound mwarm mdrip mtape mbits msize mnumber) rfl [] rfl rfl rfl (by decide +kernel) (ik_runV (st := []) (As := [.int (0 : Int32), .int (20 : Int32), .int (1 : Int32)]) C hM mv_X7_number wl_41_21 ⟨rfl, rfl, Nat.le_of_ble_eq_true rfl, Nat.le_of_ble_eq_true rfl⟩ [0, 1, 2, 3, 4, 5, 6, 7, 8, 9, 10, 11] rfl (by decide +kernel) 0 rfl rfl rfl rfl (Nat.le_of_ble_eq_true rfl) dX7_coldItem_20 ⟨Nat.zero_le _, Nat.zero_le _⟩) rfl ?_
    refine ik_istore_n C [(2, .int r2), (1, .int r1), (0, .ref h0)] rfl (by decide) rfl dX7_coldItem_23 ?_
    refine ik_aload_n C 2 rfl rfl dX7_coldItem_24 ?_
    refine ik_iconst (v := (1 : Int32)) C (by decide) dX7_coldItem_25 ?_
    refine ik_iload_n C 1 rfl rfl dX7_coldItem_26 ?_
    refine ik_if_eq C 35 dX7_coldItem_27 (by decide) (fun hc => ?_) (fun hc => ?_)
    · have hf := ik_pos hc hf
      refine ik_iload_n C 0 rfl rfl dX7_coldItem_35 ?_
      obtain ⟨g8, hc8, hf⟩ := ik_b1s hf
      have hM := (c_X7_tells l D cI cS h0 h1 h2 h3 h4 h5 h6 h7 h8 h9 h10 h11 misKept mtaped g3 g4 g5 g6 g7 mm mkept mwas mother mfound mwarm mdrip mtape mbits msize mnumber (1 : Int32) r2 g8 hc8)
      refine ik_goW (v := none) (wc := (wz_X7 cI cS h0 h1 h2 h3 h4 h5 h6 h7 h8 h9 h10 h11 misKept mtaped g3 g4 g5 g6 g7 mm mkept mwas mother mfound mwarm mdrip mtape mbits msize mnumber)) (w1 := (wz_X7 cI cS h0 h1 h2 h3 h4 h5 h6 h7 h8 h9 h10 h11 misKept mtaped g3 g4 g5 g6 g7 g8 mkept mwas mother mfound mwarm mdrip mtape mbits msize mnumber)) [0, 1, 2, 3, 4, 5, 6, 7, 8, 9, 10, 11] [] 12 rfl rfl (wz_X7 cI cS h0 h1 h2 h3 h4 h5 h6 h7 h8 h9 h10 h11 misKept mtaped g3 g4 g5 g6 g7 g8 mkept mwas mother mfound mwarm mdrip mtape mbits msize mnumber) rfl [] rfl rfl rfl (by decide +kernel) (ik_runV (st := []) (As := [.int (1 : Int32), .int r2]) C hM mv_X7_tells wl_42_1 ⟨rfl, rfl, Nat.le_of_ble_eq_true rfl, Nat.le_of_ble_eq_true rfl⟩ [0, 1, 2, 3, 4, 5, 6, 7, 8, 9, 10, 11] rfl (by decide +kernel) 0 rfl rfl rfl rfl (Nat.le_of_ble_eq_true rfl) dX7_coldItem_36 ⟨Nat.zero_le _, Nat.zero_le _⟩) rfl ?_
      obtain ⟨rfl, rfl, rfl, rfl, rfl, rfl⟩ := ik_e6 hf
      exact ik_vretW C hr hlk dX7_coldItem_39
    · have hf := ik_neg hc hf
      refine ik_iload_n C 0 rfl rfl dX7_coldItem_30 ?_
      refine ik_ineg C dX7_coldItem_31 ?_
      refine ik_goto C 36 dX7_coldItem_32 (by decide) ?_
      obtain ⟨g8, hc8, hf⟩ := ik_b1s hf
      have hM := (c_X7_tells l D cI cS h0 h1 h2 h3 h4 h5 h6 h7 h8 h9 h10 h11 misKept mtaped g3 g4 g5 g6 g7 mm mkept mwas mother mfound mwarm mdrip mtape mbits msize mnumber (1 : Int32) (-r2) g8 hc8)
      refine ik_goW (v := none) (wc := (wz_X7 cI cS h0 h1 h2 h3 h4 h5 h6 h7 h8 h9 h10 h11 misKept mtaped g3 g4 g5 g6 g7 mm mkept mwas mother mfound mwarm mdrip mtape mbits msize mnumber)) (w1 := (wz_X7 cI cS h0 h1 h2 h3 h4 h5 h6 h7 h8 h9 h10 h11 misKept mtaped g3 g4 g5 g6 g7 g8 mkept mwas mother mfound mwarm mdrip mtape mbits msize mnumber)) [0, 1, 2, 3, 4, 5, 6, 7, 8, 9, 10, 11] [] 12 rfl rfl (wz_X7 cI cS h0 h1 h2 h3 h4 h5 h6 h7 h8 h9 h10 h11 misKept mtaped g3 g4 g5 g6 g7 g8 mkept mwas mother mfound mwarm mdrip mtape mbits msize mnumber) rfl [] rfl rfl rfl (by decide +kernel) (ik_runV (st := []) (As := [.int (1 : Int32), .int (-r2)]) C hM mv_X7_tells wl_42_1 ⟨rfl, rfl, Nat.le_of_ble_eq_true rfl, Nat.le_of_ble_eq_true rfl⟩ [0, 1, 2, 3, 4, 5, 6, 7, 8, 9, 10, 11] rfl (by decide +kernel) 0 rfl rfl rfl rfl (Nat.le_of_ble_eq_true rfl) dX7_coldItem_36 ⟨Nat.zero_le _, Nat.zero_le _⟩) rfl ?_
      obtain ⟨rfl, rfl, rfl, rfl, rfl, rfl⟩ := ik_e6 hf
      exact ik_vretW C hr hlk dX7_coldItem_39
  · have hf := ik_neg hc hf
    refine ik_aload_n C 1 rfl rfl dX7_coldItem_11 ?_
    obtain ⟨g2, g3, g4, g5, hc5, hf⟩ := ik_b4s hf
    have hM := (c_X7_token l D cI cS h0 h1 h2 h3 h4 h5 h6 h7 h8 h9 h10 h11 misKept mtaped msort mfrom mto mvalue mbad mm mkept mwas mother mfound mwarm mdrip mtape mbits msize mnumber g2 g3 g4 g5 hc5)
    refine ik_goW (v := none) (wc := (wz_X7 cI cS h0 h1 h2 h3 h4 h5 h6 h7 h8 h9 h10 h11 misKept mtaped msort mfrom mto mvalue mbad mm mkept mwas mother mfound mwarm mdrip mtape mbits msize mnumber)) (w1 := (wz_X7 cI cS h0 h1 h2 h3 h4 h5 h6 h7 h8 h9 h10 h11 misKept mtaped g2 g3 g4 g5 mbad mm mkept mwas mother mfound mwarm mdrip mtape mbits msize mnumber)) [0, 1, 2, 3, 4, 5, 6, 7, 8, 9, 10, 11] [] 12 rfl rfl (wz_X7 cI cS h0 h1 h2 h3 h4 h5 h6 h7 h8 h9 h10 h11 misKept mtaped g2 g3 g4 g5 mbad mm mkept mwas mother mfound mwarm mdrip mtape mbits msize mnumber) rfl [] rfl rfl rfl (by decide +kernel) (ik_runV (st := []) (As := []) C hM mv_X7_token wl_40_18 ⟨rfl, rfl, Nat.le_of_ble_eq_true rfl, Nat.le_of_ble_eq_true rfl⟩ [0, 1, 2, 3, 4, 5, 6, 7, 8, 9, 10, 11] rfl (by decide +kernel) 0 rfl rfl rfl rfl (Nat.le_of_ble_eq_true rfl) dX7_coldItem_12 ⟨Nat.zero_le _, Nat.zero_le _⟩) rfl ?_
    refine ik_aload_n C 1 rfl rfl dX7_coldItem_15 ?_
    refine ik_iconst (v := (0 : Int32)) C (by decide) dX7_coldItem_16 ?_
    refine ik_bipush (v := (20 : Int32)) C (by decide) dX7_coldItem_17 ?_
    refine ik_iconst (v := (1 : Int32)) C (by decide) dX7_coldItem_19 ?_
    obtain ⟨r6, g7, g8, g9, g10, g11, hc11, hf⟩ := ik_b6s hf
    have hM := (c_X7_number l D cI cS h0 h1 h2 h3 h4 h5 h6 h7 h8 h9 h10 h11 misKept mtaped g2 g3 g4 g5 mbad mm mkept mwas mother mfound mwarm mdrip mtape mbits msize mnumber (0 : Int32) (20 : Int32) (1 : Int32) r6 g7 g8 g9 g10 g11 hc11)
    refine ik_goW (v := (some (.int r6))) (wc := (wz_X7 cI cS h0 h1 h2 h3 h4 h5 h6 h7 h8 h9 h10 h11 misKept mtaped g2 g3 g4 g5 mbad mm mkept mwas mother mfound mwarm mdrip mtape mbits msize mnumber)) (w1 := (wz_X7 cI cS h0 h1 h2 h3 h4 h5 h6 h7 h8 h9 h10 h11 misKept mtaped g7 g8 g9 g10 g11 mm mkept mwas mother mfound mwarm mdrip mtape mbits msize mnumber)) [0, 1, 2, 3, 4, 5, 6, 7, 8, 9, 10, 11] [] 12 rfl rfl (wz_X7 cI cS h0 h1 h2 h3 h4 h5 h6 h7 h8 h9 h10 h11 misKept mtaped g7 g8 g9 g10 g11 mm mkept mwas mother mfound mwarm mdrip mtape mbits msize mnumber) rfl [] rfl rfl rfl (by decide +kernel) (ik_runV (st := []) (As := [.int (0 : Int32), .int (20 : Int32), .int (1 : Int32)]) C hM mv_X7_number wl_41_21 ⟨rfl, rfl, Nat.le_of_ble_eq_true rfl, Nat.le_of_ble_eq_true rfl⟩ [0, 1, 2, 3, 4, 5, 6, 7, 8, 9, 10, 11] rfl (by decide +kernel) 0 rfl rfl rfl rfl (Nat.le_of_ble_eq_true rfl) dX7_coldItem_20 ⟨Nat.zero_le _, Nat.zero_le _⟩) rfl ?_
    refine ik_istore_n C [(2, .int r6), (1, .int r1), (0, .ref h0)] rfl (by decide) rfl dX7_coldItem_23 ?_
    refine ik_aload_n C 2 rfl rfl dX7_coldItem_24 ?_
    refine ik_iconst (v := (1 : Int32)) C (by decide) dX7_coldItem_25 ?_
    refine ik_iload_n C 1 rfl rfl dX7_coldItem_26 ?_
    refine ik_if_eq C 35 dX7_coldItem_27 (by decide) (fun hc => ?_) (fun hc => ?_)
    · have hf := ik_pos hc hf
      refine ik_iload_n C 0 rfl rfl dX7_coldItem_35 ?_
      obtain ⟨g12, hc12, hf⟩ := ik_b1s hf
      have hM := (c_X7_tells l D cI cS h0 h1 h2 h3 h4 h5 h6 h7 h8 h9 h10 h11 misKept mtaped g7 g8 g9 g10 g11 mm mkept mwas mother mfound mwarm mdrip mtape mbits msize mnumber (1 : Int32) r6 g12 hc12)
      refine ik_goW (v := none) (wc := (wz_X7 cI cS h0 h1 h2 h3 h4 h5 h6 h7 h8 h9 h10 h11 misKept mtaped g7 g8 g9 g10 g11 mm mkept mwas mother mfound mwarm mdrip mtape mbits msize mnumber)) (w1 := (wz_X7 cI cS h0 h1 h2 h3 h4 h5 h6 h7 h8 h9 h10 h11 misKept mtaped g7 g8 g9 g10 g11 g12 mkept mwas mother mfound mwarm mdrip mtape mbits msize mnumber)) [0, 1, 2, 3, 4, 5, 6, 7, 8, 9, 10, 11] [] 12 rfl rfl (wz_X7 cI cS h0 h1 h2 h3 h4 h5 h6 h7 h8 h9 h10 h11 misKept mtaped g7 g8 g9 g10 g11 g12 mkept mwas mother mfound mwarm mdrip mtape mbits msize mnumber) rfl [] rfl rfl rfl (by decide +kernel) (ik_runV (st := []) (As := [.int (1 : Int32), .int r6]) C hM mv_X7_tells wl_42_1 ⟨rfl, rfl, Nat.le_of_ble_eq_true rfl, Nat.le_of_ble_eq_true rfl⟩ [0, 1, 2, 3, 4, 5, 6, 7, 8, 9, 10, 11] rfl (by decide +kernel) 0 rfl rfl rfl rfl (Nat.le_of_ble_eq_true rfl) dX7_coldItem_36 ⟨Nat.zero_le _, Nat.zero_le _⟩) rfl ?_
      obtain ⟨rfl, rfl, rfl, rfl, rfl, rfl⟩ := ik_e6 hf
      exact ik_vretW C hr hlk dX7_coldItem_39
    · have hf := ik_neg hc hf
      refine ik_iload_n C 0 rfl rfl dX7_coldItem_30 ?_
      refine ik_ineg C dX7_coldItem_31 ?_
      refine ik_goto C 36 dX7_coldItem_32 (by decide) ?_
      obtain ⟨g12, hc12, hf⟩ := ik_b1s hf
      have hM := (c_X7_tells l D cI cS h0 h1 h2 h3 h4 h5 h6 h7 h8 h9 h10 h11 misKept mtaped g7 g8 g9 g10 g11 mm mkept mwas mother mfound mwarm mdrip mtape mbits msize mnumber (1 : Int32) (-r6) g12 hc12)
      refine ik_goW (v := none) (wc := (wz_X7 cI cS h0 h1 h2 h3 h4 h5 h6 h7 h8 h9 h10 h11 misKept mtaped g7 g8 g9 g10 g11 mm mkept mwas mother mfound mwarm mdrip mtape mbits msize mnumber)) (w1 := (wz_X7 cI cS h0 h1 h2 h3 h4 h5 h6 h7 h8 h9 h10 h11 misKept mtaped g7 g8 g9 g10 g11 g12 mkept mwas mother mfound mwarm mdrip mtape mbits msize mnumber)) [0, 1, 2, 3, 4, 5, 6, 7, 8, 9, 10, 11] [] 12 rfl rfl (wz_X7 cI cS h0 h1 h2 h3 h4 h5 h6 h7 h8 h9 h10 h11 misKept mtaped g7 g8 g9 g10 g11 g12 mkept mwas mother mfound mwarm mdrip mtape mbits msize mnumber) rfl [] rfl rfl rfl (by decide +kernel) (ik_runV (st := []) (As := [.int (1 : Int32), .int (-r6)]) C hM mv_X7_tells wl_42_1 ⟨rfl, rfl, Nat.le_of_ble_eq_true rfl, Nat.le_of_ble_eq_true rfl⟩ [0, 1, 2, 3, 4, 5, 6, 7, 8, 9, 10, 11] rfl (by decide +kernel) 0 rfl rfl rfl rfl (Nat.le_of_ble_eq_true rfl) dX7_coldItem_36 ⟨Nat.zero_le _, Nat.zero_le _⟩) rfl ?_
      obtain ⟨rfl, rfl, rfl, rfl, rfl, rfl⟩ := ik_e6 hf
      exact ik_vretW C hr hlk dX7_coldItem_39
theorem mv_X7_blockItem : ik_V yX7_blockItem RX7 cX7_blockItem 4 none 1 := ⟨wl_42_18, wl_42_19, wl_1_5, wl_42_20, by decide +kernel⟩
set_option maxHeartbeats 4000000 in
set_option maxRecDepth 100000 in
theorem c_X7_blockItem (l : Launch) (D : va_G) (cI cS : ClassId) (aK aV : Nat → Nat) (ka : Nat) (h0 h1 h2 h3 h4 h5 h6 h7 h8 h9 h10 h11 : Nat) (misKept : Int32) (mtaped : Int32) (msort : Int32) (mfrom : Int32) (mto : Int32) (mvalue : Int32) (mbad : Int32) (mm : Nat → Int32) (mkept : Nat → Int32) (mwas : Nat → Int32) (mother : Nat → Int32) (mfound : Nat → Int32) (mwarm : Nat → Int32) (mdrip : Nat → Int32) (mtape : Nat → Int32) (mbits : Nat → Int32) (msize : Nat → Int32) (mnumber : Nat → Int32) (x1 : Int32) (msort_r : Int32) (mfrom_r : Int32) (mto_r : Int32) (mvalue_r : Int32) (mbad_r : Int32) (mm_r : Nat → Int32) (hf : f_X7_blockItem mtaped msort mfrom mto mvalue mbad mm mtape x1 = some (msort_r, mfrom_r, mto_r, mvalue_r, mbad_r, mm_r)) : Met l yX7_blockItem (ik_ws yX7_blockItem cX7_blockItem 4 none) ({ frames := 6, cells := 0, slots := 0, locals := 155 } : Room) (ik_PZ D cI cS aK aV ka [.ref h0, .int x1] (wz_X7 cI cS h0 h1 h2 h3 h4 h5 h6 h7 h8 h9 h10 h11 misKept mtaped msort mfrom mto mvalue mbad mm mkept mwas mother mfound mwarm mdrip mtape mbits msize mnumber)) (ik_Q none D (wz_X7 cI cS h0 h1 h2 h3 h4 h5 h6 h7 h8 h9 h10 h11 misKept mtaped msort_r mfrom_r mto_r mvalue_r mbad_r mm_r mkept mwas mother mfound mwarm mdrip mtape mbits msize mnumber) (wz_X7 cI cS h0 h1 h2 h3 h4 h5 h6 h7 h8 h9 h10 h11 misKept mtaped msort mfrom mto mvalue mbad mm mkept mwas mother mfound mwarm mdrip mtape mbits msize mnumber)) 0 0 (ik_in (wz_X7 cI cS h0 h1 h2 h3 h4 h5 h6 h7 h8 h9 h10 h11 misKept mtaped msort mfrom mto mvalue mbad mm mkept mwas mother mfound mwarm mdrip mtape mbits msize mnumber)) := by
  refine ik_metWZ RX7 rfl (by decide) (Nat.le_of_ble_eq_true rfl) [(0, .ref h0), (1, .int x1)] rfl ?_
  intro p e s m below meth c C hr hlk hZ
  unfold f_X7_blockItem at hf
  refine ik_aload_n C 0 rfl rfl dX7_blockItem_0 ?_
  have hJ_28 : ∀ (v0_28 : Int32), j_X7_blockItem_28 mtaped msort mfrom mto mvalue mm mtape x1 v0_28 = some (msort_r, mfrom_r, mto_r, mvalue_r, mbad_r, mm_r) → ik_G p l e ({ frames := 6, cells := 0, slots := 0, locals := 155 } : Room) s m ([.ref h0, .int x1] : List Value).toArray below meth c D (ik_in (wz_X7 cI cS h0 h1 h2 h3 h4 h5 h6 h7 h8 h9 h10 h11 misKept mtaped msort mfrom mto mvalue mbad mm mkept mwas mother mfound mwarm mdrip mtape mbits msize mnumber)) (ik_in (wz_X7 cI cS h0 h1 h2 h3 h4 h5 h6 h7 h8 h9 h10 h11 misKept mtaped msort mfrom mto mvalue mbad mm mkept mwas mother mfound mwarm mdrip mtape mbits msize mnumber)) 4 0 0 (MQ below (ik_Q none D (wz_X7 cI cS h0 h1 h2 h3 h4 h5 h6 h7 h8 h9 h10 h11 misKept mtaped msort_r mfrom_r mto_r mvalue_r mbad_r mm_r mkept mwas mother mfound mwarm mdrip mtape mbits msize mnumber) (wz_X7 cI cS h0 h1 h2 h3 h4 h5 h6 h7 h8 h9 h10 h11 misKept mtaped msort mfrom mto mvalue mbad mm mkept mwas mother mfound mwarm mdrip mtape mbits msize mnumber)) ([.ref h0, .int x1] : List Value).toArray s 0 0 (ik_in (wz_X7 cI cS h0 h1 h2 h3 h4 h5 h6 h7 h8 h9 h10 h11 misKept mtaped msort mfrom mto mvalue mbad mm mkept mwas mother mfound mwarm mdrip mtape mbits msize mnumber))) 28 [(0, .ref h0), (1, .int x1)] [.int v0_28, .ref h0] (wz_X7 cI cS h0 h1 h2 h3 h4 h5 h6 h7 h8 h9 h10 h11 misKept mtaped msort mfrom mto mvalue mbad mm mkept mwas mother mfound mwarm mdrip mtape mbits msize mnumber) := by
    intro v0_28 hf
    unfold j_X7_blockItem_28 at hf
    have hz := ik_gzi hf
    have hf := ik_gzk hf
    refine ik_put C inlX7 tyX7 tyX7_ok nmX7 0 rfl rfl 14 (by decide) wl_40_15 rfl (by decide) hz.1 hz.2 (Nat.le_of_ble_eq_true rfl) (wz_X7 cI cS h0 h1 h2 h3 h4 h5 h6 h7 h8 h9 h10 h11 misKept mtaped msort mfrom mto mvalue v0_28 mm mkept mwas mother mfound mwarm mdrip mtape mbits msize mnumber) rfl dX7_blockItem_28 ?_
    refine ik_aload_n C 0 rfl rfl dX7_blockItem_31 ?_
    refine ik_get C inlX7 0 rfl rfl 14 (by decide) wl_40_15 rfl (v := .int v0_28) rfl dX7_blockItem_32 ?_
    refine ik_if_eq C 39 dX7_blockItem_35 (by decide) (fun hc => ?_) (fun hc => ?_)
    · have hf := ik_pos hc hf
      refine ik_aload_n C 0 rfl rfl dX7_blockItem_39 ?_
      obtain ⟨g1, g2, g3, g4, hc4, hf⟩ := ik_b4s hf
      have hM := (c_X7_token l D cI cS h0 h1 h2 h3 h4 h5 h6 h7 h8 h9 h10 h11 misKept mtaped msort mfrom mto mvalue v0_28 mm mkept mwas mother mfound mwarm mdrip mtape mbits msize mnumber g1 g2 g3 g4 hc4)
      refine ik_goW (v := none) (wc := (wz_X7 cI cS h0 h1 h2 h3 h4 h5 h6 h7 h8 h9 h10 h11 misKept mtaped msort mfrom mto mvalue v0_28 mm mkept mwas mother mfound mwarm mdrip mtape mbits msize mnumber)) (w1 := (wz_X7 cI cS h0 h1 h2 h3 h4 h5 h6 h7 h8 h9 h10 h11 misKept mtaped g1 g2 g3 g4 v0_28 mm mkept mwas mother mfound mwarm mdrip mtape mbits msize mnumber)) [0, 1, 2, 3, 4, 5, 6, 7, 8, 9, 10, 11] [] 12 rfl rfl (wz_X7 cI cS h0 h1 h2 h3 h4 h5 h6 h7 h8 h9 h10 h11 misKept mtaped g1 g2 g3 g4 v0_28 mm mkept mwas mother mfound mwarm mdrip mtape mbits msize mnumber) rfl [] rfl rfl rfl (by decide +kernel) (ik_runV (st := []) (As := []) C hM mv_X7_token wl_40_18 ⟨rfl, rfl, Nat.le_of_ble_eq_true rfl, Nat.le_of_ble_eq_true rfl⟩ [0, 1, 2, 3, 4, 5, 6, 7, 8, 9, 10, 11] rfl (by decide +kernel) 0 rfl rfl rfl rfl (Nat.le_of_ble_eq_true rfl) dX7_blockItem_40 ⟨Nat.zero_le _, Nat.zero_le _⟩) rfl ?_
      refine ik_aload_n C 0 rfl rfl dX7_blockItem_43 ?_
      refine ik_iconst (v := (0 : Int32)) C (by decide) dX7_blockItem_44 ?_
      refine ik_bipush (v := (47 : Int32)) C (by decide) dX7_blockItem_45 ?_
      have hJ_73 : ∀ (v0_73 : Int32), j_X7_blockItem_73 mtaped mm mtape x1 v0_28 g1 g2 g3 g4 v0_73 = some (msort_r, mfrom_r, mto_r, mvalue_r, mbad_r, mm_r) → ik_G p l e ({ frames := 6, cells := 0, slots := 0, locals := 155 } : Room) s m ([.ref h0, .int x1] : List Value).toArray below meth c D (ik_in (wz_X7 cI cS h0 h1 h2 h3 h4 h5 h6 h7 h8 h9 h10 h11 misKept mtaped msort mfrom mto mvalue mbad mm mkept mwas mother mfound mwarm mdrip mtape mbits msize mnumber)) (ik_in (wz_X7 cI cS h0 h1 h2 h3 h4 h5 h6 h7 h8 h9 h10 h11 misKept mtaped msort mfrom mto mvalue mbad mm mkept mwas mother mfound mwarm mdrip mtape mbits msize mnumber)) 4 0 0 (MQ below (ik_Q none D (wz_X7 cI cS h0 h1 h2 h3 h4 h5 h6 h7 h8 h9 h10 h11 misKept mtaped msort_r mfrom_r mto_r mvalue_r mbad_r mm_r mkept mwas mother mfound mwarm mdrip mtape mbits msize mnumber) (wz_X7 cI cS h0 h1 h2 h3 h4 h5 h6 h7 h8 h9 h10 h11 misKept mtaped msort mfrom mto mvalue mbad mm mkept mwas mother mfound mwarm mdrip mtape mbits msize mnumber)) ([.ref h0, .int x1] : List Value).toArray s 0 0 (ik_in (wz_X7 cI cS h0 h1 h2 h3 h4 h5 h6 h7 h8 h9 h10 h11 misKept mtaped msort mfrom mto mvalue mbad mm mkept mwas mother mfound mwarm mdrip mtape mbits msize mnumber))) 73 [(0, .ref h0), (1, .int x1)] [.int v0_73, .int (47 : Int32), .int (0 : Int32), .ref h0] (wz_X7 cI cS h0 h1 h2 h3 h4 h5 h6 h7 h8 h9 h10 h11 misKept mtaped g1 g2 g3 g4 v0_28 mm mkept mwas mother mfound mwarm mdrip mtape mbits msize mnumber) := by
        intro v0_73 hf
        unfold j_X7_blockItem_73 at hf
        obtain ⟨r5, g6, g7, g8, g9, g10, hc10, hf⟩ := ik_b6s hf
        have hM := (c_X7_number l D cI cS h0 h1 h2 h3 h4 h5 h6 h7 h8 h9 h10 h11 misKept mtaped g1 g2 g3 g4 v0_28 mm mkept mwas mother mfound mwarm mdrip mtape mbits msize mnumber (0 : Int32) (47 : Int32) v0_73 r5 g6 g7 g8 g9 g10 hc10)
        refine ik_goW (v := (some (.int r5))) (wc := (wz_X7 cI cS h0 h1 h2 h3 h4 h5 h6 h7 h8 h9 h10 h11 misKept mtaped g1 g2 g3 g4 v0_28 mm mkept mwas mother mfound mwarm mdrip mtape mbits msize mnumber)) (w1 := (wz_X7 cI cS h0 h1 h2 h3 h4 h5 h6 h7 h8 h9 h10 h11 misKept mtaped g6 g7 g8 g9 g10 mm mkept mwas mother mfound mwarm mdrip mtape mbits msize mnumber)) [0, 1, 2, 3, 4, 5, 6, 7, 8, 9, 10, 11] [] 12 rfl rfl (wz_X7 cI cS h0 h1 h2 h3 h4 h5 h6 h7 h8 h9 h10 h11 misKept mtaped g6 g7 g8 g9 g10 mm mkept mwas mother mfound mwarm mdrip mtape mbits msize mnumber) rfl [] rfl rfl rfl (by decide +kernel) (ik_runV (st := []) (As := [.int (0 : Int32), .int (47 : Int32), .int v0_73]) C hM mv_X7_number wl_41_21 ⟨rfl, rfl, Nat.le_of_ble_eq_true rfl, Nat.le_of_ble_eq_true rfl⟩ [0, 1, 2, 3, 4, 5, 6, 7, 8, 9, 10, 11] rfl (by decide +kernel) 0 rfl rfl rfl rfl (Nat.le_of_ble_eq_true rfl) dX7_blockItem_73 ⟨Nat.zero_le _, Nat.zero_le _⟩) rfl ?_
        refine ik_istore_n C [(2, .int r5), (0, .ref h0), (1, .int x1)] rfl (by decide) rfl dX7_blockItem_76 ?_
        refine ik_aload_n C 1 rfl rfl dX7_blockItem_77 ?_
        refine ik_ldcSw C (hZ.1 23 (by decide)).2.2.2.2 dX7_blockItem_78 ?_
        obtain ⟨r11, g12, g13, g14, g15, hc15, hf⟩ := ik_b5s hf
        have hM := (c_X7_takes l D cI cS aK aV ka 23 (by decide) h0 h1 h2 h3 h4 h5 h6 h7 h8 h9 h10 h11 misKept mtaped g6 g7 g8 g9 g10 mm mkept mwas mother mfound mwarm mdrip mtape mbits msize mnumber r11 g12 g13 g14 g15 hc15)
        refine ik_goW (v := (some (.int r11))) (wc := (wz_X7 cI cS h0 h1 h2 h3 h4 h5 h6 h7 h8 h9 h10 h11 misKept mtaped g6 g7 g8 g9 g10 mm mkept mwas mother mfound mwarm mdrip mtape mbits msize mnumber)) (w1 := (wz_X7 cI cS h0 h1 h2 h3 h4 h5 h6 h7 h8 h9 h10 h11 misKept mtaped g12 g13 g14 g15 g10 mm mkept mwas mother mfound mwarm mdrip mtape mbits msize mnumber)) [0, 1, 2, 3, 4, 5, 6, 7, 8, 9, 10, 11] [] 12 rfl rfl (wz_X7 cI cS h0 h1 h2 h3 h4 h5 h6 h7 h8 h9 h10 h11 misKept mtaped g12 g13 g14 g15 g10 mm mkept mwas mother mfound mwarm mdrip mtape mbits msize mnumber) rfl [] rfl rfl rfl (by decide +kernel) (ik_runVZ (st := []) (As := [.ref (aK 23)]) C hZ (fun _ h => h) ik_hBw hM mv_X7_takes wl_41_7 ⟨rfl, rfl, Nat.le_of_ble_eq_true rfl, Nat.le_of_ble_eq_true rfl⟩ [0, 1, 2, 3, 4, 5, 6, 7, 8, 9, 10, 11] rfl (by decide +kernel) 0 rfl rfl rfl rfl (Nat.le_of_ble_eq_true rfl) dX7_blockItem_81 ⟨Nat.zero_le _, Nat.zero_le _⟩) rfl ?_
        refine ik_if_eq C 98 dX7_blockItem_84 (by decide) (fun hc => ?_) (fun hc => ?_)
        · have hf := ik_pos hc hf
          refine ik_bipush (v := (20 : Int32)) C (by decide) dX7_blockItem_98 ?_
          refine ik_istore_n C [(3, .int (20 : Int32)), (2, .int r5), (0, .ref h0), (1, .int x1)] rfl (by decide) rfl dX7_blockItem_100 ?_
          refine ik_aload_n C 2 rfl rfl dX7_blockItem_101 ?_
          refine ik_get C inlX7 0 rfl rfl 14 (by decide) wl_40_15 rfl (v := .int g10) rfl dX7_blockItem_102 ?_
          refine ik_if_ne C 116 dX7_blockItem_105 (by decide) (fun hc => ?_) (fun hc => ?_)
          · have hf := ik_neg hc hf
            obtain ⟨rfl, rfl, rfl, rfl, rfl, rfl⟩ := ik_e6 hf
            exact ik_vretW C hr hlk dX7_blockItem_116
          · have hf := ik_pos hc hf
            refine ik_aload_n C 2 rfl rfl dX7_blockItem_108 ?_
            refine ik_iload_n C 3 rfl rfl dX7_blockItem_109 ?_
            refine ik_iload_n C 1 rfl rfl dX7_blockItem_110 ?_
            refine ik_iload_n C 0 rfl rfl dX7_blockItem_111 ?_
            obtain ⟨r16, g17, hc17, hf⟩ := ik_b2s hf
            have hM := (c_X7_comes l D cI cS h0 h1 h2 h3 h4 h5 h6 h7 h8 h9 h10 h11 misKept mtaped g12 g13 g14 g15 g10 mm mkept mwas mother mfound mwarm mdrip mtape mbits msize mnumber x1 r5 (20 : Int32) r16 g17 hc17)
            refine ik_goW (v := (some (.int r16))) (wc := (wz_X7 cI cS h0 h1 h2 h3 h4 h5 h6 h7 h8 h9 h10 h11 misKept mtaped g12 g13 g14 g15 g10 mm mkept mwas mother mfound mwarm mdrip mtape mbits msize mnumber)) (w1 := (wz_X7 cI cS h0 h1 h2 h3 h4 h5 h6 h7 h8 h9 h10 h11 misKept mtaped g12 g13 g14 g15 g10 g17 mkept mwas mother mfound mwarm mdrip mtape mbits msize mnumber)) [0, 1, 2, 3, 4, 5, 6, 7, 8, 9, 10, 11] [] 12 rfl rfl (wz_X7 cI cS h0 h1 h2 h3 h4 h5 h6 h7 h8 h9 h10 h11 misKept mtaped g12 g13 g14 g15 g10 g17 mkept mwas mother mfound mwarm mdrip mtape mbits msize mnumber) rfl [] rfl rfl rfl (by decide +kernel) (ik_runV (st := []) (As := [.int x1, .int r5, .int (20 : Int32)]) C hM mv_X7_comes wl_7_20 ⟨rfl, rfl, Nat.le_of_ble_eq_true rfl, Nat.le_of_ble_eq_true rfl⟩ [0, 1, 2, 3, 4, 5, 6, 7, 8, 9, 10, 11] rfl (by decide +kernel) 0 rfl rfl rfl rfl (Nat.le_of_ble_eq_true rfl) dX7_blockItem_112 ⟨Nat.zero_le _, Nat.zero_le _⟩) rfl ?_
            refine ik_pop C rfl dX7_blockItem_115 ?_
            obtain ⟨rfl, rfl, rfl, rfl, rfl, rfl⟩ := ik_e6 hf
            exact ik_vretW C hr hlk dX7_blockItem_116
        · have hf := ik_neg hc hf
          refine ik_aload_n C 1 rfl rfl dX7_blockItem_87 ?_
          refine ik_iconst (v := (1 : Int32)) C (by decide) dX7_blockItem_88 ?_
          refine ik_bipush (v := (99 : Int32)) C (by decide) dX7_blockItem_89 ?_
          refine ik_iconst (v := (1 : Int32)) C (by decide) dX7_blockItem_91 ?_
          obtain ⟨r16, g17, g18, g19, g20, g21, hc21, hf⟩ := ik_b6s hf
          have hM := (c_X7_number l D cI cS h0 h1 h2 h3 h4 h5 h6 h7 h8 h9 h10 h11 misKept mtaped g12 g13 g14 g15 g10 mm mkept mwas mother mfound mwarm mdrip mtape mbits msize mnumber (1 : Int32) (99 : Int32) (1 : Int32) r16 g17 g18 g19 g20 g21 hc21)
          refine ik_goW (v := (some (.int r16))) (wc := (wz_X7 cI cS h0 h1 h2 h3 h4 h5 h6 h7 h8 h9 h10 h11 misKept mtaped g12 g13 g14 g15 g10 mm mkept mwas mother mfound mwarm mdrip mtape mbits msize mnumber)) (w1 := (wz_X7 cI cS h0 h1 h2 h3 h4 h5 h6 h7 h8 h9 h10 h11 misKept mtaped g17 g18 g19 g20 g21 mm mkept mwas mother mfound mwarm mdrip mtape mbits msize mnumber)) [0, 1, 2, 3, 4, 5, 6, 7, 8, 9, 10, 11] [] 12 rfl rfl (wz_X7 cI cS h0 h1 h2 h3 h4 h5 h6 h7 h8 h9 h10 h11 misKept mtaped g17 g18 g19 g20 g21 mm mkept mwas mother mfound mwarm mdrip mtape mbits msize mnumber) rfl [] rfl rfl rfl (by decide +kernel) (ik_runV (st := []) (As := [.int (1 : Int32), .int (99 : Int32), .int (1 : Int32)]) C hM mv_X7_number wl_41_21 ⟨rfl, rfl, Nat.le_of_ble_eq_true rfl, Nat.le_of_ble_eq_true rfl⟩ [0, 1, 2, 3, 4, 5, 6, 7, 8, 9, 10, 11] rfl (by decide +kernel) 0 rfl rfl rfl rfl (Nat.le_of_ble_eq_true rfl) dX7_blockItem_92 ⟨Nat.zero_le _, Nat.zero_le _⟩) rfl ?_
          refine ik_goto C 100 dX7_blockItem_95 (by decide) ?_
          refine ik_istore_n C [(3, .int r16), (2, .int r5), (0, .ref h0), (1, .int x1)] rfl (by decide) rfl dX7_blockItem_100 ?_
          refine ik_aload_n C 2 rfl rfl dX7_blockItem_101 ?_
          refine ik_get C inlX7 0 rfl rfl 14 (by decide) wl_40_15 rfl (v := .int g21) rfl dX7_blockItem_102 ?_
          refine ik_if_ne C 116 dX7_blockItem_105 (by decide) (fun hc => ?_) (fun hc => ?_)
          · have hf := ik_neg hc hf
            obtain ⟨rfl, rfl, rfl, rfl, rfl, rfl⟩ := ik_e6 hf
            exact ik_vretW C hr hlk dX7_blockItem_116
          · have hf := ik_pos hc hf
            refine ik_aload_n C 2 rfl rfl dX7_blockItem_108 ?_
            refine ik_iload_n C 3 rfl rfl dX7_blockItem_109 ?_
            refine ik_iload_n C 1 rfl rfl dX7_blockItem_110 ?_
            refine ik_iload_n C 0 rfl rfl dX7_blockItem_111 ?_
            obtain ⟨r22, g23, hc23, hf⟩ := ik_b2s hf
            have hM := (c_X7_comes l D cI cS h0 h1 h2 h3 h4 h5 h6 h7 h8 h9 h10 h11 misKept mtaped g17 g18 g19 g20 g21 mm mkept mwas mother mfound mwarm mdrip mtape mbits msize mnumber x1 r5 r16 r22 g23 hc23)
            refine ik_goW (v := (some (.int r22))) (wc := (wz_X7 cI cS h0 h1 h2 h3 h4 h5 h6 h7 h8 h9 h10 h11 misKept mtaped g17 g18 g19 g20 g21 mm mkept mwas mother mfound mwarm mdrip mtape mbits msize mnumber)) (w1 := (wz_X7 cI cS h0 h1 h2 h3 h4 h5 h6 h7 h8 h9 h10 h11 misKept mtaped g17 g18 g19 g20 g21 g23 mkept mwas mother mfound mwarm mdrip mtape mbits msize mnumber)) [0, 1, 2, 3, 4, 5, 6, 7, 8, 9, 10, 11] [] 12 rfl rfl (wz_X7 cI cS h0 h1 h2 h3 h4 h5 h6 h7 h8 h9 h10 h11 misKept mtaped g17 g18 g19 g20 g21 g23 mkept mwas mother mfound mwarm mdrip mtape mbits msize mnumber) rfl [] rfl rfl rfl (by decide +kernel) (ik_runV (st := []) (As := [.int x1, .int r5, .int r16]) C hM mv_X7_comes wl_7_20 ⟨rfl, rfl, Nat.le_of_ble_eq_true rfl, Nat.le_of_ble_eq_true rfl⟩ [0, 1, 2, 3, 4, 5, 6, 7, 8, 9, 10, 11] rfl (by decide +kernel) 0 rfl rfl rfl rfl (Nat.le_of_ble_eq_true rfl) dX7_blockItem_112 ⟨Nat.zero_le _, Nat.zero_le _⟩) rfl ?_
            refine ik_pop C rfl dX7_blockItem_115 ?_
            obtain ⟨rfl, rfl, rfl, rfl, rfl, rfl⟩ := ik_e6 hf
            exact ik_vretW C hr hlk dX7_blockItem_116
      refine ik_aload_n C 0 rfl rfl dX7_blockItem_47 ?_
      refine ik_get C inlX7 0 rfl rfl 13 (by decide) wl_40_22 rfl (v := .int g4) rfl dX7_blockItem_48 ?_
      obtain ⟨r5, hc5, hf⟩ := ik_b1s hf
      have hM := (c_X7_isCell l D cI cS g4 r5 hc5)
      refine ik_goR (ik_runS (st := [.int (47 : Int32), .int (0 : Int32), .ref h0]) (As := [.int g4]) C hM ms_X7_isCell wl_7_0 ⟨rfl, rfl, Nat.le_of_ble_eq_true rfl, Nat.le_of_ble_eq_true rfl⟩ [] rfl (by decide +kernel) rfl rfl (Nat.le_of_ble_eq_true rfl) dX7_blockItem_51 ⟨Nat.zero_le _, Nat.zero_le _⟩) rfl ?_
      refine ik_if_eq C 68 dX7_blockItem_54 (by decide) (fun hc => ?_) (fun hc => ?_)
      · have hf := ik_pos hc hf
        refine ik_iconst (v := (1 : Int32)) C (by decide) dX7_blockItem_68 ?_
        refine ik_goto C 73 dX7_blockItem_69 (by decide) ?_
        exact ik_sub [0, 1] [(0, .ref h0), (1, .int x1)] rfl (hJ_73 (1 : Int32) hf)
      · have hf := ik_neg hc hf
        refine ik_aload_n C 0 rfl rfl dX7_blockItem_57 ?_
        refine ik_aload_n C 0 rfl rfl dX7_blockItem_58 ?_
        refine ik_get C inlX7 0 rfl rfl 13 (by decide) wl_40_22 rfl (v := .int g4) rfl dX7_blockItem_59 ?_
        obtain ⟨r6, hc6, hf⟩ := ik_b1s hf
        have hM := (c_X7_blockOn l D cI cS h0 h1 h2 h3 h4 h5 h6 h7 h8 h9 h10 h11 misKept mtaped g1 g2 g3 g4 v0_28 mm mkept mwas mother mfound mwarm mdrip mtape mbits msize mnumber g4 r6 hc6)
        refine ik_goR (ik_runV (st := [.int (47 : Int32), .int (0 : Int32), .ref h0]) (As := [.int g4]) C hM mv_X7_blockOn wl_7_12 ⟨rfl, rfl, Nat.le_of_ble_eq_true rfl, Nat.le_of_ble_eq_true rfl⟩ [0, 1, 2, 3, 4, 5, 6, 7, 8, 9, 10, 11] rfl (by decide +kernel) 0 rfl rfl rfl rfl (Nat.le_of_ble_eq_true rfl) dX7_blockItem_62 ⟨Nat.zero_le _, Nat.zero_le _⟩) rfl ?_
        refine ik_if_ge C 72 dX7_blockItem_65 (by decide) (fun hc => ?_) (fun hc => ?_)
        · have hf := ik_pos hc hf
          refine ik_iconst (v := (0 : Int32)) C (by decide) dX7_blockItem_72 ?_
          exact ik_sub [0, 1] [(0, .ref h0), (1, .int x1)] rfl (hJ_73 (0 : Int32) hf)
        · have hf := ik_neg hc hf
          refine ik_iconst (v := (1 : Int32)) C (by decide) dX7_blockItem_68 ?_
          refine ik_goto C 73 dX7_blockItem_69 (by decide) ?_
          exact ik_sub [0, 1] [(0, .ref h0), (1, .int x1)] rfl (hJ_73 (1 : Int32) hf)
    · have hf := ik_neg hc hf
      obtain ⟨rfl, rfl, rfl, rfl, rfl, rfl⟩ := ik_e6 hf
      exact ik_vretW C hr hlk dX7_blockItem_38
  refine ik_aload_n C 0 rfl rfl dX7_blockItem_1 ?_
  refine ik_get C inlX7 0 rfl rfl 14 (by decide) wl_40_15 rfl (v := .int mbad) rfl dX7_blockItem_2 ?_
  refine ik_if_ne C 23 dX7_blockItem_5 (by decide) (fun hc => ?_) (fun hc => ?_)
  · have hf := ik_neg hc hf
    refine ik_iconst (v := (1 : Int32)) C (by decide) dX7_blockItem_23 ?_
    refine ik_goto C 28 dX7_blockItem_24 (by decide) ?_
    exact ik_sub [0, 1] [(0, .ref h0), (1, .int x1)] rfl (hJ_28 (1 : Int32) hf)
  · have hf := ik_pos hc hf
    refine ik_iload_n C 1 rfl rfl dX7_blockItem_8 ?_
    refine ik_if_lt C 23 dX7_blockItem_9 (by decide) (fun hc => ?_) (fun hc => ?_)
    · have hf := ik_pos hc hf
      refine ik_iconst (v := (1 : Int32)) C (by decide) dX7_blockItem_23 ?_
      refine ik_goto C 28 dX7_blockItem_24 (by decide) ?_
      exact ik_sub [0, 1] [(0, .ref h0), (1, .int x1)] rfl (hJ_28 (1 : Int32) hf)
    · have hf := ik_neg hc hf
      refine ik_aload_n C 0 rfl rfl dX7_blockItem_12 ?_
      refine ik_get C inlX7 0 rfl rfl 0 (by decide) wl_4_12 rfl (v := .ref h1) rfl dX7_blockItem_13 ?_
      refine ik_iconst (v := (5 : Int32)) C (by decide) dX7_blockItem_16 ?_
      refine ik_iald C 1 rfl (ik_vin (by decide)) dX7_blockItem_17 ?_
      refine ik_bipush (v := (16 : Int32)) C (by decide) dX7_blockItem_18 ?_
      refine ik_icmp_ne C 27 dX7_blockItem_20 (by decide) (fun hc => ?_) (fun hc => ?_)
      · have hf := ik_neg hc hf
        refine ik_iconst (v := (0 : Int32)) C (by decide) dX7_blockItem_27 ?_
        exact ik_sub [0, 1] [(0, .ref h0), (1, .int x1)] rfl (hJ_28 (0 : Int32) hf)
      · have hf := ik_pos hc hf
        refine ik_iconst (v := (1 : Int32)) C (by decide) dX7_blockItem_23 ?_
        refine ik_goto C 28 dX7_blockItem_24 (by decide) ?_
        exact ik_sub [0, 1] [(0, .ref h0), (1, .int x1)] rfl (hJ_28 (1 : Int32) hf)
theorem mv_X7_item : ik_V yX7_item RX7 cX7_item 1 none 0 := ⟨wl_41_4, wl_41_5, wl_1_5, wl_41_6, by decide +kernel⟩
set_option maxHeartbeats 4000000 in
set_option maxRecDepth 100000 in
theorem c_X7_item (l : Launch) (D : va_G) (cI cS : ClassId) (aK aV : Nat → Nat) (ka : Nat) (h0 h1 h2 h3 h4 h5 h6 h7 h8 h9 h10 h11 : Nat) (misKept : Int32) (mtaped : Int32) (msort : Int32) (mfrom : Int32) (mto : Int32) (mvalue : Int32) (mbad : Int32) (mm : Nat → Int32) (mkept : Nat → Int32) (mwas : Nat → Int32) (mother : Nat → Int32) (mfound : Nat → Int32) (mwarm : Nat → Int32) (mdrip : Nat → Int32) (mtape : Nat → Int32) (mbits : Nat → Int32) (msize : Nat → Int32) (mnumber : Nat → Int32) (msort_r : Int32) (mfrom_r : Int32) (mto_r : Int32) (mvalue_r : Int32) (mbad_r : Int32) (mm_r : Nat → Int32) (hf : f_X7_item mtaped msort mfrom mto mvalue mbad mm mtape = some (msort_r, mfrom_r, mto_r, mvalue_r, mbad_r, mm_r)) : Met l yX7_item (ik_ws yX7_item cX7_item 1 none) ({ frames := 7, cells := 0, slots := 0, locals := 178 } : Room) (ik_PZ D cI cS aK aV ka [.ref h0] (wz_X7 cI cS h0 h1 h2 h3 h4 h5 h6 h7 h8 h9 h10 h11 misKept mtaped msort mfrom mto mvalue mbad mm mkept mwas mother mfound mwarm mdrip mtape mbits msize mnumber)) (ik_Q none D (wz_X7 cI cS h0 h1 h2 h3 h4 h5 h6 h7 h8 h9 h10 h11 misKept mtaped msort_r mfrom_r mto_r mvalue_r mbad_r mm_r mkept mwas mother mfound mwarm mdrip mtape mbits msize mnumber) (wz_X7 cI cS h0 h1 h2 h3 h4 h5 h6 h7 h8 h9 h10 h11 misKept mtaped msort mfrom mto mvalue mbad mm mkept mwas mother mfound mwarm mdrip mtape mbits msize mnumber)) 0 0 (ik_in (wz_X7 cI cS h0 h1 h2 h3 h4 h5 h6 h7 h8 h9 h10 h11 misKept mtaped msort mfrom mto mvalue mbad mm mkept mwas mother mfound mwarm mdrip mtape mbits msize mnumber)) := by
  refine ik_metWZ RX7 rfl (by decide) (Nat.le_of_ble_eq_true rfl) [(0, .ref h0)] rfl ?_
  intro p e s m below meth c C hr hlk hZ
  unfold f_X7_item at hf
  refine ik_aload_n C 0 rfl rfl dX7_item_0 ?_
  refine ik_ldcSw C (hZ.1 24 (by decide)).2.2.2.2 dX7_item_1 ?_
  obtain ⟨r1, g2, g3, g4, g5, hc5, hf⟩ := ik_b5s hf
  have hM := (c_X7_takes l D cI cS aK aV ka 24 (by decide) h0 h1 h2 h3 h4 h5 h6 h7 h8 h9 h10 h11 misKept mtaped msort mfrom mto mvalue mbad mm mkept mwas mother mfound mwarm mdrip mtape mbits msize mnumber r1 g2 g3 g4 g5 hc5)
  refine ik_goW (v := (some (.int r1))) (wc := (wz_X7 cI cS h0 h1 h2 h3 h4 h5 h6 h7 h8 h9 h10 h11 misKept mtaped msort mfrom mto mvalue mbad mm mkept mwas mother mfound mwarm mdrip mtape mbits msize mnumber)) (w1 := (wz_X7 cI cS h0 h1 h2 h3 h4 h5 h6 h7 h8 h9 h10 h11 misKept mtaped g2 g3 g4 g5 mbad mm mkept mwas mother mfound mwarm mdrip mtape mbits msize mnumber)) [0, 1, 2, 3, 4, 5, 6, 7, 8, 9, 10, 11] [] 12 rfl rfl (wz_X7 cI cS h0 h1 h2 h3 h4 h5 h6 h7 h8 h9 h10 h11 misKept mtaped g2 g3 g4 g5 mbad mm mkept mwas mother mfound mwarm mdrip mtape mbits msize mnumber) rfl [] rfl rfl rfl (by decide +kernel) (ik_runVZ (st := []) (As := [.ref (aK 24)]) C hZ (fun _ h => h) ik_hBw hM mv_X7_takes wl_41_7 ⟨rfl, rfl, Nat.le_of_ble_eq_true rfl, Nat.le_of_ble_eq_true rfl⟩ [0, 1, 2, 3, 4, 5, 6, 7, 8, 9, 10, 11] rfl (by decide +kernel) 0 rfl rfl rfl rfl (Nat.le_of_ble_eq_true rfl) dX7_item_4 ⟨Nat.zero_le _, Nat.zero_le _⟩) rfl ?_
  refine ik_if_eq C 17 dX7_item_7 (by decide) (fun hc => ?_) (fun hc => ?_)
  · have hf := ik_pos hc hf
    refine ik_aload_n C 0 rfl rfl dX7_item_17 ?_
    refine ik_ldcSw C (hZ.1 25 (by decide)).2.2.2.2 dX7_item_18 ?_
    obtain ⟨r6, g7, g8, g9, g10, hc10, hf⟩ := ik_b5s hf
    have hM := (c_X7_takes l D cI cS aK aV ka 25 (by decide) h0 h1 h2 h3 h4 h5 h6 h7 h8 h9 h10 h11 misKept mtaped g2 g3 g4 g5 mbad mm mkept mwas mother mfound mwarm mdrip mtape mbits msize mnumber r6 g7 g8 g9 g10 hc10)
    refine ik_goW (v := (some (.int r6))) (wc := (wz_X7 cI cS h0 h1 h2 h3 h4 h5 h6 h7 h8 h9 h10 h11 misKept mtaped g2 g3 g4 g5 mbad mm mkept mwas mother mfound mwarm mdrip mtape mbits msize mnumber)) (w1 := (wz_X7 cI cS h0 h1 h2 h3 h4 h5 h6 h7 h8 h9 h10 h11 misKept mtaped g7 g8 g9 g10 mbad mm mkept mwas mother mfound mwarm mdrip mtape mbits msize mnumber)) [0, 1, 2, 3, 4, 5, 6, 7, 8, 9, 10, 11] [] 12 rfl rfl (wz_X7 cI cS h0 h1 h2 h3 h4 h5 h6 h7 h8 h9 h10 h11 misKept mtaped g7 g8 g9 g10 mbad mm mkept mwas mother mfound mwarm mdrip mtape mbits msize mnumber) rfl [] rfl rfl rfl (by decide +kernel) (ik_runVZ (st := []) (As := [.ref (aK 25)]) C hZ (fun _ h => h) ik_hBw hM mv_X7_takes wl_41_7 ⟨rfl, rfl, Nat.le_of_ble_eq_true rfl, Nat.le_of_ble_eq_true rfl⟩ [0, 1, 2, 3, 4, 5, 6, 7, 8, 9, 10, 11] rfl (by decide +kernel) 0 rfl rfl rfl rfl (Nat.le_of_ble_eq_true rfl) dX7_item_21 ⟨Nat.zero_le _, Nat.zero_le _⟩) rfl ?_
    refine ik_if_eq C 34 dX7_item_24 (by decide) (fun hc => ?_) (fun hc => ?_)
    · have hf := ik_pos hc hf
      refine ik_aload_n C 0 rfl rfl dX7_item_34 ?_
      refine ik_aload_n C 0 rfl rfl dX7_item_35 ?_
      obtain ⟨r11, hc11, hf⟩ := ik_b1s hf
      have hM := (c_X7_kindHere l D cI cS aK aV ka h0 h1 h2 h3 h4 h5 h6 h7 h8 h9 h10 h11 misKept mtaped g7 g8 g9 g10 mbad mm mkept mwas mother mfound mwarm mdrip mtape mbits msize mnumber r11 hc11)
      refine ik_goR (ik_runVZ (st := [.ref h0]) (As := []) C hZ (fun _ h => h) ik_hBw hM mv_X7_kindHere wl_42_13 ⟨rfl, rfl, Nat.le_of_ble_eq_true rfl, Nat.le_of_ble_eq_true rfl⟩ [0, 1, 2, 3, 4, 5, 6, 7, 8, 9, 10, 11] rfl (by decide +kernel) 0 rfl rfl rfl rfl (Nat.le_of_ble_eq_true rfl) dX7_item_36 ⟨Nat.zero_le _, Nat.zero_le _⟩) rfl ?_
      obtain ⟨g12, g13, g14, g15, g16, g17, hc17, hf⟩ := ik_b6s hf
      have hM := (c_X7_blockItem l D cI cS aK aV ka h0 h1 h2 h3 h4 h5 h6 h7 h8 h9 h10 h11 misKept mtaped g7 g8 g9 g10 mbad mm mkept mwas mother mfound mwarm mdrip mtape mbits msize mnumber r11 g12 g13 g14 g15 g16 g17 hc17)
      refine ik_goW (v := none) (wc := (wz_X7 cI cS h0 h1 h2 h3 h4 h5 h6 h7 h8 h9 h10 h11 misKept mtaped g7 g8 g9 g10 mbad mm mkept mwas mother mfound mwarm mdrip mtape mbits msize mnumber)) (w1 := (wz_X7 cI cS h0 h1 h2 h3 h4 h5 h6 h7 h8 h9 h10 h11 misKept mtaped g12 g13 g14 g15 g16 g17 mkept mwas mother mfound mwarm mdrip mtape mbits msize mnumber)) [0, 1, 2, 3, 4, 5, 6, 7, 8, 9, 10, 11] [] 12 rfl rfl (wz_X7 cI cS h0 h1 h2 h3 h4 h5 h6 h7 h8 h9 h10 h11 misKept mtaped g12 g13 g14 g15 g16 g17 mkept mwas mother mfound mwarm mdrip mtape mbits msize mnumber) rfl [] rfl rfl rfl (by decide +kernel) (ik_runVZ (st := []) (As := [.int r11]) C hZ (fun _ h => h) ik_hBw hM mv_X7_blockItem wl_42_17 ⟨rfl, rfl, Nat.le_of_ble_eq_true rfl, Nat.le_of_ble_eq_true rfl⟩ [0, 1, 2, 3, 4, 5, 6, 7, 8, 9, 10, 11] rfl (by decide +kernel) 0 rfl rfl rfl rfl (Nat.le_of_ble_eq_true rfl) dX7_item_39 ⟨Nat.zero_le _, Nat.zero_le _⟩) rfl ?_
      obtain ⟨rfl, rfl, rfl, rfl, rfl, rfl⟩ := ik_e6 hf
      exact ik_vretW C hr hlk dX7_item_42
    · have hf := ik_neg hc hf
      refine ik_aload_n C 0 rfl rfl dX7_item_27 ?_
      obtain ⟨g11, g12, g13, g14, g15, g16, hc16, hf⟩ := ik_b6s hf
      have hM := (c_X7_coldItem l D cI cS h0 h1 h2 h3 h4 h5 h6 h7 h8 h9 h10 h11 misKept mtaped g7 g8 g9 g10 mbad mm mkept mwas mother mfound mwarm mdrip mtape mbits msize mnumber g11 g12 g13 g14 g15 g16 hc16)
      refine ik_goW (v := none) (wc := (wz_X7 cI cS h0 h1 h2 h3 h4 h5 h6 h7 h8 h9 h10 h11 misKept mtaped g7 g8 g9 g10 mbad mm mkept mwas mother mfound mwarm mdrip mtape mbits msize mnumber)) (w1 := (wz_X7 cI cS h0 h1 h2 h3 h4 h5 h6 h7 h8 h9 h10 h11 misKept mtaped g11 g12 g13 g14 g15 g16 mkept mwas mother mfound mwarm mdrip mtape mbits msize mnumber)) [0, 1, 2, 3, 4, 5, 6, 7, 8, 9, 10, 11] [] 12 rfl rfl (wz_X7 cI cS h0 h1 h2 h3 h4 h5 h6 h7 h8 h9 h10 h11 misKept mtaped g11 g12 g13 g14 g15 g16 mkept mwas mother mfound mwarm mdrip mtape mbits msize mnumber) rfl [] rfl rfl rfl (by decide +kernel) (ik_runV (st := []) (As := []) C hM mv_X7_coldItem wl_42_5 ⟨rfl, rfl, Nat.le_of_ble_eq_true rfl, Nat.le_of_ble_eq_true rfl⟩ [0, 1, 2, 3, 4, 5, 6, 7, 8, 9, 10, 11] rfl (by decide +kernel) 0 rfl rfl rfl rfl (Nat.le_of_ble_eq_true rfl) dX7_item_28 ⟨Nat.zero_le _, Nat.zero_le _⟩) rfl ?_
      refine ik_goto C 42 dX7_item_31 (by decide) ?_
      obtain ⟨rfl, rfl, rfl, rfl, rfl, rfl⟩ := ik_e6 hf
      exact ik_vretW C hr hlk dX7_item_42
  · have hf := ik_neg hc hf
    refine ik_aload_n C 0 rfl rfl dX7_item_10 ?_
    obtain ⟨g6, g7, g8, g9, g10, g11, hc11, hf⟩ := ik_b6s hf
    have hM := (c_X7_candleItem l D cI cS aK aV ka h0 h1 h2 h3 h4 h5 h6 h7 h8 h9 h10 h11 misKept mtaped g2 g3 g4 g5 mbad mm mkept mwas mother mfound mwarm mdrip mtape mbits msize mnumber g6 g7 g8 g9 g10 g11 hc11)
    refine ik_goW (v := none) (wc := (wz_X7 cI cS h0 h1 h2 h3 h4 h5 h6 h7 h8 h9 h10 h11 misKept mtaped g2 g3 g4 g5 mbad mm mkept mwas mother mfound mwarm mdrip mtape mbits msize mnumber)) (w1 := (wz_X7 cI cS h0 h1 h2 h3 h4 h5 h6 h7 h8 h9 h10 h11 misKept mtaped g6 g7 g8 g9 g10 g11 mkept mwas mother mfound mwarm mdrip mtape mbits msize mnumber)) [0, 1, 2, 3, 4, 5, 6, 7, 8, 9, 10, 11] [] 12 rfl rfl (wz_X7 cI cS h0 h1 h2 h3 h4 h5 h6 h7 h8 h9 h10 h11 misKept mtaped g6 g7 g8 g9 g10 g11 mkept mwas mother mfound mwarm mdrip mtape mbits msize mnumber) rfl [] rfl rfl rfl (by decide +kernel) (ik_runVZ (st := []) (As := []) C hZ (fun _ h => h) ik_hBw hM mv_X7_candleItem wl_41_17 ⟨rfl, rfl, Nat.le_of_ble_eq_true rfl, Nat.le_of_ble_eq_true rfl⟩ [0, 1, 2, 3, 4, 5, 6, 7, 8, 9, 10, 11] rfl (by decide +kernel) 0 rfl rfl rfl rfl (Nat.le_of_ble_eq_true rfl) dX7_item_11 ⟨Nat.zero_le _, Nat.zero_le _⟩) rfl ?_
    refine ik_goto C 42 dX7_item_14 (by decide) ?_
    obtain ⟨rfl, rfl, rfl, rfl, rfl, rfl⟩ := ik_e6 hf
    exact ik_vretW C hr hlk dX7_item_42
theorem mv_X7_text : ik_V yX7_text RX7 cX7_text 4 (some .int) 0 := ⟨wl_40_11, wl_40_12, wl_1_5, wl_40_13, by decide +kernel⟩
set_option maxHeartbeats 4000000 in
set_option maxRecDepth 100000 in
theorem c_X7_text (l : Launch) (D : va_G) (cI cS : ClassId) (aK aV : Nat → Nat) (ka : Nat) (h0 h1 h2 h3 h4 h5 h6 h7 h8 h9 h10 h11 : Nat) (misKept : Int32) (mtaped : Int32) (msort : Int32) (mfrom : Int32) (mto : Int32) (mvalue : Int32) (mbad : Int32) (mm : Nat → Int32) (mkept : Nat → Int32) (mwas : Nat → Int32) (mother : Nat → Int32) (mfound : Nat → Int32) (mwarm : Nat → Int32) (mdrip : Nat → Int32) (mtape : Nat → Int32) (mbits : Nat → Int32) (msize : Nat → Int32) (mnumber : Nat → Int32) (R : Int32) (mtaped_r : Int32) (msort_r : Int32) (mfrom_r : Int32) (mto_r : Int32) (mvalue_r : Int32) (mbad_r : Int32) (mm_r : Nat → Int32) (mwas_r : Nat → Int32) (hf : f_X7_text mtaped msort mfrom mto mvalue mbad mm mwas mtape = some (R, mtaped_r, msort_r, mfrom_r, mto_r, mvalue_r, mbad_r, mm_r, mwas_r)) : Met l yX7_text (ik_ws yX7_text cX7_text 4 (some .int)) ({ frames := 8, cells := 0, slots := 0, locals := 198 } : Room) (ik_PZ D cI cS aK aV ka [.ref h0] (wz_X7 cI cS h0 h1 h2 h3 h4 h5 h6 h7 h8 h9 h10 h11 misKept mtaped msort mfrom mto mvalue mbad mm mkept mwas mother mfound mwarm mdrip mtape mbits msize mnumber)) (ik_Q (some (.int R)) D (wz_X7 cI cS h0 h1 h2 h3 h4 h5 h6 h7 h8 h9 h10 h11 misKept mtaped_r msort_r mfrom_r mto_r mvalue_r mbad_r mm_r mkept mwas_r mother mfound mwarm mdrip mtape mbits msize mnumber) (wz_X7 cI cS h0 h1 h2 h3 h4 h5 h6 h7 h8 h9 h10 h11 misKept mtaped msort mfrom mto mvalue mbad mm mkept mwas mother mfound mwarm mdrip mtape mbits msize mnumber)) 0 0 (ik_in (wz_X7 cI cS h0 h1 h2 h3 h4 h5 h6 h7 h8 h9 h10 h11 misKept mtaped msort mfrom mto mvalue mbad mm mkept mwas mother mfound mwarm mdrip mtape mbits msize mnumber)) := by
  refine ik_metWZ RX7 rfl (by decide) (Nat.le_of_ble_eq_true rfl) [(0, .ref h0)] rfl ?_
  intro p e s m below meth c C hr hlk hZ
  unfold f_X7_text at hf
  refine ik_aload_n C 0 rfl rfl dX7_text_0 ?_
  refine ik_get C inlX7 0 rfl rfl 0 (by decide) wl_4_12 rfl (v := .ref h1) rfl dX7_text_1 ?_
  refine ik_aload_n C 0 rfl rfl dX7_text_4 ?_
  refine ik_get C inlX7 0 rfl rfl 2 (by decide) wl_4_14 rfl (v := .ref h3) rfl dX7_text_5 ?_
  obtain ⟨g1, hc1, hf⟩ := ik_b1s hf
  have hM := (c_X7_row l D cI cS h1 h3 mm mwas g1 hc1)
  refine ik_goW (v := none) (wc := (wz_row cI cS h1 h3 mm mwas)) (w1 := (wz_row cI cS h1 h3 mm g1)) [1, 3] [0, 2, 4, 5, 6, 7, 8, 9, 10, 11] 12 rfl rfl (wz_X7 cI cS h0 h1 h2 h3 h4 h5 h6 h7 h8 h9 h10 h11 misKept mtaped msort mfrom mto mvalue mbad mm mkept g1 mother mfound mwarm mdrip mtape mbits msize mnumber) rfl [(h0, .inr (7, [.ref h1, .ref h2, .ref h3, .ref h4, .int misKept, .ref h5, .ref h6, .ref h7, .ref h8, .int mtaped, .int msort, .int mfrom, .int mto, .int mvalue, .int mbad, .ref h9, .ref h10, .ref h11])), (h2, .inl (cI, 82, .inl mkept)), (h4, .inl (cI, 82, .inl mother)), (h5, .inl (cI, 7, .inl mfound)), (h6, .inl (cI, 16, .inl mwarm)), (h7, .inl (cI, 8, .inl mdrip)), (h8, .inl (cI, 120, .inl mtape)), (h9, .inl (cI, 4, .inl mbits)), (h10, .inl (cI, 4, .inl msize)), (h11, .inl (cI, 160, .inl mnumber))] rfl rfl rfl (by decide +kernel) (ik_runS (st := []) (As := [.ref h1, .ref h3]) C hM ms_X7_row wl_24_22 ⟨rfl, rfl, Nat.le_of_ble_eq_true rfl, Nat.le_of_ble_eq_true rfl⟩ [1, 3] rfl (by decide +kernel) rfl rfl (Nat.le_of_ble_eq_true rfl) dX7_text_8 ⟨Nat.zero_le _, Nat.zero_le _⟩) rfl ?_
  refine ik_aload_n C 0 rfl rfl dX7_text_11 ?_
  refine ik_iconst (v := (0 : Int32)) C (by decide) dX7_text_12 ?_
  refine ik_put C inlX7 tyX7 tyX7_ok nmX7 0 rfl rfl 12 (by decide) wl_40_14 rfl (by decide) rfl rfl (Nat.le_of_ble_eq_true rfl) (wz_X7 cI cS h0 h1 h2 h3 h4 h5 h6 h7 h8 h9 h10 h11 misKept mtaped msort mfrom (0 : Int32) mvalue mbad mm mkept g1 mother mfound mwarm mdrip mtape mbits msize mnumber) rfl dX7_text_13 ?_
  refine ik_aload_n C 0 rfl rfl dX7_text_16 ?_
  refine ik_iconst (v := (0 : Int32)) C (by decide) dX7_text_17 ?_
  refine ik_put C inlX7 tyX7 tyX7_ok nmX7 0 rfl rfl 14 (by decide) wl_40_15 rfl (by decide) (by decide) (by decide) (Nat.le_of_ble_eq_true rfl) (wz_X7 cI cS h0 h1 h2 h3 h4 h5 h6 h7 h8 h9 h10 h11 misKept mtaped msort mfrom (0 : Int32) mvalue (0 : Int32) mm mkept g1 mother mfound mwarm mdrip mtape mbits msize mnumber) rfl dX7_text_18 ?_
  refine ik_aload_n C 0 rfl rfl dX7_text_21 ?_
  obtain ⟨g2, g3, g4, g5, hc5, hf⟩ := ik_b4s hf
  have hM := (c_X7_token l D cI cS h0 h1 h2 h3 h4 h5 h6 h7 h8 h9 h10 h11 misKept mtaped msort mfrom (0 : Int32) mvalue (0 : Int32) mm mkept g1 mother mfound mwarm mdrip mtape mbits msize mnumber g2 g3 g4 g5 hc5)
  refine ik_goW (v := none) (wc := (wz_X7 cI cS h0 h1 h2 h3 h4 h5 h6 h7 h8 h9 h10 h11 misKept mtaped msort mfrom (0 : Int32) mvalue (0 : Int32) mm mkept g1 mother mfound mwarm mdrip mtape mbits msize mnumber)) (w1 := (wz_X7 cI cS h0 h1 h2 h3 h4 h5 h6 h7 h8 h9 h10 h11 misKept mtaped g2 g3 g4 g5 (0 : Int32) mm mkept g1 mother mfound mwarm mdrip mtape mbits msize mnumber)) [0, 1, 2, 3, 4, 5, 6, 7, 8, 9, 10, 11] [] 12 rfl rfl (wz_X7 cI cS h0 h1 h2 h3 h4 h5 h6 h7 h8 h9 h10 h11 misKept mtaped g2 g3 g4 g5 (0 : Int32) mm mkept g1 mother mfound mwarm mdrip mtape mbits msize mnumber) rfl [] rfl rfl rfl (by decide +kernel) (ik_runV (st := []) (As := []) C hM mv_X7_token wl_40_18 ⟨rfl, rfl, Nat.le_of_ble_eq_true rfl, Nat.le_of_ble_eq_true rfl⟩ [0, 1, 2, 3, 4, 5, 6, 7, 8, 9, 10, 11] rfl (by decide +kernel) 0 rfl rfl rfl rfl (Nat.le_of_ble_eq_true rfl) dX7_text_22 ⟨Nat.zero_le _, Nat.zero_le _⟩) rfl ?_
  refine ik_iconst (v := (0 : Int32)) C (by decide) dX7_text_25 ?_
  refine ik_istore_n C [(1, .int (0 : Int32)), (0, .ref h0)] rfl (by decide) rfl dX7_text_26 ?_
  refine ik_iconst (v := (1 : Int32)) C (by decide) dX7_text_27 ?_
  refine ik_istore_n C [(2, .int (1 : Int32)), (1, .int (0 : Int32)), (0, .ref h0)] rfl (by decide) rfl dX7_text_28 ?_
  have hL_29 : ∀ (n_29 : Nat) (msort_29 : Int32) (mfrom_29 : Int32) (mto_29 : Int32) (mvalue_29 : Int32) (mbad_29 : Int32) (mm_29 : Nat → Int32) (x1_29 : Int32) (x2_29 : Int32), ik_lp8 (b_X7_text_29 mtaped mtape g1) n_29 msort_29 mfrom_29 mto_29 mvalue_29 mbad_29 mm_29 x1_29 x2_29 = some (R, mtaped_r, msort_r, mfrom_r, mto_r, mvalue_r, mbad_r, mm_r, mwas_r) → ik_G p l e ({ frames := 8, cells := 0, slots := 0, locals := 198 } : Room) s m ([.ref h0] : List Value).toArray below meth c D (ik_in (wz_X7 cI cS h0 h1 h2 h3 h4 h5 h6 h7 h8 h9 h10 h11 misKept mtaped msort mfrom mto mvalue mbad mm mkept mwas mother mfound mwarm mdrip mtape mbits msize mnumber)) (ik_in (wz_X7 cI cS h0 h1 h2 h3 h4 h5 h6 h7 h8 h9 h10 h11 misKept mtaped msort mfrom mto mvalue mbad mm mkept mwas mother mfound mwarm mdrip mtape mbits msize mnumber)) 4 0 0 (MQ below (ik_Q (some (.int R)) D (wz_X7 cI cS h0 h1 h2 h3 h4 h5 h6 h7 h8 h9 h10 h11 misKept mtaped_r msort_r mfrom_r mto_r mvalue_r mbad_r mm_r mkept mwas_r mother mfound mwarm mdrip mtape mbits msize mnumber) (wz_X7 cI cS h0 h1 h2 h3 h4 h5 h6 h7 h8 h9 h10 h11 misKept mtaped msort mfrom mto mvalue mbad mm mkept mwas mother mfound mwarm mdrip mtape mbits msize mnumber)) ([.ref h0] : List Value).toArray s 0 0 (ik_in (wz_X7 cI cS h0 h1 h2 h3 h4 h5 h6 h7 h8 h9 h10 h11 misKept mtaped msort mfrom mto mvalue mbad mm mkept mwas mother mfound mwarm mdrip mtape mbits msize mnumber))) 29 [(2, .int x2_29), (1, .int x1_29), (0, .ref h0)] [] (wz_X7 cI cS h0 h1 h2 h3 h4 h5 h6 h7 h8 h9 h10 h11 misKept mtaped msort_29 mfrom_29 mto_29 mvalue_29 mbad_29 mm_29 mkept g1 mother mfound mwarm mdrip mtape mbits msize mnumber) := by
    intro n_29
    induction n_29 with
    | zero => intro _ _ _ _ _ _ _ _ hf; exact nomatch hf
    | succ n_29 ih_29 =>
      intro msort_29 mfrom_29 mto_29 mvalue_29 mbad_29 mm_29 x1_29 x2_29 hf
      replace hf : b_X7_text_29 mtaped mtape g1 (ik_lp8 (b_X7_text_29 mtaped mtape g1) n_29) msort_29 mfrom_29 mto_29 mvalue_29 mbad_29 mm_29 x1_29 x2_29 = some (R, mtaped_r, msort_r, mfrom_r, mto_r, mvalue_r, mbad_r, mm_r, mwas_r) := hf
      unfold b_X7_text_29 at hf
      refine ik_iload_n C 0 rfl rfl dX7_text_29 ?_
      refine ik_if_eq C 58 dX7_text_30 (by decide) (fun hc => ?_) (fun hc => ?_)
      · have hf := ik_pos hc hf
        refine ik_aload_n C 2 rfl rfl dX7_text_58 ?_
        refine ik_aload_n C 2 rfl rfl dX7_text_59 ?_
        refine ik_get C inlX7 0 rfl rfl 14 (by decide) wl_40_15 rfl (v := .int mbad_29) rfl dX7_text_60 ?_
        refine ik_if_ne C 73 dX7_text_63 (by decide) (fun hc => ?_) (fun hc => ?_)
        · have hf := ik_neg hc hf
          refine ik_iconst (v := (1 : Int32)) C (by decide) dX7_text_73 ?_
          refine ik_goto C 78 dX7_text_74 (by decide) ?_
          refine ik_put C inlX7 tyX7 tyX7_ok nmX7 0 rfl rfl 14 (by decide) wl_40_15 rfl (by decide) (by decide) (by decide) (Nat.le_of_ble_eq_true rfl) (wz_X7 cI cS h0 h1 h2 h3 h4 h5 h6 h7 h8 h9 h10 h11 misKept mtaped msort_29 mfrom_29 mto_29 mvalue_29 (1 : Int32) mm_29 mkept g1 mother mfound mwarm mdrip mtape mbits msize mnumber) rfl dX7_text_78 ?_
          refine ik_aload_n C 2 rfl rfl dX7_text_81 ?_
          refine ik_get C inlX7 0 rfl rfl 11 (by decide) wl_40_17 rfl (v := .int mfrom_29) rfl dX7_text_82 ?_
          refine ik_istore_n C [(3, .int mfrom_29), (2, .int x2_29), (1, .int x1_29), (0, .ref h0)] rfl (by decide) rfl dX7_text_85 ?_
          refine ik_aload_n C 3 rfl rfl dX7_text_86 ?_
          refine ik_iconst (v := (0 : Int32)) C (by decide) dX7_text_87 ?_
          refine ik_put C inlX7 tyX7 tyX7_ok nmX7 0 rfl rfl 9 (by decide) wl_35_3 rfl (by decide) rfl rfl (Nat.le_of_ble_eq_true rfl) (wz_X7 cI cS h0 h1 h2 h3 h4 h5 h6 h7 h8 h9 h10 h11 misKept (0 : Int32) msort_29 mfrom_29 mto_29 mvalue_29 (1 : Int32) mm_29 mkept g1 mother mfound mwarm mdrip mtape mbits msize mnumber) rfl dX7_text_88 ?_
          refine ik_aload_n C 3 rfl rfl dX7_text_91 ?_
          refine ik_get C inlX7 0 rfl rfl 14 (by decide) wl_40_15 rfl (v := .int (1 : Int32)) rfl dX7_text_92 ?_
          refine ik_if_ne C 100 dX7_text_95 (by decide) (fun hc => ?_) (fun hc => ?_)
          · have hf := ik_neg hc hf
            refine ik_aload_n C 3 rfl rfl dX7_text_100 ?_
            refine ik_get C inlX7 0 rfl rfl 2 (by decide) wl_4_14 rfl (v := .ref h3) rfl dX7_text_101 ?_
            refine ik_aload_n C 3 rfl rfl dX7_text_104 ?_
            refine ik_get C inlX7 0 rfl rfl 0 (by decide) wl_4_12 rfl (v := .ref h1) rfl dX7_text_105 ?_
            obtain ⟨g6, hc6, hf⟩ := ik_b1s hf
            have hM := (c_X7_row l D cI cS h3 h1 g1 mm_29 g6 hc6)
            refine ik_goW (v := none) (wc := (wz_row cI cS h3 h1 g1 mm_29)) (w1 := (wz_row cI cS h3 h1 g1 g6)) [3, 1] [0, 2, 4, 5, 6, 7, 8, 9, 10, 11] 12 rfl rfl (wz_X7 cI cS h0 h1 h2 h3 h4 h5 h6 h7 h8 h9 h10 h11 misKept (0 : Int32) msort_29 mfrom_29 mto_29 mvalue_29 (1 : Int32) g6 mkept g1 mother mfound mwarm mdrip mtape mbits msize mnumber) rfl [(h0, .inr (7, [.ref h1, .ref h2, .ref h3, .ref h4, .int misKept, .ref h5, .ref h6, .ref h7, .ref h8, .int (0 : Int32), .int msort_29, .int mfrom_29, .int mto_29, .int mvalue_29, .int (1 : Int32), .ref h9, .ref h10, .ref h11])), (h2, .inl (cI, 82, .inl mkept)), (h4, .inl (cI, 82, .inl mother)), (h5, .inl (cI, 7, .inl mfound)), (h6, .inl (cI, 16, .inl mwarm)), (h7, .inl (cI, 8, .inl mdrip)), (h8, .inl (cI, 120, .inl mtape)), (h9, .inl (cI, 4, .inl mbits)), (h10, .inl (cI, 4, .inl msize)), (h11, .inl (cI, 160, .inl mnumber))] rfl rfl rfl (by decide +kernel) (ik_runS (st := []) (As := [.ref h3, .ref h1]) C hM ms_X7_row wl_24_22 ⟨rfl, rfl, Nat.le_of_ble_eq_true rfl, Nat.le_of_ble_eq_true rfl⟩ [3, 1] rfl (by decide +kernel) rfl rfl (Nat.le_of_ble_eq_true rfl) dX7_text_108 ⟨Nat.zero_le _, Nat.zero_le _⟩) rfl ?_
            refine ik_iconst (v := (-1 : Int32)) C (by decide) dX7_text_111 ?_
            refine ik_iload_n C 0 rfl rfl dX7_text_112 ?_
            refine ik_isub C dX7_text_113 ?_
            obtain ⟨rfl, rfl, rfl, rfl, rfl, rfl, rfl, rfl, rfl⟩ := ik_e9 hf
            exact ik_iretW C hr hlk dX7_text_114
          · have hf := ik_pos hc hf
            refine ik_iload_n C 2 rfl rfl dX7_text_98 ?_
            obtain ⟨rfl, rfl, rfl, rfl, rfl, rfl, rfl, rfl, rfl⟩ := ik_e9 hf
            exact ik_iretW C hr hlk dX7_text_99
        · have hf := ik_pos hc hf
          refine ik_aload_n C 2 rfl rfl dX7_text_66 ?_
          refine ik_get C inlX7 0 rfl rfl 10 (by decide) wl_40_16 rfl (v := .int msort_29) rfl dX7_text_67 ?_
          refine ik_if_eq C 77 dX7_text_70 (by decide) (fun hc => ?_) (fun hc => ?_)
          · have hf := ik_pos hc hf
            refine ik_iconst (v := (0 : Int32)) C (by decide) dX7_text_77 ?_
            refine ik_put C inlX7 tyX7 tyX7_ok nmX7 0 rfl rfl 14 (by decide) wl_40_15 rfl (by decide) (by decide) (by decide) (Nat.le_of_ble_eq_true rfl) (wz_X7 cI cS h0 h1 h2 h3 h4 h5 h6 h7 h8 h9 h10 h11 misKept mtaped msort_29 mfrom_29 mto_29 mvalue_29 (0 : Int32) mm_29 mkept g1 mother mfound mwarm mdrip mtape mbits msize mnumber) rfl dX7_text_78 ?_
            refine ik_aload_n C 2 rfl rfl dX7_text_81 ?_
            refine ik_get C inlX7 0 rfl rfl 11 (by decide) wl_40_17 rfl (v := .int mfrom_29) rfl dX7_text_82 ?_
            refine ik_istore_n C [(3, .int mfrom_29), (2, .int x2_29), (1, .int x1_29), (0, .ref h0)] rfl (by decide) rfl dX7_text_85 ?_
            refine ik_aload_n C 3 rfl rfl dX7_text_86 ?_
            refine ik_iconst (v := (0 : Int32)) C (by decide) dX7_text_87 ?_
            refine ik_put C inlX7 tyX7 tyX7_ok nmX7 0 rfl rfl 9 (by decide) wl_35_3 rfl (by decide) rfl rfl (Nat.le_of_ble_eq_true rfl) (wz_X7 cI cS h0 h1 h2 h3 h4 h5 h6 h7 h8 h9 h10 h11 misKept (0 : Int32) msort_29 mfrom_29 mto_29 mvalue_29 (0 : Int32) mm_29 mkept g1 mother mfound mwarm mdrip mtape mbits msize mnumber) rfl dX7_text_88 ?_
            refine ik_aload_n C 3 rfl rfl dX7_text_91 ?_
            refine ik_get C inlX7 0 rfl rfl 14 (by decide) wl_40_15 rfl (v := .int (0 : Int32)) rfl dX7_text_92 ?_
            refine ik_if_ne C 100 dX7_text_95 (by decide) (fun hc => ?_) (fun hc => ?_)
            · have hf := ik_neg hc hf
              refine ik_aload_n C 3 rfl rfl dX7_text_100 ?_
              refine ik_get C inlX7 0 rfl rfl 2 (by decide) wl_4_14 rfl (v := .ref h3) rfl dX7_text_101 ?_
              refine ik_aload_n C 3 rfl rfl dX7_text_104 ?_
              refine ik_get C inlX7 0 rfl rfl 0 (by decide) wl_4_12 rfl (v := .ref h1) rfl dX7_text_105 ?_
              obtain ⟨g6, hc6, hf⟩ := ik_b1s hf
              have hM := (c_X7_row l D cI cS h3 h1 g1 mm_29 g6 hc6)
              refine ik_goW (v := none) (wc := (wz_row cI cS h3 h1 g1 mm_29)) (w1 := (wz_row cI cS h3 h1 g1 g6)) [3, 1] [0, 2, 4, 5, 6, 7, 8, 9, 10, 11] 12 rfl rfl (wz_X7 cI cS h0 h1 h2 h3 h4 h5 h6 h7 h8 h9 h10 h11 misKept (0 : Int32) msort_29 mfrom_29 mto_29 mvalue_29 (0 : Int32) g6 mkept g1 mother mfound mwarm mdrip mtape mbits msize mnumber) rfl [(h0, .inr (7, [.ref h1, .ref h2, .ref h3, .ref h4, .int misKept, .ref h5, .ref h6, .ref h7, .ref h8, .int (0 : Int32), .int msort_29, .int mfrom_29, .int mto_29, .int mvalue_29, .int (0 : Int32), .ref h9, .ref h10, .ref h11])), (h2, .inl (cI, 82, .inl mkept)), (h4, .inl (cI, 82, .inl mother)), (h5, .inl (cI, 7, .inl mfound)), (h6, .inl (cI, 16, .inl mwarm)), (h7, .inl (cI, 8, .inl mdrip)), (h8, .inl (cI, 120, .inl mtape)), (h9, .inl (cI, 4, .inl mbits)), (h10, .inl (cI, 4, .inl msize)), (h11, .inl (cI, 160, .inl mnumber))] rfl rfl rfl (by decide +kernel) (ik_runS (st := []) (As := [.ref h3, .ref h1]) C hM ms_X7_row wl_24_22 ⟨rfl, rfl, Nat.le_of_ble_eq_true rfl, Nat.le_of_ble_eq_true rfl⟩ [3, 1] rfl (by decide +kernel) rfl rfl (Nat.le_of_ble_eq_true rfl) dX7_text_108 ⟨Nat.zero_le _, Nat.zero_le _⟩) rfl ?_
              refine ik_iconst (v := (-1 : Int32)) C (by decide) dX7_text_111 ?_
              refine ik_iload_n C 0 rfl rfl dX7_text_112 ?_
              refine ik_isub C dX7_text_113 ?_
              obtain ⟨rfl, rfl, rfl, rfl, rfl, rfl, rfl, rfl, rfl⟩ := ik_e9 hf
              exact ik_iretW C hr hlk dX7_text_114
            · have hf := ik_pos hc hf
              refine ik_iload_n C 2 rfl rfl dX7_text_98 ?_
              obtain ⟨rfl, rfl, rfl, rfl, rfl, rfl, rfl, rfl, rfl⟩ := ik_e9 hf
              exact ik_iretW C hr hlk dX7_text_99
          · have hf := ik_neg hc hf
            refine ik_iconst (v := (1 : Int32)) C (by decide) dX7_text_73 ?_
            refine ik_goto C 78 dX7_text_74 (by decide) ?_
            refine ik_put C inlX7 tyX7 tyX7_ok nmX7 0 rfl rfl 14 (by decide) wl_40_15 rfl (by decide) (by decide) (by decide) (Nat.le_of_ble_eq_true rfl) (wz_X7 cI cS h0 h1 h2 h3 h4 h5 h6 h7 h8 h9 h10 h11 misKept mtaped msort_29 mfrom_29 mto_29 mvalue_29 (1 : Int32) mm_29 mkept g1 mother mfound mwarm mdrip mtape mbits msize mnumber) rfl dX7_text_78 ?_
            refine ik_aload_n C 2 rfl rfl dX7_text_81 ?_
            refine ik_get C inlX7 0 rfl rfl 11 (by decide) wl_40_17 rfl (v := .int mfrom_29) rfl dX7_text_82 ?_
            refine ik_istore_n C [(3, .int mfrom_29), (2, .int x2_29), (1, .int x1_29), (0, .ref h0)] rfl (by decide) rfl dX7_text_85 ?_
            refine ik_aload_n C 3 rfl rfl dX7_text_86 ?_
            refine ik_iconst (v := (0 : Int32)) C (by decide) dX7_text_87 ?_
            refine ik_put C inlX7 tyX7 tyX7_ok nmX7 0 rfl rfl 9 (by decide) wl_35_3 rfl (by decide) rfl rfl (Nat.le_of_ble_eq_true rfl) (wz_X7 cI cS h0 h1 h2 h3 h4 h5 h6 h7 h8 h9 h10 h11 misKept (0 : Int32) msort_29 mfrom_29 mto_29 mvalue_29 (1 : Int32) mm_29 mkept g1 mother mfound mwarm mdrip mtape mbits msize mnumber) rfl dX7_text_88 ?_
            refine ik_aload_n C 3 rfl rfl dX7_text_91 ?_
            refine ik_get C inlX7 0 rfl rfl 14 (by decide) wl_40_15 rfl (v := .int (1 : Int32)) rfl dX7_text_92 ?_
            refine ik_if_ne C 100 dX7_text_95 (by decide) (fun hc => ?_) (fun hc => ?_)
            · have hf := ik_neg hc hf
              refine ik_aload_n C 3 rfl rfl dX7_text_100 ?_
              refine ik_get C inlX7 0 rfl rfl 2 (by decide) wl_4_14 rfl (v := .ref h3) rfl dX7_text_101 ?_
              refine ik_aload_n C 3 rfl rfl dX7_text_104 ?_
              refine ik_get C inlX7 0 rfl rfl 0 (by decide) wl_4_12 rfl (v := .ref h1) rfl dX7_text_105 ?_
              obtain ⟨g6, hc6, hf⟩ := ik_b1s hf
              have hM := (c_X7_row l D cI cS h3 h1 g1 mm_29 g6 hc6)
              refine ik_goW (v := none) (wc := (wz_row cI cS h3 h1 g1 mm_29)) (w1 := (wz_row cI cS h3 h1 g1 g6)) [3, 1] [0, 2, 4, 5, 6, 7, 8, 9, 10, 11] 12 rfl rfl (wz_X7 cI cS h0 h1 h2 h3 h4 h5 h6 h7 h8 h9 h10 h11 misKept (0 : Int32) msort_29 mfrom_29 mto_29 mvalue_29 (1 : Int32) g6 mkept g1 mother mfound mwarm mdrip mtape mbits msize mnumber) rfl [(h0, .inr (7, [.ref h1, .ref h2, .ref h3, .ref h4, .int misKept, .ref h5, .ref h6, .ref h7, .ref h8, .int (0 : Int32), .int msort_29, .int mfrom_29, .int mto_29, .int mvalue_29, .int (1 : Int32), .ref h9, .ref h10, .ref h11])), (h2, .inl (cI, 82, .inl mkept)), (h4, .inl (cI, 82, .inl mother)), (h5, .inl (cI, 7, .inl mfound)), (h6, .inl (cI, 16, .inl mwarm)), (h7, .inl (cI, 8, .inl mdrip)), (h8, .inl (cI, 120, .inl mtape)), (h9, .inl (cI, 4, .inl mbits)), (h10, .inl (cI, 4, .inl msize)), (h11, .inl (cI, 160, .inl mnumber))] rfl rfl rfl (by decide +kernel) (ik_runS (st := []) (As := [.ref h3, .ref h1]) C hM ms_X7_row wl_24_22 ⟨rfl, rfl, Nat.le_of_ble_eq_true rfl, Nat.le_of_ble_eq_true rfl⟩ [3, 1] rfl (by decide +kernel) rfl rfl (Nat.le_of_ble_eq_true rfl) dX7_text_108 ⟨Nat.zero_le _, Nat.zero_le _⟩) rfl ?_
              refine ik_iconst (v := (-1 : Int32)) C (by decide) dX7_text_111 ?_
              refine ik_iload_n C 0 rfl rfl dX7_text_112 ?_
              refine ik_isub C dX7_text_113 ?_
              obtain ⟨rfl, rfl, rfl, rfl, rfl, rfl, rfl, rfl, rfl⟩ := ik_e9 hf
              exact ik_iretW C hr hlk dX7_text_114
            · have hf := ik_pos hc hf
              refine ik_iload_n C 2 rfl rfl dX7_text_98 ?_
              obtain ⟨rfl, rfl, rfl, rfl, rfl, rfl, rfl, rfl, rfl⟩ := ik_e9 hf
              exact ik_iretW C hr hlk dX7_text_99
      · have hf := ik_neg hc hf
        refine ik_aload_n C 2 rfl rfl dX7_text_33 ?_
        obtain ⟨g6, g7, g8, g9, g10, g11, hc11, hf⟩ := ik_b6s hf
        have hM := (c_X7_item l D cI cS aK aV ka h0 h1 h2 h3 h4 h5 h6 h7 h8 h9 h10 h11 misKept mtaped msort_29 mfrom_29 mto_29 mvalue_29 mbad_29 mm_29 mkept g1 mother mfound mwarm mdrip mtape mbits msize mnumber g6 g7 g8 g9 g10 g11 hc11)
        refine ik_goW (v := none) (wc := (wz_X7 cI cS h0 h1 h2 h3 h4 h5 h6 h7 h8 h9 h10 h11 misKept mtaped msort_29 mfrom_29 mto_29 mvalue_29 mbad_29 mm_29 mkept g1 mother mfound mwarm mdrip mtape mbits msize mnumber)) (w1 := (wz_X7 cI cS h0 h1 h2 h3 h4 h5 h6 h7 h8 h9 h10 h11 misKept mtaped g6 g7 g8 g9 g10 g11 mkept g1 mother mfound mwarm mdrip mtape mbits msize mnumber)) [0, 1, 2, 3, 4, 5, 6, 7, 8, 9, 10, 11] [] 12 rfl rfl (wz_X7 cI cS h0 h1 h2 h3 h4 h5 h6 h7 h8 h9 h10 h11 misKept mtaped g6 g7 g8 g9 g10 g11 mkept g1 mother mfound mwarm mdrip mtape mbits msize mnumber) rfl [] rfl rfl rfl (by decide +kernel) (ik_runVZ (st := []) (As := []) C hZ (fun _ h => h) ik_hBw hM mv_X7_item wl_41_3 ⟨rfl, rfl, Nat.le_of_ble_eq_true rfl, Nat.le_of_ble_eq_true rfl⟩ [0, 1, 2, 3, 4, 5, 6, 7, 8, 9, 10, 11] rfl (by decide +kernel) 0 rfl rfl rfl rfl (Nat.le_of_ble_eq_true rfl) dX7_text_34 ⟨Nat.zero_le _, Nat.zero_le _⟩) rfl ?_
        refine ik_iinc C [(1, .int (x1_29 + (1 : Int32))), (2, .int x2_29), (0, .ref h0)] 1 rfl rfl (by decide) rfl dX7_text_37 ?_
        refine ik_aload_n C 2 rfl rfl dX7_text_40 ?_
        refine ik_bipush (v := (59 : Int32)) C (by decide) dX7_text_41 ?_
        obtain ⟨r12, hc12, hf⟩ := ik_b1s hf
        have hM := (c_X7_isSign l D cI cS h0 h1 h2 h3 h4 h5 h6 h7 h8 h9 h10 h11 misKept mtaped g6 g7 g8 g9 g10 g11 mkept g1 mother mfound mwarm mdrip mtape mbits msize mnumber (59 : Int32) r12 hc12)
        refine ik_goR (ik_runV (st := []) (As := [.int (59 : Int32)]) C hM mv_X7_isSign wl_42_9 ⟨rfl, rfl, Nat.le_of_ble_eq_true rfl, Nat.le_of_ble_eq_true rfl⟩ [0, 1, 2, 3, 4, 5, 6, 7, 8, 9, 10, 11] rfl (by decide +kernel) 0 rfl rfl rfl rfl (Nat.le_of_ble_eq_true rfl) dX7_text_43 ⟨Nat.zero_le _, Nat.zero_le _⟩) rfl ?_
        refine ik_istore_n C [(2, .int r12), (1, .int (x1_29 + (1 : Int32))), (0, .ref h0)] rfl (by decide) rfl dX7_text_46 ?_
        refine ik_iload_n C 0 rfl rfl dX7_text_47 ?_
        refine ik_if_eq C 29 dX7_text_48 (by decide) (fun hc => ?_) (fun hc => ?_)
        · have hf := ik_pos hc hf
          exact ik_sub [0, 1, 2] [(2, .int r12), (1, .int (x1_29 + (1 : Int32))), (0, .ref h0)] rfl (ih_29 g6 g7 g8 g9 g10 g11 (x1_29 + (1 : Int32)) r12 hf)
        · have hf := ik_neg hc hf
          refine ik_aload_n C 2 rfl rfl dX7_text_51 ?_
          obtain ⟨g13, g14, g15, g16, hc16, hf⟩ := ik_b4s hf
          have hM := (c_X7_token l D cI cS h0 h1 h2 h3 h4 h5 h6 h7 h8 h9 h10 h11 misKept mtaped g6 g7 g8 g9 g10 g11 mkept g1 mother mfound mwarm mdrip mtape mbits msize mnumber g13 g14 g15 g16 hc16)
          refine ik_goW (v := none) (wc := (wz_X7 cI cS h0 h1 h2 h3 h4 h5 h6 h7 h8 h9 h10 h11 misKept mtaped g6 g7 g8 g9 g10 g11 mkept g1 mother mfound mwarm mdrip mtape mbits msize mnumber)) (w1 := (wz_X7 cI cS h0 h1 h2 h3 h4 h5 h6 h7 h8 h9 h10 h11 misKept mtaped g13 g14 g15 g16 g10 g11 mkept g1 mother mfound mwarm mdrip mtape mbits msize mnumber)) [0, 1, 2, 3, 4, 5, 6, 7, 8, 9, 10, 11] [] 12 rfl rfl (wz_X7 cI cS h0 h1 h2 h3 h4 h5 h6 h7 h8 h9 h10 h11 misKept mtaped g13 g14 g15 g16 g10 g11 mkept g1 mother mfound mwarm mdrip mtape mbits msize mnumber) rfl [] rfl rfl rfl (by decide +kernel) (ik_runV (st := []) (As := []) C hM mv_X7_token wl_40_18 ⟨rfl, rfl, Nat.le_of_ble_eq_true rfl, Nat.le_of_ble_eq_true rfl⟩ [0, 1, 2, 3, 4, 5, 6, 7, 8, 9, 10, 11] rfl (by decide +kernel) 0 rfl rfl rfl rfl (Nat.le_of_ble_eq_true rfl) dX7_text_52 ⟨Nat.zero_le _, Nat.zero_le _⟩) rfl ?_
          refine ik_goto C 29 dX7_text_55 (by decide) ?_
          exact ik_sub [0, 1, 2] [(2, .int r12), (1, .int (x1_29 + (1 : Int32))), (0, .ref h0)] rfl (ih_29 g13 g14 g15 g16 g10 g11 (x1_29 + (1 : Int32)) r12 hf)
  exact hL_29 ik_fu g2 g3 g4 g5 (0 : Int32) mm (0 : Int32) (1 : Int32) hf
theorem mv_X7_hold : ik_V yX7_hold RX7 cX7_hold 3 (some .int) 2 := ⟨wl_43_6, wl_43_7, wl_1_5, wl_43_8, by decide +kernel⟩
set_option maxHeartbeats 4000000 in
set_option maxRecDepth 100000 in
theorem c_X7_hold (l : Launch) (D : va_G) (cI cS : ClassId) (h0 h1 h2 h3 h4 h5 h6 h7 h8 h9 h10 h11 : Nat) (misKept : Int32) (mtaped : Int32) (msort : Int32) (mfrom : Int32) (mto : Int32) (mvalue : Int32) (mbad : Int32) (mm : Nat → Int32) (mkept : Nat → Int32) (mwas : Nat → Int32) (mother : Nat → Int32) (mfound : Nat → Int32) (mwarm : Nat → Int32) (mdrip : Nat → Int32) (mtape : Nat → Int32) (mbits : Nat → Int32) (msize : Nat → Int32) (mnumber : Nat → Int32) (x1 : Int32) (x2 : Int32) (R : Int32) (mm_r : Nat → Int32) (mfound_r : Nat → Int32) (hf : f_X7_hold mm mfound x1 x2 = some (R, mm_r, mfound_r)) : Met l yX7_hold (ik_ws yX7_hold cX7_hold 3 (some .int)) ({ frames := 2, cells := 0, slots := 0, locals := 46 } : Room) (ik_P D cI cS [.ref h0, .int x1, .int x2] (wz_X7 cI cS h0 h1 h2 h3 h4 h5 h6 h7 h8 h9 h10 h11 misKept mtaped msort mfrom mto mvalue mbad mm mkept mwas mother mfound mwarm mdrip mtape mbits msize mnumber)) (ik_Q (some (.int R)) D (wz_X7 cI cS h0 h1 h2 h3 h4 h5 h6 h7 h8 h9 h10 h11 misKept mtaped msort mfrom mto mvalue mbad mm_r mkept mwas mother mfound_r mwarm mdrip mtape mbits msize mnumber) (wz_X7 cI cS h0 h1 h2 h3 h4 h5 h6 h7 h8 h9 h10 h11 misKept mtaped msort mfrom mto mvalue mbad mm mkept mwas mother mfound mwarm mdrip mtape mbits msize mnumber)) 0 0 (ik_in (wz_X7 cI cS h0 h1 h2 h3 h4 h5 h6 h7 h8 h9 h10 h11 misKept mtaped msort mfrom mto mvalue mbad mm mkept mwas mother mfound mwarm mdrip mtape mbits msize mnumber)) := by
  refine ik_metW RX7 rfl (by decide) (Nat.le_of_ble_eq_true rfl) [(0, .ref h0), (1, .int x1), (2, .int x2)] rfl ?_
  intro p e s m below meth c C hr hlk
  unfold f_X7_hold at hf
  refine ik_iload_n C 1 rfl rfl dX7_hold_0 ?_
  refine ik_i2l C dX7_hold_1 ?_
  refine ik_lconst (v := (0 : Int64)) C (by decide) dX7_hold_2 ?_
  refine ik_ldc2 C wl_32_4 dX7_hold_3 ?_
  obtain ⟨r1, hc1, hf⟩ := ik_b1s hf
  have hM := (c_X7_in l D cI cS (x1).toInt64 (0 : Int64) (9 : Int64) r1 hc1)
  refine ik_goR (ik_runS (st := []) (As := [.long (x1).toInt64, .long (0 : Int64), .long (9 : Int64)]) C hM ms_X7_in wl_6_21 ⟨rfl, rfl, Nat.le_of_ble_eq_true rfl, Nat.le_of_ble_eq_true rfl⟩ [] rfl (by decide +kernel) rfl rfl (Nat.le_of_ble_eq_true rfl) dX7_hold_6 ⟨Nat.zero_le _, Nat.zero_le _⟩) rfl ?_
  refine ik_if_eq C 25 dX7_hold_9 (by decide) (fun hc => ?_) (fun hc => ?_)
  · have hf := ik_pos hc hf
    refine ik_aload_n C 0 rfl rfl dX7_hold_25 ?_
    refine ik_ldc C wl_6_14 dX7_hold_26 ?_
    obtain ⟨r2, g3, hc3, hf⟩ := ik_b2s hf
    have hM := (c_X7_finds l D cI cS h0 h1 h2 h3 h4 h5 h6 h7 h8 h9 h10 h11 misKept mtaped msort mfrom mto mvalue mbad mm mkept mwas mother mfound mwarm mdrip mtape mbits msize mnumber (-1000001 : Int32) r2 g3 hc3)
    refine ik_goW (v := (some (.int r2))) (wc := (wz_X7 cI cS h0 h1 h2 h3 h4 h5 h6 h7 h8 h9 h10 h11 misKept mtaped msort mfrom mto mvalue mbad mm mkept mwas mother mfound mwarm mdrip mtape mbits msize mnumber)) (w1 := (wz_X7 cI cS h0 h1 h2 h3 h4 h5 h6 h7 h8 h9 h10 h11 misKept mtaped msort mfrom mto mvalue mbad mm mkept mwas mother g3 mwarm mdrip mtape mbits msize mnumber)) [0, 1, 2, 3, 4, 5, 6, 7, 8, 9, 10, 11] [] 12 rfl rfl (wz_X7 cI cS h0 h1 h2 h3 h4 h5 h6 h7 h8 h9 h10 h11 misKept mtaped msort mfrom mto mvalue mbad mm mkept mwas mother g3 mwarm mdrip mtape mbits msize mnumber) rfl [] rfl rfl rfl (by decide +kernel) (ik_runV (st := []) (As := [.int (-1000001 : Int32)]) C hM mv_X7_finds wl_7_8 ⟨rfl, rfl, Nat.le_of_ble_eq_true rfl, Nat.le_of_ble_eq_true rfl⟩ [0, 1, 2, 3, 4, 5, 6, 7, 8, 9, 10, 11] rfl (by decide +kernel) 0 rfl rfl rfl rfl (Nat.le_of_ble_eq_true rfl) dX7_hold_28 ⟨Nat.zero_le _, Nat.zero_le _⟩) rfl ?_
    obtain ⟨rfl, rfl, rfl⟩ := ik_e3 hf
    exact ik_iretW C hr hlk dX7_hold_31
  · have hf := ik_neg hc hf
    refine ik_iload_n C 2 rfl rfl dX7_hold_12 ?_
    refine ik_iconst (v := (-1 : Int32)) C (by decide) dX7_hold_13 ?_
    refine ik_icmp_eq C 32 dX7_hold_14 (by decide) (fun hc => ?_) (fun hc => ?_)
    · have hf := ik_pos hc hf
      refine ik_aload_n C 0 rfl rfl dX7_hold_32 ?_
      refine ik_get C inlX7 0 rfl rfl 0 (by decide) wl_4_12 rfl (v := .ref h1) rfl dX7_hold_33 ?_
      refine ik_bipush (v := (72 : Int32)) C (by decide) dX7_hold_36 ?_
      refine ik_iload_n C 1 rfl rfl dX7_hold_38 ?_
      refine ik_iadd C dX7_hold_39 ?_
      refine ik_iload_n C 2 rfl rfl dX7_hold_40 ?_
      have hg := ik_gdi hf
      have hf := ik_gdk hf
      refine ik_iast C 1 rfl hg (wz_X7 cI cS h0 h1 h2 h3 h4 h5 h6 h7 h8 h9 h10 h11 misKept mtaped msort mfrom mto mvalue mbad (upd mm (((72 : Int32) + x1)).toNatClampNeg x2) mkept mwas mother mfound mwarm mdrip mtape mbits msize mnumber) rfl dX7_hold_41 ?_
      refine ik_iconst (v := (1 : Int32)) C (by decide) dX7_hold_42 ?_
      obtain ⟨rfl, rfl, rfl⟩ := ik_e3 hf
      exact ik_iretW C hr hlk dX7_hold_43
    · have hf := ik_neg hc hf
      refine ik_aload_n C 0 rfl rfl dX7_hold_17 ?_
      refine ik_iload_n C 2 rfl rfl dX7_hold_18 ?_
      obtain ⟨r2, hc2, hf⟩ := ik_b1s hf
      have hM := (c_X7_isBlock l D cI cS h0 h1 h2 h3 h4 h5 h6 h7 h8 h9 h10 h11 misKept mtaped msort mfrom mto mvalue mbad mm mkept mwas mother mfound mwarm mdrip mtape mbits msize mnumber x2 r2 hc2)
      refine ik_goR (ik_runV (st := []) (As := [.int x2]) C hM mv_X7_isBlock wl_9_17 ⟨rfl, rfl, Nat.le_of_ble_eq_true rfl, Nat.le_of_ble_eq_true rfl⟩ [0, 1, 2, 3, 4, 5, 6, 7, 8, 9, 10, 11] rfl (by decide +kernel) 0 rfl rfl rfl rfl (Nat.le_of_ble_eq_true rfl) dX7_hold_19 ⟨Nat.zero_le _, Nat.zero_le _⟩) rfl ?_
      refine ik_if_ne C 32 dX7_hold_22 (by decide) (fun hc => ?_) (fun hc => ?_)
      · have hf := ik_neg hc hf
        refine ik_aload_n C 0 rfl rfl dX7_hold_32 ?_
        refine ik_get C inlX7 0 rfl rfl 0 (by decide) wl_4_12 rfl (v := .ref h1) rfl dX7_hold_33 ?_
        refine ik_bipush (v := (72 : Int32)) C (by decide) dX7_hold_36 ?_
        refine ik_iload_n C 1 rfl rfl dX7_hold_38 ?_
        refine ik_iadd C dX7_hold_39 ?_
        refine ik_iload_n C 2 rfl rfl dX7_hold_40 ?_
        have hg := ik_gdi hf
        have hf := ik_gdk hf
        refine ik_iast C 1 rfl hg (wz_X7 cI cS h0 h1 h2 h3 h4 h5 h6 h7 h8 h9 h10 h11 misKept mtaped msort mfrom mto mvalue mbad (upd mm (((72 : Int32) + x1)).toNatClampNeg x2) mkept mwas mother mfound mwarm mdrip mtape mbits msize mnumber) rfl dX7_hold_41 ?_
        refine ik_iconst (v := (1 : Int32)) C (by decide) dX7_hold_42 ?_
        obtain ⟨rfl, rfl, rfl⟩ := ik_e3 hf
        exact ik_iretW C hr hlk dX7_hold_43
      · have hf := ik_pos hc hf
        refine ik_aload_n C 0 rfl rfl dX7_hold_25 ?_
        refine ik_ldc C wl_6_14 dX7_hold_26 ?_
        obtain ⟨r3, g4, hc4, hf⟩ := ik_b2s hf
        have hM := (c_X7_finds l D cI cS h0 h1 h2 h3 h4 h5 h6 h7 h8 h9 h10 h11 misKept mtaped msort mfrom mto mvalue mbad mm mkept mwas mother mfound mwarm mdrip mtape mbits msize mnumber (-1000001 : Int32) r3 g4 hc4)
        refine ik_goW (v := (some (.int r3))) (wc := (wz_X7 cI cS h0 h1 h2 h3 h4 h5 h6 h7 h8 h9 h10 h11 misKept mtaped msort mfrom mto mvalue mbad mm mkept mwas mother mfound mwarm mdrip mtape mbits msize mnumber)) (w1 := (wz_X7 cI cS h0 h1 h2 h3 h4 h5 h6 h7 h8 h9 h10 h11 misKept mtaped msort mfrom mto mvalue mbad mm mkept mwas mother g4 mwarm mdrip mtape mbits msize mnumber)) [0, 1, 2, 3, 4, 5, 6, 7, 8, 9, 10, 11] [] 12 rfl rfl (wz_X7 cI cS h0 h1 h2 h3 h4 h5 h6 h7 h8 h9 h10 h11 misKept mtaped msort mfrom mto mvalue mbad mm mkept mwas mother g4 mwarm mdrip mtape mbits msize mnumber) rfl [] rfl rfl rfl (by decide +kernel) (ik_runV (st := []) (As := [.int (-1000001 : Int32)]) C hM mv_X7_finds wl_7_8 ⟨rfl, rfl, Nat.le_of_ble_eq_true rfl, Nat.le_of_ble_eq_true rfl⟩ [0, 1, 2, 3, 4, 5, 6, 7, 8, 9, 10, 11] rfl (by decide +kernel) 0 rfl rfl rfl rfl (Nat.le_of_ble_eq_true rfl) dX7_hold_28 ⟨Nat.zero_le _, Nat.zero_le _⟩) rfl ?_
        obtain ⟨rfl, rfl, rfl⟩ := ik_e3 hf
        exact ik_iretW C hr hlk dX7_hold_31
theorem ms_X7_under : ik_S yX7_under RX7 cX7_under 1 (some .int) 1 := ⟨wl_44_2, wl_1_5, wl_44_3, by decide +kernel⟩
set_option maxHeartbeats 4000000 in
set_option maxRecDepth 100000 in
theorem c_X7_under (l : Launch) (D : va_G) (cI cS : ClassId) (x0 : Int32) (R : Int32) (hf : f_X7_under x0 = some (R)) : Met l yX7_under (ik_ws yX7_under cX7_under 1 (some .int)) ({ frames := 0, cells := 0, slots := 0, locals := 0 } : Room) (ik_P D cI cS [.int x0] (wz_none cI cS)) (ik_R (some (.int R))) 0 0 ik_no := by
  refine ik_metR RX7 rfl (by decide) (Nat.le_of_ble_eq_true rfl) [(0, .int x0)] rfl ?_
  intro p e s m below meth c C hr hlk
  unfold f_X7_under at hf
  refine ik_iload_n C 0 rfl rfl dX7_under_0 ?_
  refine ik_if_ne C 8 dX7_under_1 (by decide) (fun hc => ?_) (fun hc => ?_)
  · have hf := ik_neg hc hf
    refine ik_iload_n C 0 rfl rfl dX7_under_8 ?_
    refine ik_iconst (v := (3 : Int32)) C (by decide) dX7_under_9 ?_
    refine ik_icmp_ne C 17 dX7_under_10 (by decide) (fun hc => ?_) (fun hc => ?_)
    · have hf := ik_neg hc hf
      refine ik_iload_n C 0 rfl rfl dX7_under_17 ?_
      refine ik_iconst (v := (5 : Int32)) C (by decide) dX7_under_18 ?_
      refine ik_icmp_ne C 26 dX7_under_19 (by decide) (fun hc => ?_) (fun hc => ?_)
      · have hf := ik_neg hc hf
        refine ik_iconst (v := (0 : Int32)) C (by decide) dX7_under_26 ?_
        obtain rfl := Option.some.inj hf
        exact ik_iretR C hr hlk dX7_under_27
      · have hf := ik_pos hc hf
        refine ik_iconst (v := (2 : Int32)) C (by decide) dX7_under_22 ?_
        refine ik_goto C 27 dX7_under_23 (by decide) ?_
        obtain rfl := Option.some.inj hf
        exact ik_iretR C hr hlk dX7_under_27
    · have hf := ik_pos hc hf
      refine ik_iconst (v := (1 : Int32)) C (by decide) dX7_under_13 ?_
      refine ik_goto C 27 dX7_under_14 (by decide) ?_
      obtain rfl := Option.some.inj hf
      exact ik_iretR C hr hlk dX7_under_27
  · have hf := ik_pos hc hf
    refine ik_iconst (v := (-1 : Int32)) C (by decide) dX7_under_4 ?_
    refine ik_goto C 27 dX7_under_5 (by decide) ?_
    obtain rfl := Option.some.inj hf
    exact ik_iretR C hr hlk dX7_under_27
theorem mv_X7_as : ik_V yX7_as RX7 cX7_as 5 (some .int) 2 := ⟨wl_43_20, wl_43_21, wl_1_5, wl_43_22, by decide +kernel⟩
set_option maxHeartbeats 4000000 in
set_option maxRecDepth 100000 in
theorem c_X7_as (l : Launch) (D : va_G) (cI cS : ClassId) (h0 h1 h2 h3 h4 h5 h6 h7 h8 h9 h10 h11 : Nat) (misKept : Int32) (mtaped : Int32) (msort : Int32) (mfrom : Int32) (mto : Int32) (mvalue : Int32) (mbad : Int32) (mm : Nat → Int32) (mkept : Nat → Int32) (mwas : Nat → Int32) (mother : Nat → Int32) (mfound : Nat → Int32) (mwarm : Nat → Int32) (mdrip : Nat → Int32) (mtape : Nat → Int32) (mbits : Nat → Int32) (msize : Nat → Int32) (mnumber : Nat → Int32) (x1 : Int32) (x2 : Int32) (R : Int32) (mfound_r : Nat → Int32) (hf : f_X7_as mm mfound x1 x2 = some (R, mfound_r)) : Met l yX7_as (ik_ws yX7_as cX7_as 5 (some .int)) ({ frames := 2, cells := 0, slots := 0, locals := 45 } : Room) (ik_P D cI cS [.ref h0, .int x1, .int x2] (wz_X7 cI cS h0 h1 h2 h3 h4 h5 h6 h7 h8 h9 h10 h11 misKept mtaped msort mfrom mto mvalue mbad mm mkept mwas mother mfound mwarm mdrip mtape mbits msize mnumber)) (ik_Q (some (.int R)) D (wz_X7 cI cS h0 h1 h2 h3 h4 h5 h6 h7 h8 h9 h10 h11 misKept mtaped msort mfrom mto mvalue mbad mm mkept mwas mother mfound_r mwarm mdrip mtape mbits msize mnumber) (wz_X7 cI cS h0 h1 h2 h3 h4 h5 h6 h7 h8 h9 h10 h11 misKept mtaped msort mfrom mto mvalue mbad mm mkept mwas mother mfound mwarm mdrip mtape mbits msize mnumber)) 0 0 (ik_in (wz_X7 cI cS h0 h1 h2 h3 h4 h5 h6 h7 h8 h9 h10 h11 misKept mtaped msort mfrom mto mvalue mbad mm mkept mwas mother mfound mwarm mdrip mtape mbits msize mnumber)) := by
  refine ik_metW RX7 rfl (by decide) (Nat.le_of_ble_eq_true rfl) [(0, .ref h0), (1, .int x1), (2, .int x2)] rfl ?_
  intro p e s m below meth c C hr hlk
  unfold f_X7_as at hf
  refine ik_iload_n C 1 rfl rfl dX7_as_0 ?_
  refine ik_i2l C dX7_as_1 ?_
  refine ik_lconst (v := (0 : Int64)) C (by decide) dX7_as_2 ?_
  refine ik_ldc2 C wl_32_4 dX7_as_3 ?_
  obtain ⟨r1, hc1, hf⟩ := ik_b1s hf
  have hM := (c_X7_in l D cI cS (x1).toInt64 (0 : Int64) (9 : Int64) r1 hc1)
  refine ik_goR (ik_runS (st := []) (As := [.long (x1).toInt64, .long (0 : Int64), .long (9 : Int64)]) C hM ms_X7_in wl_6_21 ⟨rfl, rfl, Nat.le_of_ble_eq_true rfl, Nat.le_of_ble_eq_true rfl⟩ [] rfl (by decide +kernel) rfl rfl (Nat.le_of_ble_eq_true rfl) dX7_as_6 ⟨Nat.zero_le _, Nat.zero_le _⟩) rfl ?_
  refine ik_if_eq C 19 dX7_as_9 (by decide) (fun hc => ?_) (fun hc => ?_)
  · have hf := ik_pos hc hf
    refine ik_aload_n C 0 rfl rfl dX7_as_19 ?_
    refine ik_ldc C wl_6_14 dX7_as_20 ?_
    obtain ⟨r2, g3, hc3, hf⟩ := ik_b2s hf
    have hM := (c_X7_finds l D cI cS h0 h1 h2 h3 h4 h5 h6 h7 h8 h9 h10 h11 misKept mtaped msort mfrom mto mvalue mbad mm mkept mwas mother mfound mwarm mdrip mtape mbits msize mnumber (-1000001 : Int32) r2 g3 hc3)
    refine ik_goW (v := (some (.int r2))) (wc := (wz_X7 cI cS h0 h1 h2 h3 h4 h5 h6 h7 h8 h9 h10 h11 misKept mtaped msort mfrom mto mvalue mbad mm mkept mwas mother mfound mwarm mdrip mtape mbits msize mnumber)) (w1 := (wz_X7 cI cS h0 h1 h2 h3 h4 h5 h6 h7 h8 h9 h10 h11 misKept mtaped msort mfrom mto mvalue mbad mm mkept mwas mother g3 mwarm mdrip mtape mbits msize mnumber)) [0, 1, 2, 3, 4, 5, 6, 7, 8, 9, 10, 11] [] 12 rfl rfl (wz_X7 cI cS h0 h1 h2 h3 h4 h5 h6 h7 h8 h9 h10 h11 misKept mtaped msort mfrom mto mvalue mbad mm mkept mwas mother g3 mwarm mdrip mtape mbits msize mnumber) rfl [] rfl rfl rfl (by decide +kernel) (ik_runV (st := []) (As := [.int (-1000001 : Int32)]) C hM mv_X7_finds wl_7_8 ⟨rfl, rfl, Nat.le_of_ble_eq_true rfl, Nat.le_of_ble_eq_true rfl⟩ [0, 1, 2, 3, 4, 5, 6, 7, 8, 9, 10, 11] rfl (by decide +kernel) 0 rfl rfl rfl rfl (Nat.le_of_ble_eq_true rfl) dX7_as_22 ⟨Nat.zero_le _, Nat.zero_le _⟩) rfl ?_
    obtain ⟨rfl, rfl⟩ := ik_e2 hf
    exact ik_iretW C hr hlk dX7_as_25
  · have hf := ik_neg hc hf
    refine ik_iload_n C 2 rfl rfl dX7_as_12 ?_
    obtain ⟨r2, hc2, hf⟩ := ik_b1s hf
    have hM := (c_X7_isKind l D cI cS x2 r2 hc2)
    refine ik_goR (ik_runS (st := []) (As := [.int x2]) C hM ms_X7_isKind wl_6_17 ⟨rfl, rfl, Nat.le_of_ble_eq_true rfl, Nat.le_of_ble_eq_true rfl⟩ [] rfl (by decide +kernel) rfl rfl (Nat.le_of_ble_eq_true rfl) dX7_as_13 ⟨Nat.zero_le _, Nat.zero_le _⟩) rfl ?_
    refine ik_if_ne C 26 dX7_as_16 (by decide) (fun hc => ?_) (fun hc => ?_)
    · have hf := ik_neg hc hf
      refine ik_aload_n C 0 rfl rfl dX7_as_26 ?_
      refine ik_get C inlX7 0 rfl rfl 0 (by decide) wl_4_12 rfl (v := .ref h1) rfl dX7_as_27 ?_
      refine ik_bipush (v := (72 : Int32)) C (by decide) dX7_as_30 ?_
      refine ik_iload_n C 1 rfl rfl dX7_as_32 ?_
      refine ik_iadd C dX7_as_33 ?_
      have hg := ik_gdi hf
      have hf := ik_gdk hf
      refine ik_iald C 1 rfl hg dX7_as_34 ?_
      refine ik_istore_n C [(3, .int (mm (((72 : Int32) + x1)).toNatClampNeg)), (0, .ref h0), (1, .int x1), (2, .int x2)] rfl (by decide) rfl dX7_as_35 ?_
      refine ik_iload_n C 0 rfl rfl dX7_as_36 ?_
      refine ik_if_ge C 48 dX7_as_37 (by decide) (fun hc => ?_) (fun hc => ?_)
      · have hf := ik_pos hc hf
        refine ik_aload_n C 1 rfl rfl dX7_as_48 ?_
        refine ik_iload_n C 0 rfl rfl dX7_as_49 ?_
        obtain ⟨r3, hc3, hf⟩ := ik_b1s hf
        have hM := (c_X7_kindOf l D cI cS h0 h1 h2 h3 h4 h5 h6 h7 h8 h9 h10 h11 misKept mtaped msort mfrom mto mvalue mbad mm mkept mwas mother mfound mwarm mdrip mtape mbits msize mnumber (mm (((72 : Int32) + x1)).toNatClampNeg) r3 hc3)
        refine ik_goR (ik_runV (st := []) (As := [.int (mm (((72 : Int32) + x1)).toNatClampNeg)]) C hM mv_X7_kindOf wl_9_21 ⟨rfl, rfl, Nat.le_of_ble_eq_true rfl, Nat.le_of_ble_eq_true rfl⟩ [0, 1, 2, 3, 4, 5, 6, 7, 8, 9, 10, 11] rfl (by decide +kernel) 0 rfl rfl rfl rfl (Nat.le_of_ble_eq_true rfl) dX7_as_50 ⟨Nat.zero_le _, Nat.zero_le _⟩) rfl ?_
        refine ik_istore C [(4, .int r3), (3, .int (mm (((72 : Int32) + x1)).toNatClampNeg)), (0, .ref h0), (1, .int x1), (2, .int x2)] (by decide) rfl dX7_as_53 ?_
        have hL_55 : ∀ (n_55 : Nat) (x4_55 : Int32), ik_lp1 (b_X7_as_55 mm mfound x1 x2) n_55 x4_55 = some (R, mfound_r) → ik_G p l e ({ frames := 2, cells := 0, slots := 0, locals := 45 } : Room) s m ([.ref h0, .int x1, .int x2] : List Value).toArray below meth c D (ik_in (wz_X7 cI cS h0 h1 h2 h3 h4 h5 h6 h7 h8 h9 h10 h11 misKept mtaped msort mfrom mto mvalue mbad mm mkept mwas mother mfound mwarm mdrip mtape mbits msize mnumber)) (ik_in (wz_X7 cI cS h0 h1 h2 h3 h4 h5 h6 h7 h8 h9 h10 h11 misKept mtaped msort mfrom mto mvalue mbad mm mkept mwas mother mfound mwarm mdrip mtape mbits msize mnumber)) 5 0 0 (MQ below (ik_Q (some (.int R)) D (wz_X7 cI cS h0 h1 h2 h3 h4 h5 h6 h7 h8 h9 h10 h11 misKept mtaped msort mfrom mto mvalue mbad mm mkept mwas mother mfound_r mwarm mdrip mtape mbits msize mnumber) (wz_X7 cI cS h0 h1 h2 h3 h4 h5 h6 h7 h8 h9 h10 h11 misKept mtaped msort mfrom mto mvalue mbad mm mkept mwas mother mfound mwarm mdrip mtape mbits msize mnumber)) ([.ref h0, .int x1, .int x2] : List Value).toArray s 0 0 (ik_in (wz_X7 cI cS h0 h1 h2 h3 h4 h5 h6 h7 h8 h9 h10 h11 misKept mtaped msort mfrom mto mvalue mbad mm mkept mwas mother mfound mwarm mdrip mtape mbits msize mnumber))) 55 [(4, .int x4_55), (3, .int (mm (((72 : Int32) + x1)).toNatClampNeg)), (0, .ref h0), (1, .int x1), (2, .int x2)] [] (wz_X7 cI cS h0 h1 h2 h3 h4 h5 h6 h7 h8 h9 h10 h11 misKept mtaped msort mfrom mto mvalue mbad mm mkept mwas mother mfound mwarm mdrip mtape mbits msize mnumber) := by
          intro n_55
          induction n_55 with
          | zero => intro _ hf; exact nomatch hf
          | succ n_55 ih_55 =>
            intro x4_55 hf
            replace hf : b_X7_as_55 mm mfound x1 x2 (ik_lp1 (b_X7_as_55 mm mfound x1 x2) n_55) x4_55 = some (R, mfound_r) := hf
            unfold b_X7_as_55 at hf
            refine ik_iload C 0 rfl dX7_as_55 ?_
            refine ik_if_lt C 78 dX7_as_57 (by decide) (fun hc => ?_) (fun hc => ?_)
            · have hf := ik_pos hc hf
              refine ik_aload_n C 2 rfl rfl dX7_as_78 ?_
              refine ik_ldcw C wl_44_0 dX7_as_79 ?_
              obtain ⟨r4, g5, hc5, hf⟩ := ik_b2s hf
              have hM := (c_X7_finds l D cI cS h0 h1 h2 h3 h4 h5 h6 h7 h8 h9 h10 h11 misKept mtaped msort mfrom mto mvalue mbad mm mkept mwas mother mfound mwarm mdrip mtape mbits msize mnumber (-1000003 : Int32) r4 g5 hc5)
              refine ik_goW (v := (some (.int r4))) (wc := (wz_X7 cI cS h0 h1 h2 h3 h4 h5 h6 h7 h8 h9 h10 h11 misKept mtaped msort mfrom mto mvalue mbad mm mkept mwas mother mfound mwarm mdrip mtape mbits msize mnumber)) (w1 := (wz_X7 cI cS h0 h1 h2 h3 h4 h5 h6 h7 h8 h9 h10 h11 misKept mtaped msort mfrom mto mvalue mbad mm mkept mwas mother g5 mwarm mdrip mtape mbits msize mnumber)) [0, 1, 2, 3, 4, 5, 6, 7, 8, 9, 10, 11] [] 12 rfl rfl (wz_X7 cI cS h0 h1 h2 h3 h4 h5 h6 h7 h8 h9 h10 h11 misKept mtaped msort mfrom mto mvalue mbad mm mkept mwas mother g5 mwarm mdrip mtape mbits msize mnumber) rfl [] rfl rfl rfl (by decide +kernel) (ik_runV (st := []) (As := [.int (-1000003 : Int32)]) C hM mv_X7_finds wl_7_8 ⟨rfl, rfl, Nat.le_of_ble_eq_true rfl, Nat.le_of_ble_eq_true rfl⟩ [0, 1, 2, 3, 4, 5, 6, 7, 8, 9, 10, 11] rfl (by decide +kernel) 0 rfl rfl rfl rfl (Nat.le_of_ble_eq_true rfl) dX7_as_82 ⟨Nat.zero_le _, Nat.zero_le _⟩) rfl ?_
              obtain ⟨rfl, rfl⟩ := ik_e2 hf
              exact ik_iretW C hr hlk dX7_as_85
            · have hf := ik_neg hc hf
              refine ik_iload C 0 rfl dX7_as_60 ?_
              refine ik_iload_n C 4 rfl rfl dX7_as_62 ?_
              refine ik_icmp_ne C 68 dX7_as_63 (by decide) (fun hc => ?_) (fun hc => ?_)
              · have hf := ik_neg hc hf
                refine ik_iload C 0 rfl dX7_as_68 ?_
                obtain ⟨r4, hc4, hf⟩ := ik_b1s hf
                have hM := (c_X7_under l D cI cS x4_55 r4 hc4)
                refine ik_goR (ik_runS (st := []) (As := [.int x4_55]) C hM ms_X7_under wl_44_1 ⟨rfl, rfl, Nat.le_of_ble_eq_true rfl, Nat.le_of_ble_eq_true rfl⟩ [] rfl (by decide +kernel) rfl rfl (Nat.le_of_ble_eq_true rfl) dX7_as_70 ⟨Nat.zero_le _, Nat.zero_le _⟩) rfl ?_
                refine ik_istore C [(4, .int r4), (3, .int (mm (((72 : Int32) + x1)).toNatClampNeg)), (0, .ref h0), (1, .int x1), (2, .int x2)] (by decide) rfl dX7_as_73 ?_
                refine ik_goto C 55 dX7_as_75 (by decide) ?_
                exact ik_sub [0, 1, 2, 3, 4] [(4, .int r4), (3, .int (mm (((72 : Int32) + x1)).toNatClampNeg)), (0, .ref h0), (1, .int x1), (2, .int x2)] rfl (ih_55 r4 hf)
              · have hf := ik_pos hc hf
                refine ik_iload_n C 1 rfl rfl dX7_as_66 ?_
                obtain ⟨rfl, rfl⟩ := ik_e2 hf
                exact ik_iretW C hr hlk dX7_as_67
        exact hL_55 ik_fu r3 hf
      · have hf := ik_neg hc hf
        refine ik_aload_n C 1 rfl rfl dX7_as_40 ?_
        refine ik_ldcw C wl_43_23 dX7_as_41 ?_
        obtain ⟨r3, g4, hc4, hf⟩ := ik_b2s hf
        have hM := (c_X7_finds l D cI cS h0 h1 h2 h3 h4 h5 h6 h7 h8 h9 h10 h11 misKept mtaped msort mfrom mto mvalue mbad mm mkept mwas mother mfound mwarm mdrip mtape mbits msize mnumber (-1000006 : Int32) r3 g4 hc4)
        refine ik_goW (v := (some (.int r3))) (wc := (wz_X7 cI cS h0 h1 h2 h3 h4 h5 h6 h7 h8 h9 h10 h11 misKept mtaped msort mfrom mto mvalue mbad mm mkept mwas mother mfound mwarm mdrip mtape mbits msize mnumber)) (w1 := (wz_X7 cI cS h0 h1 h2 h3 h4 h5 h6 h7 h8 h9 h10 h11 misKept mtaped msort mfrom mto mvalue mbad mm mkept mwas mother g4 mwarm mdrip mtape mbits msize mnumber)) [0, 1, 2, 3, 4, 5, 6, 7, 8, 9, 10, 11] [] 12 rfl rfl (wz_X7 cI cS h0 h1 h2 h3 h4 h5 h6 h7 h8 h9 h10 h11 misKept mtaped msort mfrom mto mvalue mbad mm mkept mwas mother g4 mwarm mdrip mtape mbits msize mnumber) rfl [] rfl rfl rfl (by decide +kernel) (ik_runV (st := []) (As := [.int (-1000006 : Int32)]) C hM mv_X7_finds wl_7_8 ⟨rfl, rfl, Nat.le_of_ble_eq_true rfl, Nat.le_of_ble_eq_true rfl⟩ [0, 1, 2, 3, 4, 5, 6, 7, 8, 9, 10, 11] rfl (by decide +kernel) 0 rfl rfl rfl rfl (Nat.le_of_ble_eq_true rfl) dX7_as_44 ⟨Nat.zero_le _, Nat.zero_le _⟩) rfl ?_
        obtain ⟨rfl, rfl⟩ := ik_e2 hf
        exact ik_iretW C hr hlk dX7_as_47
    · have hf := ik_pos hc hf
      refine ik_aload_n C 0 rfl rfl dX7_as_19 ?_
      refine ik_ldc C wl_6_14 dX7_as_20 ?_
      obtain ⟨r3, g4, hc4, hf⟩ := ik_b2s hf
      have hM := (c_X7_finds l D cI cS h0 h1 h2 h3 h4 h5 h6 h7 h8 h9 h10 h11 misKept mtaped msort mfrom mto mvalue mbad mm mkept mwas mother mfound mwarm mdrip mtape mbits msize mnumber (-1000001 : Int32) r3 g4 hc4)
      refine ik_goW (v := (some (.int r3))) (wc := (wz_X7 cI cS h0 h1 h2 h3 h4 h5 h6 h7 h8 h9 h10 h11 misKept mtaped msort mfrom mto mvalue mbad mm mkept mwas mother mfound mwarm mdrip mtape mbits msize mnumber)) (w1 := (wz_X7 cI cS h0 h1 h2 h3 h4 h5 h6 h7 h8 h9 h10 h11 misKept mtaped msort mfrom mto mvalue mbad mm mkept mwas mother g4 mwarm mdrip mtape mbits msize mnumber)) [0, 1, 2, 3, 4, 5, 6, 7, 8, 9, 10, 11] [] 12 rfl rfl (wz_X7 cI cS h0 h1 h2 h3 h4 h5 h6 h7 h8 h9 h10 h11 misKept mtaped msort mfrom mto mvalue mbad mm mkept mwas mother g4 mwarm mdrip mtape mbits msize mnumber) rfl [] rfl rfl rfl (by decide +kernel) (ik_runV (st := []) (As := [.int (-1000001 : Int32)]) C hM mv_X7_finds wl_7_8 ⟨rfl, rfl, Nat.le_of_ble_eq_true rfl, Nat.le_of_ble_eq_true rfl⟩ [0, 1, 2, 3, 4, 5, 6, 7, 8, 9, 10, 11] rfl (by decide +kernel) 0 rfl rfl rfl rfl (Nat.le_of_ble_eq_true rfl) dX7_as_22 ⟨Nat.zero_le _, Nat.zero_le _⟩) rfl ?_
      obtain ⟨rfl, rfl⟩ := ik_e2 hf
      exact ik_iretW C hr hlk dX7_as_25
theorem ms_X7_isSheet : ik_S yX7_isSheet RX7 cX7_isSheet 1 (some .boolean) 1 := ⟨wl_45_1, wl_1_5, wl_45_2, by decide +kernel⟩
set_option maxHeartbeats 4000000 in
set_option maxRecDepth 100000 in
theorem c_X7_isSheet (l : Launch) (D : va_G) (cI cS : ClassId) (x0 : Int32) (R : Int32) (hf : f_X7_isSheet x0 = some (R)) : Met l yX7_isSheet (ik_ws yX7_isSheet cX7_isSheet 1 (some .boolean)) ({ frames := 1, cells := 0, slots := 0, locals := 25 } : Room) (ik_P D cI cS [.int x0] (wz_none cI cS)) (ik_R (some (.int R))) 0 0 ik_no := by
  refine ik_metR RX7 rfl (by decide) (Nat.le_of_ble_eq_true rfl) [(0, .int x0)] rfl ?_
  intro p e s m below meth c C hr hlk
  unfold f_X7_isSheet at hf
  refine ik_iload_n C 0 rfl rfl dX7_isSheet_0 ?_
  refine ik_i2l C dX7_isSheet_1 ?_
  refine ik_lconst (v := (0 : Int64)) C (by decide) dX7_isSheet_2 ?_
  refine ik_ldc2 C wl_45_3 dX7_isSheet_3 ?_
  obtain ⟨r1, hc1, hf⟩ := ik_b1s hf
  have hM := (c_X7_in l D cI cS (x0).toInt64 (0 : Int64) (3 : Int64) r1 hc1)
  refine ik_goR (ik_runS (st := []) (As := [.long (x0).toInt64, .long (0 : Int64), .long (3 : Int64)]) C hM ms_X7_in wl_6_21 ⟨rfl, rfl, Nat.le_of_ble_eq_true rfl, Nat.le_of_ble_eq_true rfl⟩ [] rfl (by decide +kernel) rfl rfl (Nat.le_of_ble_eq_true rfl) dX7_isSheet_6 ⟨Nat.zero_le _, Nat.zero_le _⟩) rfl ?_
  have hz := ik_gzi hf
  have hf := ik_gzk hf
  obtain rfl := Option.some.inj hf
  exact ik_zretR C hr hz.1 hlk dX7_isSheet_9
theorem mv_X7_sheet : ik_V yX7_sheet RX7 cX7_sheet 5 (some .int) 3 := ⟨wl_44_20, wl_44_21, wl_1_5, wl_44_22, by decide +kernel⟩
set_option maxHeartbeats 4000000 in
set_option maxRecDepth 100000 in
theorem c_X7_sheet (l : Launch) (D : va_G) (cI cS : ClassId) (h0 h1 h2 h3 h4 h5 h6 h7 h8 h9 h10 h11 : Nat) (misKept : Int32) (mtaped : Int32) (msort : Int32) (mfrom : Int32) (mto : Int32) (mvalue : Int32) (mbad : Int32) (mm : Nat → Int32) (mkept : Nat → Int32) (mwas : Nat → Int32) (mother : Nat → Int32) (mfound : Nat → Int32) (mwarm : Nat → Int32) (mdrip : Nat → Int32) (mtape : Nat → Int32) (mbits : Nat → Int32) (msize : Nat → Int32) (mnumber : Nat → Int32) (x1 : Int32) (x2 : Int32) (x3 : Int32) (R : Int32) (mfound_r : Nat → Int32) (mbits_r : Nat → Int32) (msize_r : Nat → Int32) (mnumber_r : Nat → Int32) (hf : f_X7_sheet mfound mbits msize mnumber x1 x2 x3 = some (R, mfound_r, mbits_r, msize_r, mnumber_r)) : Met l yX7_sheet (ik_ws yX7_sheet cX7_sheet 5 (some .int)) ({ frames := 2, cells := 0, slots := 0, locals := 45 } : Room) (ik_P D cI cS [.ref h0, .int x1, .int x2, .int x3] (wz_X7 cI cS h0 h1 h2 h3 h4 h5 h6 h7 h8 h9 h10 h11 misKept mtaped msort mfrom mto mvalue mbad mm mkept mwas mother mfound mwarm mdrip mtape mbits msize mnumber)) (ik_Q (some (.int R)) D (wz_X7 cI cS h0 h1 h2 h3 h4 h5 h6 h7 h8 h9 h10 h11 misKept mtaped msort mfrom mto mvalue mbad mm mkept mwas mother mfound_r mwarm mdrip mtape mbits_r msize_r mnumber_r) (wz_X7 cI cS h0 h1 h2 h3 h4 h5 h6 h7 h8 h9 h10 h11 misKept mtaped msort mfrom mto mvalue mbad mm mkept mwas mother mfound mwarm mdrip mtape mbits msize mnumber)) 0 0 (ik_in (wz_X7 cI cS h0 h1 h2 h3 h4 h5 h6 h7 h8 h9 h10 h11 misKept mtaped msort mfrom mto mvalue mbad mm mkept mwas mother mfound mwarm mdrip mtape mbits msize mnumber)) := by
  refine ik_metW RX7 rfl (by decide) (Nat.le_of_ble_eq_true rfl) [(0, .ref h0), (1, .int x1), (2, .int x2), (3, .int x3)] rfl ?_
  intro p e s m below meth c C hr hlk
  unfold f_X7_sheet at hf
  refine ik_iload_n C 1 rfl rfl dX7_sheet_0 ?_
  obtain ⟨r1, hc1, hf⟩ := ik_b1s hf
  have hM := (c_X7_isSheet l D cI cS x1 r1 hc1)
  refine ik_goR (ik_runS (st := []) (As := [.int x1]) C hM ms_X7_isSheet wl_45_0 ⟨rfl, rfl, Nat.le_of_ble_eq_true rfl, Nat.le_of_ble_eq_true rfl⟩ [] rfl (by decide +kernel) rfl rfl (Nat.le_of_ble_eq_true rfl) dX7_sheet_1 ⟨Nat.zero_le _, Nat.zero_le _⟩) rfl ?_
  refine ik_if_eq C 29 dX7_sheet_4 (by decide) (fun hc => ?_) (fun hc => ?_)
  · have hf := ik_pos hc hf
    refine ik_aload_n C 0 rfl rfl dX7_sheet_29 ?_
    refine ik_ldc C wl_6_14 dX7_sheet_30 ?_
    obtain ⟨r2, g3, hc3, hf⟩ := ik_b2s hf
    have hM := (c_X7_finds l D cI cS h0 h1 h2 h3 h4 h5 h6 h7 h8 h9 h10 h11 misKept mtaped msort mfrom mto mvalue mbad mm mkept mwas mother mfound mwarm mdrip mtape mbits msize mnumber (-1000001 : Int32) r2 g3 hc3)
    refine ik_goW (v := (some (.int r2))) (wc := (wz_X7 cI cS h0 h1 h2 h3 h4 h5 h6 h7 h8 h9 h10 h11 misKept mtaped msort mfrom mto mvalue mbad mm mkept mwas mother mfound mwarm mdrip mtape mbits msize mnumber)) (w1 := (wz_X7 cI cS h0 h1 h2 h3 h4 h5 h6 h7 h8 h9 h10 h11 misKept mtaped msort mfrom mto mvalue mbad mm mkept mwas mother g3 mwarm mdrip mtape mbits msize mnumber)) [0, 1, 2, 3, 4, 5, 6, 7, 8, 9, 10, 11] [] 12 rfl rfl (wz_X7 cI cS h0 h1 h2 h3 h4 h5 h6 h7 h8 h9 h10 h11 misKept mtaped msort mfrom mto mvalue mbad mm mkept mwas mother g3 mwarm mdrip mtape mbits msize mnumber) rfl [] rfl rfl rfl (by decide +kernel) (ik_runV (st := []) (As := [.int (-1000001 : Int32)]) C hM mv_X7_finds wl_7_8 ⟨rfl, rfl, Nat.le_of_ble_eq_true rfl, Nat.le_of_ble_eq_true rfl⟩ [0, 1, 2, 3, 4, 5, 6, 7, 8, 9, 10, 11] rfl (by decide +kernel) 0 rfl rfl rfl rfl (Nat.le_of_ble_eq_true rfl) dX7_sheet_32 ⟨Nat.zero_le _, Nat.zero_le _⟩) rfl ?_
    obtain ⟨rfl, rfl, rfl, rfl, rfl⟩ := ik_e5 hf
    exact ik_iretW C hr hlk dX7_sheet_35
  · have hf := ik_neg hc hf
    have hJ_36 : ∀ (_ : Unit), j_X7_sheet_36 mfound mbits msize mnumber x1 x2 x3 = some (R, mfound_r, mbits_r, msize_r, mnumber_r) → ik_G p l e ({ frames := 2, cells := 0, slots := 0, locals := 45 } : Room) s m ([.ref h0, .int x1, .int x2, .int x3] : List Value).toArray below meth c D (ik_in (wz_X7 cI cS h0 h1 h2 h3 h4 h5 h6 h7 h8 h9 h10 h11 misKept mtaped msort mfrom mto mvalue mbad mm mkept mwas mother mfound mwarm mdrip mtape mbits msize mnumber)) (ik_in (wz_X7 cI cS h0 h1 h2 h3 h4 h5 h6 h7 h8 h9 h10 h11 misKept mtaped msort mfrom mto mvalue mbad mm mkept mwas mother mfound mwarm mdrip mtape mbits msize mnumber)) 5 0 0 (MQ below (ik_Q (some (.int R)) D (wz_X7 cI cS h0 h1 h2 h3 h4 h5 h6 h7 h8 h9 h10 h11 misKept mtaped msort mfrom mto mvalue mbad mm mkept mwas mother mfound_r mwarm mdrip mtape mbits_r msize_r mnumber_r) (wz_X7 cI cS h0 h1 h2 h3 h4 h5 h6 h7 h8 h9 h10 h11 misKept mtaped msort mfrom mto mvalue mbad mm mkept mwas mother mfound mwarm mdrip mtape mbits msize mnumber)) ([.ref h0, .int x1, .int x2, .int x3] : List Value).toArray s 0 0 (ik_in (wz_X7 cI cS h0 h1 h2 h3 h4 h5 h6 h7 h8 h9 h10 h11 misKept mtaped msort mfrom mto mvalue mbad mm mkept mwas mother mfound mwarm mdrip mtape mbits msize mnumber))) 36 [(0, .ref h0), (1, .int x1), (2, .int x2), (3, .int x3)] [] (wz_X7 cI cS h0 h1 h2 h3 h4 h5 h6 h7 h8 h9 h10 h11 misKept mtaped msort mfrom mto mvalue mbad mm mkept mwas mother mfound mwarm mdrip mtape mbits msize mnumber) := by
      intro _ hf
      unfold j_X7_sheet_36 at hf
      refine ik_iload_n C 3 rfl rfl dX7_sheet_36 ?_
      refine ik_if_ge C 48 dX7_sheet_37 (by decide) (fun hc => ?_) (fun hc => ?_)
      · have hf := ik_pos hc hf
        refine ik_iload_n C 3 rfl rfl dX7_sheet_48 ?_
        refine ik_bipush (v := (40 : Int32)) C (by decide) dX7_sheet_49 ?_
        refine ik_icmp_le C 61 dX7_sheet_51 (by decide) (fun hc => ?_) (fun hc => ?_)
        · have hf := ik_pos hc hf
          refine ik_aload_n C 0 rfl rfl dX7_sheet_61 ?_
          refine ik_get C inlX7 0 rfl rfl 15 (by decide) wl_4_20 rfl (v := .ref h9) rfl dX7_sheet_62 ?_
          refine ik_iload_n C 1 rfl rfl dX7_sheet_65 ?_
          refine ik_iload_n C 2 rfl rfl dX7_sheet_66 ?_
          have hg := ik_gdi hf
          have hf := ik_gdk hf
          refine ik_iast C 9 rfl hg (wz_X7 cI cS h0 h1 h2 h3 h4 h5 h6 h7 h8 h9 h10 h11 misKept mtaped msort mfrom mto mvalue mbad mm mkept mwas mother mfound mwarm mdrip mtape (upd mbits (x1).toNatClampNeg x2) msize mnumber) rfl dX7_sheet_67 ?_
          refine ik_aload_n C 0 rfl rfl dX7_sheet_68 ?_
          refine ik_get C inlX7 0 rfl rfl 16 (by decide) wl_4_21 rfl (v := .ref h10) rfl dX7_sheet_69 ?_
          refine ik_iload_n C 1 rfl rfl dX7_sheet_72 ?_
          have hJ_82 : ∀ (v0_82 : Int32), j_X7_sheet_82 mfound mbits msize mnumber x1 x2 v0_82 = some (R, mfound_r, mbits_r, msize_r, mnumber_r) → ik_G p l e ({ frames := 2, cells := 0, slots := 0, locals := 45 } : Room) s m ([.ref h0, .int x1, .int x2, .int x3] : List Value).toArray below meth c D (ik_in (wz_X7 cI cS h0 h1 h2 h3 h4 h5 h6 h7 h8 h9 h10 h11 misKept mtaped msort mfrom mto mvalue mbad mm mkept mwas mother mfound mwarm mdrip mtape mbits msize mnumber)) (ik_in (wz_X7 cI cS h0 h1 h2 h3 h4 h5 h6 h7 h8 h9 h10 h11 misKept mtaped msort mfrom mto mvalue mbad mm mkept mwas mother mfound mwarm mdrip mtape mbits msize mnumber)) 5 0 0 (MQ below (ik_Q (some (.int R)) D (wz_X7 cI cS h0 h1 h2 h3 h4 h5 h6 h7 h8 h9 h10 h11 misKept mtaped msort mfrom mto mvalue mbad mm mkept mwas mother mfound_r mwarm mdrip mtape mbits_r msize_r mnumber_r) (wz_X7 cI cS h0 h1 h2 h3 h4 h5 h6 h7 h8 h9 h10 h11 misKept mtaped msort mfrom mto mvalue mbad mm mkept mwas mother mfound mwarm mdrip mtape mbits msize mnumber)) ([.ref h0, .int x1, .int x2, .int x3] : List Value).toArray s 0 0 (ik_in (wz_X7 cI cS h0 h1 h2 h3 h4 h5 h6 h7 h8 h9 h10 h11 misKept mtaped msort mfrom mto mvalue mbad mm mkept mwas mother mfound mwarm mdrip mtape mbits msize mnumber))) 82 [(0, .ref h0), (1, .int x1), (2, .int x2), (3, .int x3)] [.int v0_82, .int x1, .ref h10] (wz_X7 cI cS h0 h1 h2 h3 h4 h5 h6 h7 h8 h9 h10 h11 misKept mtaped msort mfrom mto mvalue mbad mm mkept mwas mother mfound mwarm mdrip mtape (upd mbits (x1).toNatClampNeg x2) msize mnumber) := by
            intro v0_82 hf
            unfold j_X7_sheet_82 at hf
            have hg := ik_gdi hf
            have hf := ik_gdk hf
            refine ik_iast C 10 rfl hg (wz_X7 cI cS h0 h1 h2 h3 h4 h5 h6 h7 h8 h9 h10 h11 misKept mtaped msort mfrom mto mvalue mbad mm mkept mwas mother mfound mwarm mdrip mtape (upd mbits (x1).toNatClampNeg x2) (upd msize (x1).toNatClampNeg v0_82) mnumber) rfl dX7_sheet_82 ?_
            refine ik_iconst (v := (0 : Int32)) C (by decide) dX7_sheet_83 ?_
            refine ik_istore C [(4, .int (0 : Int32)), (0, .ref h0), (1, .int x1), (2, .int x2), (3, .int x3)] (by decide) rfl dX7_sheet_84 ?_
            have hL_86 : ∀ (n_86 : Nat) (mnumber_86 : Nat → Int32) (x4_86 : Int32), ik_lp2 (b_X7_sheet_86 mfound mbits msize x1 x2 v0_82) n_86 mnumber_86 x4_86 = some (R, mfound_r, mbits_r, msize_r, mnumber_r) → ik_G p l e ({ frames := 2, cells := 0, slots := 0, locals := 45 } : Room) s m ([.ref h0, .int x1, .int x2, .int x3] : List Value).toArray below meth c D (ik_in (wz_X7 cI cS h0 h1 h2 h3 h4 h5 h6 h7 h8 h9 h10 h11 misKept mtaped msort mfrom mto mvalue mbad mm mkept mwas mother mfound mwarm mdrip mtape mbits msize mnumber)) (ik_in (wz_X7 cI cS h0 h1 h2 h3 h4 h5 h6 h7 h8 h9 h10 h11 misKept mtaped msort mfrom mto mvalue mbad mm mkept mwas mother mfound mwarm mdrip mtape mbits msize mnumber)) 5 0 0 (MQ below (ik_Q (some (.int R)) D (wz_X7 cI cS h0 h1 h2 h3 h4 h5 h6 h7 h8 h9 h10 h11 misKept mtaped msort mfrom mto mvalue mbad mm mkept mwas mother mfound_r mwarm mdrip mtape mbits_r msize_r mnumber_r) (wz_X7 cI cS h0 h1 h2 h3 h4 h5 h6 h7 h8 h9 h10 h11 misKept mtaped msort mfrom mto mvalue mbad mm mkept mwas mother mfound mwarm mdrip mtape mbits msize mnumber)) ([.ref h0, .int x1, .int x2, .int x3] : List Value).toArray s 0 0 (ik_in (wz_X7 cI cS h0 h1 h2 h3 h4 h5 h6 h7 h8 h9 h10 h11 misKept mtaped msort mfrom mto mvalue mbad mm mkept mwas mother mfound mwarm mdrip mtape mbits msize mnumber))) 86 [(4, .int x4_86), (0, .ref h0), (1, .int x1), (2, .int x2), (3, .int x3)] [] (wz_X7 cI cS h0 h1 h2 h3 h4 h5 h6 h7 h8 h9 h10 h11 misKept mtaped msort mfrom mto mvalue mbad mm mkept mwas mother mfound mwarm mdrip mtape (upd mbits (x1).toNatClampNeg x2) (upd msize (x1).toNatClampNeg v0_82) mnumber_86) := by
              intro n_86
              induction n_86 with
              | zero => intro _ _ hf; exact nomatch hf
              | succ n_86 ih_86 =>
                intro mnumber_86 x4_86 hf
                replace hf : b_X7_sheet_86 mfound mbits msize x1 x2 v0_82 (ik_lp2 (b_X7_sheet_86 mfound mbits msize x1 x2 v0_82) n_86) mnumber_86 x4_86 = some (R, mfound_r, mbits_r, msize_r, mnumber_r) := hf
                unfold b_X7_sheet_86 at hf
                refine ik_iload C 0 rfl dX7_sheet_86 ?_
                refine ik_bipush (v := (40 : Int32)) C (by decide) dX7_sheet_88 ?_
                refine ik_icmp_ge C 112 dX7_sheet_90 (by decide) (fun hc => ?_) (fun hc => ?_)
                · have hf := ik_pos hc hf
                  refine ik_aload_n C 1 rfl rfl dX7_sheet_112 ?_
                  refine ik_get C inlX7 0 rfl rfl 16 (by decide) wl_4_21 rfl (v := .ref h10) rfl dX7_sheet_113 ?_
                  refine ik_iload_n C 2 rfl rfl dX7_sheet_116 ?_
                  have hg := ik_gdi hf
                  have hf := ik_gdk hf
                  refine ik_iald C 10 rfl hg dX7_sheet_117 ?_
                  obtain ⟨rfl, rfl, rfl, rfl, rfl⟩ := ik_e5 hf
                  exact ik_iretW C hr hlk dX7_sheet_118
                · have hf := ik_neg hc hf
                  refine ik_aload_n C 1 rfl rfl dX7_sheet_93 ?_
                  refine ik_get C inlX7 0 rfl rfl 17 (by decide) wl_4_22 rfl (v := .ref h11) rfl dX7_sheet_94 ?_
                  refine ik_bipush (v := (40 : Int32)) C (by decide) dX7_sheet_97 ?_
                  refine ik_iload_n C 2 rfl rfl dX7_sheet_99 ?_
                  refine ik_imul C dX7_sheet_100 ?_
                  refine ik_iload C 0 rfl dX7_sheet_101 ?_
                  refine ik_iadd C dX7_sheet_103 ?_
                  refine ik_iconst (v := (0 : Int32)) C (by decide) dX7_sheet_104 ?_
                  have hg := ik_gdi hf
                  have hf := ik_gdk hf
                  refine ik_iast C 11 rfl hg (wz_X7 cI cS h0 h1 h2 h3 h4 h5 h6 h7 h8 h9 h10 h11 misKept mtaped msort mfrom mto mvalue mbad mm mkept mwas mother mfound mwarm mdrip mtape (upd mbits (x1).toNatClampNeg x2) (upd msize (x1).toNatClampNeg v0_82) (upd mnumber_86 ((((40 : Int32) * x1) + x4_86)).toNatClampNeg (0 : Int32))) rfl dX7_sheet_105 ?_
                  refine ik_iinc C [(4, .int (x4_86 + (1 : Int32))), (0, .ref h0), (1, .int x1), (2, .int x2), (3, .int x3)] 0 rfl rfl (by decide) rfl dX7_sheet_106 ?_
                  refine ik_goto C 86 dX7_sheet_109 (by decide) ?_
                  exact ik_sub [0, 1, 2, 3, 4] [(4, .int (x4_86 + (1 : Int32))), (0, .ref h0), (1, .int x1), (2, .int x2), (3, .int x3)] rfl (ih_86 (upd mnumber_86 ((((40 : Int32) * x1) + x4_86)).toNatClampNeg (0 : Int32)) (x4_86 + (1 : Int32)) hf)
            exact hL_86 ik_fu mnumber (0 : Int32) hf
          refine ik_iload_n C 2 rfl rfl dX7_sheet_73 ?_
          refine ik_if_ne C 81 dX7_sheet_74 (by decide) (fun hc => ?_) (fun hc => ?_)
          · have hf := ik_neg hc hf
            refine ik_iload_n C 3 rfl rfl dX7_sheet_81 ?_
            exact ik_sub [0, 1, 2, 3] [(0, .ref h0), (1, .int x1), (2, .int x2), (3, .int x3)] rfl (hJ_82 x3 hf)
          · have hf := ik_pos hc hf
            refine ik_iconst (v := (0 : Int32)) C (by decide) dX7_sheet_77 ?_
            refine ik_goto C 82 dX7_sheet_78 (by decide) ?_
            exact ik_sub [0, 1, 2, 3] [(0, .ref h0), (1, .int x1), (2, .int x2), (3, .int x3)] rfl (hJ_82 (0 : Int32) hf)
        · have hf := ik_neg hc hf
          refine ik_aload_n C 0 rfl rfl dX7_sheet_54 ?_
          refine ik_ldc C wl_6_14 dX7_sheet_55 ?_
          obtain ⟨r2, g3, hc3, hf⟩ := ik_b2s hf
          have hM := (c_X7_finds l D cI cS h0 h1 h2 h3 h4 h5 h6 h7 h8 h9 h10 h11 misKept mtaped msort mfrom mto mvalue mbad mm mkept mwas mother mfound mwarm mdrip mtape mbits msize mnumber (-1000001 : Int32) r2 g3 hc3)
          refine ik_goW (v := (some (.int r2))) (wc := (wz_X7 cI cS h0 h1 h2 h3 h4 h5 h6 h7 h8 h9 h10 h11 misKept mtaped msort mfrom mto mvalue mbad mm mkept mwas mother mfound mwarm mdrip mtape mbits msize mnumber)) (w1 := (wz_X7 cI cS h0 h1 h2 h3 h4 h5 h6 h7 h8 h9 h10 h11 misKept mtaped msort mfrom mto mvalue mbad mm mkept mwas mother g3 mwarm mdrip mtape mbits msize mnumber)) [0, 1, 2, 3, 4, 5, 6, 7, 8, 9, 10, 11] [] 12 rfl rfl (wz_X7 cI cS h0 h1 h2 h3 h4 h5 h6 h7 h8 h9 h10 h11 misKept mtaped msort mfrom mto mvalue mbad mm mkept mwas mother g3 mwarm mdrip mtape mbits msize mnumber) rfl [] rfl rfl rfl (by decide +kernel) (ik_runV (st := []) (As := [.int (-1000001 : Int32)]) C hM mv_X7_finds wl_7_8 ⟨rfl, rfl, Nat.le_of_ble_eq_true rfl, Nat.le_of_ble_eq_true rfl⟩ [0, 1, 2, 3, 4, 5, 6, 7, 8, 9, 10, 11] rfl (by decide +kernel) 0 rfl rfl rfl rfl (Nat.le_of_ble_eq_true rfl) dX7_sheet_57 ⟨Nat.zero_le _, Nat.zero_le _⟩) rfl ?_
          obtain ⟨rfl, rfl, rfl, rfl, rfl⟩ := ik_e5 hf
          exact ik_iretW C hr hlk dX7_sheet_60
      · have hf := ik_neg hc hf
        refine ik_aload_n C 0 rfl rfl dX7_sheet_40 ?_
        refine ik_ldcw C wl_44_23 dX7_sheet_41 ?_
        obtain ⟨r2, g3, hc3, hf⟩ := ik_b2s hf
        have hM := (c_X7_finds l D cI cS h0 h1 h2 h3 h4 h5 h6 h7 h8 h9 h10 h11 misKept mtaped msort mfrom mto mvalue mbad mm mkept mwas mother mfound mwarm mdrip mtape mbits msize mnumber (-1000007 : Int32) r2 g3 hc3)
        refine ik_goW (v := (some (.int r2))) (wc := (wz_X7 cI cS h0 h1 h2 h3 h4 h5 h6 h7 h8 h9 h10 h11 misKept mtaped msort mfrom mto mvalue mbad mm mkept mwas mother mfound mwarm mdrip mtape mbits msize mnumber)) (w1 := (wz_X7 cI cS h0 h1 h2 h3 h4 h5 h6 h7 h8 h9 h10 h11 misKept mtaped msort mfrom mto mvalue mbad mm mkept mwas mother g3 mwarm mdrip mtape mbits msize mnumber)) [0, 1, 2, 3, 4, 5, 6, 7, 8, 9, 10, 11] [] 12 rfl rfl (wz_X7 cI cS h0 h1 h2 h3 h4 h5 h6 h7 h8 h9 h10 h11 misKept mtaped msort mfrom mto mvalue mbad mm mkept mwas mother g3 mwarm mdrip mtape mbits msize mnumber) rfl [] rfl rfl rfl (by decide +kernel) (ik_runV (st := []) (As := [.int (-1000007 : Int32)]) C hM mv_X7_finds wl_7_8 ⟨rfl, rfl, Nat.le_of_ble_eq_true rfl, Nat.le_of_ble_eq_true rfl⟩ [0, 1, 2, 3, 4, 5, 6, 7, 8, 9, 10, 11] rfl (by decide +kernel) 0 rfl rfl rfl rfl (Nat.le_of_ble_eq_true rfl) dX7_sheet_44 ⟨Nat.zero_le _, Nat.zero_le _⟩) rfl ?_
        obtain ⟨rfl, rfl, rfl, rfl, rfl⟩ := ik_e5 hf
        exact ik_iretW C hr hlk dX7_sheet_47
    refine ik_iload_n C 2 rfl rfl dX7_sheet_7 ?_
    refine ik_if_eq C 36 dX7_sheet_8 (by decide) (fun hc => ?_) (fun hc => ?_)
    · have hf := ik_pos hc hf
      exact ik_sub [0, 1, 2, 3] [(0, .ref h0), (1, .int x1), (2, .int x2), (3, .int x3)] rfl (hJ_36 () hf)
    · have hf := ik_neg hc hf
      refine ik_iload_n C 2 rfl rfl dX7_sheet_11 ?_
      refine ik_bipush (v := (8 : Int32)) C (by decide) dX7_sheet_12 ?_
      refine ik_icmp_eq C 36 dX7_sheet_14 (by decide) (fun hc => ?_) (fun hc => ?_)
      · have hf := ik_pos hc hf
        exact ik_sub [0, 1, 2, 3] [(0, .ref h0), (1, .int x1), (2, .int x2), (3, .int x3)] rfl (hJ_36 () hf)
      · have hf := ik_neg hc hf
        refine ik_iload_n C 2 rfl rfl dX7_sheet_17 ?_
        refine ik_bipush (v := (16 : Int32)) C (by decide) dX7_sheet_18 ?_
        refine ik_icmp_eq C 36 dX7_sheet_20 (by decide) (fun hc => ?_) (fun hc => ?_)
        · have hf := ik_pos hc hf
          exact ik_sub [0, 1, 2, 3] [(0, .ref h0), (1, .int x1), (2, .int x2), (3, .int x3)] rfl (hJ_36 () hf)
        · have hf := ik_neg hc hf
          refine ik_iload_n C 2 rfl rfl dX7_sheet_23 ?_
          refine ik_bipush (v := (32 : Int32)) C (by decide) dX7_sheet_24 ?_
          refine ik_icmp_eq C 36 dX7_sheet_26 (by decide) (fun hc => ?_) (fun hc => ?_)
          · have hf := ik_pos hc hf
            exact ik_sub [0, 1, 2, 3] [(0, .ref h0), (1, .int x1), (2, .int x2), (3, .int x3)] rfl (hJ_36 () hf)
          · have hf := ik_neg hc hf
            refine ik_aload_n C 0 rfl rfl dX7_sheet_29 ?_
            refine ik_ldc C wl_6_14 dX7_sheet_30 ?_
            obtain ⟨r2, g3, hc3, hf⟩ := ik_b2s hf
            have hM := (c_X7_finds l D cI cS h0 h1 h2 h3 h4 h5 h6 h7 h8 h9 h10 h11 misKept mtaped msort mfrom mto mvalue mbad mm mkept mwas mother mfound mwarm mdrip mtape mbits msize mnumber (-1000001 : Int32) r2 g3 hc3)
            refine ik_goW (v := (some (.int r2))) (wc := (wz_X7 cI cS h0 h1 h2 h3 h4 h5 h6 h7 h8 h9 h10 h11 misKept mtaped msort mfrom mto mvalue mbad mm mkept mwas mother mfound mwarm mdrip mtape mbits msize mnumber)) (w1 := (wz_X7 cI cS h0 h1 h2 h3 h4 h5 h6 h7 h8 h9 h10 h11 misKept mtaped msort mfrom mto mvalue mbad mm mkept mwas mother g3 mwarm mdrip mtape mbits msize mnumber)) [0, 1, 2, 3, 4, 5, 6, 7, 8, 9, 10, 11] [] 12 rfl rfl (wz_X7 cI cS h0 h1 h2 h3 h4 h5 h6 h7 h8 h9 h10 h11 misKept mtaped msort mfrom mto mvalue mbad mm mkept mwas mother g3 mwarm mdrip mtape mbits msize mnumber) rfl [] rfl rfl rfl (by decide +kernel) (ik_runV (st := []) (As := [.int (-1000001 : Int32)]) C hM mv_X7_finds wl_7_8 ⟨rfl, rfl, Nat.le_of_ble_eq_true rfl, Nat.le_of_ble_eq_true rfl⟩ [0, 1, 2, 3, 4, 5, 6, 7, 8, 9, 10, 11] rfl (by decide +kernel) 0 rfl rfl rfl rfl (Nat.le_of_ble_eq_true rfl) dX7_sheet_32 ⟨Nat.zero_le _, Nat.zero_le _⟩) rfl ?_
            obtain ⟨rfl, rfl, rfl, rfl, rfl⟩ := ik_e5 hf
            exact ik_iretW C hr hlk dX7_sheet_35
theorem mv_X7_write : ik_V yX7_write RX7 cX7_write 4 (some .int) 3 := ⟨wl_45_18, wl_45_19, wl_1_5, wl_45_20, by decide +kernel⟩
set_option maxHeartbeats 4000000 in
set_option maxRecDepth 100000 in
theorem c_X7_write (l : Launch) (D : va_G) (cI cS : ClassId) (h0 h1 h2 h3 h4 h5 h6 h7 h8 h9 h10 h11 : Nat) (misKept : Int32) (mtaped : Int32) (msort : Int32) (mfrom : Int32) (mto : Int32) (mvalue : Int32) (mbad : Int32) (mm : Nat → Int32) (mkept : Nat → Int32) (mwas : Nat → Int32) (mother : Nat → Int32) (mfound : Nat → Int32) (mwarm : Nat → Int32) (mdrip : Nat → Int32) (mtape : Nat → Int32) (mbits : Nat → Int32) (msize : Nat → Int32) (mnumber : Nat → Int32) (x1 : Int32) (x2 : Int32) (x3 : Int32) (R : Int32) (mfound_r : Nat → Int32) (mnumber_r : Nat → Int32) (hf : f_X7_write mfound mbits msize mnumber x1 x2 x3 = some (R, mfound_r, mnumber_r)) : Met l yX7_write (ik_ws yX7_write cX7_write 4 (some .int)) ({ frames := 2, cells := 0, slots := 0, locals := 45 } : Room) (ik_P D cI cS [.ref h0, .int x1, .int x2, .int x3] (wz_X7 cI cS h0 h1 h2 h3 h4 h5 h6 h7 h8 h9 h10 h11 misKept mtaped msort mfrom mto mvalue mbad mm mkept mwas mother mfound mwarm mdrip mtape mbits msize mnumber)) (ik_Q (some (.int R)) D (wz_X7 cI cS h0 h1 h2 h3 h4 h5 h6 h7 h8 h9 h10 h11 misKept mtaped msort mfrom mto mvalue mbad mm mkept mwas mother mfound_r mwarm mdrip mtape mbits msize mnumber_r) (wz_X7 cI cS h0 h1 h2 h3 h4 h5 h6 h7 h8 h9 h10 h11 misKept mtaped msort mfrom mto mvalue mbad mm mkept mwas mother mfound mwarm mdrip mtape mbits msize mnumber)) 0 0 (ik_in (wz_X7 cI cS h0 h1 h2 h3 h4 h5 h6 h7 h8 h9 h10 h11 misKept mtaped msort mfrom mto mvalue mbad mm mkept mwas mother mfound mwarm mdrip mtape mbits msize mnumber)) := by
  refine ik_metW RX7 rfl (by decide) (Nat.le_of_ble_eq_true rfl) [(0, .ref h0), (1, .int x1), (2, .int x2), (3, .int x3)] rfl ?_
  intro p e s m below meth c C hr hlk
  unfold f_X7_write at hf
  refine ik_iload_n C 1 rfl rfl dX7_write_0 ?_
  obtain ⟨r1, hc1, hf⟩ := ik_b1s hf
  have hM := (c_X7_isSheet l D cI cS x1 r1 hc1)
  refine ik_goR (ik_runS (st := []) (As := [.int x1]) C hM ms_X7_isSheet wl_45_0 ⟨rfl, rfl, Nat.le_of_ble_eq_true rfl, Nat.le_of_ble_eq_true rfl⟩ [] rfl (by decide +kernel) rfl rfl (Nat.le_of_ble_eq_true rfl) dX7_write_1 ⟨Nat.zero_le _, Nat.zero_le _⟩) rfl ?_
  refine ik_if_ne C 14 dX7_write_4 (by decide) (fun hc => ?_) (fun hc => ?_)
  · have hf := ik_neg hc hf
    refine ik_aload_n C 0 rfl rfl dX7_write_14 ?_
    refine ik_get C inlX7 0 rfl rfl 15 (by decide) wl_4_20 rfl (v := .ref h9) rfl dX7_write_15 ?_
    refine ik_iload_n C 1 rfl rfl dX7_write_18 ?_
    have hg := ik_gdi hf
    have hf := ik_gdk hf
    refine ik_iald C 9 rfl hg dX7_write_19 ?_
    refine ik_if_ne C 31 dX7_write_20 (by decide) (fun hc => ?_) (fun hc => ?_)
    · have hf := ik_neg hc hf
      refine ik_iload_n C 2 rfl rfl dX7_write_31 ?_
      refine ik_i2l C dX7_write_32 ?_
      refine ik_lconst (v := (0 : Int64)) C (by decide) dX7_write_33 ?_
      refine ik_aload_n C 0 rfl rfl dX7_write_34 ?_
      refine ik_get C inlX7 0 rfl rfl 16 (by decide) wl_4_21 rfl (v := .ref h10) rfl dX7_write_35 ?_
      refine ik_iload_n C 1 rfl rfl dX7_write_38 ?_
      have hg := ik_gdi hf
      have hf := ik_gdk hf
      refine ik_iald C 10 rfl hg dX7_write_39 ?_
      refine ik_iconst (v := (1 : Int32)) C (by decide) dX7_write_40 ?_
      refine ik_isub C dX7_write_41 ?_
      refine ik_i2l C dX7_write_42 ?_
      obtain ⟨r2, hc2, hf⟩ := ik_b1s hf
      have hM := (c_X7_in l D cI cS (x2).toInt64 (0 : Int64) (((msize (x1).toNatClampNeg) - (1 : Int32))).toInt64 r2 hc2)
      refine ik_goR (ik_runS (st := []) (As := [.long (x2).toInt64, .long (0 : Int64), .long (((msize (x1).toNatClampNeg) - (1 : Int32))).toInt64]) C hM ms_X7_in wl_6_21 ⟨rfl, rfl, Nat.le_of_ble_eq_true rfl, Nat.le_of_ble_eq_true rfl⟩ [] rfl (by decide +kernel) rfl rfl (Nat.le_of_ble_eq_true rfl) dX7_write_43 ⟨Nat.zero_le _, Nat.zero_le _⟩) rfl ?_
      refine ik_if_ne C 56 dX7_write_46 (by decide) (fun hc => ?_) (fun hc => ?_)
      · have hf := ik_neg hc hf
        refine ik_aload_n C 0 rfl rfl dX7_write_56 ?_
        refine ik_get C inlX7 0 rfl rfl 17 (by decide) wl_4_22 rfl (v := .ref h11) rfl dX7_write_57 ?_
        refine ik_bipush (v := (40 : Int32)) C (by decide) dX7_write_60 ?_
        refine ik_iload_n C 1 rfl rfl dX7_write_62 ?_
        refine ik_imul C dX7_write_63 ?_
        refine ik_iload_n C 2 rfl rfl dX7_write_64 ?_
        refine ik_iadd C dX7_write_65 ?_
        refine ik_aload_n C 0 rfl rfl dX7_write_66 ?_
        refine ik_get C inlX7 0 rfl rfl 15 (by decide) wl_4_20 rfl (v := .ref h9) rfl dX7_write_67 ?_
        refine ik_iload_n C 1 rfl rfl dX7_write_70 ?_
        have hg := ik_gdi hf
        have hf := ik_gdk hf
        refine ik_iald C 9 rfl hg dX7_write_71 ?_
        refine ik_bipush (v := (8 : Int32)) C (by decide) dX7_write_72 ?_
        refine ik_icmp_ne C 82 dX7_write_74 (by decide) (fun hc => ?_) (fun hc => ?_)
        · have hf := ik_neg hc hf
          refine ik_aload_n C 0 rfl rfl dX7_write_82 ?_
          refine ik_get C inlX7 0 rfl rfl 15 (by decide) wl_4_20 rfl (v := .ref h9) rfl dX7_write_83 ?_
          refine ik_iload_n C 1 rfl rfl dX7_write_86 ?_
          have hg := ik_gdi hf
          have hf := ik_gdk hf
          refine ik_iald C 9 rfl hg dX7_write_87 ?_
          refine ik_bipush (v := (16 : Int32)) C (by decide) dX7_write_88 ?_
          refine ik_icmp_ne C 98 dX7_write_90 (by decide) (fun hc => ?_) (fun hc => ?_)
          · have hf := ik_neg hc hf
            refine ik_iload_n C 3 rfl rfl dX7_write_98 ?_
            have hg := ik_gdi hf
            have hf := ik_gdk hf
            refine ik_iast C 11 rfl hg (wz_X7 cI cS h0 h1 h2 h3 h4 h5 h6 h7 h8 h9 h10 h11 misKept mtaped msort mfrom mto mvalue mbad mm mkept mwas mother mfound mwarm mdrip mtape mbits msize (upd mnumber ((((40 : Int32) * x1) + x2)).toNatClampNeg x3)) rfl dX7_write_99 ?_
            refine ik_iconst (v := (1 : Int32)) C (by decide) dX7_write_100 ?_
            obtain ⟨rfl, rfl, rfl⟩ := ik_e3 hf
            exact ik_iretW C hr hlk dX7_write_101
          · have hf := ik_pos hc hf
            refine ik_iload_n C 3 rfl rfl dX7_write_93 ?_
            refine ik_i2s C dX7_write_94 ?_
            refine ik_goto C 99 dX7_write_95 (by decide) ?_
            have hg := ik_gdi hf
            have hf := ik_gdk hf
            refine ik_iast C 11 rfl hg (wz_X7 cI cS h0 h1 h2 h3 h4 h5 h6 h7 h8 h9 h10 h11 misKept mtaped msort mfrom mto mvalue mbad mm mkept mwas mother mfound mwarm mdrip mtape mbits msize (upd mnumber ((((40 : Int32) * x1) + x2)).toNatClampNeg (x3).toInt16.toInt32)) rfl dX7_write_99 ?_
            refine ik_iconst (v := (1 : Int32)) C (by decide) dX7_write_100 ?_
            obtain ⟨rfl, rfl, rfl⟩ := ik_e3 hf
            exact ik_iretW C hr hlk dX7_write_101
        · have hf := ik_pos hc hf
          refine ik_iload_n C 3 rfl rfl dX7_write_77 ?_
          refine ik_i2b C dX7_write_78 ?_
          refine ik_goto C 99 dX7_write_79 (by decide) ?_
          have hg := ik_gdi hf
          have hf := ik_gdk hf
          refine ik_iast C 11 rfl hg (wz_X7 cI cS h0 h1 h2 h3 h4 h5 h6 h7 h8 h9 h10 h11 misKept mtaped msort mfrom mto mvalue mbad mm mkept mwas mother mfound mwarm mdrip mtape mbits msize (upd mnumber ((((40 : Int32) * x1) + x2)).toNatClampNeg (x3).toInt8.toInt32)) rfl dX7_write_99 ?_
          refine ik_iconst (v := (1 : Int32)) C (by decide) dX7_write_100 ?_
          obtain ⟨rfl, rfl, rfl⟩ := ik_e3 hf
          exact ik_iretW C hr hlk dX7_write_101
      · have hf := ik_pos hc hf
        refine ik_aload_n C 0 rfl rfl dX7_write_49 ?_
        refine ik_ldc C wl_6_14 dX7_write_50 ?_
        obtain ⟨r3, g4, hc4, hf⟩ := ik_b2s hf
        have hM := (c_X7_finds l D cI cS h0 h1 h2 h3 h4 h5 h6 h7 h8 h9 h10 h11 misKept mtaped msort mfrom mto mvalue mbad mm mkept mwas mother mfound mwarm mdrip mtape mbits msize mnumber (-1000001 : Int32) r3 g4 hc4)
        refine ik_goW (v := (some (.int r3))) (wc := (wz_X7 cI cS h0 h1 h2 h3 h4 h5 h6 h7 h8 h9 h10 h11 misKept mtaped msort mfrom mto mvalue mbad mm mkept mwas mother mfound mwarm mdrip mtape mbits msize mnumber)) (w1 := (wz_X7 cI cS h0 h1 h2 h3 h4 h5 h6 h7 h8 h9 h10 h11 misKept mtaped msort mfrom mto mvalue mbad mm mkept mwas mother g4 mwarm mdrip mtape mbits msize mnumber)) [0, 1, 2, 3, 4, 5, 6, 7, 8, 9, 10, 11] [] 12 rfl rfl (wz_X7 cI cS h0 h1 h2 h3 h4 h5 h6 h7 h8 h9 h10 h11 misKept mtaped msort mfrom mto mvalue mbad mm mkept mwas mother g4 mwarm mdrip mtape mbits msize mnumber) rfl [] rfl rfl rfl (by decide +kernel) (ik_runV (st := []) (As := [.int (-1000001 : Int32)]) C hM mv_X7_finds wl_7_8 ⟨rfl, rfl, Nat.le_of_ble_eq_true rfl, Nat.le_of_ble_eq_true rfl⟩ [0, 1, 2, 3, 4, 5, 6, 7, 8, 9, 10, 11] rfl (by decide +kernel) 0 rfl rfl rfl rfl (Nat.le_of_ble_eq_true rfl) dX7_write_52 ⟨Nat.zero_le _, Nat.zero_le _⟩) rfl ?_
        obtain ⟨rfl, rfl, rfl⟩ := ik_e3 hf
        exact ik_iretW C hr hlk dX7_write_55
    · have hf := ik_pos hc hf
      refine ik_aload_n C 0 rfl rfl dX7_write_23 ?_
      refine ik_ldcw C wl_43_23 dX7_write_24 ?_
      obtain ⟨r2, g3, hc3, hf⟩ := ik_b2s hf
      have hM := (c_X7_finds l D cI cS h0 h1 h2 h3 h4 h5 h6 h7 h8 h9 h10 h11 misKept mtaped msort mfrom mto mvalue mbad mm mkept mwas mother mfound mwarm mdrip mtape mbits msize mnumber (-1000006 : Int32) r2 g3 hc3)
      refine ik_goW (v := (some (.int r2))) (wc := (wz_X7 cI cS h0 h1 h2 h3 h4 h5 h6 h7 h8 h9 h10 h11 misKept mtaped msort mfrom mto mvalue mbad mm mkept mwas mother mfound mwarm mdrip mtape mbits msize mnumber)) (w1 := (wz_X7 cI cS h0 h1 h2 h3 h4 h5 h6 h7 h8 h9 h10 h11 misKept mtaped msort mfrom mto mvalue mbad mm mkept mwas mother g3 mwarm mdrip mtape mbits msize mnumber)) [0, 1, 2, 3, 4, 5, 6, 7, 8, 9, 10, 11] [] 12 rfl rfl (wz_X7 cI cS h0 h1 h2 h3 h4 h5 h6 h7 h8 h9 h10 h11 misKept mtaped msort mfrom mto mvalue mbad mm mkept mwas mother g3 mwarm mdrip mtape mbits msize mnumber) rfl [] rfl rfl rfl (by decide +kernel) (ik_runV (st := []) (As := [.int (-1000006 : Int32)]) C hM mv_X7_finds wl_7_8 ⟨rfl, rfl, Nat.le_of_ble_eq_true rfl, Nat.le_of_ble_eq_true rfl⟩ [0, 1, 2, 3, 4, 5, 6, 7, 8, 9, 10, 11] rfl (by decide +kernel) 0 rfl rfl rfl rfl (Nat.le_of_ble_eq_true rfl) dX7_write_27 ⟨Nat.zero_le _, Nat.zero_le _⟩) rfl ?_
      obtain ⟨rfl, rfl, rfl⟩ := ik_e3 hf
      exact ik_iretW C hr hlk dX7_write_30
  · have hf := ik_pos hc hf
    refine ik_aload_n C 0 rfl rfl dX7_write_7 ?_
    refine ik_ldc C wl_6_14 dX7_write_8 ?_
    obtain ⟨r2, g3, hc3, hf⟩ := ik_b2s hf
    have hM := (c_X7_finds l D cI cS h0 h1 h2 h3 h4 h5 h6 h7 h8 h9 h10 h11 misKept mtaped msort mfrom mto mvalue mbad mm mkept mwas mother mfound mwarm mdrip mtape mbits msize mnumber (-1000001 : Int32) r2 g3 hc3)
    refine ik_goW (v := (some (.int r2))) (wc := (wz_X7 cI cS h0 h1 h2 h3 h4 h5 h6 h7 h8 h9 h10 h11 misKept mtaped msort mfrom mto mvalue mbad mm mkept mwas mother mfound mwarm mdrip mtape mbits msize mnumber)) (w1 := (wz_X7 cI cS h0 h1 h2 h3 h4 h5 h6 h7 h8 h9 h10 h11 misKept mtaped msort mfrom mto mvalue mbad mm mkept mwas mother g3 mwarm mdrip mtape mbits msize mnumber)) [0, 1, 2, 3, 4, 5, 6, 7, 8, 9, 10, 11] [] 12 rfl rfl (wz_X7 cI cS h0 h1 h2 h3 h4 h5 h6 h7 h8 h9 h10 h11 misKept mtaped msort mfrom mto mvalue mbad mm mkept mwas mother g3 mwarm mdrip mtape mbits msize mnumber) rfl [] rfl rfl rfl (by decide +kernel) (ik_runV (st := []) (As := [.int (-1000001 : Int32)]) C hM mv_X7_finds wl_7_8 ⟨rfl, rfl, Nat.le_of_ble_eq_true rfl, Nat.le_of_ble_eq_true rfl⟩ [0, 1, 2, 3, 4, 5, 6, 7, 8, 9, 10, 11] rfl (by decide +kernel) 0 rfl rfl rfl rfl (Nat.le_of_ble_eq_true rfl) dX7_write_10 ⟨Nat.zero_le _, Nat.zero_le _⟩) rfl ?_
    obtain ⟨rfl, rfl, rfl⟩ := ik_e3 hf
    exact ik_iretW C hr hlk dX7_write_13
theorem mv_X7_copy : ik_V yX7_copy RX7 cX7_copy 9 (some .int) 5 := ⟨wl_46_9, wl_46_10, wl_1_5, wl_46_11, by decide +kernel⟩
set_option maxHeartbeats 4000000 in
set_option maxRecDepth 100000 in
theorem c_X7_copy (l : Launch) (D : va_G) (cI cS : ClassId) (h0 h1 h2 h3 h4 h5 h6 h7 h8 h9 h10 h11 : Nat) (misKept : Int32) (mtaped : Int32) (msort : Int32) (mfrom : Int32) (mto : Int32) (mvalue : Int32) (mbad : Int32) (mm : Nat → Int32) (mkept : Nat → Int32) (mwas : Nat → Int32) (mother : Nat → Int32) (mfound : Nat → Int32) (mwarm : Nat → Int32) (mdrip : Nat → Int32) (mtape : Nat → Int32) (mbits : Nat → Int32) (msize : Nat → Int32) (mnumber : Nat → Int32) (x1 : Int32) (x2 : Int32) (x3 : Int32) (x4 : Int32) (x5 : Int32) (R : Int32) (mfound_r : Nat → Int32) (mnumber_r : Nat → Int32) (hf : f_X7_copy mfound mbits msize mnumber x1 x2 x3 x4 x5 = some (R, mfound_r, mnumber_r)) : Met l yX7_copy (ik_ws yX7_copy cX7_copy 9 (some .int)) ({ frames := 2, cells := 0, slots := 0, locals := 45 } : Room) (ik_P D cI cS [.ref h0, .int x1, .int x2, .int x3, .int x4, .int x5] (wz_X7 cI cS h0 h1 h2 h3 h4 h5 h6 h7 h8 h9 h10 h11 misKept mtaped msort mfrom mto mvalue mbad mm mkept mwas mother mfound mwarm mdrip mtape mbits msize mnumber)) (ik_Q (some (.int R)) D (wz_X7 cI cS h0 h1 h2 h3 h4 h5 h6 h7 h8 h9 h10 h11 misKept mtaped msort mfrom mto mvalue mbad mm mkept mwas mother mfound_r mwarm mdrip mtape mbits msize mnumber_r) (wz_X7 cI cS h0 h1 h2 h3 h4 h5 h6 h7 h8 h9 h10 h11 misKept mtaped msort mfrom mto mvalue mbad mm mkept mwas mother mfound mwarm mdrip mtape mbits msize mnumber)) 0 0 (ik_in (wz_X7 cI cS h0 h1 h2 h3 h4 h5 h6 h7 h8 h9 h10 h11 misKept mtaped msort mfrom mto mvalue mbad mm mkept mwas mother mfound mwarm mdrip mtape mbits msize mnumber)) := by
  refine ik_metW RX7 rfl (by decide) (Nat.le_of_ble_eq_true rfl) [(0, .ref h0), (1, .int x1), (2, .int x2), (3, .int x3), (4, .int x4), (5, .int x5)] rfl ?_
  intro p e s m below meth c C hr hlk
  unfold f_X7_copy at hf
  refine ik_iload_n C 1 rfl rfl dX7_copy_0 ?_
  obtain ⟨r1, hc1, hf⟩ := ik_b1s hf
  have hM := (c_X7_isSheet l D cI cS x1 r1 hc1)
  refine ik_goR (ik_runS (st := []) (As := [.int x1]) C hM ms_X7_isSheet wl_45_0 ⟨rfl, rfl, Nat.le_of_ble_eq_true rfl, Nat.le_of_ble_eq_true rfl⟩ [] rfl (by decide +kernel) rfl rfl (Nat.le_of_ble_eq_true rfl) dX7_copy_1 ⟨Nat.zero_le _, Nat.zero_le _⟩) rfl ?_
  refine ik_if_eq C 14 dX7_copy_4 (by decide) (fun hc => ?_) (fun hc => ?_)
  · have hf := ik_pos hc hf
    refine ik_aload_n C 0 rfl rfl dX7_copy_14 ?_
    refine ik_ldc C wl_6_14 dX7_copy_15 ?_
    obtain ⟨r2, g3, hc3, hf⟩ := ik_b2s hf
    have hM := (c_X7_finds l D cI cS h0 h1 h2 h3 h4 h5 h6 h7 h8 h9 h10 h11 misKept mtaped msort mfrom mto mvalue mbad mm mkept mwas mother mfound mwarm mdrip mtape mbits msize mnumber (-1000001 : Int32) r2 g3 hc3)
    refine ik_goW (v := (some (.int r2))) (wc := (wz_X7 cI cS h0 h1 h2 h3 h4 h5 h6 h7 h8 h9 h10 h11 misKept mtaped msort mfrom mto mvalue mbad mm mkept mwas mother mfound mwarm mdrip mtape mbits msize mnumber)) (w1 := (wz_X7 cI cS h0 h1 h2 h3 h4 h5 h6 h7 h8 h9 h10 h11 misKept mtaped msort mfrom mto mvalue mbad mm mkept mwas mother g3 mwarm mdrip mtape mbits msize mnumber)) [0, 1, 2, 3, 4, 5, 6, 7, 8, 9, 10, 11] [] 12 rfl rfl (wz_X7 cI cS h0 h1 h2 h3 h4 h5 h6 h7 h8 h9 h10 h11 misKept mtaped msort mfrom mto mvalue mbad mm mkept mwas mother g3 mwarm mdrip mtape mbits msize mnumber) rfl [] rfl rfl rfl (by decide +kernel) (ik_runV (st := []) (As := [.int (-1000001 : Int32)]) C hM mv_X7_finds wl_7_8 ⟨rfl, rfl, Nat.le_of_ble_eq_true rfl, Nat.le_of_ble_eq_true rfl⟩ [0, 1, 2, 3, 4, 5, 6, 7, 8, 9, 10, 11] rfl (by decide +kernel) 0 rfl rfl rfl rfl (Nat.le_of_ble_eq_true rfl) dX7_copy_17 ⟨Nat.zero_le _, Nat.zero_le _⟩) rfl ?_
    obtain ⟨rfl, rfl, rfl⟩ := ik_e3 hf
    exact ik_iretW C hr hlk dX7_copy_20
  · have hf := ik_neg hc hf
    refine ik_iload_n C 3 rfl rfl dX7_copy_7 ?_
    obtain ⟨r2, hc2, hf⟩ := ik_b1s hf
    have hM := (c_X7_isSheet l D cI cS x3 r2 hc2)
    refine ik_goR (ik_runS (st := []) (As := [.int x3]) C hM ms_X7_isSheet wl_45_0 ⟨rfl, rfl, Nat.le_of_ble_eq_true rfl, Nat.le_of_ble_eq_true rfl⟩ [] rfl (by decide +kernel) rfl rfl (Nat.le_of_ble_eq_true rfl) dX7_copy_8 ⟨Nat.zero_le _, Nat.zero_le _⟩) rfl ?_
    refine ik_if_ne C 21 dX7_copy_11 (by decide) (fun hc => ?_) (fun hc => ?_)
    · have hf := ik_neg hc hf
      refine ik_aload_n C 0 rfl rfl dX7_copy_21 ?_
      refine ik_get C inlX7 0 rfl rfl 15 (by decide) wl_4_20 rfl (v := .ref h9) rfl dX7_copy_22 ?_
      refine ik_iload_n C 1 rfl rfl dX7_copy_25 ?_
      have hg := ik_gdi hf
      have hf := ik_gdk hf
      refine ik_iald C 9 rfl hg dX7_copy_26 ?_
      refine ik_if_eq C 39 dX7_copy_27 (by decide) (fun hc => ?_) (fun hc => ?_)
      · have hf := ik_pos hc hf
        refine ik_aload_n C 0 rfl rfl dX7_copy_39 ?_
        refine ik_ldcw C wl_43_23 dX7_copy_40 ?_
        obtain ⟨r3, g4, hc4, hf⟩ := ik_b2s hf
        have hM := (c_X7_finds l D cI cS h0 h1 h2 h3 h4 h5 h6 h7 h8 h9 h10 h11 misKept mtaped msort mfrom mto mvalue mbad mm mkept mwas mother mfound mwarm mdrip mtape mbits msize mnumber (-1000006 : Int32) r3 g4 hc4)
        refine ik_goW (v := (some (.int r3))) (wc := (wz_X7 cI cS h0 h1 h2 h3 h4 h5 h6 h7 h8 h9 h10 h11 misKept mtaped msort mfrom mto mvalue mbad mm mkept mwas mother mfound mwarm mdrip mtape mbits msize mnumber)) (w1 := (wz_X7 cI cS h0 h1 h2 h3 h4 h5 h6 h7 h8 h9 h10 h11 misKept mtaped msort mfrom mto mvalue mbad mm mkept mwas mother g4 mwarm mdrip mtape mbits msize mnumber)) [0, 1, 2, 3, 4, 5, 6, 7, 8, 9, 10, 11] [] 12 rfl rfl (wz_X7 cI cS h0 h1 h2 h3 h4 h5 h6 h7 h8 h9 h10 h11 misKept mtaped msort mfrom mto mvalue mbad mm mkept mwas mother g4 mwarm mdrip mtape mbits msize mnumber) rfl [] rfl rfl rfl (by decide +kernel) (ik_runV (st := []) (As := [.int (-1000006 : Int32)]) C hM mv_X7_finds wl_7_8 ⟨rfl, rfl, Nat.le_of_ble_eq_true rfl, Nat.le_of_ble_eq_true rfl⟩ [0, 1, 2, 3, 4, 5, 6, 7, 8, 9, 10, 11] rfl (by decide +kernel) 0 rfl rfl rfl rfl (Nat.le_of_ble_eq_true rfl) dX7_copy_43 ⟨Nat.zero_le _, Nat.zero_le _⟩) rfl ?_
        obtain ⟨rfl, rfl, rfl⟩ := ik_e3 hf
        exact ik_iretW C hr hlk dX7_copy_46
      · have hf := ik_neg hc hf
        refine ik_aload_n C 0 rfl rfl dX7_copy_30 ?_
        refine ik_get C inlX7 0 rfl rfl 15 (by decide) wl_4_20 rfl (v := .ref h9) rfl dX7_copy_31 ?_
        refine ik_iload_n C 3 rfl rfl dX7_copy_34 ?_
        have hg := ik_gdi hf
        have hf := ik_gdk hf
        refine ik_iald C 9 rfl hg dX7_copy_35 ?_
        refine ik_if_ne C 47 dX7_copy_36 (by decide) (fun hc => ?_) (fun hc => ?_)
        · have hf := ik_neg hc hf
          refine ik_aload_n C 0 rfl rfl dX7_copy_47 ?_
          refine ik_get C inlX7 0 rfl rfl 15 (by decide) wl_4_20 rfl (v := .ref h9) rfl dX7_copy_48 ?_
          refine ik_iload_n C 1 rfl rfl dX7_copy_51 ?_
          have hg := ik_gdi hf
          have hf := ik_gdk hf
          refine ik_iald C 9 rfl hg dX7_copy_52 ?_
          refine ik_aload_n C 0 rfl rfl dX7_copy_53 ?_
          refine ik_get C inlX7 0 rfl rfl 15 (by decide) wl_4_20 rfl (v := .ref h9) rfl dX7_copy_54 ?_
          refine ik_iload_n C 3 rfl rfl dX7_copy_57 ?_
          have hg := ik_gdi hf
          have hf := ik_gdk hf
          refine ik_iald C 9 rfl hg dX7_copy_58 ?_
          refine ik_icmp_eq C 70 dX7_copy_59 (by decide) (fun hc => ?_) (fun hc => ?_)
          · have hf := ik_pos hc hf
            refine ik_iload C 5 rfl dX7_copy_70 ?_
            refine ik_if_lt C 111 dX7_copy_72 (by decide) (fun hc => ?_) (fun hc => ?_)
            · have hf := ik_pos hc hf
              refine ik_aload_n C 0 rfl rfl dX7_copy_111 ?_
              refine ik_ldc C wl_6_14 dX7_copy_112 ?_
              obtain ⟨r3, g4, hc4, hf⟩ := ik_b2s hf
              have hM := (c_X7_finds l D cI cS h0 h1 h2 h3 h4 h5 h6 h7 h8 h9 h10 h11 misKept mtaped msort mfrom mto mvalue mbad mm mkept mwas mother mfound mwarm mdrip mtape mbits msize mnumber (-1000001 : Int32) r3 g4 hc4)
              refine ik_goW (v := (some (.int r3))) (wc := (wz_X7 cI cS h0 h1 h2 h3 h4 h5 h6 h7 h8 h9 h10 h11 misKept mtaped msort mfrom mto mvalue mbad mm mkept mwas mother mfound mwarm mdrip mtape mbits msize mnumber)) (w1 := (wz_X7 cI cS h0 h1 h2 h3 h4 h5 h6 h7 h8 h9 h10 h11 misKept mtaped msort mfrom mto mvalue mbad mm mkept mwas mother g4 mwarm mdrip mtape mbits msize mnumber)) [0, 1, 2, 3, 4, 5, 6, 7, 8, 9, 10, 11] [] 12 rfl rfl (wz_X7 cI cS h0 h1 h2 h3 h4 h5 h6 h7 h8 h9 h10 h11 misKept mtaped msort mfrom mto mvalue mbad mm mkept mwas mother g4 mwarm mdrip mtape mbits msize mnumber) rfl [] rfl rfl rfl (by decide +kernel) (ik_runV (st := []) (As := [.int (-1000001 : Int32)]) C hM mv_X7_finds wl_7_8 ⟨rfl, rfl, Nat.le_of_ble_eq_true rfl, Nat.le_of_ble_eq_true rfl⟩ [0, 1, 2, 3, 4, 5, 6, 7, 8, 9, 10, 11] rfl (by decide +kernel) 0 rfl rfl rfl rfl (Nat.le_of_ble_eq_true rfl) dX7_copy_114 ⟨Nat.zero_le _, Nat.zero_le _⟩) rfl ?_
              obtain ⟨rfl, rfl, rfl⟩ := ik_e3 hf
              exact ik_iretW C hr hlk dX7_copy_117
            · have hf := ik_neg hc hf
              refine ik_iload_n C 2 rfl rfl dX7_copy_75 ?_
              refine ik_if_lt C 111 dX7_copy_76 (by decide) (fun hc => ?_) (fun hc => ?_)
              · have hf := ik_pos hc hf
                refine ik_aload_n C 0 rfl rfl dX7_copy_111 ?_
                refine ik_ldc C wl_6_14 dX7_copy_112 ?_
                obtain ⟨r3, g4, hc4, hf⟩ := ik_b2s hf
                have hM := (c_X7_finds l D cI cS h0 h1 h2 h3 h4 h5 h6 h7 h8 h9 h10 h11 misKept mtaped msort mfrom mto mvalue mbad mm mkept mwas mother mfound mwarm mdrip mtape mbits msize mnumber (-1000001 : Int32) r3 g4 hc4)
                refine ik_goW (v := (some (.int r3))) (wc := (wz_X7 cI cS h0 h1 h2 h3 h4 h5 h6 h7 h8 h9 h10 h11 misKept mtaped msort mfrom mto mvalue mbad mm mkept mwas mother mfound mwarm mdrip mtape mbits msize mnumber)) (w1 := (wz_X7 cI cS h0 h1 h2 h3 h4 h5 h6 h7 h8 h9 h10 h11 misKept mtaped msort mfrom mto mvalue mbad mm mkept mwas mother g4 mwarm mdrip mtape mbits msize mnumber)) [0, 1, 2, 3, 4, 5, 6, 7, 8, 9, 10, 11] [] 12 rfl rfl (wz_X7 cI cS h0 h1 h2 h3 h4 h5 h6 h7 h8 h9 h10 h11 misKept mtaped msort mfrom mto mvalue mbad mm mkept mwas mother g4 mwarm mdrip mtape mbits msize mnumber) rfl [] rfl rfl rfl (by decide +kernel) (ik_runV (st := []) (As := [.int (-1000001 : Int32)]) C hM mv_X7_finds wl_7_8 ⟨rfl, rfl, Nat.le_of_ble_eq_true rfl, Nat.le_of_ble_eq_true rfl⟩ [0, 1, 2, 3, 4, 5, 6, 7, 8, 9, 10, 11] rfl (by decide +kernel) 0 rfl rfl rfl rfl (Nat.le_of_ble_eq_true rfl) dX7_copy_114 ⟨Nat.zero_le _, Nat.zero_le _⟩) rfl ?_
                obtain ⟨rfl, rfl, rfl⟩ := ik_e3 hf
                exact ik_iretW C hr hlk dX7_copy_117
              · have hf := ik_neg hc hf
                refine ik_iload C 4 rfl dX7_copy_79 ?_
                refine ik_if_lt C 111 dX7_copy_81 (by decide) (fun hc => ?_) (fun hc => ?_)
                · have hf := ik_pos hc hf
                  refine ik_aload_n C 0 rfl rfl dX7_copy_111 ?_
                  refine ik_ldc C wl_6_14 dX7_copy_112 ?_
                  obtain ⟨r3, g4, hc4, hf⟩ := ik_b2s hf
                  have hM := (c_X7_finds l D cI cS h0 h1 h2 h3 h4 h5 h6 h7 h8 h9 h10 h11 misKept mtaped msort mfrom mto mvalue mbad mm mkept mwas mother mfound mwarm mdrip mtape mbits msize mnumber (-1000001 : Int32) r3 g4 hc4)
                  refine ik_goW (v := (some (.int r3))) (wc := (wz_X7 cI cS h0 h1 h2 h3 h4 h5 h6 h7 h8 h9 h10 h11 misKept mtaped msort mfrom mto mvalue mbad mm mkept mwas mother mfound mwarm mdrip mtape mbits msize mnumber)) (w1 := (wz_X7 cI cS h0 h1 h2 h3 h4 h5 h6 h7 h8 h9 h10 h11 misKept mtaped msort mfrom mto mvalue mbad mm mkept mwas mother g4 mwarm mdrip mtape mbits msize mnumber)) [0, 1, 2, 3, 4, 5, 6, 7, 8, 9, 10, 11] [] 12 rfl rfl (wz_X7 cI cS h0 h1 h2 h3 h4 h5 h6 h7 h8 h9 h10 h11 misKept mtaped msort mfrom mto mvalue mbad mm mkept mwas mother g4 mwarm mdrip mtape mbits msize mnumber) rfl [] rfl rfl rfl (by decide +kernel) (ik_runV (st := []) (As := [.int (-1000001 : Int32)]) C hM mv_X7_finds wl_7_8 ⟨rfl, rfl, Nat.le_of_ble_eq_true rfl, Nat.le_of_ble_eq_true rfl⟩ [0, 1, 2, 3, 4, 5, 6, 7, 8, 9, 10, 11] rfl (by decide +kernel) 0 rfl rfl rfl rfl (Nat.le_of_ble_eq_true rfl) dX7_copy_114 ⟨Nat.zero_le _, Nat.zero_le _⟩) rfl ?_
                  obtain ⟨rfl, rfl, rfl⟩ := ik_e3 hf
                  exact ik_iretW C hr hlk dX7_copy_117
                · have hf := ik_neg hc hf
                  refine ik_iload C 5 rfl dX7_copy_84 ?_
                  refine ik_aload_n C 0 rfl rfl dX7_copy_86 ?_
                  refine ik_get C inlX7 0 rfl rfl 16 (by decide) wl_4_21 rfl (v := .ref h10) rfl dX7_copy_87 ?_
                  refine ik_iload_n C 1 rfl rfl dX7_copy_90 ?_
                  have hg := ik_gdi hf
                  have hf := ik_gdk hf
                  refine ik_iald C 10 rfl hg dX7_copy_91 ?_
                  refine ik_iload_n C 2 rfl rfl dX7_copy_92 ?_
                  refine ik_isub C dX7_copy_93 ?_
                  refine ik_icmp_gt C 111 dX7_copy_94 (by decide) (fun hc => ?_) (fun hc => ?_)
                  · have hf := ik_pos hc hf
                    refine ik_aload_n C 0 rfl rfl dX7_copy_111 ?_
                    refine ik_ldc C wl_6_14 dX7_copy_112 ?_
                    obtain ⟨r3, g4, hc4, hf⟩ := ik_b2s hf
                    have hM := (c_X7_finds l D cI cS h0 h1 h2 h3 h4 h5 h6 h7 h8 h9 h10 h11 misKept mtaped msort mfrom mto mvalue mbad mm mkept mwas mother mfound mwarm mdrip mtape mbits msize mnumber (-1000001 : Int32) r3 g4 hc4)
                    refine ik_goW (v := (some (.int r3))) (wc := (wz_X7 cI cS h0 h1 h2 h3 h4 h5 h6 h7 h8 h9 h10 h11 misKept mtaped msort mfrom mto mvalue mbad mm mkept mwas mother mfound mwarm mdrip mtape mbits msize mnumber)) (w1 := (wz_X7 cI cS h0 h1 h2 h3 h4 h5 h6 h7 h8 h9 h10 h11 misKept mtaped msort mfrom mto mvalue mbad mm mkept mwas mother g4 mwarm mdrip mtape mbits msize mnumber)) [0, 1, 2, 3, 4, 5, 6, 7, 8, 9, 10, 11] [] 12 rfl rfl (wz_X7 cI cS h0 h1 h2 h3 h4 h5 h6 h7 h8 h9 h10 h11 misKept mtaped msort mfrom mto mvalue mbad mm mkept mwas mother g4 mwarm mdrip mtape mbits msize mnumber) rfl [] rfl rfl rfl (by decide +kernel) (ik_runV (st := []) (As := [.int (-1000001 : Int32)]) C hM mv_X7_finds wl_7_8 ⟨rfl, rfl, Nat.le_of_ble_eq_true rfl, Nat.le_of_ble_eq_true rfl⟩ [0, 1, 2, 3, 4, 5, 6, 7, 8, 9, 10, 11] rfl (by decide +kernel) 0 rfl rfl rfl rfl (Nat.le_of_ble_eq_true rfl) dX7_copy_114 ⟨Nat.zero_le _, Nat.zero_le _⟩) rfl ?_
                    obtain ⟨rfl, rfl, rfl⟩ := ik_e3 hf
                    exact ik_iretW C hr hlk dX7_copy_117
                  · have hf := ik_neg hc hf
                    refine ik_iload C 5 rfl dX7_copy_97 ?_
                    refine ik_aload_n C 0 rfl rfl dX7_copy_99 ?_
                    refine ik_get C inlX7 0 rfl rfl 16 (by decide) wl_4_21 rfl (v := .ref h10) rfl dX7_copy_100 ?_
                    refine ik_iload_n C 3 rfl rfl dX7_copy_103 ?_
                    have hg := ik_gdi hf
                    have hf := ik_gdk hf
                    refine ik_iald C 10 rfl hg dX7_copy_104 ?_
                    refine ik_iload C 4 rfl dX7_copy_105 ?_
                    refine ik_isub C dX7_copy_107 ?_
                    refine ik_icmp_le C 118 dX7_copy_108 (by decide) (fun hc => ?_) (fun hc => ?_)
                    · have hf := ik_pos hc hf
                      have hJ_134 : ∀ (v0_134 : Int32), j_X7_copy_134 mfound mnumber x1 x2 x3 x4 x5 v0_134 = some (R, mfound_r, mnumber_r) → ik_G p l e ({ frames := 2, cells := 0, slots := 0, locals := 45 } : Room) s m ([.ref h0, .int x1, .int x2, .int x3, .int x4, .int x5] : List Value).toArray below meth c D (ik_in (wz_X7 cI cS h0 h1 h2 h3 h4 h5 h6 h7 h8 h9 h10 h11 misKept mtaped msort mfrom mto mvalue mbad mm mkept mwas mother mfound mwarm mdrip mtape mbits msize mnumber)) (ik_in (wz_X7 cI cS h0 h1 h2 h3 h4 h5 h6 h7 h8 h9 h10 h11 misKept mtaped msort mfrom mto mvalue mbad mm mkept mwas mother mfound mwarm mdrip mtape mbits msize mnumber)) 9 0 0 (MQ below (ik_Q (some (.int R)) D (wz_X7 cI cS h0 h1 h2 h3 h4 h5 h6 h7 h8 h9 h10 h11 misKept mtaped msort mfrom mto mvalue mbad mm mkept mwas mother mfound_r mwarm mdrip mtape mbits msize mnumber_r) (wz_X7 cI cS h0 h1 h2 h3 h4 h5 h6 h7 h8 h9 h10 h11 misKept mtaped msort mfrom mto mvalue mbad mm mkept mwas mother mfound mwarm mdrip mtape mbits msize mnumber)) ([.ref h0, .int x1, .int x2, .int x3, .int x4, .int x5] : List Value).toArray s 0 0 (ik_in (wz_X7 cI cS h0 h1 h2 h3 h4 h5 h6 h7 h8 h9 h10 h11 misKept mtaped msort mfrom mto mvalue mbad mm mkept mwas mother mfound mwarm mdrip mtape mbits msize mnumber))) 134 [(0, .ref h0), (1, .int x1), (2, .int x2), (3, .int x3), (4, .int x4), (5, .int x5)] [.int v0_134] (wz_X7 cI cS h0 h1 h2 h3 h4 h5 h6 h7 h8 h9 h10 h11 misKept mtaped msort mfrom mto mvalue mbad mm mkept mwas mother mfound mwarm mdrip mtape mbits msize mnumber) := by
                        intro v0_134 hf
                        unfold j_X7_copy_134 at hf
                        refine ik_istore C [(6, .int v0_134), (0, .ref h0), (1, .int x1), (2, .int x2), (3, .int x3), (4, .int x4), (5, .int x5)] (by decide) rfl dX7_copy_134 ?_
                        refine ik_iconst (v := (0 : Int32)) C (by decide) dX7_copy_136 ?_
                        refine ik_istore C [(7, .int (0 : Int32)), (6, .int v0_134), (0, .ref h0), (1, .int x1), (2, .int x2), (3, .int x3), (4, .int x4), (5, .int x5)] (by decide) rfl dX7_copy_137 ?_
                        have hL_139 : ∀ (n_139 : Nat) (mnumber_139 : Nat → Int32) (x7_139 : Int32), ik_lp2 (b_X7_copy_139 mfound x1 x2 x3 x4 x5 v0_134) n_139 mnumber_139 x7_139 = some (R, mfound_r, mnumber_r) → ik_G p l e ({ frames := 2, cells := 0, slots := 0, locals := 45 } : Room) s m ([.ref h0, .int x1, .int x2, .int x3, .int x4, .int x5] : List Value).toArray below meth c D (ik_in (wz_X7 cI cS h0 h1 h2 h3 h4 h5 h6 h7 h8 h9 h10 h11 misKept mtaped msort mfrom mto mvalue mbad mm mkept mwas mother mfound mwarm mdrip mtape mbits msize mnumber)) (ik_in (wz_X7 cI cS h0 h1 h2 h3 h4 h5 h6 h7 h8 h9 h10 h11 misKept mtaped msort mfrom mto mvalue mbad mm mkept mwas mother mfound mwarm mdrip mtape mbits msize mnumber)) 9 0 0 (MQ below (ik_Q (some (.int R)) D (wz_X7 cI cS h0 h1 h2 h3 h4 h5 h6 h7 h8 h9 h10 h11 misKept mtaped msort mfrom mto mvalue mbad mm mkept mwas mother mfound_r mwarm mdrip mtape mbits msize mnumber_r) (wz_X7 cI cS h0 h1 h2 h3 h4 h5 h6 h7 h8 h9 h10 h11 misKept mtaped msort mfrom mto mvalue mbad mm mkept mwas mother mfound mwarm mdrip mtape mbits msize mnumber)) ([.ref h0, .int x1, .int x2, .int x3, .int x4, .int x5] : List Value).toArray s 0 0 (ik_in (wz_X7 cI cS h0 h1 h2 h3 h4 h5 h6 h7 h8 h9 h10 h11 misKept mtaped msort mfrom mto mvalue mbad mm mkept mwas mother mfound mwarm mdrip mtape mbits msize mnumber))) 139 [(7, .int x7_139), (6, .int v0_134), (0, .ref h0), (1, .int x1), (2, .int x2), (3, .int x3), (4, .int x4), (5, .int x5)] [] (wz_X7 cI cS h0 h1 h2 h3 h4 h5 h6 h7 h8 h9 h10 h11 misKept mtaped msort mfrom mto mvalue mbad mm mkept mwas mother mfound mwarm mdrip mtape mbits msize mnumber_139) := by
                          intro n_139
                          induction n_139 with
                          | zero => intro _ _ hf; exact nomatch hf
                          | succ n_139 ih_139 =>
                            intro mnumber_139 x7_139 hf
                            replace hf : b_X7_copy_139 mfound x1 x2 x3 x4 x5 v0_134 (ik_lp2 (b_X7_copy_139 mfound x1 x2 x3 x4 x5 v0_134) n_139) mnumber_139 x7_139 = some (R, mfound_r, mnumber_r) := hf
                            unfold b_X7_copy_139 at hf
                            refine ik_iload C 0 rfl dX7_copy_139 ?_
                            refine ik_iload C 7 rfl dX7_copy_141 ?_
                            refine ik_icmp_ge C 200 dX7_copy_143 (by decide) (fun hc => ?_) (fun hc => ?_)
                            · have hf := ik_pos hc hf
                              refine ik_iload C 7 rfl dX7_copy_200 ?_
                              obtain ⟨rfl, rfl, rfl⟩ := ik_e3 hf
                              exact ik_iretW C hr hlk dX7_copy_202
                            · have hf := ik_neg hc hf
                              have hJ_163 : ∀ (v0_163 : Int32), j_X7_copy_163 x1 x2 x3 x4 mnumber_139 x7_139 (ik_lp2 (b_X7_copy_139 mfound x1 x2 x3 x4 x5 v0_134) n_139) v0_163 = some (R, mfound_r, mnumber_r) → ik_G p l e ({ frames := 2, cells := 0, slots := 0, locals := 45 } : Room) s m ([.ref h0, .int x1, .int x2, .int x3, .int x4, .int x5] : List Value).toArray below meth c D (ik_in (wz_X7 cI cS h0 h1 h2 h3 h4 h5 h6 h7 h8 h9 h10 h11 misKept mtaped msort mfrom mto mvalue mbad mm mkept mwas mother mfound mwarm mdrip mtape mbits msize mnumber)) (ik_in (wz_X7 cI cS h0 h1 h2 h3 h4 h5 h6 h7 h8 h9 h10 h11 misKept mtaped msort mfrom mto mvalue mbad mm mkept mwas mother mfound mwarm mdrip mtape mbits msize mnumber)) 9 0 0 (MQ below (ik_Q (some (.int R)) D (wz_X7 cI cS h0 h1 h2 h3 h4 h5 h6 h7 h8 h9 h10 h11 misKept mtaped msort mfrom mto mvalue mbad mm mkept mwas mother mfound_r mwarm mdrip mtape mbits msize mnumber_r) (wz_X7 cI cS h0 h1 h2 h3 h4 h5 h6 h7 h8 h9 h10 h11 misKept mtaped msort mfrom mto mvalue mbad mm mkept mwas mother mfound mwarm mdrip mtape mbits msize mnumber)) ([.ref h0, .int x1, .int x2, .int x3, .int x4, .int x5] : List Value).toArray s 0 0 (ik_in (wz_X7 cI cS h0 h1 h2 h3 h4 h5 h6 h7 h8 h9 h10 h11 misKept mtaped msort mfrom mto mvalue mbad mm mkept mwas mother mfound mwarm mdrip mtape mbits msize mnumber))) 163 [(7, .int x7_139), (6, .int v0_134), (0, .ref h0), (1, .int x1), (2, .int x2), (3, .int x3), (4, .int x4), (5, .int x5)] [.int v0_163] (wz_X7 cI cS h0 h1 h2 h3 h4 h5 h6 h7 h8 h9 h10 h11 misKept mtaped msort mfrom mto mvalue mbad mm mkept mwas mother mfound mwarm mdrip mtape mbits msize mnumber_139) := by
                                intro v0_163 hf
                                unfold j_X7_copy_163 at hf
                                refine ik_istore C [(8, .int v0_163), (7, .int x7_139), (6, .int v0_134), (0, .ref h0), (1, .int x1), (2, .int x2), (3, .int x3), (4, .int x4), (5, .int x5)] (by decide) rfl dX7_copy_163 ?_
                                refine ik_aload_n C 3 rfl rfl dX7_copy_165 ?_
                                refine ik_get C inlX7 0 rfl rfl 17 (by decide) wl_4_22 rfl (v := .ref h11) rfl dX7_copy_166 ?_
                                refine ik_bipush (v := (40 : Int32)) C (by decide) dX7_copy_169 ?_
                                refine ik_iload_n C 6 rfl rfl dX7_copy_171 ?_
                                refine ik_imul C dX7_copy_172 ?_
                                refine ik_iload C 7 rfl dX7_copy_173 ?_
                                refine ik_iadd C dX7_copy_175 ?_
                                refine ik_iload C 0 rfl dX7_copy_176 ?_
                                refine ik_iadd C dX7_copy_178 ?_
                                refine ik_aload_n C 3 rfl rfl dX7_copy_179 ?_
                                refine ik_get C inlX7 0 rfl rfl 17 (by decide) wl_4_22 rfl (v := .ref h11) rfl dX7_copy_180 ?_
                                refine ik_bipush (v := (40 : Int32)) C (by decide) dX7_copy_183 ?_
                                refine ik_iload_n C 4 rfl rfl dX7_copy_185 ?_
                                refine ik_imul C dX7_copy_186 ?_
                                refine ik_iload_n C 5 rfl rfl dX7_copy_187 ?_
                                refine ik_iadd C dX7_copy_188 ?_
                                refine ik_iload C 0 rfl dX7_copy_189 ?_
                                refine ik_iadd C dX7_copy_191 ?_
                                have hg := ik_gdi hf
                                have hf := ik_gdk hf
                                refine ik_iald C 11 rfl hg dX7_copy_192 ?_
                                have hg := ik_gdi hf
                                have hf := ik_gdk hf
                                refine ik_iast C 11 rfl hg (wz_X7 cI cS h0 h1 h2 h3 h4 h5 h6 h7 h8 h9 h10 h11 misKept mtaped msort mfrom mto mvalue mbad mm mkept mwas mother mfound mwarm mdrip mtape mbits msize (upd mnumber_139 (((((40 : Int32) * x3) + x4) + v0_163)).toNatClampNeg (mnumber_139 (((((40 : Int32) * x1) + x2) + v0_163)).toNatClampNeg))) rfl dX7_copy_193 ?_
                                refine ik_iinc C [(7, .int (x7_139 + (1 : Int32))), (8, .int v0_163), (6, .int v0_134), (0, .ref h0), (1, .int x1), (2, .int x2), (3, .int x3), (4, .int x4), (5, .int x5)] 1 rfl rfl (by decide) rfl dX7_copy_194 ?_
                                refine ik_goto C 139 dX7_copy_197 (by decide) ?_
                                exact ik_sub [0, 2, 3, 4, 5, 6, 7, 8] [(7, .int (x7_139 + (1 : Int32))), (6, .int v0_134), (0, .ref h0), (1, .int x1), (2, .int x2), (3, .int x3), (4, .int x4), (5, .int x5)] rfl (ih_139 (upd mnumber_139 (((((40 : Int32) * x3) + x4) + v0_163)).toNatClampNeg (mnumber_139 (((((40 : Int32) * x1) + x2) + v0_163)).toNatClampNeg)) (x7_139 + (1 : Int32)) hf)
                              refine ik_iload C 1 rfl dX7_copy_146 ?_
                              refine ik_if_eq C 161 dX7_copy_148 (by decide) (fun hc => ?_) (fun hc => ?_)
                              · have hf := ik_pos hc hf
                                refine ik_iload C 0 rfl dX7_copy_161 ?_
                                exact ik_sub [0, 1, 2, 3, 4, 5, 6, 7] [(7, .int x7_139), (6, .int v0_134), (0, .ref h0), (1, .int x1), (2, .int x2), (3, .int x3), (4, .int x4), (5, .int x5)] rfl (hJ_163 x7_139 hf)
                              · have hf := ik_neg hc hf
                                refine ik_iload C 7 rfl dX7_copy_151 ?_
                                refine ik_iconst (v := (1 : Int32)) C (by decide) dX7_copy_153 ?_
                                refine ik_isub C dX7_copy_154 ?_
                                refine ik_iload C 0 rfl dX7_copy_155 ?_
                                refine ik_isub C dX7_copy_157 ?_
                                refine ik_goto C 163 dX7_copy_158 (by decide) ?_
                                exact ik_sub [0, 1, 2, 3, 4, 5, 6, 7] [(7, .int x7_139), (6, .int v0_134), (0, .ref h0), (1, .int x1), (2, .int x2), (3, .int x3), (4, .int x4), (5, .int x5)] rfl (hJ_163 ((x5 - (1 : Int32)) - x7_139) hf)
                        exact hL_139 ik_fu mnumber (0 : Int32) hf
                      refine ik_iload_n C 1 rfl rfl dX7_copy_118 ?_
                      refine ik_iload_n C 3 rfl rfl dX7_copy_119 ?_
                      refine ik_icmp_ne C 133 dX7_copy_120 (by decide) (fun hc => ?_) (fun hc => ?_)
                      · have hf := ik_neg hc hf
                        refine ik_iconst (v := (0 : Int32)) C (by decide) dX7_copy_133 ?_
                        exact ik_sub [0, 1, 2, 3, 4, 5] [(0, .ref h0), (1, .int x1), (2, .int x2), (3, .int x3), (4, .int x4), (5, .int x5)] rfl (hJ_134 (0 : Int32) hf)
                      · have hf := ik_pos hc hf
                        refine ik_iload_n C 2 rfl rfl dX7_copy_123 ?_
                        refine ik_iload C 4 rfl dX7_copy_124 ?_
                        refine ik_icmp_ge C 133 dX7_copy_126 (by decide) (fun hc => ?_) (fun hc => ?_)
                        · have hf := ik_pos hc hf
                          refine ik_iconst (v := (0 : Int32)) C (by decide) dX7_copy_133 ?_
                          exact ik_sub [0, 1, 2, 3, 4, 5] [(0, .ref h0), (1, .int x1), (2, .int x2), (3, .int x3), (4, .int x4), (5, .int x5)] rfl (hJ_134 (0 : Int32) hf)
                        · have hf := ik_neg hc hf
                          refine ik_iconst (v := (1 : Int32)) C (by decide) dX7_copy_129 ?_
                          refine ik_goto C 134 dX7_copy_130 (by decide) ?_
                          exact ik_sub [0, 1, 2, 3, 4, 5] [(0, .ref h0), (1, .int x1), (2, .int x2), (3, .int x3), (4, .int x4), (5, .int x5)] rfl (hJ_134 (1 : Int32) hf)
                    · have hf := ik_neg hc hf
                      refine ik_aload_n C 0 rfl rfl dX7_copy_111 ?_
                      refine ik_ldc C wl_6_14 dX7_copy_112 ?_
                      obtain ⟨r3, g4, hc4, hf⟩ := ik_b2s hf
                      have hM := (c_X7_finds l D cI cS h0 h1 h2 h3 h4 h5 h6 h7 h8 h9 h10 h11 misKept mtaped msort mfrom mto mvalue mbad mm mkept mwas mother mfound mwarm mdrip mtape mbits msize mnumber (-1000001 : Int32) r3 g4 hc4)
                      refine ik_goW (v := (some (.int r3))) (wc := (wz_X7 cI cS h0 h1 h2 h3 h4 h5 h6 h7 h8 h9 h10 h11 misKept mtaped msort mfrom mto mvalue mbad mm mkept mwas mother mfound mwarm mdrip mtape mbits msize mnumber)) (w1 := (wz_X7 cI cS h0 h1 h2 h3 h4 h5 h6 h7 h8 h9 h10 h11 misKept mtaped msort mfrom mto mvalue mbad mm mkept mwas mother g4 mwarm mdrip mtape mbits msize mnumber)) [0, 1, 2, 3, 4, 5, 6, 7, 8, 9, 10, 11] [] 12 rfl rfl (wz_X7 cI cS h0 h1 h2 h3 h4 h5 h6 h7 h8 h9 h10 h11 misKept mtaped msort mfrom mto mvalue mbad mm mkept mwas mother g4 mwarm mdrip mtape mbits msize mnumber) rfl [] rfl rfl rfl (by decide +kernel) (ik_runV (st := []) (As := [.int (-1000001 : Int32)]) C hM mv_X7_finds wl_7_8 ⟨rfl, rfl, Nat.le_of_ble_eq_true rfl, Nat.le_of_ble_eq_true rfl⟩ [0, 1, 2, 3, 4, 5, 6, 7, 8, 9, 10, 11] rfl (by decide +kernel) 0 rfl rfl rfl rfl (Nat.le_of_ble_eq_true rfl) dX7_copy_114 ⟨Nat.zero_le _, Nat.zero_le _⟩) rfl ?_
                      obtain ⟨rfl, rfl, rfl⟩ := ik_e3 hf
                      exact ik_iretW C hr hlk dX7_copy_117
          · have hf := ik_neg hc hf
            refine ik_aload_n C 0 rfl rfl dX7_copy_62 ?_
            refine ik_ldcw C wl_44_0 dX7_copy_63 ?_
            obtain ⟨r3, g4, hc4, hf⟩ := ik_b2s hf
            have hM := (c_X7_finds l D cI cS h0 h1 h2 h3 h4 h5 h6 h7 h8 h9 h10 h11 misKept mtaped msort mfrom mto mvalue mbad mm mkept mwas mother mfound mwarm mdrip mtape mbits msize mnumber (-1000003 : Int32) r3 g4 hc4)
            refine ik_goW (v := (some (.int r3))) (wc := (wz_X7 cI cS h0 h1 h2 h3 h4 h5 h6 h7 h8 h9 h10 h11 misKept mtaped msort mfrom mto mvalue mbad mm mkept mwas mother mfound mwarm mdrip mtape mbits msize mnumber)) (w1 := (wz_X7 cI cS h0 h1 h2 h3 h4 h5 h6 h7 h8 h9 h10 h11 misKept mtaped msort mfrom mto mvalue mbad mm mkept mwas mother g4 mwarm mdrip mtape mbits msize mnumber)) [0, 1, 2, 3, 4, 5, 6, 7, 8, 9, 10, 11] [] 12 rfl rfl (wz_X7 cI cS h0 h1 h2 h3 h4 h5 h6 h7 h8 h9 h10 h11 misKept mtaped msort mfrom mto mvalue mbad mm mkept mwas mother g4 mwarm mdrip mtape mbits msize mnumber) rfl [] rfl rfl rfl (by decide +kernel) (ik_runV (st := []) (As := [.int (-1000003 : Int32)]) C hM mv_X7_finds wl_7_8 ⟨rfl, rfl, Nat.le_of_ble_eq_true rfl, Nat.le_of_ble_eq_true rfl⟩ [0, 1, 2, 3, 4, 5, 6, 7, 8, 9, 10, 11] rfl (by decide +kernel) 0 rfl rfl rfl rfl (Nat.le_of_ble_eq_true rfl) dX7_copy_66 ⟨Nat.zero_le _, Nat.zero_le _⟩) rfl ?_
            obtain ⟨rfl, rfl, rfl⟩ := ik_e3 hf
            exact ik_iretW C hr hlk dX7_copy_69
        · have hf := ik_pos hc hf
          refine ik_aload_n C 0 rfl rfl dX7_copy_39 ?_
          refine ik_ldcw C wl_43_23 dX7_copy_40 ?_
          obtain ⟨r3, g4, hc4, hf⟩ := ik_b2s hf
          have hM := (c_X7_finds l D cI cS h0 h1 h2 h3 h4 h5 h6 h7 h8 h9 h10 h11 misKept mtaped msort mfrom mto mvalue mbad mm mkept mwas mother mfound mwarm mdrip mtape mbits msize mnumber (-1000006 : Int32) r3 g4 hc4)
          refine ik_goW (v := (some (.int r3))) (wc := (wz_X7 cI cS h0 h1 h2 h3 h4 h5 h6 h7 h8 h9 h10 h11 misKept mtaped msort mfrom mto mvalue mbad mm mkept mwas mother mfound mwarm mdrip mtape mbits msize mnumber)) (w1 := (wz_X7 cI cS h0 h1 h2 h3 h4 h5 h6 h7 h8 h9 h10 h11 misKept mtaped msort mfrom mto mvalue mbad mm mkept mwas mother g4 mwarm mdrip mtape mbits msize mnumber)) [0, 1, 2, 3, 4, 5, 6, 7, 8, 9, 10, 11] [] 12 rfl rfl (wz_X7 cI cS h0 h1 h2 h3 h4 h5 h6 h7 h8 h9 h10 h11 misKept mtaped msort mfrom mto mvalue mbad mm mkept mwas mother g4 mwarm mdrip mtape mbits msize mnumber) rfl [] rfl rfl rfl (by decide +kernel) (ik_runV (st := []) (As := [.int (-1000006 : Int32)]) C hM mv_X7_finds wl_7_8 ⟨rfl, rfl, Nat.le_of_ble_eq_true rfl, Nat.le_of_ble_eq_true rfl⟩ [0, 1, 2, 3, 4, 5, 6, 7, 8, 9, 10, 11] rfl (by decide +kernel) 0 rfl rfl rfl rfl (Nat.le_of_ble_eq_true rfl) dX7_copy_43 ⟨Nat.zero_le _, Nat.zero_le _⟩) rfl ?_
          obtain ⟨rfl, rfl, rfl⟩ := ik_e3 hf
          exact ik_iretW C hr hlk dX7_copy_46
    · have hf := ik_pos hc hf
      refine ik_aload_n C 0 rfl rfl dX7_copy_14 ?_
      refine ik_ldc C wl_6_14 dX7_copy_15 ?_
      obtain ⟨r3, g4, hc4, hf⟩ := ik_b2s hf
      have hM := (c_X7_finds l D cI cS h0 h1 h2 h3 h4 h5 h6 h7 h8 h9 h10 h11 misKept mtaped msort mfrom mto mvalue mbad mm mkept mwas mother mfound mwarm mdrip mtape mbits msize mnumber (-1000001 : Int32) r3 g4 hc4)
      refine ik_goW (v := (some (.int r3))) (wc := (wz_X7 cI cS h0 h1 h2 h3 h4 h5 h6 h7 h8 h9 h10 h11 misKept mtaped msort mfrom mto mvalue mbad mm mkept mwas mother mfound mwarm mdrip mtape mbits msize mnumber)) (w1 := (wz_X7 cI cS h0 h1 h2 h3 h4 h5 h6 h7 h8 h9 h10 h11 misKept mtaped msort mfrom mto mvalue mbad mm mkept mwas mother g4 mwarm mdrip mtape mbits msize mnumber)) [0, 1, 2, 3, 4, 5, 6, 7, 8, 9, 10, 11] [] 12 rfl rfl (wz_X7 cI cS h0 h1 h2 h3 h4 h5 h6 h7 h8 h9 h10 h11 misKept mtaped msort mfrom mto mvalue mbad mm mkept mwas mother g4 mwarm mdrip mtape mbits msize mnumber) rfl [] rfl rfl rfl (by decide +kernel) (ik_runV (st := []) (As := [.int (-1000001 : Int32)]) C hM mv_X7_finds wl_7_8 ⟨rfl, rfl, Nat.le_of_ble_eq_true rfl, Nat.le_of_ble_eq_true rfl⟩ [0, 1, 2, 3, 4, 5, 6, 7, 8, 9, 10, 11] rfl (by decide +kernel) 0 rfl rfl rfl rfl (Nat.le_of_ble_eq_true rfl) dX7_copy_17 ⟨Nat.zero_le _, Nat.zero_le _⟩) rfl ?_
      obtain ⟨rfl, rfl, rfl⟩ := ik_e3 hf
      exact ik_iretW C hr hlk dX7_copy_20
