theorem mv_X7_hours : ik_V yX7_hours RX7 cX7_hours 4 (some .int) 1 := ⟨wl_20_10, wl_20_11, wl_1_5, wl_20_12, by decide +kernel⟩
set_option maxHeartbeats 4000000 in
set_option maxRecDepth 100000 in
theorem c_X7_hours (l : Launch) (D : va_G) (cI cS : ClassId) (h0 h1 h2 h3 h4 h5 h6 h7 h8 h9 h10 h11 : Nat) (misKept : Int32) (mtaped : Int32) (msort : Int32) (mfrom : Int32) (mto : Int32) (mvalue : Int32) (mbad : Int32) (mm : Nat → Int32) (mkept : Nat → Int32) (mwas : Nat → Int32) (mother : Nat → Int32) (mfound : Nat → Int32) (mwarm : Nat → Int32) (mdrip : Nat → Int32) (mtape : Nat → Int32) (mbits : Nat → Int32) (msize : Nat → Int32) (mnumber : Nat → Int32) (x1 : Int32) (R : Int32) (mm_r : Nat → Int32) (mfound_r : Nat → Int32) (mwarm_r : Nat → Int32) (mdrip_r : Nat → Int32) (hf : f_X7_hours mm mfound mwarm mdrip x1 = some (R, mm_r, mfound_r, mwarm_r, mdrip_r)) : Met l yX7_hours (ik_ws yX7_hours cX7_hours 4 (some .int)) ({ frames := 8, cells := 0, slots := 0, locals := 180 } : Room) (ik_P D cI cS [.ref h0, .int x1] (wz_X7 cI cS h0 h1 h2 h3 h4 h5 h6 h7 h8 h9 h10 h11 misKept mtaped msort mfrom mto mvalue mbad mm mkept mwas mother mfound mwarm mdrip mtape mbits msize mnumber)) (ik_Q (some (.int R)) D (wz_X7 cI cS h0 h1 h2 h3 h4 h5 h6 h7 h8 h9 h10 h11 misKept mtaped msort mfrom mto mvalue mbad mm_r mkept mwas mother mfound_r mwarm_r mdrip_r mtape mbits msize mnumber) (wz_X7 cI cS h0 h1 h2 h3 h4 h5 h6 h7 h8 h9 h10 h11 misKept mtaped msort mfrom mto mvalue mbad mm mkept mwas mother mfound mwarm mdrip mtape mbits msize mnumber)) 0 0 (ik_in (wz_X7 cI cS h0 h1 h2 h3 h4 h5 h6 h7 h8 h9 h10 h11 misKept mtaped msort mfrom mto mvalue mbad mm mkept mwas mother mfound mwarm mdrip mtape mbits msize mnumber)) := by
  refine ik_metW RX7 rfl (by decide) (Nat.le_of_ble_eq_true rfl) [(0, .ref h0), (1, .int x1)] rfl ?_
  intro p e s m below meth c C hr hlk
  unfold f_X7_hours at hf
  refine ik_iload_n C 1 rfl rfl dX7_hours_0 ?_
  refine ik_i2l C dX7_hours_1 ?_
  refine ik_lconst (v := (1 : Int64)) C (by decide) dX7_hours_2 ?_
  refine ik_ldc2 C wl_20_13 dX7_hours_3 ?_
  obtain ⟨r1, hc1, hf⟩ := ik_b1s hf
  refine ik_goR (ik_runS C (c_X7_in l D cI cS (x1).toInt64 (1 : Int64) (48 : Int64) r1 hc1) ms_X7_in wl_6_21 ⟨rfl, rfl, Nat.le_of_ble_eq_true rfl, Nat.le_of_ble_eq_true rfl⟩ [] rfl (by decide) rfl rfl (Nat.le_of_ble_eq_true rfl) dX7_hours_6) rfl ?_
  refine ik_if_ne C 19 dX7_hours_9 (by decide) (fun hc => ?_) (fun hc => ?_)
  · have hf := ik_neg hc hf
    refine ik_aload_n C 0 rfl rfl dX7_hours_19 ?_
    refine ik_get C inlX7 0 rfl rfl 0 (by decide) wl_4_12 rfl (v := .ref h1) rfl dX7_hours_20 ?_
    refine ik_iconst (v := (0 : Int32)) C (by decide) dX7_hours_23 ?_
    refine ik_iald C 1 rfl (ik_vin (by decide)) dX7_hours_24 ?_
    refine ik_iload_n C 1 rfl rfl dX7_hours_25 ?_
    refine ik_iadd C dX7_hours_26 ?_
    refine ik_sipush (v := (9999 : Int32)) C (by decide) dX7_hours_27 ?_
    refine ik_icmp_le C 40 dX7_hours_30 (by decide) (fun hc => ?_) (fun hc => ?_)
    · have hf := ik_pos hc hf
      refine ik_aload_n C 0 rfl rfl dX7_hours_40 ?_
      obtain ⟨r2, hc2, hf⟩ := ik_b1s hf
      refine ik_goR (ik_runV C (c_X7_goneNow l D cI cS h0 h1 h2 h3 h4 h5 h6 h7 h8 h9 h10 h11 misKept mtaped msort mfrom mto mvalue mbad mm mkept mwas mother mfound mwarm mdrip mtape mbits msize mnumber r2 hc2) mv_X7_goneNow wl_20_14 ⟨rfl, rfl, Nat.le_of_ble_eq_true rfl, Nat.le_of_ble_eq_true rfl⟩ [0, 1, 2, 3, 4, 5, 6, 7, 8, 9, 10, 11] rfl (by decide) 0 rfl rfl rfl rfl (Nat.le_of_ble_eq_true rfl) dX7_hours_41) rfl ?_
      refine ik_istore_n C [(2, .int r2), (0, .ref h0), (1, .int x1)] rfl (by decide) rfl dX7_hours_44 ?_
      refine ik_iconst (v := (0 : Int32)) C (by decide) dX7_hours_45 ?_
      refine ik_istore_n C [(3, .int (0 : Int32)), (2, .int r2), (0, .ref h0), (1, .int x1)] rfl (by decide) rfl dX7_hours_46 ?_
      have hL_47 : ∀ (n_47 : Nat) (mm_47 : Nat → Int32) (mwarm_47 : Nat → Int32) (mdrip_47 : Nat → Int32) (x3_47 : Int32), ik_lp4 (b_X7_hours_47 mfound x1 r2) n_47 mm_47 mwarm_47 mdrip_47 x3_47 = some (R, mm_r, mfound_r, mwarm_r, mdrip_r) → ik_G p l e ({ frames := 8, cells := 0, slots := 0, locals := 180 } : Room) s m ([.ref h0, .int x1] : List Value).toArray below meth c D (ik_in (wz_X7 cI cS h0 h1 h2 h3 h4 h5 h6 h7 h8 h9 h10 h11 misKept mtaped msort mfrom mto mvalue mbad mm mkept mwas mother mfound mwarm mdrip mtape mbits msize mnumber)) (ik_in (wz_X7 cI cS h0 h1 h2 h3 h4 h5 h6 h7 h8 h9 h10 h11 misKept mtaped msort mfrom mto mvalue mbad mm mkept mwas mother mfound mwarm mdrip mtape mbits msize mnumber)) 4 (MQ below (ik_Q (some (.int R)) D (wz_X7 cI cS h0 h1 h2 h3 h4 h5 h6 h7 h8 h9 h10 h11 misKept mtaped msort mfrom mto mvalue mbad mm_r mkept mwas mother mfound_r mwarm_r mdrip_r mtape mbits msize mnumber) (wz_X7 cI cS h0 h1 h2 h3 h4 h5 h6 h7 h8 h9 h10 h11 misKept mtaped msort mfrom mto mvalue mbad mm mkept mwas mother mfound mwarm mdrip mtape mbits msize mnumber)) ([.ref h0, .int x1] : List Value).toArray s 0 0 (ik_in (wz_X7 cI cS h0 h1 h2 h3 h4 h5 h6 h7 h8 h9 h10 h11 misKept mtaped msort mfrom mto mvalue mbad mm mkept mwas mother mfound mwarm mdrip mtape mbits msize mnumber))) 47 [(3, .int x3_47), (2, .int r2), (0, .ref h0), (1, .int x1)] [] (wz_X7 cI cS h0 h1 h2 h3 h4 h5 h6 h7 h8 h9 h10 h11 misKept mtaped msort mfrom mto mvalue mbad mm_47 mkept mwas mother mfound mwarm_47 mdrip_47 mtape mbits msize mnumber) := by
        intro n_47
        induction n_47 with
        | zero => intro _ _ _ _ hf; exact nomatch hf
        | succ n_47 ih_47 =>
          intro mm_47 mwarm_47 mdrip_47 x3_47 hf
          replace hf : b_X7_hours_47 mfound x1 r2 (ik_lp4 (b_X7_hours_47 mfound x1 r2) n_47) mm_47 mwarm_47 mdrip_47 x3_47 = some (R, mm_r, mfound_r, mwarm_r, mdrip_r) := hf
          unfold b_X7_hours_47 at hf
          refine ik_iload_n C 0 rfl rfl dX7_hours_47 ?_
          refine ik_iload_n C 3 rfl rfl dX7_hours_48 ?_
          refine ik_icmp_ge C 62 dX7_hours_49 (by decide) (fun hc => ?_) (fun hc => ?_)
          · have hf := ik_pos hc hf
            refine ik_aload_n C 2 rfl rfl dX7_hours_62 ?_
            obtain ⟨r3, hc3, hf⟩ := ik_b1s hf
            refine ik_goR (ik_runV C (c_X7_goneNow l D cI cS h0 h1 h2 h3 h4 h5 h6 h7 h8 h9 h10 h11 misKept mtaped msort mfrom mto mvalue mbad mm_47 mkept mwas mother mfound mwarm_47 mdrip_47 mtape mbits msize mnumber r3 hc3) mv_X7_goneNow wl_20_14 ⟨rfl, rfl, Nat.le_of_ble_eq_true rfl, Nat.le_of_ble_eq_true rfl⟩ [0, 1, 2, 3, 4, 5, 6, 7, 8, 9, 10, 11] rfl (by decide) 0 rfl rfl rfl rfl (Nat.le_of_ble_eq_true rfl) dX7_hours_63) rfl ?_
            refine ik_iload_n C 1 rfl rfl dX7_hours_66 ?_
            refine ik_iconst (v := (-1 : Int32)) C (by decide) dX7_hours_67 ?_
            refine ik_ixor C dX7_hours_68 ?_
            refine ik_iand C dX7_hours_69 ?_
            obtain ⟨r4, hc4, hf⟩ := ik_b1s hf
            refine ik_goR (ik_runS C (c_X7_many l D cI cS (r3 &&& (r2 ^^^ (-1 : Int32))) r4 hc4) ms_X7_many wl_21_22 ⟨rfl, rfl, Nat.le_of_ble_eq_true rfl, Nat.le_of_ble_eq_true rfl⟩ [] rfl (by decide) rfl rfl (Nat.le_of_ble_eq_true rfl) dX7_hours_70) rfl ?_
            cases hf
            exact ik_iretW C hr hlk dX7_hours_73
          · have hf := ik_neg hc hf
            refine ik_aload_n C 2 rfl rfl dX7_hours_52 ?_
            obtain ⟨g3, g4, g5, hc5, hf⟩ := ik_b3s hf
            refine ik_goW [0, 1, 2, 3, 4, 5, 6, 7, 8, 9, 10, 11] rfl rfl (wz_X7 cI cS h0 h1 h2 h3 h4 h5 h6 h7 h8 h9 h10 h11 misKept mtaped msort mfrom mto mvalue mbad g3 mkept mwas mother mfound g4 g5 mtape mbits msize mnumber) rfl (ik_runV C (c_X7_hour l D cI cS h0 h1 h2 h3 h4 h5 h6 h7 h8 h9 h10 h11 misKept mtaped msort mfrom mto mvalue mbad mm_47 mkept mwas mother mfound mwarm_47 mdrip_47 mtape mbits msize mnumber g3 g4 g5 hc5) mv_X7_hour wl_20_18 ⟨rfl, rfl, Nat.le_of_ble_eq_true rfl, Nat.le_of_ble_eq_true rfl⟩ [0, 1, 2, 3, 4, 5, 6, 7, 8, 9, 10, 11] rfl (by decide) 0 rfl rfl rfl rfl (Nat.le_of_ble_eq_true rfl) dX7_hours_53) rfl ?_
            refine ik_iinc C [(3, .int (x3_47 + (1 : Int32))), (2, .int r2), (0, .ref h0), (1, .int x1)] 0 rfl rfl (by decide) rfl dX7_hours_56 ?_
            refine ik_goto C 47 dX7_hours_59 (by decide) ?_
            exact ik_sub [0, 1, 2, 3] [(3, .int (x3_47 + (1 : Int32))), (2, .int r2), (0, .ref h0), (1, .int x1)] rfl (ih_47 g3 g4 g5 (x3_47 + (1 : Int32)) hf)
      exact hL_47 ik_fu mm mwarm mdrip (0 : Int32) hf
    · have hf := ik_neg hc hf
      refine ik_aload_n C 0 rfl rfl dX7_hours_33 ?_
      refine ik_ldc C wl_6_16 dX7_hours_34 ?_
      obtain ⟨r2, g3, hc3, hf⟩ := ik_b2s hf
      refine ik_goW [0, 1, 2, 3, 4, 5, 6, 7, 8, 9, 10, 11] rfl rfl (wz_X7 cI cS h0 h1 h2 h3 h4 h5 h6 h7 h8 h9 h10 h11 misKept mtaped msort mfrom mto mvalue mbad mm mkept mwas mother g3 mwarm mdrip mtape mbits msize mnumber) rfl (ik_runV C (c_X7_finds l D cI cS h0 h1 h2 h3 h4 h5 h6 h7 h8 h9 h10 h11 misKept mtaped msort mfrom mto mvalue mbad mm mkept mwas mother mfound mwarm mdrip mtape mbits msize mnumber (-1000005 : Int32) r2 g3 hc3) mv_X7_finds wl_7_8 ⟨rfl, rfl, Nat.le_of_ble_eq_true rfl, Nat.le_of_ble_eq_true rfl⟩ [0, 1, 2, 3, 4, 5, 6, 7, 8, 9, 10, 11] rfl (by decide) 0 rfl rfl rfl rfl (Nat.le_of_ble_eq_true rfl) dX7_hours_36) rfl ?_
      cases hf
      exact ik_iretW C hr hlk dX7_hours_39
  · have hf := ik_pos hc hf
    refine ik_aload_n C 0 rfl rfl dX7_hours_12 ?_
    refine ik_ldc C wl_6_14 dX7_hours_13 ?_
    obtain ⟨r2, g3, hc3, hf⟩ := ik_b2s hf
    refine ik_goW [0, 1, 2, 3, 4, 5, 6, 7, 8, 9, 10, 11] rfl rfl (wz_X7 cI cS h0 h1 h2 h3 h4 h5 h6 h7 h8 h9 h10 h11 misKept mtaped msort mfrom mto mvalue mbad mm mkept mwas mother g3 mwarm mdrip mtape mbits msize mnumber) rfl (ik_runV C (c_X7_finds l D cI cS h0 h1 h2 h3 h4 h5 h6 h7 h8 h9 h10 h11 misKept mtaped msort mfrom mto mvalue mbad mm mkept mwas mother mfound mwarm mdrip mtape mbits msize mnumber (-1000001 : Int32) r2 g3 hc3) mv_X7_finds wl_7_8 ⟨rfl, rfl, Nat.le_of_ble_eq_true rfl, Nat.le_of_ble_eq_true rfl⟩ [0, 1, 2, 3, 4, 5, 6, 7, 8, 9, 10, 11] rfl (by decide) 0 rfl rfl rfl rfl (Nat.le_of_ble_eq_true rfl) dX7_hours_15) rfl ?_
    cases hf
    exact ik_iretW C hr hlk dX7_hours_18
theorem mv_X7_fall : ik_V yX7_fall RX7 cX7_fall 2 (some .int) 0 := ⟨wl_22_7, wl_22_8, wl_1_5, wl_22_9, by decide +kernel⟩
set_option maxHeartbeats 4000000 in
set_option maxRecDepth 100000 in
theorem c_X7_fall (l : Launch) (D : va_G) (cI cS : ClassId) (h0 h1 h2 h3 h4 h5 h6 h7 h8 h9 h10 h11 : Nat) (misKept : Int32) (mtaped : Int32) (msort : Int32) (mfrom : Int32) (mto : Int32) (mvalue : Int32) (mbad : Int32) (mm : Nat → Int32) (mkept : Nat → Int32) (mwas : Nat → Int32) (mother : Nat → Int32) (mfound : Nat → Int32) (mwarm : Nat → Int32) (mdrip : Nat → Int32) (mtape : Nat → Int32) (mbits : Nat → Int32) (msize : Nat → Int32) (mnumber : Nat → Int32) (R : Int32) (mm_r : Nat → Int32) (hf : f_X7_fall mm = some (R, mm_r)) : Met l yX7_fall (ik_ws yX7_fall cX7_fall 2 (some .int)) ({ frames := 7, cells := 0, slots := 0, locals := 159 } : Room) (ik_P D cI cS [.ref h0] (wz_X7 cI cS h0 h1 h2 h3 h4 h5 h6 h7 h8 h9 h10 h11 misKept mtaped msort mfrom mto mvalue mbad mm mkept mwas mother mfound mwarm mdrip mtape mbits msize mnumber)) (ik_Q (some (.int R)) D (wz_X7 cI cS h0 h1 h2 h3 h4 h5 h6 h7 h8 h9 h10 h11 misKept mtaped msort mfrom mto mvalue mbad mm_r mkept mwas mother mfound mwarm mdrip mtape mbits msize mnumber) (wz_X7 cI cS h0 h1 h2 h3 h4 h5 h6 h7 h8 h9 h10 h11 misKept mtaped msort mfrom mto mvalue mbad mm mkept mwas mother mfound mwarm mdrip mtape mbits msize mnumber)) 0 0 (ik_in (wz_X7 cI cS h0 h1 h2 h3 h4 h5 h6 h7 h8 h9 h10 h11 misKept mtaped msort mfrom mto mvalue mbad mm mkept mwas mother mfound mwarm mdrip mtape mbits msize mnumber)) := by
  refine ik_metW RX7 rfl (by decide) (Nat.le_of_ble_eq_true rfl) [(0, .ref h0)] rfl ?_
  intro p e s m below meth c C hr hlk
  unfold f_X7_fall at hf
  refine ik_aload_n C 0 rfl rfl dX7_fall_0 ?_
  obtain ⟨r1, hc1, hf⟩ := ik_b1s hf
  refine ik_goR (ik_runV C (c_X7_goneNow l D cI cS h0 h1 h2 h3 h4 h5 h6 h7 h8 h9 h10 h11 misKept mtaped msort mfrom mto mvalue mbad mm mkept mwas mother mfound mwarm mdrip mtape mbits msize mnumber r1 hc1) mv_X7_goneNow wl_20_14 ⟨rfl, rfl, Nat.le_of_ble_eq_true rfl, Nat.le_of_ble_eq_true rfl⟩ [0, 1, 2, 3, 4, 5, 6, 7, 8, 9, 10, 11] rfl (by decide) 0 rfl rfl rfl rfl (Nat.le_of_ble_eq_true rfl) dX7_fall_1) rfl ?_
  refine ik_istore_n C [(1, .int r1), (0, .ref h0)] rfl (by decide) rfl dX7_fall_4 ?_
  refine ik_aload_n C 1 rfl rfl dX7_fall_5 ?_
  obtain ⟨g2, hc2, hf⟩ := ik_b1s hf
  refine ik_goW [0, 1, 2, 3, 4, 5, 6, 7, 8, 9, 10, 11] rfl rfl (wz_X7 cI cS h0 h1 h2 h3 h4 h5 h6 h7 h8 h9 h10 h11 misKept mtaped msort mfrom mto mvalue mbad g2 mkept mwas mother mfound mwarm mdrip mtape mbits msize mnumber) rfl (ik_runV C (c_X7_falls l D cI cS h0 h1 h2 h3 h4 h5 h6 h7 h8 h9 h10 h11 misKept mtaped msort mfrom mto mvalue mbad mm mkept mwas mother mfound mwarm mdrip mtape mbits msize mnumber g2 hc2) mv_X7_falls wl_21_10 ⟨rfl, rfl, Nat.le_of_ble_eq_true rfl, Nat.le_of_ble_eq_true rfl⟩ [0, 1, 2, 3, 4, 5, 6, 7, 8, 9, 10, 11] rfl (by decide) 0 rfl rfl rfl rfl (Nat.le_of_ble_eq_true rfl) dX7_fall_6) rfl ?_
  refine ik_aload_n C 1 rfl rfl dX7_fall_9 ?_
  obtain ⟨r3, hc3, hf⟩ := ik_b1s hf
  refine ik_goR (ik_runV C (c_X7_goneNow l D cI cS h0 h1 h2 h3 h4 h5 h6 h7 h8 h9 h10 h11 misKept mtaped msort mfrom mto mvalue mbad g2 mkept mwas mother mfound mwarm mdrip mtape mbits msize mnumber r3 hc3) mv_X7_goneNow wl_20_14 ⟨rfl, rfl, Nat.le_of_ble_eq_true rfl, Nat.le_of_ble_eq_true rfl⟩ [0, 1, 2, 3, 4, 5, 6, 7, 8, 9, 10, 11] rfl (by decide) 0 rfl rfl rfl rfl (Nat.le_of_ble_eq_true rfl) dX7_fall_10) rfl ?_
  refine ik_iload_n C 0 rfl rfl dX7_fall_13 ?_
  refine ik_iconst (v := (-1 : Int32)) C (by decide) dX7_fall_14 ?_
  refine ik_ixor C dX7_fall_15 ?_
  refine ik_iand C dX7_fall_16 ?_
  obtain ⟨r4, hc4, hf⟩ := ik_b1s hf
  refine ik_goR (ik_runS C (c_X7_many l D cI cS (r3 &&& (r1 ^^^ (-1 : Int32))) r4 hc4) ms_X7_many wl_21_22 ⟨rfl, rfl, Nat.le_of_ble_eq_true rfl, Nat.le_of_ble_eq_true rfl⟩ [] rfl (by decide) rfl rfl (Nat.le_of_ble_eq_true rfl) dX7_fall_17) rfl ?_
  cases hf
  exact ik_iretW C hr hlk dX7_fall_20
theorem mv_X7_loose : ik_V yX7_loose RX7 cX7_loose 1 (some .int) 0 := ⟨wl_22_16, wl_22_17, wl_1_5, wl_22_18, by decide +kernel⟩
set_option maxHeartbeats 4000000 in
set_option maxRecDepth 100000 in
theorem c_X7_loose (l : Launch) (D : va_G) (cI cS : ClassId) (h0 h1 h2 h3 h4 h5 h6 h7 h8 h9 h10 h11 : Nat) (misKept : Int32) (mtaped : Int32) (msort : Int32) (mfrom : Int32) (mto : Int32) (mvalue : Int32) (mbad : Int32) (mm : Nat → Int32) (mkept : Nat → Int32) (mwas : Nat → Int32) (mother : Nat → Int32) (mfound : Nat → Int32) (mwarm : Nat → Int32) (mdrip : Nat → Int32) (mtape : Nat → Int32) (mbits : Nat → Int32) (msize : Nat → Int32) (mnumber : Nat → Int32) (R : Int32) (hf : f_X7_loose mm = some (R)) : Met l yX7_loose (ik_ws yX7_loose cX7_loose 1 (some .int)) ({ frames := 6, cells := 0, slots := 0, locals := 137 } : Room) (ik_P D cI cS [.ref h0] (wz_X7 cI cS h0 h1 h2 h3 h4 h5 h6 h7 h8 h9 h10 h11 misKept mtaped msort mfrom mto mvalue mbad mm mkept mwas mother mfound mwarm mdrip mtape mbits msize mnumber)) (ik_R (some (.int R))) 0 0 ik_no := by
  refine ik_metR RX7 rfl (by decide) (Nat.le_of_ble_eq_true rfl) [(0, .ref h0)] rfl ?_
  intro p e s m below meth c C hr hlk
  unfold f_X7_loose at hf
  refine ik_aload_n C 0 rfl rfl dX7_loose_0 ?_
  obtain ⟨r1, hc1, hf⟩ := ik_b1s hf
  refine ik_goR (ik_runV C (c_X7_looseNow l D cI cS h0 h1 h2 h3 h4 h5 h6 h7 h8 h9 h10 h11 misKept mtaped msort mfrom mto mvalue mbad mm mkept mwas mother mfound mwarm mdrip mtape mbits msize mnumber r1 hc1) mv_X7_looseNow wl_21_14 ⟨rfl, rfl, Nat.le_of_ble_eq_true rfl, Nat.le_of_ble_eq_true rfl⟩ [0, 1, 2, 3, 4, 5, 6, 7, 8, 9, 10, 11] rfl (by decide) 0 rfl rfl rfl rfl (Nat.le_of_ble_eq_true rfl) dX7_loose_1) rfl ?_
  cases hf
  exact ik_iretR C hr hlk dX7_loose_4
theorem mv_X7_weak : ik_V yX7_weak RX7 cX7_weak 1 (some .int) 0 := ⟨wl_23_1, wl_23_2, wl_1_5, wl_23_3, by decide +kernel⟩
set_option maxHeartbeats 4000000 in
set_option maxRecDepth 100000 in
theorem c_X7_weak (l : Launch) (D : va_G) (cI cS : ClassId) (h0 h1 h2 h3 h4 h5 h6 h7 h8 h9 h10 h11 : Nat) (misKept : Int32) (mtaped : Int32) (msort : Int32) (mfrom : Int32) (mto : Int32) (mvalue : Int32) (mbad : Int32) (mm : Nat → Int32) (mkept : Nat → Int32) (mwas : Nat → Int32) (mother : Nat → Int32) (mfound : Nat → Int32) (mwarm : Nat → Int32) (mdrip : Nat → Int32) (mtape : Nat → Int32) (mbits : Nat → Int32) (msize : Nat → Int32) (mnumber : Nat → Int32) (R : Int32) (hf : f_X7_weak mm = some (R)) : Met l yX7_weak (ik_ws yX7_weak cX7_weak 1 (some .int)) ({ frames := 4, cells := 0, slots := 0, locals := 88 } : Room) (ik_P D cI cS [.ref h0] (wz_X7 cI cS h0 h1 h2 h3 h4 h5 h6 h7 h8 h9 h10 h11 misKept mtaped msort mfrom mto mvalue mbad mm mkept mwas mother mfound mwarm mdrip mtape mbits msize mnumber)) (ik_R (some (.int R))) 0 0 ik_no := by
  refine ik_metR RX7 rfl (by decide) (Nat.le_of_ble_eq_true rfl) [(0, .ref h0)] rfl ?_
  intro p e s m below meth c C hr hlk
  unfold f_X7_weak at hf
  refine ik_aload_n C 0 rfl rfl dX7_weak_0 ?_
  obtain ⟨r1, hc1, hf⟩ := ik_b1s hf
  refine ik_goR (ik_runV C (c_X7_weakNow l D cI cS h0 h1 h2 h3 h4 h5 h6 h7 h8 h9 h10 h11 misKept mtaped msort mfrom mto mvalue mbad mm mkept mwas mother mfound mwarm mdrip mtape mbits msize mnumber r1 hc1) mv_X7_weakNow wl_21_18 ⟨rfl, rfl, Nat.le_of_ble_eq_true rfl, Nat.le_of_ble_eq_true rfl⟩ [0, 1, 2, 3, 4, 5, 6, 7, 8, 9, 10, 11] rfl (by decide) 0 rfl rfl rfl rfl (Nat.le_of_ble_eq_true rfl) dX7_weak_1) rfl ?_
  cases hf
  exact ik_iretR C hr hlk dX7_weak_4
theorem mv_X7_allGrains : ik_V yX7_allGrains RX7 cX7_allGrains 3 (some .int) 0 := ⟨wl_25_2, wl_25_3, wl_1_5, wl_25_4, by decide +kernel⟩
set_option maxHeartbeats 4000000 in
set_option maxRecDepth 100000 in
theorem c_X7_allGrains (l : Launch) (D : va_G) (cI cS : ClassId) (h0 h1 h2 h3 h4 h5 h6 h7 h8 h9 h10 h11 : Nat) (misKept : Int32) (mtaped : Int32) (msort : Int32) (mfrom : Int32) (mto : Int32) (mvalue : Int32) (mbad : Int32) (mm : Nat → Int32) (mkept : Nat → Int32) (mwas : Nat → Int32) (mother : Nat → Int32) (mfound : Nat → Int32) (mwarm : Nat → Int32) (mdrip : Nat → Int32) (mtape : Nat → Int32) (mbits : Nat → Int32) (msize : Nat → Int32) (mnumber : Nat → Int32) (R : Int32) (hf : f_X7_allGrains mm = some (R)) : Met l yX7_allGrains (ik_ws yX7_allGrains cX7_allGrains 3 (some .int)) ({ frames := 1, cells := 0, slots := 0, locals := 21 } : Room) (ik_P D cI cS [.ref h0] (wz_X7 cI cS h0 h1 h2 h3 h4 h5 h6 h7 h8 h9 h10 h11 misKept mtaped msort mfrom mto mvalue mbad mm mkept mwas mother mfound mwarm mdrip mtape mbits msize mnumber)) (ik_R (some (.int R))) 0 0 ik_no := by
  refine ik_metR RX7 rfl (by decide) (Nat.le_of_ble_eq_true rfl) [(0, .ref h0)] rfl ?_
  intro p e s m below meth c C hr hlk
  unfold f_X7_allGrains at hf
  refine ik_iconst (v := (0 : Int32)) C (by decide) dX7_allGrains_0 ?_
  refine ik_istore_n C [(1, .int (0 : Int32)), (0, .ref h0)] rfl (by decide) rfl dX7_allGrains_1 ?_
  refine ik_iconst (v := (0 : Int32)) C (by decide) dX7_allGrains_2 ?_
  refine ik_istore_n C [(2, .int (0 : Int32)), (1, .int (0 : Int32)), (0, .ref h0)] rfl (by decide) rfl dX7_allGrains_3 ?_
  have hL_4 : ∀ (n_4 : Nat) (x1_4 : Int32) (x2_4 : Int32), ik_lp2 (b_X7_allGrains_4 mm) n_4 x1_4 x2_4 = some (R) → ik_G p l e ({ frames := 1, cells := 0, slots := 0, locals := 21 } : Room) s m ([.ref h0] : List Value).toArray below meth c D ik_no (fun _ => True) 3 (MQ below (ik_R (some (.int R))) ([.ref h0] : List Value).toArray s 0 0 ik_no) 4 [(2, .int x2_4), (1, .int x1_4), (0, .ref h0)] [] (wz_X7 cI cS h0 h1 h2 h3 h4 h5 h6 h7 h8 h9 h10 h11 misKept mtaped msort mfrom mto mvalue mbad mm mkept mwas mother mfound mwarm mdrip mtape mbits msize mnumber) := by
    intro n_4
    induction n_4 with
    | zero => intro _ _ hf; exact nomatch hf
    | succ n_4 ih_4 =>
      intro x1_4 x2_4 hf
      replace hf : b_X7_allGrains_4 mm (ik_lp2 (b_X7_allGrains_4 mm) n_4) x1_4 x2_4 = some (R) := hf
      unfold b_X7_allGrains_4 at hf
      refine ik_iload_n C 0 rfl rfl dX7_allGrains_4 ?_
      refine ik_aload_n C 2 rfl rfl dX7_allGrains_5 ?_
      refine ik_get C inlX7 0 rfl rfl 0 (by decide) wl_4_12 rfl (v := .ref h1) rfl dX7_allGrains_6 ?_
      refine ik_iconst (v := (5 : Int32)) C (by decide) dX7_allGrains_9 ?_
      refine ik_iald C 1 rfl (ik_vin (by decide)) dX7_allGrains_10 ?_
      refine ik_icmp_ge C 28 dX7_allGrains_11 (by decide) (fun hc => ?_) (fun hc => ?_)
      · have hf := ik_pos hc hf
        refine ik_iload_n C 1 rfl rfl dX7_allGrains_28 ?_
        cases hf
        exact ik_iretR C hr hlk dX7_allGrains_29
      · have hf := ik_neg hc hf
        refine ik_iload_n C 1 rfl rfl dX7_allGrains_14 ?_
        refine ik_aload_n C 2 rfl rfl dX7_allGrains_15 ?_
        refine ik_iload_n C 0 rfl rfl dX7_allGrains_16 ?_
        obtain ⟨r1, hc1, hf⟩ := ik_b1s hf
        refine ik_goR (ik_runV C (c_X7_grains l D cI cS h0 h1 h2 h3 h4 h5 h6 h7 h8 h9 h10 h11 misKept mtaped msort mfrom mto mvalue mbad mm mkept mwas mother mfound mwarm mdrip mtape mbits msize mnumber x2_4 r1 hc1) mv_X7_grains wl_10_1 ⟨rfl, rfl, Nat.le_of_ble_eq_true rfl, Nat.le_of_ble_eq_true rfl⟩ [0, 1, 2, 3, 4, 5, 6, 7, 8, 9, 10, 11] rfl (by decide) 0 rfl rfl rfl rfl (Nat.le_of_ble_eq_true rfl) dX7_allGrains_17) rfl ?_
        refine ik_iadd C dX7_allGrains_20 ?_
        refine ik_istore_n C [(1, .int (x1_4 + r1)), (2, .int x2_4), (0, .ref h0)] rfl (by decide) rfl dX7_allGrains_21 ?_
        refine ik_iinc C [(2, .int (x2_4 + (1 : Int32))), (1, .int (x1_4 + r1)), (0, .ref h0)] 1 rfl rfl (by decide) rfl dX7_allGrains_22 ?_
        refine ik_goto C 4 dX7_allGrains_25 (by decide) ?_
        exact ik_sub [0, 1, 2] [(2, .int (x2_4 + (1 : Int32))), (1, .int (x1_4 + r1)), (0, .ref h0)] rfl (ih_4 (x1_4 + r1) (x2_4 + (1 : Int32)) hf)
  exact hL_4 ik_fu (0 : Int32) (0 : Int32) hf
theorem mv_X7_ahead : ik_V yX7_ahead RX7 cX7_ahead 5 (some .int) 2 := ⟨wl_24_17, wl_24_18, wl_1_5, wl_24_19, by decide +kernel⟩
set_option maxHeartbeats 4000000 in
set_option maxRecDepth 100000 in
theorem c_X7_ahead (l : Launch) (D : va_G) (cI cS : ClassId) (h0 h1 h2 h3 h4 h5 h6 h7 h8 h9 h10 h11 : Nat) (misKept : Int32) (mtaped : Int32) (msort : Int32) (mfrom : Int32) (mto : Int32) (mvalue : Int32) (mbad : Int32) (mm : Nat → Int32) (mkept : Nat → Int32) (mwas : Nat → Int32) (mother : Nat → Int32) (mfound : Nat → Int32) (mwarm : Nat → Int32) (mdrip : Nat → Int32) (mtape : Nat → Int32) (mbits : Nat → Int32) (msize : Nat → Int32) (mnumber : Nat → Int32) (x1 : Int32) (x2 : Int32) (R : Int32) (mm_r : Nat → Int32) (mwas_r : Nat → Int32) (mfound_r : Nat → Int32) (mwarm_r : Nat → Int32) (mdrip_r : Nat → Int32) (hf : f_X7_ahead mm mwas mfound mwarm mdrip x1 x2 = some (R, mm_r, mwas_r, mfound_r, mwarm_r, mdrip_r)) : Met l yX7_ahead (ik_ws yX7_ahead cX7_ahead 5 (some .int)) ({ frames := 8, cells := 0, slots := 0, locals := 180 } : Room) (ik_P D cI cS [.ref h0, .int x1, .int x2] (wz_X7 cI cS h0 h1 h2 h3 h4 h5 h6 h7 h8 h9 h10 h11 misKept mtaped msort mfrom mto mvalue mbad mm mkept mwas mother mfound mwarm mdrip mtape mbits msize mnumber)) (ik_Q (some (.int R)) D (wz_X7 cI cS h0 h1 h2 h3 h4 h5 h6 h7 h8 h9 h10 h11 misKept mtaped msort mfrom mto mvalue mbad mm_r mkept mwas_r mother mfound_r mwarm_r mdrip_r mtape mbits msize mnumber) (wz_X7 cI cS h0 h1 h2 h3 h4 h5 h6 h7 h8 h9 h10 h11 misKept mtaped msort mfrom mto mvalue mbad mm mkept mwas mother mfound mwarm mdrip mtape mbits msize mnumber)) 0 0 (ik_in (wz_X7 cI cS h0 h1 h2 h3 h4 h5 h6 h7 h8 h9 h10 h11 misKept mtaped msort mfrom mto mvalue mbad mm mkept mwas mother mfound mwarm mdrip mtape mbits msize mnumber)) := by
  refine ik_metW RX7 rfl (by decide) (Nat.le_of_ble_eq_true rfl) [(0, .ref h0), (1, .int x1), (2, .int x2)] rfl ?_
  intro p e s m below meth c C hr hlk
  unfold f_X7_ahead at hf
  refine ik_iload_n C 1 rfl rfl dX7_ahead_0 ?_
  refine ik_i2l C dX7_ahead_1 ?_
  refine ik_lconst (v := (0 : Int64)) C (by decide) dX7_ahead_2 ?_
  refine ik_ldc2 C wl_24_20 dX7_ahead_3 ?_
  obtain ⟨r1, hc1, hf⟩ := ik_b1s hf
  refine ik_goR (ik_runS C (c_X7_in l D cI cS (x1).toInt64 (0 : Int64) (96 : Int64) r1 hc1) ms_X7_in wl_6_21 ⟨rfl, rfl, Nat.le_of_ble_eq_true rfl, Nat.le_of_ble_eq_true rfl⟩ [] rfl (by decide) rfl rfl (Nat.le_of_ble_eq_true rfl) dX7_ahead_6) rfl ?_
  refine ik_if_eq C 24 dX7_ahead_9 (by decide) (fun hc => ?_) (fun hc => ?_)
  · have hf := ik_pos hc hf
    refine ik_aload_n C 0 rfl rfl dX7_ahead_24 ?_
    refine ik_ldc C wl_6_14 dX7_ahead_25 ?_
    obtain ⟨r2, g3, hc3, hf⟩ := ik_b2s hf
    refine ik_goW [0, 1, 2, 3, 4, 5, 6, 7, 8, 9, 10, 11] rfl rfl (wz_X7 cI cS h0 h1 h2 h3 h4 h5 h6 h7 h8 h9 h10 h11 misKept mtaped msort mfrom mto mvalue mbad mm mkept mwas mother g3 mwarm mdrip mtape mbits msize mnumber) rfl (ik_runV C (c_X7_finds l D cI cS h0 h1 h2 h3 h4 h5 h6 h7 h8 h9 h10 h11 misKept mtaped msort mfrom mto mvalue mbad mm mkept mwas mother mfound mwarm mdrip mtape mbits msize mnumber (-1000001 : Int32) r2 g3 hc3) mv_X7_finds wl_7_8 ⟨rfl, rfl, Nat.le_of_ble_eq_true rfl, Nat.le_of_ble_eq_true rfl⟩ [0, 1, 2, 3, 4, 5, 6, 7, 8, 9, 10, 11] rfl (by decide) 0 rfl rfl rfl rfl (Nat.le_of_ble_eq_true rfl) dX7_ahead_27) rfl ?_
    cases hf
    exact ik_iretW C hr hlk dX7_ahead_30
  · have hf := ik_neg hc hf
    refine ik_iload_n C 2 rfl rfl dX7_ahead_12 ?_
    refine ik_i2l C dX7_ahead_13 ?_
    refine ik_lconst (v := (0 : Int64)) C (by decide) dX7_ahead_14 ?_
    refine ik_ldc2 C wl_24_21 dX7_ahead_15 ?_
    obtain ⟨r2, hc2, hf⟩ := ik_b1s hf
    refine ik_goR (ik_runS C (c_X7_in l D cI cS (x2).toInt64 (0 : Int64) (4 : Int64) r2 hc2) ms_X7_in wl_6_21 ⟨rfl, rfl, Nat.le_of_ble_eq_true rfl, Nat.le_of_ble_eq_true rfl⟩ [] rfl (by decide) rfl rfl (Nat.le_of_ble_eq_true rfl) dX7_ahead_18) rfl ?_
    refine ik_if_ne C 31 dX7_ahead_21 (by decide) (fun hc => ?_) (fun hc => ?_)
    · have hf := ik_neg hc hf
      refine ik_aload_n C 0 rfl rfl dX7_ahead_31 ?_
      refine ik_get C inlX7 0 rfl rfl 0 (by decide) wl_4_12 rfl (v := .ref h1) rfl dX7_ahead_32 ?_
      refine ik_iconst (v := (0 : Int32)) C (by decide) dX7_ahead_35 ?_
      refine ik_iald C 1 rfl (ik_vin (by decide)) dX7_ahead_36 ?_
      refine ik_iload_n C 1 rfl rfl dX7_ahead_37 ?_
      refine ik_iadd C dX7_ahead_38 ?_
      refine ik_sipush (v := (9999 : Int32)) C (by decide) dX7_ahead_39 ?_
      refine ik_icmp_le C 52 dX7_ahead_42 (by decide) (fun hc => ?_) (fun hc => ?_)
      · have hf := ik_pos hc hf
        refine ik_aload_n C 0 rfl rfl dX7_ahead_52 ?_
        refine ik_get C inlX7 0 rfl rfl 0 (by decide) wl_4_12 rfl (v := .ref h1) rfl dX7_ahead_53 ?_
        refine ik_aload_n C 0 rfl rfl dX7_ahead_56 ?_
        refine ik_get C inlX7 0 rfl rfl 2 (by decide) wl_4_14 rfl (v := .ref h3) rfl dX7_ahead_57 ?_
        obtain ⟨g3, hc3, hf⟩ := ik_b1s hf
        refine ik_goW [1, 3] rfl rfl (wz_X7 cI cS h0 h1 h2 h3 h4 h5 h6 h7 h8 h9 h10 h11 misKept mtaped msort mfrom mto mvalue mbad mm mkept g3 mother mfound mwarm mdrip mtape mbits msize mnumber) rfl (ik_runS C (c_X7_row l D cI cS h1 h3 mm mwas g3 hc3) ms_X7_row wl_24_22 ⟨rfl, rfl, Nat.le_of_ble_eq_true rfl, Nat.le_of_ble_eq_true rfl⟩ [1, 3] rfl (by decide) rfl rfl (Nat.le_of_ble_eq_true rfl) dX7_ahead_60) rfl ?_
        refine ik_aload_n C 0 rfl rfl dX7_ahead_63 ?_
        obtain ⟨r4, hc4, hf⟩ := ik_b1s hf
        refine ik_goR (ik_runV C (c_X7_goneNow l D cI cS h0 h1 h2 h3 h4 h5 h6 h7 h8 h9 h10 h11 misKept mtaped msort mfrom mto mvalue mbad mm mkept g3 mother mfound mwarm mdrip mtape mbits msize mnumber r4 hc4) mv_X7_goneNow wl_20_14 ⟨rfl, rfl, Nat.le_of_ble_eq_true rfl, Nat.le_of_ble_eq_true rfl⟩ [0, 1, 2, 3, 4, 5, 6, 7, 8, 9, 10, 11] rfl (by decide) 0 rfl rfl rfl rfl (Nat.le_of_ble_eq_true rfl) dX7_ahead_64) rfl ?_
        refine ik_istore_n C [(3, .int r4), (0, .ref h0), (1, .int x1), (2, .int x2)] rfl (by decide) rfl dX7_ahead_67 ?_
        refine ik_iconst (v := (0 : Int32)) C (by decide) dX7_ahead_68 ?_
        refine ik_istore C [(4, .int (0 : Int32)), (3, .int r4), (0, .ref h0), (1, .int x1), (2, .int x2)] (by decide) rfl dX7_ahead_69 ?_
        have hL_71 : ∀ (n_71 : Nat) (mm_71 : Nat → Int32) (mwarm_71 : Nat → Int32) (mdrip_71 : Nat → Int32) (x4_71 : Int32), ik_lp4 (b_X7_ahead_71 mfound x1 x2 g3 r4) n_71 mm_71 mwarm_71 mdrip_71 x4_71 = some (R, mm_r, mwas_r, mfound_r, mwarm_r, mdrip_r) → ik_G p l e ({ frames := 8, cells := 0, slots := 0, locals := 180 } : Room) s m ([.ref h0, .int x1, .int x2] : List Value).toArray below meth c D (ik_in (wz_X7 cI cS h0 h1 h2 h3 h4 h5 h6 h7 h8 h9 h10 h11 misKept mtaped msort mfrom mto mvalue mbad mm mkept mwas mother mfound mwarm mdrip mtape mbits msize mnumber)) (ik_in (wz_X7 cI cS h0 h1 h2 h3 h4 h5 h6 h7 h8 h9 h10 h11 misKept mtaped msort mfrom mto mvalue mbad mm mkept mwas mother mfound mwarm mdrip mtape mbits msize mnumber)) 5 (MQ below (ik_Q (some (.int R)) D (wz_X7 cI cS h0 h1 h2 h3 h4 h5 h6 h7 h8 h9 h10 h11 misKept mtaped msort mfrom mto mvalue mbad mm_r mkept mwas_r mother mfound_r mwarm_r mdrip_r mtape mbits msize mnumber) (wz_X7 cI cS h0 h1 h2 h3 h4 h5 h6 h7 h8 h9 h10 h11 misKept mtaped msort mfrom mto mvalue mbad mm mkept mwas mother mfound mwarm mdrip mtape mbits msize mnumber)) ([.ref h0, .int x1, .int x2] : List Value).toArray s 0 0 (ik_in (wz_X7 cI cS h0 h1 h2 h3 h4 h5 h6 h7 h8 h9 h10 h11 misKept mtaped msort mfrom mto mvalue mbad mm mkept mwas mother mfound mwarm mdrip mtape mbits msize mnumber))) 71 [(4, .int x4_71), (3, .int r4), (0, .ref h0), (1, .int x1), (2, .int x2)] [] (wz_X7 cI cS h0 h1 h2 h3 h4 h5 h6 h7 h8 h9 h10 h11 misKept mtaped msort mfrom mto mvalue mbad mm_71 mkept g3 mother mfound mwarm_71 mdrip_71 mtape mbits msize mnumber) := by
          intro n_71
          induction n_71 with
          | zero => intro _ _ _ _ hf; exact nomatch hf
          | succ n_71 ih_71 =>
            intro mm_71 mwarm_71 mdrip_71 x4_71 hf
            replace hf : b_X7_ahead_71 mfound x1 x2 g3 r4 (ik_lp4 (b_X7_ahead_71 mfound x1 x2 g3 r4) n_71) mm_71 mwarm_71 mdrip_71 x4_71 = some (R, mm_r, mwas_r, mfound_r, mwarm_r, mdrip_r) := hf
            unfold b_X7_ahead_71 at hf
            refine ik_iload C 0 rfl dX7_ahead_71 ?_
            refine ik_iload_n C 3 rfl rfl dX7_ahead_73 ?_
            refine ik_icmp_ge C 87 dX7_ahead_74 (by decide) (fun hc => ?_) (fun hc => ?_)
            · have hf := ik_pos hc hf
              refine ik_iload_n C 4 rfl rfl dX7_ahead_87 ?_
              refine ik_if_ne C 105 dX7_ahead_88 (by decide) (fun hc => ?_) (fun hc => ?_)
              · have hf := ik_neg hc hf
                refine ik_iload_n C 4 rfl rfl dX7_ahead_105 ?_
                refine ik_iconst (v := (1 : Int32)) C (by decide) dX7_ahead_106 ?_
                refine ik_icmp_ne C 117 dX7_ahead_107 (by decide) (fun hc => ?_) (fun hc => ?_)
                · have hf := ik_neg hc hf
                  refine ik_iload_n C 4 rfl rfl dX7_ahead_117 ?_
                  refine ik_iconst (v := (2 : Int32)) C (by decide) dX7_ahead_118 ?_
                  refine ik_icmp_ne C 131 dX7_ahead_119 (by decide) (fun hc => ?_) (fun hc => ?_)
                  · have hf := ik_neg hc hf
                    refine ik_iload_n C 4 rfl rfl dX7_ahead_131 ?_
                    refine ik_iconst (v := (3 : Int32)) C (by decide) dX7_ahead_132 ?_
                    refine ik_icmp_ne C 145 dX7_ahead_133 (by decide) (fun hc => ?_) (fun hc => ?_)
                    · have hf := ik_neg hc hf
                      refine ik_aload_n C 2 rfl rfl dX7_ahead_145 ?_
                      obtain ⟨r5, hc5, hf⟩ := ik_b1s hf
                      refine ik_goR (ik_runV C (c_X7_goneNow l D cI cS h0 h1 h2 h3 h4 h5 h6 h7 h8 h9 h10 h11 misKept mtaped msort mfrom mto mvalue mbad mm_71 mkept g3 mother mfound mwarm_71 mdrip_71 mtape mbits msize mnumber r5 hc5) mv_X7_goneNow wl_20_14 ⟨rfl, rfl, Nat.le_of_ble_eq_true rfl, Nat.le_of_ble_eq_true rfl⟩ [0, 1, 2, 3, 4, 5, 6, 7, 8, 9, 10, 11] rfl (by decide) 0 rfl rfl rfl rfl (Nat.le_of_ble_eq_true rfl) dX7_ahead_146) rfl ?_
                      refine ik_istore C [(4, .int r5), (3, .int r4), (0, .ref h0), (1, .int x1), (2, .int x2)] (by decide) rfl dX7_ahead_149 ?_
                      refine ik_aload_n C 2 rfl rfl dX7_ahead_151 ?_
                      refine ik_get C inlX7 0 rfl rfl 2 (by decide) wl_4_14 rfl (v := .ref h3) rfl dX7_ahead_152 ?_
                      refine ik_aload_n C 2 rfl rfl dX7_ahead_155 ?_
                      refine ik_get C inlX7 0 rfl rfl 0 (by decide) wl_4_12 rfl (v := .ref h1) rfl dX7_ahead_156 ?_
                      obtain ⟨g6, hc6, hf⟩ := ik_b1s hf
                      refine ik_goW [3, 1] rfl rfl (wz_X7 cI cS h0 h1 h2 h3 h4 h5 h6 h7 h8 h9 h10 h11 misKept mtaped msort mfrom mto mvalue mbad g6 mkept g3 mother mfound mwarm_71 mdrip_71 mtape mbits msize mnumber) rfl (ik_runS C (c_X7_row l D cI cS h3 h1 g3 mm_71 g6 hc6) ms_X7_row wl_24_22 ⟨rfl, rfl, Nat.le_of_ble_eq_true rfl, Nat.le_of_ble_eq_true rfl⟩ [3, 1] rfl (by decide) rfl rfl (Nat.le_of_ble_eq_true rfl) dX7_ahead_159) rfl ?_
                      refine ik_iload C 0 rfl dX7_ahead_162 ?_
                      cases hf
                      exact ik_iretW C hr hlk dX7_ahead_164
                    · have hf := ik_pos hc hf
                      refine ik_aload_n C 2 rfl rfl dX7_ahead_136 ?_
                      refine ik_get C inlX7 0 rfl rfl 0 (by decide) wl_4_12 rfl (v := .ref h1) rfl dX7_ahead_137 ?_
                      refine ik_iconst (v := (3 : Int32)) C (by decide) dX7_ahead_140 ?_
                      refine ik_iald C 1 rfl (ik_vin (by decide)) dX7_ahead_141 ?_
                      refine ik_goto C 149 dX7_ahead_142 (by decide) ?_
                      refine ik_istore C [(4, .int (mm_71 ((3 : Int32)).toNatClampNeg)), (3, .int r4), (0, .ref h0), (1, .int x1), (2, .int x2)] (by decide) rfl dX7_ahead_149 ?_
                      refine ik_aload_n C 2 rfl rfl dX7_ahead_151 ?_
                      refine ik_get C inlX7 0 rfl rfl 2 (by decide) wl_4_14 rfl (v := .ref h3) rfl dX7_ahead_152 ?_
                      refine ik_aload_n C 2 rfl rfl dX7_ahead_155 ?_
                      refine ik_get C inlX7 0 rfl rfl 0 (by decide) wl_4_12 rfl (v := .ref h1) rfl dX7_ahead_156 ?_
                      obtain ⟨g5, hc5, hf⟩ := ik_b1s hf
                      refine ik_goW [3, 1] rfl rfl (wz_X7 cI cS h0 h1 h2 h3 h4 h5 h6 h7 h8 h9 h10 h11 misKept mtaped msort mfrom mto mvalue mbad g5 mkept g3 mother mfound mwarm_71 mdrip_71 mtape mbits msize mnumber) rfl (ik_runS C (c_X7_row l D cI cS h3 h1 g3 mm_71 g5 hc5) ms_X7_row wl_24_22 ⟨rfl, rfl, Nat.le_of_ble_eq_true rfl, Nat.le_of_ble_eq_true rfl⟩ [3, 1] rfl (by decide) rfl rfl (Nat.le_of_ble_eq_true rfl) dX7_ahead_159) rfl ?_
                      refine ik_iload C 0 rfl dX7_ahead_162 ?_
                      cases hf
                      exact ik_iretW C hr hlk dX7_ahead_164
                  · have hf := ik_pos hc hf
                    refine ik_aload_n C 2 rfl rfl dX7_ahead_122 ?_
                    refine ik_get C inlX7 0 rfl rfl 0 (by decide) wl_4_12 rfl (v := .ref h1) rfl dX7_ahead_123 ?_
                    refine ik_iconst (v := (2 : Int32)) C (by decide) dX7_ahead_126 ?_
                    refine ik_iald C 1 rfl (ik_vin (by decide)) dX7_ahead_127 ?_
                    refine ik_goto C 149 dX7_ahead_128 (by decide) ?_
                    refine ik_istore C [(4, .int (mm_71 ((2 : Int32)).toNatClampNeg)), (3, .int r4), (0, .ref h0), (1, .int x1), (2, .int x2)] (by decide) rfl dX7_ahead_149 ?_
                    refine ik_aload_n C 2 rfl rfl dX7_ahead_151 ?_
                    refine ik_get C inlX7 0 rfl rfl 2 (by decide) wl_4_14 rfl (v := .ref h3) rfl dX7_ahead_152 ?_
                    refine ik_aload_n C 2 rfl rfl dX7_ahead_155 ?_
                    refine ik_get C inlX7 0 rfl rfl 0 (by decide) wl_4_12 rfl (v := .ref h1) rfl dX7_ahead_156 ?_
                    obtain ⟨g5, hc5, hf⟩ := ik_b1s hf
                    refine ik_goW [3, 1] rfl rfl (wz_X7 cI cS h0 h1 h2 h3 h4 h5 h6 h7 h8 h9 h10 h11 misKept mtaped msort mfrom mto mvalue mbad g5 mkept g3 mother mfound mwarm_71 mdrip_71 mtape mbits msize mnumber) rfl (ik_runS C (c_X7_row l D cI cS h3 h1 g3 mm_71 g5 hc5) ms_X7_row wl_24_22 ⟨rfl, rfl, Nat.le_of_ble_eq_true rfl, Nat.le_of_ble_eq_true rfl⟩ [3, 1] rfl (by decide) rfl rfl (Nat.le_of_ble_eq_true rfl) dX7_ahead_159) rfl ?_
                    refine ik_iload C 0 rfl dX7_ahead_162 ?_
                    cases hf
                    exact ik_iretW C hr hlk dX7_ahead_164
                · have hf := ik_pos hc hf
                  refine ik_aload_n C 2 rfl rfl dX7_ahead_110 ?_
                  obtain ⟨r5, hc5, hf⟩ := ik_b1s hf
                  refine ik_goR (ik_runV C (c_X7_allGrains l D cI cS h0 h1 h2 h3 h4 h5 h6 h7 h8 h9 h10 h11 misKept mtaped msort mfrom mto mvalue mbad mm_71 mkept g3 mother mfound mwarm_71 mdrip_71 mtape mbits msize mnumber r5 hc5) mv_X7_allGrains wl_25_1 ⟨rfl, rfl, Nat.le_of_ble_eq_true rfl, Nat.le_of_ble_eq_true rfl⟩ [0, 1, 2, 3, 4, 5, 6, 7, 8, 9, 10, 11] rfl (by decide) 0 rfl rfl rfl rfl (Nat.le_of_ble_eq_true rfl) dX7_ahead_111) rfl ?_
                  refine ik_goto C 149 dX7_ahead_114 (by decide) ?_
                  refine ik_istore C [(4, .int r5), (3, .int r4), (0, .ref h0), (1, .int x1), (2, .int x2)] (by decide) rfl dX7_ahead_149 ?_
                  refine ik_aload_n C 2 rfl rfl dX7_ahead_151 ?_
                  refine ik_get C inlX7 0 rfl rfl 2 (by decide) wl_4_14 rfl (v := .ref h3) rfl dX7_ahead_152 ?_
                  refine ik_aload_n C 2 rfl rfl dX7_ahead_155 ?_
                  refine ik_get C inlX7 0 rfl rfl 0 (by decide) wl_4_12 rfl (v := .ref h1) rfl dX7_ahead_156 ?_
                  obtain ⟨g6, hc6, hf⟩ := ik_b1s hf
                  refine ik_goW [3, 1] rfl rfl (wz_X7 cI cS h0 h1 h2 h3 h4 h5 h6 h7 h8 h9 h10 h11 misKept mtaped msort mfrom mto mvalue mbad g6 mkept g3 mother mfound mwarm_71 mdrip_71 mtape mbits msize mnumber) rfl (ik_runS C (c_X7_row l D cI cS h3 h1 g3 mm_71 g6 hc6) ms_X7_row wl_24_22 ⟨rfl, rfl, Nat.le_of_ble_eq_true rfl, Nat.le_of_ble_eq_true rfl⟩ [3, 1] rfl (by decide) rfl rfl (Nat.le_of_ble_eq_true rfl) dX7_ahead_159) rfl ?_
                  refine ik_iload C 0 rfl dX7_ahead_162 ?_
                  cases hf
                  exact ik_iretW C hr hlk dX7_ahead_164
              · have hf := ik_pos hc hf
                refine ik_aload_n C 2 rfl rfl dX7_ahead_91 ?_
                obtain ⟨r5, hc5, hf⟩ := ik_b1s hf
                refine ik_goR (ik_runV C (c_X7_goneNow l D cI cS h0 h1 h2 h3 h4 h5 h6 h7 h8 h9 h10 h11 misKept mtaped msort mfrom mto mvalue mbad mm_71 mkept g3 mother mfound mwarm_71 mdrip_71 mtape mbits msize mnumber r5 hc5) mv_X7_goneNow wl_20_14 ⟨rfl, rfl, Nat.le_of_ble_eq_true rfl, Nat.le_of_ble_eq_true rfl⟩ [0, 1, 2, 3, 4, 5, 6, 7, 8, 9, 10, 11] rfl (by decide) 0 rfl rfl rfl rfl (Nat.le_of_ble_eq_true rfl) dX7_ahead_92) rfl ?_
                refine ik_iload_n C 1 rfl rfl dX7_ahead_95 ?_
                refine ik_iconst (v := (-1 : Int32)) C (by decide) dX7_ahead_96 ?_
                refine ik_ixor C dX7_ahead_97 ?_
                refine ik_iand C dX7_ahead_98 ?_
                obtain ⟨r6, hc6, hf⟩ := ik_b1s hf
                refine ik_goR (ik_runS C (c_X7_many l D cI cS (r5 &&& (r4 ^^^ (-1 : Int32))) r6 hc6) ms_X7_many wl_21_22 ⟨rfl, rfl, Nat.le_of_ble_eq_true rfl, Nat.le_of_ble_eq_true rfl⟩ [] rfl (by decide) rfl rfl (Nat.le_of_ble_eq_true rfl) dX7_ahead_99) rfl ?_
                refine ik_goto C 149 dX7_ahead_102 (by decide) ?_
                refine ik_istore C [(4, .int r6), (3, .int r4), (0, .ref h0), (1, .int x1), (2, .int x2)] (by decide) rfl dX7_ahead_149 ?_
                refine ik_aload_n C 2 rfl rfl dX7_ahead_151 ?_
                refine ik_get C inlX7 0 rfl rfl 2 (by decide) wl_4_14 rfl (v := .ref h3) rfl dX7_ahead_152 ?_
                refine ik_aload_n C 2 rfl rfl dX7_ahead_155 ?_
                refine ik_get C inlX7 0 rfl rfl 0 (by decide) wl_4_12 rfl (v := .ref h1) rfl dX7_ahead_156 ?_
                obtain ⟨g7, hc7, hf⟩ := ik_b1s hf
                refine ik_goW [3, 1] rfl rfl (wz_X7 cI cS h0 h1 h2 h3 h4 h5 h6 h7 h8 h9 h10 h11 misKept mtaped msort mfrom mto mvalue mbad g7 mkept g3 mother mfound mwarm_71 mdrip_71 mtape mbits msize mnumber) rfl (ik_runS C (c_X7_row l D cI cS h3 h1 g3 mm_71 g7 hc7) ms_X7_row wl_24_22 ⟨rfl, rfl, Nat.le_of_ble_eq_true rfl, Nat.le_of_ble_eq_true rfl⟩ [3, 1] rfl (by decide) rfl rfl (Nat.le_of_ble_eq_true rfl) dX7_ahead_159) rfl ?_
                refine ik_iload C 0 rfl dX7_ahead_162 ?_
                cases hf
                exact ik_iretW C hr hlk dX7_ahead_164
            · have hf := ik_neg hc hf
              refine ik_aload_n C 2 rfl rfl dX7_ahead_77 ?_
              obtain ⟨g5, g6, g7, hc7, hf⟩ := ik_b3s hf
              refine ik_goW [0, 1, 2, 3, 4, 5, 6, 7, 8, 9, 10, 11] rfl rfl (wz_X7 cI cS h0 h1 h2 h3 h4 h5 h6 h7 h8 h9 h10 h11 misKept mtaped msort mfrom mto mvalue mbad g5 mkept g3 mother mfound g6 g7 mtape mbits msize mnumber) rfl (ik_runV C (c_X7_hour l D cI cS h0 h1 h2 h3 h4 h5 h6 h7 h8 h9 h10 h11 misKept mtaped msort mfrom mto mvalue mbad mm_71 mkept g3 mother mfound mwarm_71 mdrip_71 mtape mbits msize mnumber g5 g6 g7 hc7) mv_X7_hour wl_20_18 ⟨rfl, rfl, Nat.le_of_ble_eq_true rfl, Nat.le_of_ble_eq_true rfl⟩ [0, 1, 2, 3, 4, 5, 6, 7, 8, 9, 10, 11] rfl (by decide) 0 rfl rfl rfl rfl (Nat.le_of_ble_eq_true rfl) dX7_ahead_78) rfl ?_
              refine ik_iinc C [(4, .int (x4_71 + (1 : Int32))), (3, .int r4), (0, .ref h0), (1, .int x1), (2, .int x2)] 0 rfl rfl (by decide) rfl dX7_ahead_81 ?_
              refine ik_goto C 71 dX7_ahead_84 (by decide) ?_
              exact ik_sub [0, 1, 2, 3, 4] [(4, .int (x4_71 + (1 : Int32))), (3, .int r4), (0, .ref h0), (1, .int x1), (2, .int x2)] rfl (ih_71 g5 g6 g7 (x4_71 + (1 : Int32)) hf)
        exact hL_71 ik_fu mm mwarm mdrip (0 : Int32) hf
      · have hf := ik_neg hc hf
        refine ik_aload_n C 0 rfl rfl dX7_ahead_45 ?_
        refine ik_ldc C wl_6_16 dX7_ahead_46 ?_
        obtain ⟨r3, g4, hc4, hf⟩ := ik_b2s hf
        refine ik_goW [0, 1, 2, 3, 4, 5, 6, 7, 8, 9, 10, 11] rfl rfl (wz_X7 cI cS h0 h1 h2 h3 h4 h5 h6 h7 h8 h9 h10 h11 misKept mtaped msort mfrom mto mvalue mbad mm mkept mwas mother g4 mwarm mdrip mtape mbits msize mnumber) rfl (ik_runV C (c_X7_finds l D cI cS h0 h1 h2 h3 h4 h5 h6 h7 h8 h9 h10 h11 misKept mtaped msort mfrom mto mvalue mbad mm mkept mwas mother mfound mwarm mdrip mtape mbits msize mnumber (-1000005 : Int32) r3 g4 hc4) mv_X7_finds wl_7_8 ⟨rfl, rfl, Nat.le_of_ble_eq_true rfl, Nat.le_of_ble_eq_true rfl⟩ [0, 1, 2, 3, 4, 5, 6, 7, 8, 9, 10, 11] rfl (by decide) 0 rfl rfl rfl rfl (Nat.le_of_ble_eq_true rfl) dX7_ahead_48) rfl ?_
        cases hf
        exact ik_iretW C hr hlk dX7_ahead_51
    · have hf := ik_pos hc hf
      refine ik_aload_n C 0 rfl rfl dX7_ahead_24 ?_
      refine ik_ldc C wl_6_14 dX7_ahead_25 ?_
      obtain ⟨r3, g4, hc4, hf⟩ := ik_b2s hf
      refine ik_goW [0, 1, 2, 3, 4, 5, 6, 7, 8, 9, 10, 11] rfl rfl (wz_X7 cI cS h0 h1 h2 h3 h4 h5 h6 h7 h8 h9 h10 h11 misKept mtaped msort mfrom mto mvalue mbad mm mkept mwas mother g4 mwarm mdrip mtape mbits msize mnumber) rfl (ik_runV C (c_X7_finds l D cI cS h0 h1 h2 h3 h4 h5 h6 h7 h8 h9 h10 h11 misKept mtaped msort mfrom mto mvalue mbad mm mkept mwas mother mfound mwarm mdrip mtape mbits msize mnumber (-1000001 : Int32) r3 g4 hc4) mv_X7_finds wl_7_8 ⟨rfl, rfl, Nat.le_of_ble_eq_true rfl, Nat.le_of_ble_eq_true rfl⟩ [0, 1, 2, 3, 4, 5, 6, 7, 8, 9, 10, 11] rfl (by decide) 0 rfl rfl rfl rfl (Nat.le_of_ble_eq_true rfl) dX7_ahead_27) rfl ?_
      cases hf
      exact ik_iretW C hr hlk dX7_ahead_30
theorem mv_X7_goneIn : ik_V yX7_goneIn RX7 cX7_goneIn 4 (some .int) 2 := ⟨wl_26_0, wl_26_1, wl_1_5, wl_26_2, by decide +kernel⟩
set_option maxHeartbeats 4000000 in
set_option maxRecDepth 100000 in
theorem c_X7_goneIn (l : Launch) (D : va_G) (cI cS : ClassId) (h0 h1 h2 h3 h4 h5 h6 h7 h8 h9 h10 h11 : Nat) (misKept : Int32) (mtaped : Int32) (msort : Int32) (mfrom : Int32) (mto : Int32) (mvalue : Int32) (mbad : Int32) (mm : Nat → Int32) (mkept : Nat → Int32) (mwas : Nat → Int32) (mother : Nat → Int32) (mfound : Nat → Int32) (mwarm : Nat → Int32) (mdrip : Nat → Int32) (mtape : Nat → Int32) (mbits : Nat → Int32) (msize : Nat → Int32) (mnumber : Nat → Int32) (x1 : Int32) (x2 : Int32) (R : Int32) (mm_r : Nat → Int32) (mwas_r : Nat → Int32) (mwarm_r : Nat → Int32) (mdrip_r : Nat → Int32) (hf : f_X7_goneIn mm mwas mwarm mdrip x1 x2 = some (R, mm_r, mwas_r, mwarm_r, mdrip_r)) : Met l yX7_goneIn (ik_ws yX7_goneIn cX7_goneIn 4 (some .int)) ({ frames := 8, cells := 0, slots := 0, locals := 180 } : Room) (ik_P D cI cS [.ref h0, .int x1, .int x2] (wz_X7 cI cS h0 h1 h2 h3 h4 h5 h6 h7 h8 h9 h10 h11 misKept mtaped msort mfrom mto mvalue mbad mm mkept mwas mother mfound mwarm mdrip mtape mbits msize mnumber)) (ik_Q (some (.int R)) D (wz_X7 cI cS h0 h1 h2 h3 h4 h5 h6 h7 h8 h9 h10 h11 misKept mtaped msort mfrom mto mvalue mbad mm_r mkept mwas_r mother mfound mwarm_r mdrip_r mtape mbits msize mnumber) (wz_X7 cI cS h0 h1 h2 h3 h4 h5 h6 h7 h8 h9 h10 h11 misKept mtaped msort mfrom mto mvalue mbad mm mkept mwas mother mfound mwarm mdrip mtape mbits msize mnumber)) 0 0 (ik_in (wz_X7 cI cS h0 h1 h2 h3 h4 h5 h6 h7 h8 h9 h10 h11 misKept mtaped msort mfrom mto mvalue mbad mm mkept mwas mother mfound mwarm mdrip mtape mbits msize mnumber)) := by
  refine ik_metW RX7 rfl (by decide) (Nat.le_of_ble_eq_true rfl) [(0, .ref h0), (1, .int x1), (2, .int x2)] rfl ?_
  intro p e s m below meth c C hr hlk
  unfold f_X7_goneIn at hf
  refine ik_aload_n C 0 rfl rfl dX7_goneIn_0 ?_
  refine ik_get C inlX7 0 rfl rfl 0 (by decide) wl_4_12 rfl (v := .ref h1) rfl dX7_goneIn_1 ?_
  refine ik_aload_n C 0 rfl rfl dX7_goneIn_4 ?_
  refine ik_get C inlX7 0 rfl rfl 2 (by decide) wl_4_14 rfl (v := .ref h3) rfl dX7_goneIn_5 ?_
  obtain ⟨g1, hc1, hf⟩ := ik_b1s hf
  refine ik_goW [1, 3] rfl rfl (wz_X7 cI cS h0 h1 h2 h3 h4 h5 h6 h7 h8 h9 h10 h11 misKept mtaped msort mfrom mto mvalue mbad mm mkept g1 mother mfound mwarm mdrip mtape mbits msize mnumber) rfl (ik_runS C (c_X7_row l D cI cS h1 h3 mm mwas g1 hc1) ms_X7_row wl_24_22 ⟨rfl, rfl, Nat.le_of_ble_eq_true rfl, Nat.le_of_ble_eq_true rfl⟩ [1, 3] rfl (by decide) rfl rfl (Nat.le_of_ble_eq_true rfl) dX7_goneIn_8) rfl ?_
  refine ik_iconst (v := (0 : Int32)) C (by decide) dX7_goneIn_11 ?_
  refine ik_istore_n C [(3, .int (0 : Int32)), (0, .ref h0), (1, .int x1), (2, .int x2)] rfl (by decide) rfl dX7_goneIn_12 ?_
  have hL_13 : ∀ (n_13 : Nat) (mm_13 : Nat → Int32) (mwarm_13 : Nat → Int32) (mdrip_13 : Nat → Int32) (x3_13 : Int32), ik_lp4 (b_X7_goneIn_13 x1 x2 g1) n_13 mm_13 mwarm_13 mdrip_13 x3_13 = some (R, mm_r, mwas_r, mwarm_r, mdrip_r) → ik_G p l e ({ frames := 8, cells := 0, slots := 0, locals := 180 } : Room) s m ([.ref h0, .int x1, .int x2] : List Value).toArray below meth c D (ik_in (wz_X7 cI cS h0 h1 h2 h3 h4 h5 h6 h7 h8 h9 h10 h11 misKept mtaped msort mfrom mto mvalue mbad mm mkept mwas mother mfound mwarm mdrip mtape mbits msize mnumber)) (ik_in (wz_X7 cI cS h0 h1 h2 h3 h4 h5 h6 h7 h8 h9 h10 h11 misKept mtaped msort mfrom mto mvalue mbad mm mkept mwas mother mfound mwarm mdrip mtape mbits msize mnumber)) 4 (MQ below (ik_Q (some (.int R)) D (wz_X7 cI cS h0 h1 h2 h3 h4 h5 h6 h7 h8 h9 h10 h11 misKept mtaped msort mfrom mto mvalue mbad mm_r mkept mwas_r mother mfound mwarm_r mdrip_r mtape mbits msize mnumber) (wz_X7 cI cS h0 h1 h2 h3 h4 h5 h6 h7 h8 h9 h10 h11 misKept mtaped msort mfrom mto mvalue mbad mm mkept mwas mother mfound mwarm mdrip mtape mbits msize mnumber)) ([.ref h0, .int x1, .int x2] : List Value).toArray s 0 0 (ik_in (wz_X7 cI cS h0 h1 h2 h3 h4 h5 h6 h7 h8 h9 h10 h11 misKept mtaped msort mfrom mto mvalue mbad mm mkept mwas mother mfound mwarm mdrip mtape mbits msize mnumber))) 13 [(3, .int x3_13), (0, .ref h0), (1, .int x1), (2, .int x2)] [] (wz_X7 cI cS h0 h1 h2 h3 h4 h5 h6 h7 h8 h9 h10 h11 misKept mtaped msort mfrom mto mvalue mbad mm_13 mkept g1 mother mfound mwarm_13 mdrip_13 mtape mbits msize mnumber) := by
    intro n_13
    induction n_13 with
    | zero => intro _ _ _ _ hf; exact nomatch hf
    | succ n_13 ih_13 =>
      intro mm_13 mwarm_13 mdrip_13 x3_13 hf
      replace hf : b_X7_goneIn_13 x1 x2 g1 (ik_lp4 (b_X7_goneIn_13 x1 x2 g1) n_13) mm_13 mwarm_13 mdrip_13 x3_13 = some (R, mm_r, mwas_r, mwarm_r, mdrip_r) := hf
      unfold b_X7_goneIn_13 at hf
      refine ik_iload_n C 0 rfl rfl dX7_goneIn_13 ?_
      refine ik_iload_n C 3 rfl rfl dX7_goneIn_14 ?_
      refine ik_icmp_gt C 41 dX7_goneIn_15 (by decide) (fun hc => ?_) (fun hc => ?_)
      · have hf := ik_pos hc hf
        refine ik_aload_n C 1 rfl rfl dX7_goneIn_41 ?_
        refine ik_get C inlX7 0 rfl rfl 2 (by decide) wl_4_14 rfl (v := .ref h3) rfl dX7_goneIn_42 ?_
        refine ik_aload_n C 1 rfl rfl dX7_goneIn_45 ?_
        refine ik_get C inlX7 0 rfl rfl 0 (by decide) wl_4_12 rfl (v := .ref h1) rfl dX7_goneIn_46 ?_
        obtain ⟨g2, hc2, hf⟩ := ik_b1s hf
        refine ik_goW [3, 1] rfl rfl (wz_X7 cI cS h0 h1 h2 h3 h4 h5 h6 h7 h8 h9 h10 h11 misKept mtaped msort mfrom mto mvalue mbad g2 mkept g1 mother mfound mwarm_13 mdrip_13 mtape mbits msize mnumber) rfl (ik_runS C (c_X7_row l D cI cS h3 h1 g1 mm_13 g2 hc2) ms_X7_row wl_24_22 ⟨rfl, rfl, Nat.le_of_ble_eq_true rfl, Nat.le_of_ble_eq_true rfl⟩ [3, 1] rfl (by decide) rfl rfl (Nat.le_of_ble_eq_true rfl) dX7_goneIn_49) rfl ?_
        refine ik_iload_n C 0 rfl rfl dX7_goneIn_52 ?_
        cases hf
        exact ik_iretW C hr hlk dX7_goneIn_53
      · have hf := ik_neg hc hf
        refine ik_aload_n C 1 rfl rfl dX7_goneIn_18 ?_
        refine ik_iload_n C 2 rfl rfl dX7_goneIn_19 ?_
        obtain ⟨r2, hc2, hf⟩ := ik_b1s hf
        refine ik_goR (ik_runV C (c_X7_isGone l D cI cS h0 h1 h2 h3 h4 h5 h6 h7 h8 h9 h10 h11 misKept mtaped msort mfrom mto mvalue mbad mm_13 mkept g1 mother mfound mwarm_13 mdrip_13 mtape mbits msize mnumber x1 r2 hc2) mv_X7_isGone wl_10_5 ⟨rfl, rfl, Nat.le_of_ble_eq_true rfl, Nat.le_of_ble_eq_true rfl⟩ [0, 1, 2, 3, 4, 5, 6, 7, 8, 9, 10, 11] rfl (by decide) 0 rfl rfl rfl rfl (Nat.le_of_ble_eq_true rfl) dX7_goneIn_20) rfl ?_
        refine ik_if_ne C 41 dX7_goneIn_23 (by decide) (fun hc => ?_) (fun hc => ?_)
        · have hf := ik_neg hc hf
          refine ik_aload_n C 1 rfl rfl dX7_goneIn_41 ?_
          refine ik_get C inlX7 0 rfl rfl 2 (by decide) wl_4_14 rfl (v := .ref h3) rfl dX7_goneIn_42 ?_
          refine ik_aload_n C 1 rfl rfl dX7_goneIn_45 ?_
          refine ik_get C inlX7 0 rfl rfl 0 (by decide) wl_4_12 rfl (v := .ref h1) rfl dX7_goneIn_46 ?_
          obtain ⟨g3, hc3, hf⟩ := ik_b1s hf
          refine ik_goW [3, 1] rfl rfl (wz_X7 cI cS h0 h1 h2 h3 h4 h5 h6 h7 h8 h9 h10 h11 misKept mtaped msort mfrom mto mvalue mbad g3 mkept g1 mother mfound mwarm_13 mdrip_13 mtape mbits msize mnumber) rfl (ik_runS C (c_X7_row l D cI cS h3 h1 g1 mm_13 g3 hc3) ms_X7_row wl_24_22 ⟨rfl, rfl, Nat.le_of_ble_eq_true rfl, Nat.le_of_ble_eq_true rfl⟩ [3, 1] rfl (by decide) rfl rfl (Nat.le_of_ble_eq_true rfl) dX7_goneIn_49) rfl ?_
          refine ik_iload_n C 0 rfl rfl dX7_goneIn_52 ?_
          cases hf
          exact ik_iretW C hr hlk dX7_goneIn_53
        · have hf := ik_pos hc hf
          refine ik_iinc C [(3, .int (x3_13 + (1 : Int32))), (0, .ref h0), (1, .int x1), (2, .int x2)] 0 rfl rfl (by decide) rfl dX7_goneIn_26 ?_
          refine ik_iload_n C 0 rfl rfl dX7_goneIn_29 ?_
          refine ik_iload_n C 3 rfl rfl dX7_goneIn_30 ?_
          refine ik_icmp_gt C 13 dX7_goneIn_31 (by decide) (fun hc => ?_) (fun hc => ?_)
          · have hf := ik_pos hc hf
            exact ik_sub [0, 1, 2, 3] [(3, .int (x3_13 + (1 : Int32))), (0, .ref h0), (1, .int x1), (2, .int x2)] rfl (ih_13 mm_13 mwarm_13 mdrip_13 (x3_13 + (1 : Int32)) hf)
          · have hf := ik_neg hc hf
            refine ik_aload_n C 1 rfl rfl dX7_goneIn_34 ?_
            obtain ⟨g3, g4, g5, hc5, hf⟩ := ik_b3s hf
            refine ik_goW [0, 1, 2, 3, 4, 5, 6, 7, 8, 9, 10, 11] rfl rfl (wz_X7 cI cS h0 h1 h2 h3 h4 h5 h6 h7 h8 h9 h10 h11 misKept mtaped msort mfrom mto mvalue mbad g3 mkept g1 mother mfound g4 g5 mtape mbits msize mnumber) rfl (ik_runV C (c_X7_hour l D cI cS h0 h1 h2 h3 h4 h5 h6 h7 h8 h9 h10 h11 misKept mtaped msort mfrom mto mvalue mbad mm_13 mkept g1 mother mfound mwarm_13 mdrip_13 mtape mbits msize mnumber g3 g4 g5 hc5) mv_X7_hour wl_20_18 ⟨rfl, rfl, Nat.le_of_ble_eq_true rfl, Nat.le_of_ble_eq_true rfl⟩ [0, 1, 2, 3, 4, 5, 6, 7, 8, 9, 10, 11] rfl (by decide) 0 rfl rfl rfl rfl (Nat.le_of_ble_eq_true rfl) dX7_goneIn_35) rfl ?_
            refine ik_goto C 13 dX7_goneIn_38 (by decide) ?_
            exact ik_sub [0, 1, 2, 3] [(3, .int (x3_13 + (1 : Int32))), (0, .ref h0), (1, .int x1), (2, .int x2)] rfl (ih_13 g3 g4 g5 (x3_13 + (1 : Int32)) hf)
  exact hL_13 ik_fu mm mwarm mdrip (0 : Int32) hf
theorem mv_X7_isFarOn : ik_V yX7_isFarOn RX7 cX7_isFarOn 2 (some .boolean) 1 := ⟨wl_25_20, wl_25_21, wl_1_5, wl_25_22, by decide +kernel⟩
set_option maxHeartbeats 4000000 in
set_option maxRecDepth 100000 in
theorem c_X7_isFarOn (l : Launch) (D : va_G) (cI cS : ClassId) (h0 h1 h2 h3 h4 h5 h6 h7 h8 h9 h10 h11 : Nat) (misKept : Int32) (mtaped : Int32) (msort : Int32) (mfrom : Int32) (mto : Int32) (mvalue : Int32) (mbad : Int32) (mm : Nat → Int32) (mkept : Nat → Int32) (mwas : Nat → Int32) (mother : Nat → Int32) (mfound : Nat → Int32) (mwarm : Nat → Int32) (mdrip : Nat → Int32) (mtape : Nat → Int32) (mbits : Nat → Int32) (msize : Nat → Int32) (mnumber : Nat → Int32) (x1 : Int32) (R : Int32) (hf : f_X7_isFarOn mm x1 = some (R)) : Met l yX7_isFarOn (ik_ws yX7_isFarOn cX7_isFarOn 2 (some .boolean)) ({ frames := 0, cells := 0, slots := 0, locals := 0 } : Room) (ik_P D cI cS [.ref h0, .int x1] (wz_X7 cI cS h0 h1 h2 h3 h4 h5 h6 h7 h8 h9 h10 h11 misKept mtaped msort mfrom mto mvalue mbad mm mkept mwas mother mfound mwarm mdrip mtape mbits msize mnumber)) (ik_R (some (.int R))) 0 0 ik_no := by
  refine ik_metR RX7 rfl (by decide) (Nat.le_of_ble_eq_true rfl) [(0, .ref h0), (1, .int x1)] rfl ?_
  intro p e s m below meth c C hr hlk
  unfold f_X7_isFarOn at hf
  refine ik_aload_n C 0 rfl rfl dX7_isFarOn_0 ?_
  refine ik_get C inlX7 0 rfl rfl 0 (by decide) wl_4_12 rfl (v := .ref h1) rfl dX7_isFarOn_1 ?_
  refine ik_iconst (v := (0 : Int32)) C (by decide) dX7_isFarOn_4 ?_
  refine ik_iald C 1 rfl (ik_vin (by decide)) dX7_isFarOn_5 ?_
  refine ik_iload_n C 1 rfl rfl dX7_isFarOn_6 ?_
  refine ik_iadd C dX7_isFarOn_7 ?_
  refine ik_sipush (v := (9999 : Int32)) C (by decide) dX7_isFarOn_8 ?_
  refine ik_icmp_le C 18 dX7_isFarOn_11 (by decide) (fun hc => ?_) (fun hc => ?_)
  · have hf := ik_pos hc hf
    refine ik_iconst (v := (0 : Int32)) C (by decide) dX7_isFarOn_18 ?_
    cases hf
    exact ik_zretR C hr (by decide) hlk dX7_isFarOn_19
  · have hf := ik_neg hc hf
    refine ik_iconst (v := (1 : Int32)) C (by decide) dX7_isFarOn_14 ?_
    refine ik_goto C 19 dX7_isFarOn_15 (by decide) ?_
    cases hf
    exact ik_zretR C hr (by decide) hlk dX7_isFarOn_19
theorem mv_X7_goes : ik_V yX7_goes RX7 cX7_goes 3 (some .int) 1 := ⟨wl_25_15, wl_25_16, wl_1_5, wl_25_17, by decide +kernel⟩
set_option maxHeartbeats 4000000 in
set_option maxRecDepth 100000 in
theorem c_X7_goes (l : Launch) (D : va_G) (cI cS : ClassId) (h0 h1 h2 h3 h4 h5 h6 h7 h8 h9 h10 h11 : Nat) (misKept : Int32) (mtaped : Int32) (msort : Int32) (mfrom : Int32) (mto : Int32) (mvalue : Int32) (mbad : Int32) (mm : Nat → Int32) (mkept : Nat → Int32) (mwas : Nat → Int32) (mother : Nat → Int32) (mfound : Nat → Int32) (mwarm : Nat → Int32) (mdrip : Nat → Int32) (mtape : Nat → Int32) (mbits : Nat → Int32) (msize : Nat → Int32) (mnumber : Nat → Int32) (x1 : Int32) (R : Int32) (mm_r : Nat → Int32) (mwas_r : Nat → Int32) (mfound_r : Nat → Int32) (mwarm_r : Nat → Int32) (mdrip_r : Nat → Int32) (hf : f_X7_goes mm mwas mfound mwarm mdrip x1 = some (R, mm_r, mwas_r, mfound_r, mwarm_r, mdrip_r)) : Met l yX7_goes (ik_ws yX7_goes cX7_goes 3 (some .int)) ({ frames := 9, cells := 0, slots := 0, locals := 203 } : Room) (ik_P D cI cS [.ref h0, .int x1] (wz_X7 cI cS h0 h1 h2 h3 h4 h5 h6 h7 h8 h9 h10 h11 misKept mtaped msort mfrom mto mvalue mbad mm mkept mwas mother mfound mwarm mdrip mtape mbits msize mnumber)) (ik_Q (some (.int R)) D (wz_X7 cI cS h0 h1 h2 h3 h4 h5 h6 h7 h8 h9 h10 h11 misKept mtaped msort mfrom mto mvalue mbad mm_r mkept mwas_r mother mfound_r mwarm_r mdrip_r mtape mbits msize mnumber) (wz_X7 cI cS h0 h1 h2 h3 h4 h5 h6 h7 h8 h9 h10 h11 misKept mtaped msort mfrom mto mvalue mbad mm mkept mwas mother mfound mwarm mdrip mtape mbits msize mnumber)) 0 0 (ik_in (wz_X7 cI cS h0 h1 h2 h3 h4 h5 h6 h7 h8 h9 h10 h11 misKept mtaped msort mfrom mto mvalue mbad mm mkept mwas mother mfound mwarm mdrip mtape mbits msize mnumber)) := by
  refine ik_metW RX7 rfl (by decide) (Nat.le_of_ble_eq_true rfl) [(0, .ref h0), (1, .int x1)] rfl ?_
  intro p e s m below meth c C hr hlk
  unfold f_X7_goes at hf
  refine ik_aload_n C 0 rfl rfl dX7_goes_0 ?_
  refine ik_iload_n C 1 rfl rfl dX7_goes_1 ?_
  obtain ⟨r1, hc1, hf⟩ := ik_b1s hf
  refine ik_goR (ik_runV C (c_X7_isBlock l D cI cS h0 h1 h2 h3 h4 h5 h6 h7 h8 h9 h10 h11 misKept mtaped msort mfrom mto mvalue mbad mm mkept mwas mother mfound mwarm mdrip mtape mbits msize mnumber x1 r1 hc1) mv_X7_isBlock wl_9_17 ⟨rfl, rfl, Nat.le_of_ble_eq_true rfl, Nat.le_of_ble_eq_true rfl⟩ [0, 1, 2, 3, 4, 5, 6, 7, 8, 9, 10, 11] rfl (by decide) 0 rfl rfl rfl rfl (Nat.le_of_ble_eq_true rfl) dX7_goes_2) rfl ?_
  refine ik_if_ne C 15 dX7_goes_5 (by decide) (fun hc => ?_) (fun hc => ?_)
  · have hf := ik_neg hc hf
    refine ik_aload_n C 0 rfl rfl dX7_goes_15 ?_
    refine ik_iload_n C 1 rfl rfl dX7_goes_16 ?_
    obtain ⟨r2, hc2, hf⟩ := ik_b1s hf
    refine ik_goR (ik_runV C (c_X7_isGone l D cI cS h0 h1 h2 h3 h4 h5 h6 h7 h8 h9 h10 h11 misKept mtaped msort mfrom mto mvalue mbad mm mkept mwas mother mfound mwarm mdrip mtape mbits msize mnumber x1 r2 hc2) mv_X7_isGone wl_10_5 ⟨rfl, rfl, Nat.le_of_ble_eq_true rfl, Nat.le_of_ble_eq_true rfl⟩ [0, 1, 2, 3, 4, 5, 6, 7, 8, 9, 10, 11] rfl (by decide) 0 rfl rfl rfl rfl (Nat.le_of_ble_eq_true rfl) dX7_goes_17) rfl ?_
    refine ik_if_ne C 32 dX7_goes_20 (by decide) (fun hc => ?_) (fun hc => ?_)
    · have hf := ik_neg hc hf
      refine ik_aload_n C 0 rfl rfl dX7_goes_32 ?_
      refine ik_ldc C wl_6_16 dX7_goes_33 ?_
      obtain ⟨r3, g4, hc4, hf⟩ := ik_b2s hf
      refine ik_goW [0, 1, 2, 3, 4, 5, 6, 7, 8, 9, 10, 11] rfl rfl (wz_X7 cI cS h0 h1 h2 h3 h4 h5 h6 h7 h8 h9 h10 h11 misKept mtaped msort mfrom mto mvalue mbad mm mkept mwas mother g4 mwarm mdrip mtape mbits msize mnumber) rfl (ik_runV C (c_X7_finds l D cI cS h0 h1 h2 h3 h4 h5 h6 h7 h8 h9 h10 h11 misKept mtaped msort mfrom mto mvalue mbad mm mkept mwas mother mfound mwarm mdrip mtape mbits msize mnumber (-1000005 : Int32) r3 g4 hc4) mv_X7_finds wl_7_8 ⟨rfl, rfl, Nat.le_of_ble_eq_true rfl, Nat.le_of_ble_eq_true rfl⟩ [0, 1, 2, 3, 4, 5, 6, 7, 8, 9, 10, 11] rfl (by decide) 0 rfl rfl rfl rfl (Nat.le_of_ble_eq_true rfl) dX7_goes_35) rfl ?_
      cases hf
      exact ik_iretW C hr hlk dX7_goes_38
    · have hf := ik_pos hc hf
      refine ik_aload_n C 0 rfl rfl dX7_goes_23 ?_
      refine ik_bipush (v := (96 : Int32)) C (by decide) dX7_goes_24 ?_
      obtain ⟨r3, hc3, hf⟩ := ik_b1s hf
      refine ik_goR (ik_runV C (c_X7_isFarOn l D cI cS h0 h1 h2 h3 h4 h5 h6 h7 h8 h9 h10 h11 misKept mtaped msort mfrom mto mvalue mbad mm mkept mwas mother mfound mwarm mdrip mtape mbits msize mnumber (96 : Int32) r3 hc3) mv_X7_isFarOn wl_25_19 ⟨rfl, rfl, Nat.le_of_ble_eq_true rfl, Nat.le_of_ble_eq_true rfl⟩ [0, 1, 2, 3, 4, 5, 6, 7, 8, 9, 10, 11] rfl (by decide) 0 rfl rfl rfl rfl (Nat.le_of_ble_eq_true rfl) dX7_goes_26) rfl ?_
      refine ik_if_eq C 39 dX7_goes_29 (by decide) (fun hc => ?_) (fun hc => ?_)
      · have hf := ik_pos hc hf
        refine ik_aload_n C 0 rfl rfl dX7_goes_39 ?_
        refine ik_iload_n C 1 rfl rfl dX7_goes_40 ?_
        refine ik_bipush (v := (96 : Int32)) C (by decide) dX7_goes_41 ?_
        obtain ⟨r4, g5, g6, g7, g8, hc8, hf⟩ := ik_b5s hf
        refine ik_goW [0, 1, 2, 3, 4, 5, 6, 7, 8, 9, 10, 11] rfl rfl (wz_X7 cI cS h0 h1 h2 h3 h4 h5 h6 h7 h8 h9 h10 h11 misKept mtaped msort mfrom mto mvalue mbad g5 mkept g6 mother mfound g7 g8 mtape mbits msize mnumber) rfl (ik_runV C (c_X7_goneIn l D cI cS h0 h1 h2 h3 h4 h5 h6 h7 h8 h9 h10 h11 misKept mtaped msort mfrom mto mvalue mbad mm mkept mwas mother mfound mwarm mdrip mtape mbits msize mnumber x1 (96 : Int32) r4 g5 g6 g7 g8 hc8) mv_X7_goneIn wl_25_23 ⟨rfl, rfl, Nat.le_of_ble_eq_true rfl, Nat.le_of_ble_eq_true rfl⟩ [0, 1, 2, 3, 4, 5, 6, 7, 8, 9, 10, 11] rfl (by decide) 0 rfl rfl rfl rfl (Nat.le_of_ble_eq_true rfl) dX7_goes_43) rfl ?_
        refine ik_istore_n C [(2, .int r4), (0, .ref h0), (1, .int x1)] rfl (by decide) rfl dX7_goes_46 ?_
        refine ik_iload_n C 0 rfl rfl dX7_goes_47 ?_
        refine ik_bipush (v := (96 : Int32)) C (by decide) dX7_goes_48 ?_
        refine ik_icmp_le C 62 dX7_goes_50 (by decide) (fun hc => ?_) (fun hc => ?_)
        · have hf := ik_pos hc hf
          refine ik_iload_n C 0 rfl rfl dX7_goes_62 ?_
          cases hf
          exact ik_iretW C hr hlk dX7_goes_63
        · have hf := ik_neg hc hf
          refine ik_aload_n C 1 rfl rfl dX7_goes_53 ?_
          refine ik_ldc C wl_25_18 dX7_goes_54 ?_
          obtain ⟨r9, g10, hc10, hf⟩ := ik_b2s hf
          refine ik_goW [0, 1, 2, 3, 4, 5, 6, 7, 8, 9, 10, 11] rfl rfl (wz_X7 cI cS h0 h1 h2 h3 h4 h5 h6 h7 h8 h9 h10 h11 misKept mtaped msort mfrom mto mvalue mbad g5 mkept g6 mother g10 g7 g8 mtape mbits msize mnumber) rfl (ik_runV C (c_X7_finds l D cI cS h0 h1 h2 h3 h4 h5 h6 h7 h8 h9 h10 h11 misKept mtaped msort mfrom mto mvalue mbad g5 mkept g6 mother mfound g7 g8 mtape mbits msize mnumber (-1000004 : Int32) r9 g10 hc10) mv_X7_finds wl_7_8 ⟨rfl, rfl, Nat.le_of_ble_eq_true rfl, Nat.le_of_ble_eq_true rfl⟩ [0, 1, 2, 3, 4, 5, 6, 7, 8, 9, 10, 11] rfl (by decide) 0 rfl rfl rfl rfl (Nat.le_of_ble_eq_true rfl) dX7_goes_56) rfl ?_
          refine ik_goto C 63 dX7_goes_59 (by decide) ?_
          cases hf
          exact ik_iretW C hr hlk dX7_goes_63
      · have hf := ik_neg hc hf
        refine ik_aload_n C 0 rfl rfl dX7_goes_32 ?_
        refine ik_ldc C wl_6_16 dX7_goes_33 ?_
        obtain ⟨r4, g5, hc5, hf⟩ := ik_b2s hf
        refine ik_goW [0, 1, 2, 3, 4, 5, 6, 7, 8, 9, 10, 11] rfl rfl (wz_X7 cI cS h0 h1 h2 h3 h4 h5 h6 h7 h8 h9 h10 h11 misKept mtaped msort mfrom mto mvalue mbad mm mkept mwas mother g5 mwarm mdrip mtape mbits msize mnumber) rfl (ik_runV C (c_X7_finds l D cI cS h0 h1 h2 h3 h4 h5 h6 h7 h8 h9 h10 h11 misKept mtaped msort mfrom mto mvalue mbad mm mkept mwas mother mfound mwarm mdrip mtape mbits msize mnumber (-1000005 : Int32) r4 g5 hc5) mv_X7_finds wl_7_8 ⟨rfl, rfl, Nat.le_of_ble_eq_true rfl, Nat.le_of_ble_eq_true rfl⟩ [0, 1, 2, 3, 4, 5, 6, 7, 8, 9, 10, 11] rfl (by decide) 0 rfl rfl rfl rfl (Nat.le_of_ble_eq_true rfl) dX7_goes_35) rfl ?_
        cases hf
        exact ik_iretW C hr hlk dX7_goes_38
  · have hf := ik_pos hc hf
    refine ik_aload_n C 0 rfl rfl dX7_goes_8 ?_
    refine ik_ldc C wl_6_14 dX7_goes_9 ?_
    obtain ⟨r2, g3, hc3, hf⟩ := ik_b2s hf
    refine ik_goW [0, 1, 2, 3, 4, 5, 6, 7, 8, 9, 10, 11] rfl rfl (wz_X7 cI cS h0 h1 h2 h3 h4 h5 h6 h7 h8 h9 h10 h11 misKept mtaped msort mfrom mto mvalue mbad mm mkept mwas mother g3 mwarm mdrip mtape mbits msize mnumber) rfl (ik_runV C (c_X7_finds l D cI cS h0 h1 h2 h3 h4 h5 h6 h7 h8 h9 h10 h11 misKept mtaped msort mfrom mto mvalue mbad mm mkept mwas mother mfound mwarm mdrip mtape mbits msize mnumber (-1000001 : Int32) r2 g3 hc3) mv_X7_finds wl_7_8 ⟨rfl, rfl, Nat.le_of_ble_eq_true rfl, Nat.le_of_ble_eq_true rfl⟩ [0, 1, 2, 3, 4, 5, 6, 7, 8, 9, 10, 11] rfl (by decide) 0 rfl rfl rfl rfl (Nat.le_of_ble_eq_true rfl) dX7_goes_11) rfl ?_
    cases hf
    exact ik_iretW C hr hlk dX7_goes_14
theorem mv_X7_held : ik_V yX7_held RX7 cX7_held 5 (some .int) 1 := ⟨wl_26_16, wl_26_17, wl_1_5, wl_26_18, by decide +kernel⟩
set_option maxHeartbeats 4000000 in
set_option maxRecDepth 100000 in
theorem c_X7_held (l : Launch) (D : va_G) (cI cS : ClassId) (h0 h1 h2 h3 h4 h5 h6 h7 h8 h9 h10 h11 : Nat) (misKept : Int32) (mtaped : Int32) (msort : Int32) (mfrom : Int32) (mto : Int32) (mvalue : Int32) (mbad : Int32) (mm : Nat → Int32) (mkept : Nat → Int32) (mwas : Nat → Int32) (mother : Nat → Int32) (mfound : Nat → Int32) (mwarm : Nat → Int32) (mdrip : Nat → Int32) (mtape : Nat → Int32) (mbits : Nat → Int32) (msize : Nat → Int32) (mnumber : Nat → Int32) (x1 : Int32) (R : Int32) (mm_r : Nat → Int32) (mwas_r : Nat → Int32) (mwarm_r : Nat → Int32) (mdrip_r : Nat → Int32) (hf : f_X7_held mm mwas mwarm mdrip x1 = some (R, mm_r, mwas_r, mwarm_r, mdrip_r)) : Met l yX7_held (ik_ws yX7_held cX7_held 5 (some .int)) ({ frames := 8, cells := 0, slots := 0, locals := 180 } : Room) (ik_P D cI cS [.ref h0, .int x1] (wz_X7 cI cS h0 h1 h2 h3 h4 h5 h6 h7 h8 h9 h10 h11 misKept mtaped msort mfrom mto mvalue mbad mm mkept mwas mother mfound mwarm mdrip mtape mbits msize mnumber)) (ik_Q (some (.int R)) D (wz_X7 cI cS h0 h1 h2 h3 h4 h5 h6 h7 h8 h9 h10 h11 misKept mtaped msort mfrom mto mvalue mbad mm_r mkept mwas_r mother mfound mwarm_r mdrip_r mtape mbits msize mnumber) (wz_X7 cI cS h0 h1 h2 h3 h4 h5 h6 h7 h8 h9 h10 h11 misKept mtaped msort mfrom mto mvalue mbad mm mkept mwas mother mfound mwarm mdrip mtape mbits msize mnumber)) 0 0 (ik_in (wz_X7 cI cS h0 h1 h2 h3 h4 h5 h6 h7 h8 h9 h10 h11 misKept mtaped msort mfrom mto mvalue mbad mm mkept mwas mother mfound mwarm mdrip mtape mbits msize mnumber)) := by
  refine ik_metW RX7 rfl (by decide) (Nat.le_of_ble_eq_true rfl) [(0, .ref h0), (1, .int x1)] rfl ?_
  intro p e s m below meth c C hr hlk
  unfold f_X7_held at hf
  refine ik_aload_n C 0 rfl rfl dX7_held_0 ?_
  refine ik_get C inlX7 0 rfl rfl 0 (by decide) wl_4_12 rfl (v := .ref h1) rfl dX7_held_1 ?_
  refine ik_aload_n C 0 rfl rfl dX7_held_4 ?_
  refine ik_get C inlX7 0 rfl rfl 2 (by decide) wl_4_14 rfl (v := .ref h3) rfl dX7_held_5 ?_
  obtain ⟨g1, hc1, hf⟩ := ik_b1s hf
  refine ik_goW [1, 3] rfl rfl (wz_X7 cI cS h0 h1 h2 h3 h4 h5 h6 h7 h8 h9 h10 h11 misKept mtaped msort mfrom mto mvalue mbad mm mkept g1 mother mfound mwarm mdrip mtape mbits msize mnumber) rfl (ik_runS C (c_X7_row l D cI cS h1 h3 mm mwas g1 hc1) ms_X7_row wl_24_22 ⟨rfl, rfl, Nat.le_of_ble_eq_true rfl, Nat.le_of_ble_eq_true rfl⟩ [1, 3] rfl (by decide) rfl rfl (Nat.le_of_ble_eq_true rfl) dX7_held_8) rfl ?_
  refine ik_aload_n C 0 rfl rfl dX7_held_11 ?_
  obtain ⟨r2, hc2, hf⟩ := ik_b1s hf
  refine ik_goR (ik_runV C (c_X7_goneNow l D cI cS h0 h1 h2 h3 h4 h5 h6 h7 h8 h9 h10 h11 misKept mtaped msort mfrom mto mvalue mbad mm mkept g1 mother mfound mwarm mdrip mtape mbits msize mnumber r2 hc2) mv_X7_goneNow wl_20_14 ⟨rfl, rfl, Nat.le_of_ble_eq_true rfl, Nat.le_of_ble_eq_true rfl⟩ [0, 1, 2, 3, 4, 5, 6, 7, 8, 9, 10, 11] rfl (by decide) 0 rfl rfl rfl rfl (Nat.le_of_ble_eq_true rfl) dX7_held_12) rfl ?_
  refine ik_istore_n C [(2, .int r2), (0, .ref h0), (1, .int x1)] rfl (by decide) rfl dX7_held_15 ?_
  refine ik_iconst (v := (0 : Int32)) C (by decide) dX7_held_16 ?_
  refine ik_istore_n C [(3, .int (0 : Int32)), (2, .int r2), (0, .ref h0), (1, .int x1)] rfl (by decide) rfl dX7_held_17 ?_
  refine ik_iconst (v := (1 : Int32)) C (by decide) dX7_held_18 ?_
  refine ik_istore C [(4, .int (1 : Int32)), (3, .int (0 : Int32)), (2, .int r2), (0, .ref h0), (1, .int x1)] (by decide) rfl dX7_held_19 ?_
  have hL_21 : ∀ (n_21 : Nat) (mm_21 : Nat → Int32) (mwarm_21 : Nat → Int32) (mdrip_21 : Nat → Int32) (x3_21 : Int32) (x4_21 : Int32), ik_lp5 (b_X7_held_21 x1 g1 r2) n_21 mm_21 mwarm_21 mdrip_21 x3_21 x4_21 = some (R, mm_r, mwas_r, mwarm_r, mdrip_r) → ik_G p l e ({ frames := 8, cells := 0, slots := 0, locals := 180 } : Room) s m ([.ref h0, .int x1] : List Value).toArray below meth c D (ik_in (wz_X7 cI cS h0 h1 h2 h3 h4 h5 h6 h7 h8 h9 h10 h11 misKept mtaped msort mfrom mto mvalue mbad mm mkept mwas mother mfound mwarm mdrip mtape mbits msize mnumber)) (ik_in (wz_X7 cI cS h0 h1 h2 h3 h4 h5 h6 h7 h8 h9 h10 h11 misKept mtaped msort mfrom mto mvalue mbad mm mkept mwas mother mfound mwarm mdrip mtape mbits msize mnumber)) 5 (MQ below (ik_Q (some (.int R)) D (wz_X7 cI cS h0 h1 h2 h3 h4 h5 h6 h7 h8 h9 h10 h11 misKept mtaped msort mfrom mto mvalue mbad mm_r mkept mwas_r mother mfound mwarm_r mdrip_r mtape mbits msize mnumber) (wz_X7 cI cS h0 h1 h2 h3 h4 h5 h6 h7 h8 h9 h10 h11 misKept mtaped msort mfrom mto mvalue mbad mm mkept mwas mother mfound mwarm mdrip mtape mbits msize mnumber)) ([.ref h0, .int x1] : List Value).toArray s 0 0 (ik_in (wz_X7 cI cS h0 h1 h2 h3 h4 h5 h6 h7 h8 h9 h10 h11 misKept mtaped msort mfrom mto mvalue mbad mm mkept mwas mother mfound mwarm mdrip mtape mbits msize mnumber))) 21 [(4, .int x4_21), (3, .int x3_21), (2, .int r2), (0, .ref h0), (1, .int x1)] [] (wz_X7 cI cS h0 h1 h2 h3 h4 h5 h6 h7 h8 h9 h10 h11 misKept mtaped msort mfrom mto mvalue mbad mm_21 mkept g1 mother mfound mwarm_21 mdrip_21 mtape mbits msize mnumber) := by
    intro n_21
    induction n_21 with
    | zero => intro _ _ _ _ _ hf; exact nomatch hf
    | succ n_21 ih_21 =>
      intro mm_21 mwarm_21 mdrip_21 x3_21 x4_21 hf
      replace hf : b_X7_held_21 x1 g1 r2 (ik_lp5 (b_X7_held_21 x1 g1 r2) n_21) mm_21 mwarm_21 mdrip_21 x3_21 x4_21 = some (R, mm_r, mwas_r, mwarm_r, mdrip_r) := hf
      unfold b_X7_held_21 at hf
      refine ik_iload_n C 1 rfl rfl dX7_held_21 ?_
      refine ik_iload_n C 4 rfl rfl dX7_held_22 ?_
      refine ik_icmp_ge C 66 dX7_held_23 (by decide) (fun hc => ?_) (fun hc => ?_)
      · have hf := ik_pos hc hf
        refine ik_aload_n C 3 rfl rfl dX7_held_66 ?_
        refine ik_get C inlX7 0 rfl rfl 2 (by decide) wl_4_14 rfl (v := .ref h3) rfl dX7_held_67 ?_
        refine ik_aload_n C 3 rfl rfl dX7_held_70 ?_
        refine ik_get C inlX7 0 rfl rfl 0 (by decide) wl_4_12 rfl (v := .ref h1) rfl dX7_held_71 ?_
        obtain ⟨g3, hc3, hf⟩ := ik_b1s hf
        refine ik_goW [3, 1] rfl rfl (wz_X7 cI cS h0 h1 h2 h3 h4 h5 h6 h7 h8 h9 h10 h11 misKept mtaped msort mfrom mto mvalue mbad g3 mkept g1 mother mfound mwarm_21 mdrip_21 mtape mbits msize mnumber) rfl (ik_runS C (c_X7_row l D cI cS h3 h1 g1 mm_21 g3 hc3) ms_X7_row wl_24_22 ⟨rfl, rfl, Nat.le_of_ble_eq_true rfl, Nat.le_of_ble_eq_true rfl⟩ [3, 1] rfl (by decide) rfl rfl (Nat.le_of_ble_eq_true rfl) dX7_held_74) rfl ?_
        refine ik_iload_n C 1 rfl rfl dX7_held_77 ?_
        cases hf
        exact ik_iretW C hr hlk dX7_held_78
      · have hf := ik_neg hc hf
        refine ik_iload C 0 rfl dX7_held_26 ?_
        refine ik_if_eq C 66 dX7_held_28 (by decide) (fun hc => ?_) (fun hc => ?_)
        · have hf := ik_pos hc hf
          refine ik_aload_n C 3 rfl rfl dX7_held_66 ?_
          refine ik_get C inlX7 0 rfl rfl 2 (by decide) wl_4_14 rfl (v := .ref h3) rfl dX7_held_67 ?_
          refine ik_aload_n C 3 rfl rfl dX7_held_70 ?_
          refine ik_get C inlX7 0 rfl rfl 0 (by decide) wl_4_12 rfl (v := .ref h1) rfl dX7_held_71 ?_
          obtain ⟨g3, hc3, hf⟩ := ik_b1s hf
          refine ik_goW [3, 1] rfl rfl (wz_X7 cI cS h0 h1 h2 h3 h4 h5 h6 h7 h8 h9 h10 h11 misKept mtaped msort mfrom mto mvalue mbad g3 mkept g1 mother mfound mwarm_21 mdrip_21 mtape mbits msize mnumber) rfl (ik_runS C (c_X7_row l D cI cS h3 h1 g1 mm_21 g3 hc3) ms_X7_row wl_24_22 ⟨rfl, rfl, Nat.le_of_ble_eq_true rfl, Nat.le_of_ble_eq_true rfl⟩ [3, 1] rfl (by decide) rfl rfl (Nat.le_of_ble_eq_true rfl) dX7_held_74) rfl ?_
          refine ik_iload_n C 1 rfl rfl dX7_held_77 ?_
          cases hf
          exact ik_iretW C hr hlk dX7_held_78
        · have hf := ik_neg hc hf
          refine ik_aload_n C 3 rfl rfl dX7_held_31 ?_
          obtain ⟨g3, g4, g5, hc5, hf⟩ := ik_b3s hf
          refine ik_goW [0, 1, 2, 3, 4, 5, 6, 7, 8, 9, 10, 11] rfl rfl (wz_X7 cI cS h0 h1 h2 h3 h4 h5 h6 h7 h8 h9 h10 h11 misKept mtaped msort mfrom mto mvalue mbad g3 mkept g1 mother mfound g4 g5 mtape mbits msize mnumber) rfl (ik_runV C (c_X7_hour l D cI cS h0 h1 h2 h3 h4 h5 h6 h7 h8 h9 h10 h11 misKept mtaped msort mfrom mto mvalue mbad mm_21 mkept g1 mother mfound mwarm_21 mdrip_21 mtape mbits msize mnumber g3 g4 g5 hc5) mv_X7_hour wl_20_18 ⟨rfl, rfl, Nat.le_of_ble_eq_true rfl, Nat.le_of_ble_eq_true rfl⟩ [0, 1, 2, 3, 4, 5, 6, 7, 8, 9, 10, 11] rfl (by decide) 0 rfl rfl rfl rfl (Nat.le_of_ble_eq_true rfl) dX7_held_32) rfl ?_
          refine ik_aload_n C 3 rfl rfl dX7_held_35 ?_
          obtain ⟨r6, hc6, hf⟩ := ik_b1s hf
          refine ik_goR (ik_runV C (c_X7_goneNow l D cI cS h0 h1 h2 h3 h4 h5 h6 h7 h8 h9 h10 h11 misKept mtaped msort mfrom mto mvalue mbad g3 mkept g1 mother mfound g4 g5 mtape mbits msize mnumber r6 hc6) mv_X7_goneNow wl_20_14 ⟨rfl, rfl, Nat.le_of_ble_eq_true rfl, Nat.le_of_ble_eq_true rfl⟩ [0, 1, 2, 3, 4, 5, 6, 7, 8, 9, 10, 11] rfl (by decide) 0 rfl rfl rfl rfl (Nat.le_of_ble_eq_true rfl) dX7_held_36) rfl ?_
          refine ik_iload_n C 2 rfl rfl dX7_held_39 ?_
          refine ik_icmp_ne C 47 dX7_held_40 (by decide) (fun hc => ?_) (fun hc => ?_)
          · have hf := ik_neg hc hf
            refine ik_iconst (v := (0 : Int32)) C (by decide) dX7_held_47 ?_
            refine ik_istore C [(4, .int (0 : Int32)), (3, .int x3_21), (2, .int r2), (0, .ref h0), (1, .int x1)] (by decide) rfl dX7_held_48 ?_
            refine ik_iload_n C 1 rfl rfl dX7_held_50 ?_
            refine ik_iload C 0 rfl dX7_held_51 ?_
            refine ik_if_eq C 60 dX7_held_53 (by decide) (fun hc => ?_) (fun hc => ?_)
            · have hf := ik_pos hc hf
              refine ik_iconst (v := (0 : Int32)) C (by decide) dX7_held_60 ?_
              refine ik_iadd C dX7_held_61 ?_
              refine ik_istore_n C [(3, .int (x3_21 + (0 : Int32))), (4, .int (0 : Int32)), (2, .int r2), (0, .ref h0), (1, .int x1)] rfl (by decide) rfl dX7_held_62 ?_
              refine ik_goto C 21 dX7_held_63 (by decide) ?_
              exact ik_sub [1, 0, 2, 3, 4] [(4, .int (0 : Int32)), (3, .int (x3_21 + (0 : Int32))), (2, .int r2), (0, .ref h0), (1, .int x1)] rfl (ih_21 g3 g4 g5 (x3_21 + (0 : Int32)) (0 : Int32) hf)
            · have hf := ik_neg hc hf
              refine ik_iconst (v := (1 : Int32)) C (by decide) dX7_held_56 ?_
              refine ik_goto C 61 dX7_held_57 (by decide) ?_
              refine ik_iadd C dX7_held_61 ?_
              refine ik_istore_n C [(3, .int (x3_21 + (1 : Int32))), (4, .int (0 : Int32)), (2, .int r2), (0, .ref h0), (1, .int x1)] rfl (by decide) rfl dX7_held_62 ?_
              refine ik_goto C 21 dX7_held_63 (by decide) ?_
              exact ik_sub [1, 0, 2, 3, 4] [(4, .int (0 : Int32)), (3, .int (x3_21 + (1 : Int32))), (2, .int r2), (0, .ref h0), (1, .int x1)] rfl (ih_21 g3 g4 g5 (x3_21 + (1 : Int32)) (0 : Int32) hf)
          · have hf := ik_pos hc hf
            refine ik_iconst (v := (1 : Int32)) C (by decide) dX7_held_43 ?_
            refine ik_goto C 48 dX7_held_44 (by decide) ?_
            refine ik_istore C [(4, .int (1 : Int32)), (3, .int x3_21), (2, .int r2), (0, .ref h0), (1, .int x1)] (by decide) rfl dX7_held_48 ?_
            refine ik_iload_n C 1 rfl rfl dX7_held_50 ?_
            refine ik_iload C 0 rfl dX7_held_51 ?_
            refine ik_if_eq C 60 dX7_held_53 (by decide) (fun hc => ?_) (fun hc => ?_)
            · have hf := ik_pos hc hf
              refine ik_iconst (v := (0 : Int32)) C (by decide) dX7_held_60 ?_
              refine ik_iadd C dX7_held_61 ?_
              refine ik_istore_n C [(3, .int (x3_21 + (0 : Int32))), (4, .int (1 : Int32)), (2, .int r2), (0, .ref h0), (1, .int x1)] rfl (by decide) rfl dX7_held_62 ?_
              refine ik_goto C 21 dX7_held_63 (by decide) ?_
              exact ik_sub [1, 0, 2, 3, 4] [(4, .int (1 : Int32)), (3, .int (x3_21 + (0 : Int32))), (2, .int r2), (0, .ref h0), (1, .int x1)] rfl (ih_21 g3 g4 g5 (x3_21 + (0 : Int32)) (1 : Int32) hf)
            · have hf := ik_neg hc hf
              refine ik_iconst (v := (1 : Int32)) C (by decide) dX7_held_56 ?_
              refine ik_goto C 61 dX7_held_57 (by decide) ?_
              refine ik_iadd C dX7_held_61 ?_
              refine ik_istore_n C [(3, .int (x3_21 + (1 : Int32))), (4, .int (1 : Int32)), (2, .int r2), (0, .ref h0), (1, .int x1)] rfl (by decide) rfl dX7_held_62 ?_
              refine ik_goto C 21 dX7_held_63 (by decide) ?_
              exact ik_sub [1, 0, 2, 3, 4] [(4, .int (1 : Int32)), (3, .int (x3_21 + (1 : Int32))), (2, .int r2), (0, .ref h0), (1, .int x1)] rfl (ih_21 g3 g4 g5 (x3_21 + (1 : Int32)) (1 : Int32) hf)
  exact hL_21 ik_fu mm mwarm mdrip (0 : Int32) (1 : Int32) hf
theorem mv_X7_holds : ik_V yX7_holds RX7 cX7_holds 1 (some .int) 0 := ⟨wl_26_12, wl_26_13, wl_1_5, wl_26_14, by decide +kernel⟩
set_option maxHeartbeats 4000000 in
set_option maxRecDepth 100000 in
theorem c_X7_holds (l : Launch) (D : va_G) (cI cS : ClassId) (h0 h1 h2 h3 h4 h5 h6 h7 h8 h9 h10 h11 : Nat) (misKept : Int32) (mtaped : Int32) (msort : Int32) (mfrom : Int32) (mto : Int32) (mvalue : Int32) (mbad : Int32) (mm : Nat → Int32) (mkept : Nat → Int32) (mwas : Nat → Int32) (mother : Nat → Int32) (mfound : Nat → Int32) (mwarm : Nat → Int32) (mdrip : Nat → Int32) (mtape : Nat → Int32) (mbits : Nat → Int32) (msize : Nat → Int32) (mnumber : Nat → Int32) (R : Int32) (mm_r : Nat → Int32) (mwas_r : Nat → Int32) (mfound_r : Nat → Int32) (mwarm_r : Nat → Int32) (mdrip_r : Nat → Int32) (hf : f_X7_holds mm mwas mfound mwarm mdrip = some (R, mm_r, mwas_r, mfound_r, mwarm_r, mdrip_r)) : Met l yX7_holds (ik_ws yX7_holds cX7_holds 1 (some .int)) ({ frames := 9, cells := 0, slots := 0, locals := 204 } : Room) (ik_P D cI cS [.ref h0] (wz_X7 cI cS h0 h1 h2 h3 h4 h5 h6 h7 h8 h9 h10 h11 misKept mtaped msort mfrom mto mvalue mbad mm mkept mwas mother mfound mwarm mdrip mtape mbits msize mnumber)) (ik_Q (some (.int R)) D (wz_X7 cI cS h0 h1 h2 h3 h4 h5 h6 h7 h8 h9 h10 h11 misKept mtaped msort mfrom mto mvalue mbad mm_r mkept mwas_r mother mfound_r mwarm_r mdrip_r mtape mbits msize mnumber) (wz_X7 cI cS h0 h1 h2 h3 h4 h5 h6 h7 h8 h9 h10 h11 misKept mtaped msort mfrom mto mvalue mbad mm mkept mwas mother mfound mwarm mdrip mtape mbits msize mnumber)) 0 0 (ik_in (wz_X7 cI cS h0 h1 h2 h3 h4 h5 h6 h7 h8 h9 h10 h11 misKept mtaped msort mfrom mto mvalue mbad mm mkept mwas mother mfound mwarm mdrip mtape mbits msize mnumber)) := by
  refine ik_metW RX7 rfl (by decide) (Nat.le_of_ble_eq_true rfl) [(0, .ref h0)] rfl ?_
  intro p e s m below meth c C hr hlk
  unfold f_X7_holds at hf
  refine ik_aload_n C 0 rfl rfl dX7_holds_0 ?_
  refine ik_bipush (v := (96 : Int32)) C (by decide) dX7_holds_1 ?_
  obtain ⟨r1, hc1, hf⟩ := ik_b1s hf
  refine ik_goR (ik_runV C (c_X7_isFarOn l D cI cS h0 h1 h2 h3 h4 h5 h6 h7 h8 h9 h10 h11 misKept mtaped msort mfrom mto mvalue mbad mm mkept mwas mother mfound mwarm mdrip mtape mbits msize mnumber (96 : Int32) r1 hc1) mv_X7_isFarOn wl_25_19 ⟨rfl, rfl, Nat.le_of_ble_eq_true rfl, Nat.le_of_ble_eq_true rfl⟩ [0, 1, 2, 3, 4, 5, 6, 7, 8, 9, 10, 11] rfl (by decide) 0 rfl rfl rfl rfl (Nat.le_of_ble_eq_true rfl) dX7_holds_3) rfl ?_
  refine ik_if_eq C 18 dX7_holds_6 (by decide) (fun hc => ?_) (fun hc => ?_)
  · have hf := ik_pos hc hf
    refine ik_aload_n C 0 rfl rfl dX7_holds_18 ?_
    refine ik_bipush (v := (96 : Int32)) C (by decide) dX7_holds_19 ?_
    obtain ⟨r2, g3, g4, g5, g6, hc6, hf⟩ := ik_b5s hf
    refine ik_goW [0, 1, 2, 3, 4, 5, 6, 7, 8, 9, 10, 11] rfl rfl (wz_X7 cI cS h0 h1 h2 h3 h4 h5 h6 h7 h8 h9 h10 h11 misKept mtaped msort mfrom mto mvalue mbad g3 mkept g4 mother mfound g5 g6 mtape mbits msize mnumber) rfl (ik_runV C (c_X7_held l D cI cS h0 h1 h2 h3 h4 h5 h6 h7 h8 h9 h10 h11 misKept mtaped msort mfrom mto mvalue mbad mm mkept mwas mother mfound mwarm mdrip mtape mbits msize mnumber (96 : Int32) r2 g3 g4 g5 g6 hc6) mv_X7_held wl_26_15 ⟨rfl, rfl, Nat.le_of_ble_eq_true rfl, Nat.le_of_ble_eq_true rfl⟩ [0, 1, 2, 3, 4, 5, 6, 7, 8, 9, 10, 11] rfl (by decide) 0 rfl rfl rfl rfl (Nat.le_of_ble_eq_true rfl) dX7_holds_21) rfl ?_
    cases hf
    exact ik_iretW C hr hlk dX7_holds_24
  · have hf := ik_neg hc hf
    refine ik_aload_n C 0 rfl rfl dX7_holds_9 ?_
    refine ik_ldc C wl_6_16 dX7_holds_10 ?_
    obtain ⟨r2, g3, hc3, hf⟩ := ik_b2s hf
    refine ik_goW [0, 1, 2, 3, 4, 5, 6, 7, 8, 9, 10, 11] rfl rfl (wz_X7 cI cS h0 h1 h2 h3 h4 h5 h6 h7 h8 h9 h10 h11 misKept mtaped msort mfrom mto mvalue mbad mm mkept mwas mother g3 mwarm mdrip mtape mbits msize mnumber) rfl (ik_runV C (c_X7_finds l D cI cS h0 h1 h2 h3 h4 h5 h6 h7 h8 h9 h10 h11 misKept mtaped msort mfrom mto mvalue mbad mm mkept mwas mother mfound mwarm mdrip mtape mbits msize mnumber (-1000005 : Int32) r2 g3 hc3) mv_X7_finds wl_7_8 ⟨rfl, rfl, Nat.le_of_ble_eq_true rfl, Nat.le_of_ble_eq_true rfl⟩ [0, 1, 2, 3, 4, 5, 6, 7, 8, 9, 10, 11] rfl (by decide) 0 rfl rfl rfl rfl (Nat.le_of_ble_eq_true rfl) dX7_holds_12) rfl ?_
    refine ik_goto C 24 dX7_holds_15 (by decide) ?_
    cases hf
    exact ik_iretW C hr hlk dX7_holds_24
theorem mv_X7_lights : ik_V yX7_lights RX7 cX7_lights 3 none 1 := ⟨wl_27_4, wl_27_5, wl_1_5, wl_27_6, by decide +kernel⟩
set_option maxHeartbeats 4000000 in
set_option maxRecDepth 100000 in
theorem c_X7_lights (l : Launch) (D : va_G) (cI cS : ClassId) (h0 h1 h2 h3 h4 h5 h6 h7 h8 h9 h10 h11 : Nat) (misKept : Int32) (mtaped : Int32) (msort : Int32) (mfrom : Int32) (mto : Int32) (mvalue : Int32) (mbad : Int32) (mm : Nat → Int32) (mkept : Nat → Int32) (mwas : Nat → Int32) (mother : Nat → Int32) (mfound : Nat → Int32) (mwarm : Nat → Int32) (mdrip : Nat → Int32) (mtape : Nat → Int32) (mbits : Nat → Int32) (msize : Nat → Int32) (mnumber : Nat → Int32) (x1 : Int32) (mm_r : Nat → Int32) (hf : f_X7_lights mm x1 = some (mm_r)) : Met l yX7_lights (ik_ws yX7_lights cX7_lights 3 none) ({ frames := 0, cells := 0, slots := 0, locals := 0 } : Room) (ik_P D cI cS [.ref h0, .int x1] (wz_X7 cI cS h0 h1 h2 h3 h4 h5 h6 h7 h8 h9 h10 h11 misKept mtaped msort mfrom mto mvalue mbad mm mkept mwas mother mfound mwarm mdrip mtape mbits msize mnumber)) (ik_Q none D (wz_X7 cI cS h0 h1 h2 h3 h4 h5 h6 h7 h8 h9 h10 h11 misKept mtaped msort mfrom mto mvalue mbad mm_r mkept mwas mother mfound mwarm mdrip mtape mbits msize mnumber) (wz_X7 cI cS h0 h1 h2 h3 h4 h5 h6 h7 h8 h9 h10 h11 misKept mtaped msort mfrom mto mvalue mbad mm mkept mwas mother mfound mwarm mdrip mtape mbits msize mnumber)) 0 0 (ik_in (wz_X7 cI cS h0 h1 h2 h3 h4 h5 h6 h7 h8 h9 h10 h11 misKept mtaped msort mfrom mto mvalue mbad mm mkept mwas mother mfound mwarm mdrip mtape mbits msize mnumber)) := by
  refine ik_metW RX7 rfl (by decide) (Nat.le_of_ble_eq_true rfl) [(0, .ref h0), (1, .int x1)] rfl ?_
  intro p e s m below meth c C hr hlk
  unfold f_X7_lights at hf
  refine ik_iconst (v := (0 : Int32)) C (by decide) dX7_lights_0 ?_
  refine ik_istore_n C [(2, .int (0 : Int32)), (0, .ref h0), (1, .int x1)] rfl (by decide) rfl dX7_lights_1 ?_
  have hL_2 : ∀ (n_2 : Nat) (mm_2 : Nat → Int32) (x2_2 : Int32), ik_lp2 (b_X7_lights_2 x1) n_2 mm_2 x2_2 = some (mm_r) → ik_G p l e ({ frames := 0, cells := 0, slots := 0, locals := 0 } : Room) s m ([.ref h0, .int x1] : List Value).toArray below meth c D (ik_in (wz_X7 cI cS h0 h1 h2 h3 h4 h5 h6 h7 h8 h9 h10 h11 misKept mtaped msort mfrom mto mvalue mbad mm mkept mwas mother mfound mwarm mdrip mtape mbits msize mnumber)) (ik_in (wz_X7 cI cS h0 h1 h2 h3 h4 h5 h6 h7 h8 h9 h10 h11 misKept mtaped msort mfrom mto mvalue mbad mm mkept mwas mother mfound mwarm mdrip mtape mbits msize mnumber)) 3 (MQ below (ik_Q none D (wz_X7 cI cS h0 h1 h2 h3 h4 h5 h6 h7 h8 h9 h10 h11 misKept mtaped msort mfrom mto mvalue mbad mm_r mkept mwas mother mfound mwarm mdrip mtape mbits msize mnumber) (wz_X7 cI cS h0 h1 h2 h3 h4 h5 h6 h7 h8 h9 h10 h11 misKept mtaped msort mfrom mto mvalue mbad mm mkept mwas mother mfound mwarm mdrip mtape mbits msize mnumber)) ([.ref h0, .int x1] : List Value).toArray s 0 0 (ik_in (wz_X7 cI cS h0 h1 h2 h3 h4 h5 h6 h7 h8 h9 h10 h11 misKept mtaped msort mfrom mto mvalue mbad mm mkept mwas mother mfound mwarm mdrip mtape mbits msize mnumber))) 2 [(2, .int x2_2), (0, .ref h0), (1, .int x1)] [] (wz_X7 cI cS h0 h1 h2 h3 h4 h5 h6 h7 h8 h9 h10 h11 misKept mtaped msort mfrom mto mvalue mbad mm_2 mkept mwas mother mfound mwarm mdrip mtape mbits msize mnumber) := by
    intro n_2
    induction n_2 with
    | zero => intro _ _ hf; exact nomatch hf
    | succ n_2 ih_2 =>
      intro mm_2 x2_2 hf
      replace hf : b_X7_lights_2 x1 (ik_lp2 (b_X7_lights_2 x1) n_2) mm_2 x2_2 = some (mm_r) := hf
      unfold b_X7_lights_2 at hf
      refine ik_iload_n C 0 rfl rfl dX7_lights_2 ?_
      refine ik_bipush (v := (6 : Int32)) C (by decide) dX7_lights_3 ?_
      refine ik_icmp_ge C 32 dX7_lights_5 (by decide) (fun hc => ?_) (fun hc => ?_)
      · have hf := ik_pos hc hf
        cases hf
        exact ik_vretW C hr hlk dX7_lights_32
      · have hf := ik_neg hc hf
        refine ik_aload_n C 1 rfl rfl dX7_lights_8 ?_
        refine ik_get C inlX7 0 rfl rfl 0 (by decide) wl_4_12 rfl (v := .ref h1) rfl dX7_lights_9 ?_
        refine ik_bipush (v := (6 : Int32)) C (by decide) dX7_lights_12 ?_
        refine ik_iconst (v := (3 : Int32)) C (by decide) dX7_lights_14 ?_
        refine ik_iload_n C 0 rfl rfl dX7_lights_15 ?_
        refine ik_imul C dX7_lights_16 ?_
        refine ik_iadd C dX7_lights_17 ?_
        refine ik_iconst (v := (2 : Int32)) C (by decide) dX7_lights_18 ?_
        refine ik_iadd C dX7_lights_19 ?_
        refine ik_iload_n C 2 rfl rfl dX7_lights_20 ?_
        refine ik_iload_n C 0 rfl rfl dX7_lights_21 ?_
        refine ik_ishr C dX7_lights_22 ?_
        refine ik_iconst (v := (1 : Int32)) C (by decide) dX7_lights_23 ?_
        refine ik_iand C dX7_lights_24 ?_
        have hg := ik_gdi hf
        have hf := ik_gdk hf
        refine ik_iast C 1 rfl hg (wz_X7 cI cS h0 h1 h2 h3 h4 h5 h6 h7 h8 h9 h10 h11 misKept mtaped msort mfrom mto mvalue mbad (upd mm_2 ((((6 : Int32) + ((3 : Int32) * x2_2)) + (2 : Int32))).toNatClampNeg ((x1 >>> (x2_2 &&& 31)) &&& (1 : Int32))) mkept mwas mother mfound mwarm mdrip mtape mbits msize mnumber) rfl dX7_lights_25 ?_
        refine ik_iinc C [(2, .int (x2_2 + (1 : Int32))), (0, .ref h0), (1, .int x1)] 0 rfl rfl (by decide) rfl dX7_lights_26 ?_
        refine ik_goto C 2 dX7_lights_29 (by decide) ?_
        exact ik_sub [0, 1, 2] [(2, .int (x2_2 + (1 : Int32))), (0, .ref h0), (1, .int x1)] rfl (ih_2 (upd mm_2 ((((6 : Int32) + ((3 : Int32) * x2_2)) + (2 : Int32))).toNatClampNeg ((x1 >>> (x2_2 &&& 31)) &&& (1 : Int32))) (x2_2 + (1 : Int32)) hf)
  exact hL_2 ik_fu mm (0 : Int32) hf
theorem mv_X7_deal : ik_V yX7_deal RX7 cX7_deal 5 (some .int) 1 := ⟨wl_27_0, wl_27_1, wl_1_5, wl_27_2, by decide +kernel⟩
set_option maxHeartbeats 4000000 in
set_option maxRecDepth 100000 in
theorem c_X7_deal (l : Launch) (D : va_G) (cI cS : ClassId) (h0 h1 h2 h3 h4 h5 h6 h7 h8 h9 h10 h11 : Nat) (misKept : Int32) (mtaped : Int32) (msort : Int32) (mfrom : Int32) (mto : Int32) (mvalue : Int32) (mbad : Int32) (mm : Nat → Int32) (mkept : Nat → Int32) (mwas : Nat → Int32) (mother : Nat → Int32) (mfound : Nat → Int32) (mwarm : Nat → Int32) (mdrip : Nat → Int32) (mtape : Nat → Int32) (mbits : Nat → Int32) (msize : Nat → Int32) (mnumber : Nat → Int32) (x1 : Int32) (R : Int32) (mm_r : Nat → Int32) (mwas_r : Nat → Int32) (mother_r : Nat → Int32) (mfound_r : Nat → Int32) (mwarm_r : Nat → Int32) (mdrip_r : Nat → Int32) (hf : f_X7_deal mm mwas mother mfound mwarm mdrip x1 = some (R, mm_r, mwas_r, mother_r, mfound_r, mwarm_r, mdrip_r)) : Met l yX7_deal (ik_ws yX7_deal cX7_deal 5 (some .int)) ({ frames := 9, cells := 0, slots := 0, locals := 204 } : Room) (ik_P D cI cS [.ref h0, .int x1] (wz_X7 cI cS h0 h1 h2 h3 h4 h5 h6 h7 h8 h9 h10 h11 misKept mtaped msort mfrom mto mvalue mbad mm mkept mwas mother mfound mwarm mdrip mtape mbits msize mnumber)) (ik_Q (some (.int R)) D (wz_X7 cI cS h0 h1 h2 h3 h4 h5 h6 h7 h8 h9 h10 h11 misKept mtaped msort mfrom mto mvalue mbad mm_r mkept mwas_r mother_r mfound_r mwarm_r mdrip_r mtape mbits msize mnumber) (wz_X7 cI cS h0 h1 h2 h3 h4 h5 h6 h7 h8 h9 h10 h11 misKept mtaped msort mfrom mto mvalue mbad mm mkept mwas mother mfound mwarm mdrip mtape mbits msize mnumber)) 0 0 (ik_in (wz_X7 cI cS h0 h1 h2 h3 h4 h5 h6 h7 h8 h9 h10 h11 misKept mtaped msort mfrom mto mvalue mbad mm mkept mwas mother mfound mwarm mdrip mtape mbits msize mnumber)) := by
  refine ik_metW RX7 rfl (by decide) (Nat.le_of_ble_eq_true rfl) [(0, .ref h0), (1, .int x1)] rfl ?_
  intro p e s m below meth c C hr hlk
  unfold f_X7_deal at hf
  refine ik_iload_n C 1 rfl rfl dX7_deal_0 ?_
  refine ik_i2l C dX7_deal_1 ?_
  refine ik_lconst (v := (1 : Int64)) C (by decide) dX7_deal_2 ?_
  refine ik_ldc2 C wl_20_13 dX7_deal_3 ?_
  obtain ⟨r1, hc1, hf⟩ := ik_b1s hf
  refine ik_goR (ik_runS C (c_X7_in l D cI cS (x1).toInt64 (1 : Int64) (48 : Int64) r1 hc1) ms_X7_in wl_6_21 ⟨rfl, rfl, Nat.le_of_ble_eq_true rfl, Nat.le_of_ble_eq_true rfl⟩ [] rfl (by decide) rfl rfl (Nat.le_of_ble_eq_true rfl) dX7_deal_6) rfl ?_
  refine ik_if_ne C 19 dX7_deal_9 (by decide) (fun hc => ?_) (fun hc => ?_)
  · have hf := ik_neg hc hf
    refine ik_aload_n C 0 rfl rfl dX7_deal_19 ?_
    refine ik_iload_n C 1 rfl rfl dX7_deal_20 ?_
    obtain ⟨r2, hc2, hf⟩ := ik_b1s hf
    refine ik_goR (ik_runV C (c_X7_isFarOn l D cI cS h0 h1 h2 h3 h4 h5 h6 h7 h8 h9 h10 h11 misKept mtaped msort mfrom mto mvalue mbad mm mkept mwas mother mfound mwarm mdrip mtape mbits msize mnumber x1 r2 hc2) mv_X7_isFarOn wl_25_19 ⟨rfl, rfl, Nat.le_of_ble_eq_true rfl, Nat.le_of_ble_eq_true rfl⟩ [0, 1, 2, 3, 4, 5, 6, 7, 8, 9, 10, 11] rfl (by decide) 0 rfl rfl rfl rfl (Nat.le_of_ble_eq_true rfl) dX7_deal_21) rfl ?_
    refine ik_if_eq C 34 dX7_deal_24 (by decide) (fun hc => ?_) (fun hc => ?_)
    · have hf := ik_pos hc hf
      refine ik_aload_n C 0 rfl rfl dX7_deal_34 ?_
      refine ik_get C inlX7 0 rfl rfl 0 (by decide) wl_4_12 rfl (v := .ref h1) rfl dX7_deal_35 ?_
      refine ik_aload_n C 0 rfl rfl dX7_deal_38 ?_
      refine ik_get C inlX7 0 rfl rfl 3 (by decide) wl_4_15 rfl (v := .ref h4) rfl dX7_deal_39 ?_
      obtain ⟨g3, hc3, hf⟩ := ik_b1s hf
      refine ik_goW [1, 4] rfl rfl (wz_X7 cI cS h0 h1 h2 h3 h4 h5 h6 h7 h8 h9 h10 h11 misKept mtaped msort mfrom mto mvalue mbad mm mkept mwas g3 mfound mwarm mdrip mtape mbits msize mnumber) rfl (ik_runS C (c_X7_row l D cI cS h1 h4 mm mother g3 hc3) ms_X7_row wl_24_22 ⟨rfl, rfl, Nat.le_of_ble_eq_true rfl, Nat.le_of_ble_eq_true rfl⟩ [1, 4] rfl (by decide) rfl rfl (Nat.le_of_ble_eq_true rfl) dX7_deal_42) rfl ?_
      refine ik_iconst (v := (-1 : Int32)) C (by decide) dX7_deal_45 ?_
      refine ik_istore_n C [(2, .int (-1 : Int32)), (0, .ref h0), (1, .int x1)] rfl (by decide) rfl dX7_deal_46 ?_
      refine ik_iconst (v := (0 : Int32)) C (by decide) dX7_deal_47 ?_
      refine ik_istore_n C [(3, .int (0 : Int32)), (2, .int (-1 : Int32)), (0, .ref h0), (1, .int x1)] rfl (by decide) rfl dX7_deal_48 ?_
      refine ik_iconst (v := (0 : Int32)) C (by decide) dX7_deal_49 ?_
      refine ik_istore C [(4, .int (0 : Int32)), (3, .int (0 : Int32)), (2, .int (-1 : Int32)), (0, .ref h0), (1, .int x1)] (by decide) rfl dX7_deal_50 ?_
      have hL_52 : ∀ (n_52 : Nat) (mm_52 : Nat → Int32) (mwas_52 : Nat → Int32) (mwarm_52 : Nat → Int32) (mdrip_52 : Nat → Int32) (x2_52 : Int32) (x3_52 : Int32) (x4_52 : Int32), ik_lp7 (b_X7_deal_52 mfound x1 g3) n_52 mm_52 mwas_52 mwarm_52 mdrip_52 x2_52 x3_52 x4_52 = some (R, mm_r, mwas_r, mother_r, mfound_r, mwarm_r, mdrip_r) → ik_G p l e ({ frames := 9, cells := 0, slots := 0, locals := 204 } : Room) s m ([.ref h0, .int x1] : List Value).toArray below meth c D (ik_in (wz_X7 cI cS h0 h1 h2 h3 h4 h5 h6 h7 h8 h9 h10 h11 misKept mtaped msort mfrom mto mvalue mbad mm mkept mwas mother mfound mwarm mdrip mtape mbits msize mnumber)) (ik_in (wz_X7 cI cS h0 h1 h2 h3 h4 h5 h6 h7 h8 h9 h10 h11 misKept mtaped msort mfrom mto mvalue mbad mm mkept mwas mother mfound mwarm mdrip mtape mbits msize mnumber)) 5 (MQ below (ik_Q (some (.int R)) D (wz_X7 cI cS h0 h1 h2 h3 h4 h5 h6 h7 h8 h9 h10 h11 misKept mtaped msort mfrom mto mvalue mbad mm_r mkept mwas_r mother_r mfound_r mwarm_r mdrip_r mtape mbits msize mnumber) (wz_X7 cI cS h0 h1 h2 h3 h4 h5 h6 h7 h8 h9 h10 h11 misKept mtaped msort mfrom mto mvalue mbad mm mkept mwas mother mfound mwarm mdrip mtape mbits msize mnumber)) ([.ref h0, .int x1] : List Value).toArray s 0 0 (ik_in (wz_X7 cI cS h0 h1 h2 h3 h4 h5 h6 h7 h8 h9 h10 h11 misKept mtaped msort mfrom mto mvalue mbad mm mkept mwas mother mfound mwarm mdrip mtape mbits msize mnumber))) 52 [(4, .int x4_52), (3, .int x3_52), (2, .int x2_52), (0, .ref h0), (1, .int x1)] [] (wz_X7 cI cS h0 h1 h2 h3 h4 h5 h6 h7 h8 h9 h10 h11 misKept mtaped msort mfrom mto mvalue mbad mm_52 mkept mwas_52 g3 mfound mwarm_52 mdrip_52 mtape mbits msize mnumber) := by
        intro n_52
        induction n_52 with
        | zero => intro _ _ _ _ _ _ _ hf; exact nomatch hf
        | succ n_52 ih_52 =>
          intro mm_52 mwas_52 mwarm_52 mdrip_52 x2_52 x3_52 x4_52 hf
          replace hf : b_X7_deal_52 mfound x1 g3 (ik_lp7 (b_X7_deal_52 mfound x1 g3) n_52) mm_52 mwas_52 mwarm_52 mdrip_52 x2_52 x3_52 x4_52 = some (R, mm_r, mwas_r, mother_r, mfound_r, mwarm_r, mdrip_r) := hf
          unfold b_X7_deal_52 at hf
          refine ik_iload C 0 rfl dX7_deal_52 ?_
          refine ik_bipush (v := (64 : Int32)) C (by decide) dX7_deal_54 ?_
          refine ik_icmp_ge C 103 dX7_deal_56 (by decide) (fun hc => ?_) (fun hc => ?_)
          · have hf := ik_pos hc hf
            refine ik_aload_n C 3 rfl rfl dX7_deal_103 ?_
            refine ik_get C inlX7 0 rfl rfl 3 (by decide) wl_4_15 rfl (v := .ref h4) rfl dX7_deal_104 ?_
            refine ik_aload_n C 3 rfl rfl dX7_deal_107 ?_
            refine ik_get C inlX7 0 rfl rfl 0 (by decide) wl_4_12 rfl (v := .ref h1) rfl dX7_deal_108 ?_
            obtain ⟨g4, hc4, hf⟩ := ik_b1s hf
            refine ik_goW [4, 1] rfl rfl (wz_X7 cI cS h0 h1 h2 h3 h4 h5 h6 h7 h8 h9 h10 h11 misKept mtaped msort mfrom mto mvalue mbad g4 mkept mwas_52 g3 mfound mwarm_52 mdrip_52 mtape mbits msize mnumber) rfl (ik_runS C (c_X7_row l D cI cS h4 h1 g3 mm_52 g4 hc4) ms_X7_row wl_24_22 ⟨rfl, rfl, Nat.le_of_ble_eq_true rfl, Nat.le_of_ble_eq_true rfl⟩ [4, 1] rfl (by decide) rfl rfl (Nat.le_of_ble_eq_true rfl) dX7_deal_111) rfl ?_
            refine ik_aload_n C 3 rfl rfl dX7_deal_114 ?_
            refine ik_iload_n C 2 rfl rfl dX7_deal_115 ?_
            obtain ⟨r5, g6, hc6, hf⟩ := ik_b2s hf
            refine ik_goW [0, 1, 2, 3, 4, 5, 6, 7, 8, 9, 10, 11] rfl rfl (wz_X7 cI cS h0 h1 h2 h3 h4 h5 h6 h7 h8 h9 h10 h11 misKept mtaped msort mfrom mto mvalue mbad g4 mkept mwas_52 g3 g6 mwarm_52 mdrip_52 mtape mbits msize mnumber) rfl (ik_runV C (c_X7_orNone l D cI cS h0 h1 h2 h3 h4 h5 h6 h7 h8 h9 h10 h11 misKept mtaped msort mfrom mto mvalue mbad g4 mkept mwas_52 g3 mfound mwarm_52 mdrip_52 mtape mbits msize mnumber x2_52 r5 g6 hc6) mv_X7_orNone wl_27_8 ⟨rfl, rfl, Nat.le_of_ble_eq_true rfl, Nat.le_of_ble_eq_true rfl⟩ [0, 1, 2, 3, 4, 5, 6, 7, 8, 9, 10, 11] rfl (by decide) 0 rfl rfl rfl rfl (Nat.le_of_ble_eq_true rfl) dX7_deal_116) rfl ?_
            cases hf
            exact ik_iretW C hr hlk dX7_deal_119
          · have hf := ik_neg hc hf
            refine ik_aload_n C 3 rfl rfl dX7_deal_59 ?_
            refine ik_iload C 0 rfl dX7_deal_60 ?_
            obtain ⟨g4, hc4, hf⟩ := ik_b1s hf
            refine ik_goW [0, 1, 2, 3, 4, 5, 6, 7, 8, 9, 10, 11] rfl rfl (wz_X7 cI cS h0 h1 h2 h3 h4 h5 h6 h7 h8 h9 h10 h11 misKept mtaped msort mfrom mto mvalue mbad g4 mkept mwas_52 g3 mfound mwarm_52 mdrip_52 mtape mbits msize mnumber) rfl (ik_runV C (c_X7_lights l D cI cS h0 h1 h2 h3 h4 h5 h6 h7 h8 h9 h10 h11 misKept mtaped msort mfrom mto mvalue mbad mm_52 mkept mwas_52 g3 mfound mwarm_52 mdrip_52 mtape mbits msize mnumber x4_52 g4 hc4) mv_X7_lights wl_27_3 ⟨rfl, rfl, Nat.le_of_ble_eq_true rfl, Nat.le_of_ble_eq_true rfl⟩ [0, 1, 2, 3, 4, 5, 6, 7, 8, 9, 10, 11] rfl (by decide) 0 rfl rfl rfl rfl (Nat.le_of_ble_eq_true rfl) dX7_deal_62) rfl ?_
            refine ik_iload_n C 2 rfl rfl dX7_deal_65 ?_
            refine ik_if_lt C 77 dX7_deal_66 (by decide) (fun hc => ?_) (fun hc => ?_)
            · have hf := ik_pos hc hf
              refine ik_aload_n C 3 rfl rfl dX7_deal_77 ?_
              refine ik_iload_n C 4 rfl rfl dX7_deal_78 ?_
              obtain ⟨r5, g6, g7, g8, g9, hc9, hf⟩ := ik_b5s hf
              refine ik_goW [0, 1, 2, 3, 4, 5, 6, 7, 8, 9, 10, 11] rfl rfl (wz_X7 cI cS h0 h1 h2 h3 h4 h5 h6 h7 h8 h9 h10 h11 misKept mtaped msort mfrom mto mvalue mbad g6 mkept g7 g3 mfound g8 g9 mtape mbits msize mnumber) rfl (ik_runV C (c_X7_held l D cI cS h0 h1 h2 h3 h4 h5 h6 h7 h8 h9 h10 h11 misKept mtaped msort mfrom mto mvalue mbad g4 mkept mwas_52 g3 mfound mwarm_52 mdrip_52 mtape mbits msize mnumber x1 r5 g6 g7 g8 g9 hc9) mv_X7_held wl_26_15 ⟨rfl, rfl, Nat.le_of_ble_eq_true rfl, Nat.le_of_ble_eq_true rfl⟩ [0, 1, 2, 3, 4, 5, 6, 7, 8, 9, 10, 11] rfl (by decide) 0 rfl rfl rfl rfl (Nat.le_of_ble_eq_true rfl) dX7_deal_79) rfl ?_
              refine ik_iload_n C 4 rfl rfl dX7_deal_82 ?_
              refine ik_icmp_ge C 89 dX7_deal_83 (by decide) (fun hc => ?_) (fun hc => ?_)
              · have hf := ik_pos hc hf
                refine ik_iload C 0 rfl dX7_deal_89 ?_
                refine ik_istore_n C [(2, .int x4_52), (4, .int x4_52), (3, .int x3_52), (0, .ref h0), (1, .int x1)] rfl (by decide) rfl dX7_deal_91 ?_
                refine ik_aload_n C 3 rfl rfl dX7_deal_92 ?_
                obtain ⟨r10, hc10, hf⟩ := ik_b1s hf
                refine ik_goR (ik_runV C (c_X7_light l D cI cS h0 h1 h2 h3 h4 h5 h6 h7 h8 h9 h10 h11 misKept mtaped msort mfrom mto mvalue mbad g6 mkept g7 g3 mfound g8 g9 mtape mbits msize mnumber r10 hc10) mv_X7_light wl_27_7 ⟨rfl, rfl, Nat.le_of_ble_eq_true rfl, Nat.le_of_ble_eq_true rfl⟩ [0, 1, 2, 3, 4, 5, 6, 7, 8, 9, 10, 11] rfl (by decide) 0 rfl rfl rfl rfl (Nat.le_of_ble_eq_true rfl) dX7_deal_93) rfl ?_
                refine ik_istore_n C [(3, .int r10), (2, .int x4_52), (4, .int x4_52), (0, .ref h0), (1, .int x1)] rfl (by decide) rfl dX7_deal_96 ?_
                refine ik_iinc C [(4, .int (x4_52 + (1 : Int32))), (3, .int r10), (2, .int x4_52), (0, .ref h0), (1, .int x1)] 2 rfl rfl (by decide) rfl dX7_deal_97 ?_
                refine ik_goto C 52 dX7_deal_100 (by decide) ?_
                exact ik_sub [0, 1, 2, 3, 4] [(4, .int (x4_52 + (1 : Int32))), (3, .int r10), (2, .int x4_52), (0, .ref h0), (1, .int x1)] rfl (ih_52 g6 g7 g8 g9 x4_52 r10 (x4_52 + (1 : Int32)) hf)
              · have hf := ik_neg hc hf
                refine ik_goto C 97 dX7_deal_86 (by decide) ?_
                refine ik_iinc C [(4, .int (x4_52 + (1 : Int32))), (3, .int x3_52), (2, .int x2_52), (0, .ref h0), (1, .int x1)] 0 rfl rfl (by decide) rfl dX7_deal_97 ?_
                refine ik_goto C 52 dX7_deal_100 (by decide) ?_
                exact ik_sub [0, 1, 2, 3, 4] [(4, .int (x4_52 + (1 : Int32))), (3, .int x3_52), (2, .int x2_52), (0, .ref h0), (1, .int x1)] rfl (ih_52 g6 g7 g8 g9 x2_52 x3_52 (x4_52 + (1 : Int32)) hf)
            · have hf := ik_neg hc hf
              refine ik_aload_n C 3 rfl rfl dX7_deal_69 ?_
              obtain ⟨r5, hc5, hf⟩ := ik_b1s hf
              refine ik_goR (ik_runV C (c_X7_light l D cI cS h0 h1 h2 h3 h4 h5 h6 h7 h8 h9 h10 h11 misKept mtaped msort mfrom mto mvalue mbad g4 mkept mwas_52 g3 mfound mwarm_52 mdrip_52 mtape mbits msize mnumber r5 hc5) mv_X7_light wl_27_7 ⟨rfl, rfl, Nat.le_of_ble_eq_true rfl, Nat.le_of_ble_eq_true rfl⟩ [0, 1, 2, 3, 4, 5, 6, 7, 8, 9, 10, 11] rfl (by decide) 0 rfl rfl rfl rfl (Nat.le_of_ble_eq_true rfl) dX7_deal_70) rfl ?_
              refine ik_iload_n C 1 rfl rfl dX7_deal_73 ?_
              refine ik_icmp_le C 97 dX7_deal_74 (by decide) (fun hc => ?_) (fun hc => ?_)
              · have hf := ik_pos hc hf
                refine ik_iinc C [(4, .int (x4_52 + (1 : Int32))), (3, .int x3_52), (2, .int x2_52), (0, .ref h0), (1, .int x1)] 0 rfl rfl (by decide) rfl dX7_deal_97 ?_
                refine ik_goto C 52 dX7_deal_100 (by decide) ?_
                exact ik_sub [0, 1, 2, 3, 4] [(4, .int (x4_52 + (1 : Int32))), (3, .int x3_52), (2, .int x2_52), (0, .ref h0), (1, .int x1)] rfl (ih_52 g4 mwas_52 mwarm_52 mdrip_52 x2_52 x3_52 (x4_52 + (1 : Int32)) hf)
              · have hf := ik_neg hc hf
                refine ik_aload_n C 3 rfl rfl dX7_deal_77 ?_
                refine ik_iload_n C 4 rfl rfl dX7_deal_78 ?_
                obtain ⟨r6, g7, g8, g9, g10, hc10, hf⟩ := ik_b5s hf
                refine ik_goW [0, 1, 2, 3, 4, 5, 6, 7, 8, 9, 10, 11] rfl rfl (wz_X7 cI cS h0 h1 h2 h3 h4 h5 h6 h7 h8 h9 h10 h11 misKept mtaped msort mfrom mto mvalue mbad g7 mkept g8 g3 mfound g9 g10 mtape mbits msize mnumber) rfl (ik_runV C (c_X7_held l D cI cS h0 h1 h2 h3 h4 h5 h6 h7 h8 h9 h10 h11 misKept mtaped msort mfrom mto mvalue mbad g4 mkept mwas_52 g3 mfound mwarm_52 mdrip_52 mtape mbits msize mnumber x1 r6 g7 g8 g9 g10 hc10) mv_X7_held wl_26_15 ⟨rfl, rfl, Nat.le_of_ble_eq_true rfl, Nat.le_of_ble_eq_true rfl⟩ [0, 1, 2, 3, 4, 5, 6, 7, 8, 9, 10, 11] rfl (by decide) 0 rfl rfl rfl rfl (Nat.le_of_ble_eq_true rfl) dX7_deal_79) rfl ?_
                refine ik_iload_n C 4 rfl rfl dX7_deal_82 ?_
                refine ik_icmp_ge C 89 dX7_deal_83 (by decide) (fun hc => ?_) (fun hc => ?_)
                · have hf := ik_pos hc hf
                  refine ik_iload C 0 rfl dX7_deal_89 ?_
                  refine ik_istore_n C [(2, .int x4_52), (4, .int x4_52), (3, .int x3_52), (0, .ref h0), (1, .int x1)] rfl (by decide) rfl dX7_deal_91 ?_
                  refine ik_aload_n C 3 rfl rfl dX7_deal_92 ?_
                  obtain ⟨r11, hc11, hf⟩ := ik_b1s hf
                  refine ik_goR (ik_runV C (c_X7_light l D cI cS h0 h1 h2 h3 h4 h5 h6 h7 h8 h9 h10 h11 misKept mtaped msort mfrom mto mvalue mbad g7 mkept g8 g3 mfound g9 g10 mtape mbits msize mnumber r11 hc11) mv_X7_light wl_27_7 ⟨rfl, rfl, Nat.le_of_ble_eq_true rfl, Nat.le_of_ble_eq_true rfl⟩ [0, 1, 2, 3, 4, 5, 6, 7, 8, 9, 10, 11] rfl (by decide) 0 rfl rfl rfl rfl (Nat.le_of_ble_eq_true rfl) dX7_deal_93) rfl ?_
                  refine ik_istore_n C [(3, .int r11), (2, .int x4_52), (4, .int x4_52), (0, .ref h0), (1, .int x1)] rfl (by decide) rfl dX7_deal_96 ?_
                  refine ik_iinc C [(4, .int (x4_52 + (1 : Int32))), (3, .int r11), (2, .int x4_52), (0, .ref h0), (1, .int x1)] 2 rfl rfl (by decide) rfl dX7_deal_97 ?_
                  refine ik_goto C 52 dX7_deal_100 (by decide) ?_
                  exact ik_sub [0, 1, 2, 3, 4] [(4, .int (x4_52 + (1 : Int32))), (3, .int r11), (2, .int x4_52), (0, .ref h0), (1, .int x1)] rfl (ih_52 g7 g8 g9 g10 x4_52 r11 (x4_52 + (1 : Int32)) hf)
                · have hf := ik_neg hc hf
                  refine ik_goto C 97 dX7_deal_86 (by decide) ?_
                  refine ik_iinc C [(4, .int (x4_52 + (1 : Int32))), (3, .int x3_52), (2, .int x2_52), (0, .ref h0), (1, .int x1)] 0 rfl rfl (by decide) rfl dX7_deal_97 ?_
                  refine ik_goto C 52 dX7_deal_100 (by decide) ?_
                  exact ik_sub [0, 1, 2, 3, 4] [(4, .int (x4_52 + (1 : Int32))), (3, .int x3_52), (2, .int x2_52), (0, .ref h0), (1, .int x1)] rfl (ih_52 g7 g8 g9 g10 x2_52 x3_52 (x4_52 + (1 : Int32)) hf)
      exact hL_52 ik_fu mm mwas mwarm mdrip (-1 : Int32) (0 : Int32) (0 : Int32) hf
    · have hf := ik_neg hc hf
      refine ik_aload_n C 0 rfl rfl dX7_deal_27 ?_
      refine ik_ldc C wl_6_16 dX7_deal_28 ?_
      obtain ⟨r3, g4, hc4, hf⟩ := ik_b2s hf
      refine ik_goW [0, 1, 2, 3, 4, 5, 6, 7, 8, 9, 10, 11] rfl rfl (wz_X7 cI cS h0 h1 h2 h3 h4 h5 h6 h7 h8 h9 h10 h11 misKept mtaped msort mfrom mto mvalue mbad mm mkept mwas mother g4 mwarm mdrip mtape mbits msize mnumber) rfl (ik_runV C (c_X7_finds l D cI cS h0 h1 h2 h3 h4 h5 h6 h7 h8 h9 h10 h11 misKept mtaped msort mfrom mto mvalue mbad mm mkept mwas mother mfound mwarm mdrip mtape mbits msize mnumber (-1000005 : Int32) r3 g4 hc4) mv_X7_finds wl_7_8 ⟨rfl, rfl, Nat.le_of_ble_eq_true rfl, Nat.le_of_ble_eq_true rfl⟩ [0, 1, 2, 3, 4, 5, 6, 7, 8, 9, 10, 11] rfl (by decide) 0 rfl rfl rfl rfl (Nat.le_of_ble_eq_true rfl) dX7_deal_30) rfl ?_
      cases hf
      exact ik_iretW C hr hlk dX7_deal_33
  · have hf := ik_pos hc hf
    refine ik_aload_n C 0 rfl rfl dX7_deal_12 ?_
    refine ik_ldc C wl_6_14 dX7_deal_13 ?_
    obtain ⟨r2, g3, hc3, hf⟩ := ik_b2s hf
    refine ik_goW [0, 1, 2, 3, 4, 5, 6, 7, 8, 9, 10, 11] rfl rfl (wz_X7 cI cS h0 h1 h2 h3 h4 h5 h6 h7 h8 h9 h10 h11 misKept mtaped msort mfrom mto mvalue mbad mm mkept mwas mother g3 mwarm mdrip mtape mbits msize mnumber) rfl (ik_runV C (c_X7_finds l D cI cS h0 h1 h2 h3 h4 h5 h6 h7 h8 h9 h10 h11 misKept mtaped msort mfrom mto mvalue mbad mm mkept mwas mother mfound mwarm mdrip mtape mbits msize mnumber (-1000001 : Int32) r2 g3 hc3) mv_X7_finds wl_7_8 ⟨rfl, rfl, Nat.le_of_ble_eq_true rfl, Nat.le_of_ble_eq_true rfl⟩ [0, 1, 2, 3, 4, 5, 6, 7, 8, 9, 10, 11] rfl (by decide) 0 rfl rfl rfl rfl (Nat.le_of_ble_eq_true rfl) dX7_deal_15) rfl ?_
    cases hf
    exact ik_iretW C hr hlk dX7_deal_18
theorem mv_X7_bears : ik_V yX7_bears RX7 cX7_bears 5 (some .int) 1 := ⟨wl_27_17, wl_27_18, wl_1_5, wl_27_19, by decide +kernel⟩
set_option maxHeartbeats 4000000 in
set_option maxRecDepth 100000 in
theorem c_X7_bears (l : Launch) (D : va_G) (cI cS : ClassId) (h0 h1 h2 h3 h4 h5 h6 h7 h8 h9 h10 h11 : Nat) (misKept : Int32) (mtaped : Int32) (msort : Int32) (mfrom : Int32) (mto : Int32) (mvalue : Int32) (mbad : Int32) (mm : Nat → Int32) (mkept : Nat → Int32) (mwas : Nat → Int32) (mother : Nat → Int32) (mfound : Nat → Int32) (mwarm : Nat → Int32) (mdrip : Nat → Int32) (mtape : Nat → Int32) (mbits : Nat → Int32) (msize : Nat → Int32) (mnumber : Nat → Int32) (x1 : Int32) (R : Int32) (mm_r : Nat → Int32) (mwas_r : Nat → Int32) (mfound_r : Nat → Int32) (mwarm_r : Nat → Int32) (mdrip_r : Nat → Int32) (hf : f_X7_bears mm mwas mfound mwarm mdrip x1 = some (R, mm_r, mwas_r, mfound_r, mwarm_r, mdrip_r)) : Met l yX7_bears (ik_ws yX7_bears cX7_bears 5 (some .int)) ({ frames := 9, cells := 0, slots := 0, locals := 204 } : Room) (ik_P D cI cS [.ref h0, .int x1] (wz_X7 cI cS h0 h1 h2 h3 h4 h5 h6 h7 h8 h9 h10 h11 misKept mtaped msort mfrom mto mvalue mbad mm mkept mwas mother mfound mwarm mdrip mtape mbits msize mnumber)) (ik_Q (some (.int R)) D (wz_X7 cI cS h0 h1 h2 h3 h4 h5 h6 h7 h8 h9 h10 h11 misKept mtaped msort mfrom mto mvalue mbad mm_r mkept mwas_r mother mfound_r mwarm_r mdrip_r mtape mbits msize mnumber) (wz_X7 cI cS h0 h1 h2 h3 h4 h5 h6 h7 h8 h9 h10 h11 misKept mtaped msort mfrom mto mvalue mbad mm mkept mwas mother mfound mwarm mdrip mtape mbits msize mnumber)) 0 0 (ik_in (wz_X7 cI cS h0 h1 h2 h3 h4 h5 h6 h7 h8 h9 h10 h11 misKept mtaped msort mfrom mto mvalue mbad mm mkept mwas mother mfound mwarm mdrip mtape mbits msize mnumber)) := by
  refine ik_metW RX7 rfl (by decide) (Nat.le_of_ble_eq_true rfl) [(0, .ref h0), (1, .int x1)] rfl ?_
  intro p e s m below meth c C hr hlk
  unfold f_X7_bears at hf
  refine ik_iload_n C 1 rfl rfl dX7_bears_0 ?_
  refine ik_i2l C dX7_bears_1 ?_
  refine ik_lconst (v := (1 : Int64)) C (by decide) dX7_bears_2 ?_
  refine ik_ldc2 C wl_20_13 dX7_bears_3 ?_
  obtain ⟨r1, hc1, hf⟩ := ik_b1s hf
  refine ik_goR (ik_runS C (c_X7_in l D cI cS (x1).toInt64 (1 : Int64) (48 : Int64) r1 hc1) ms_X7_in wl_6_21 ⟨rfl, rfl, Nat.le_of_ble_eq_true rfl, Nat.le_of_ble_eq_true rfl⟩ [] rfl (by decide) rfl rfl (Nat.le_of_ble_eq_true rfl) dX7_bears_6) rfl ?_
  refine ik_if_ne C 19 dX7_bears_9 (by decide) (fun hc => ?_) (fun hc => ?_)
  · have hf := ik_neg hc hf
    refine ik_aload_n C 0 rfl rfl dX7_bears_19 ?_
    refine ik_iload_n C 1 rfl rfl dX7_bears_20 ?_
    obtain ⟨r2, hc2, hf⟩ := ik_b1s hf
    refine ik_goR (ik_runV C (c_X7_isFarOn l D cI cS h0 h1 h2 h3 h4 h5 h6 h7 h8 h9 h10 h11 misKept mtaped msort mfrom mto mvalue mbad mm mkept mwas mother mfound mwarm mdrip mtape mbits msize mnumber x1 r2 hc2) mv_X7_isFarOn wl_25_19 ⟨rfl, rfl, Nat.le_of_ble_eq_true rfl, Nat.le_of_ble_eq_true rfl⟩ [0, 1, 2, 3, 4, 5, 6, 7, 8, 9, 10, 11] rfl (by decide) 0 rfl rfl rfl rfl (Nat.le_of_ble_eq_true rfl) dX7_bears_21) rfl ?_
    refine ik_if_eq C 34 dX7_bears_24 (by decide) (fun hc => ?_) (fun hc => ?_)
    · have hf := ik_pos hc hf
      refine ik_aload_n C 0 rfl rfl dX7_bears_34 ?_
      refine ik_get C inlX7 0 rfl rfl 0 (by decide) wl_4_12 rfl (v := .ref h1) rfl dX7_bears_35 ?_
      refine ik_iconst (v := (1 : Int32)) C (by decide) dX7_bears_38 ?_
      refine ik_iald C 1 rfl (ik_vin (by decide)) dX7_bears_39 ?_
      refine ik_istore_n C [(2, .int (mm ((1 : Int32)).toNatClampNeg)), (0, .ref h0), (1, .int x1)] rfl (by decide) rfl dX7_bears_40 ?_
      refine ik_bipush (v := (20 : Int32)) C (by decide) dX7_bears_41 ?_
      refine ik_istore_n C [(3, .int (20 : Int32)), (2, .int (mm ((1 : Int32)).toNatClampNeg)), (0, .ref h0), (1, .int x1)] rfl (by decide) rfl dX7_bears_43 ?_
      refine ik_iconst (v := (0 : Int32)) C (by decide) dX7_bears_44 ?_
      refine ik_istore C [(4, .int (0 : Int32)), (3, .int (20 : Int32)), (2, .int (mm ((1 : Int32)).toNatClampNeg)), (0, .ref h0), (1, .int x1)] (by decide) rfl dX7_bears_45 ?_
      have hL_47 : ∀ (n_47 : Nat) (mm_47 : Nat → Int32) (mwas_47 : Nat → Int32) (mwarm_47 : Nat → Int32) (mdrip_47 : Nat → Int32) (x3_47 : Int32) (x4_47 : Int32), ik_lp6 (b_X7_bears_47 mm mfound x1) n_47 mm_47 mwas_47 mwarm_47 mdrip_47 x3_47 x4_47 = some (R, mm_r, mwas_r, mfound_r, mwarm_r, mdrip_r) → ik_G p l e ({ frames := 9, cells := 0, slots := 0, locals := 204 } : Room) s m ([.ref h0, .int x1] : List Value).toArray below meth c D (ik_in (wz_X7 cI cS h0 h1 h2 h3 h4 h5 h6 h7 h8 h9 h10 h11 misKept mtaped msort mfrom mto mvalue mbad mm mkept mwas mother mfound mwarm mdrip mtape mbits msize mnumber)) (ik_in (wz_X7 cI cS h0 h1 h2 h3 h4 h5 h6 h7 h8 h9 h10 h11 misKept mtaped msort mfrom mto mvalue mbad mm mkept mwas mother mfound mwarm mdrip mtape mbits msize mnumber)) 5 (MQ below (ik_Q (some (.int R)) D (wz_X7 cI cS h0 h1 h2 h3 h4 h5 h6 h7 h8 h9 h10 h11 misKept mtaped msort mfrom mto mvalue mbad mm_r mkept mwas_r mother mfound_r mwarm_r mdrip_r mtape mbits msize mnumber) (wz_X7 cI cS h0 h1 h2 h3 h4 h5 h6 h7 h8 h9 h10 h11 misKept mtaped msort mfrom mto mvalue mbad mm mkept mwas mother mfound mwarm mdrip mtape mbits msize mnumber)) ([.ref h0, .int x1] : List Value).toArray s 0 0 (ik_in (wz_X7 cI cS h0 h1 h2 h3 h4 h5 h6 h7 h8 h9 h10 h11 misKept mtaped msort mfrom mto mvalue mbad mm mkept mwas mother mfound mwarm mdrip mtape mbits msize mnumber))) 47 [(4, .int x4_47), (3, .int x3_47), (2, .int (mm ((1 : Int32)).toNatClampNeg)), (0, .ref h0), (1, .int x1)] [] (wz_X7 cI cS h0 h1 h2 h3 h4 h5 h6 h7 h8 h9 h10 h11 misKept mtaped msort mfrom mto mvalue mbad mm_47 mkept mwas_47 mother mfound mwarm_47 mdrip_47 mtape mbits msize mnumber) := by
        intro n_47
        induction n_47 with
        | zero => intro _ _ _ _ _ _ hf; exact nomatch hf
        | succ n_47 ih_47 =>
          intro mm_47 mwas_47 mwarm_47 mdrip_47 x3_47 x4_47 hf
          replace hf : b_X7_bears_47 mm mfound x1 (ik_lp6 (b_X7_bears_47 mm mfound x1) n_47) mm_47 mwas_47 mwarm_47 mdrip_47 x3_47 x4_47 = some (R, mm_r, mwas_r, mfound_r, mwarm_r, mdrip_r) := hf
          unfold b_X7_bears_47 at hf
          refine ik_iload_n C 1 rfl rfl dX7_bears_47 ?_
          refine ik_bipush (v := (-20 : Int32)) C (by decide) dX7_bears_48 ?_
          refine ik_icmp_lt C 97 dX7_bears_50 (by decide) (fun hc => ?_) (fun hc => ?_)
          · have hf := ik_pos hc hf
            refine ik_aload_n C 3 rfl rfl dX7_bears_97 ?_
            refine ik_get C inlX7 0 rfl rfl 0 (by decide) wl_4_12 rfl (v := .ref h1) rfl dX7_bears_98 ?_
            refine ik_iconst (v := (1 : Int32)) C (by decide) dX7_bears_101 ?_
            refine ik_iload_n C 2 rfl rfl dX7_bears_102 ?_
            refine ik_iast C 1 rfl (ik_vin (by decide)) (wz_X7 cI cS h0 h1 h2 h3 h4 h5 h6 h7 h8 h9 h10 h11 misKept mtaped msort mfrom mto mvalue mbad (upd mm_47 ((1 : Int32)).toNatClampNeg (mm ((1 : Int32)).toNatClampNeg)) mkept mwas_47 mother mfound mwarm_47 mdrip_47 mtape mbits msize mnumber) rfl dX7_bears_103 ?_
            refine ik_iload C 0 rfl dX7_bears_104 ?_
            refine ik_if_eq C 113 dX7_bears_106 (by decide) (fun hc => ?_) (fun hc => ?_)
            · have hf := ik_pos hc hf
              refine ik_aload_n C 3 rfl rfl dX7_bears_113 ?_
              refine ik_ldc C wl_25_18 dX7_bears_114 ?_
              obtain ⟨r3, g4, hc4, hf⟩ := ik_b2s hf
              refine ik_goW [0, 1, 2, 3, 4, 5, 6, 7, 8, 9, 10, 11] rfl rfl (wz_X7 cI cS h0 h1 h2 h3 h4 h5 h6 h7 h8 h9 h10 h11 misKept mtaped msort mfrom mto mvalue mbad (upd mm_47 ((1 : Int32)).toNatClampNeg (mm ((1 : Int32)).toNatClampNeg)) mkept mwas_47 mother g4 mwarm_47 mdrip_47 mtape mbits msize mnumber) rfl (ik_runV C (c_X7_finds l D cI cS h0 h1 h2 h3 h4 h5 h6 h7 h8 h9 h10 h11 misKept mtaped msort mfrom mto mvalue mbad (upd mm_47 ((1 : Int32)).toNatClampNeg (mm ((1 : Int32)).toNatClampNeg)) mkept mwas_47 mother mfound mwarm_47 mdrip_47 mtape mbits msize mnumber (-1000004 : Int32) r3 g4 hc4) mv_X7_finds wl_7_8 ⟨rfl, rfl, Nat.le_of_ble_eq_true rfl, Nat.le_of_ble_eq_true rfl⟩ [0, 1, 2, 3, 4, 5, 6, 7, 8, 9, 10, 11] rfl (by decide) 0 rfl rfl rfl rfl (Nat.le_of_ble_eq_true rfl) dX7_bears_116) rfl ?_
              cases hf
              exact ik_iretW C hr hlk dX7_bears_119
            · have hf := ik_neg hc hf
              refine ik_iload_n C 1 rfl rfl dX7_bears_109 ?_
              refine ik_goto C 119 dX7_bears_110 (by decide) ?_
              cases hf
              exact ik_iretW C hr hlk dX7_bears_119
          · have hf := ik_neg hc hf
            refine ik_iload C 0 rfl dX7_bears_53 ?_
            refine ik_if_ne C 97 dX7_bears_55 (by decide) (fun hc => ?_) (fun hc => ?_)
            · have hf := ik_neg hc hf
              refine ik_aload_n C 3 rfl rfl dX7_bears_97 ?_
              refine ik_get C inlX7 0 rfl rfl 0 (by decide) wl_4_12 rfl (v := .ref h1) rfl dX7_bears_98 ?_
              refine ik_iconst (v := (1 : Int32)) C (by decide) dX7_bears_101 ?_
              refine ik_iload_n C 2 rfl rfl dX7_bears_102 ?_
              refine ik_iast C 1 rfl (ik_vin (by decide)) (wz_X7 cI cS h0 h1 h2 h3 h4 h5 h6 h7 h8 h9 h10 h11 misKept mtaped msort mfrom mto mvalue mbad (upd mm_47 ((1 : Int32)).toNatClampNeg (mm ((1 : Int32)).toNatClampNeg)) mkept mwas_47 mother mfound mwarm_47 mdrip_47 mtape mbits msize mnumber) rfl dX7_bears_103 ?_
              refine ik_iload C 0 rfl dX7_bears_104 ?_
              refine ik_if_eq C 113 dX7_bears_106 (by decide) (fun hc => ?_) (fun hc => ?_)
              · have hf := ik_pos hc hf
                refine ik_aload_n C 3 rfl rfl dX7_bears_113 ?_
                refine ik_ldc C wl_25_18 dX7_bears_114 ?_
                obtain ⟨r3, g4, hc4, hf⟩ := ik_b2s hf
                refine ik_goW [0, 1, 2, 3, 4, 5, 6, 7, 8, 9, 10, 11] rfl rfl (wz_X7 cI cS h0 h1 h2 h3 h4 h5 h6 h7 h8 h9 h10 h11 misKept mtaped msort mfrom mto mvalue mbad (upd mm_47 ((1 : Int32)).toNatClampNeg (mm ((1 : Int32)).toNatClampNeg)) mkept mwas_47 mother g4 mwarm_47 mdrip_47 mtape mbits msize mnumber) rfl (ik_runV C (c_X7_finds l D cI cS h0 h1 h2 h3 h4 h5 h6 h7 h8 h9 h10 h11 misKept mtaped msort mfrom mto mvalue mbad (upd mm_47 ((1 : Int32)).toNatClampNeg (mm ((1 : Int32)).toNatClampNeg)) mkept mwas_47 mother mfound mwarm_47 mdrip_47 mtape mbits msize mnumber (-1000004 : Int32) r3 g4 hc4) mv_X7_finds wl_7_8 ⟨rfl, rfl, Nat.le_of_ble_eq_true rfl, Nat.le_of_ble_eq_true rfl⟩ [0, 1, 2, 3, 4, 5, 6, 7, 8, 9, 10, 11] rfl (by decide) 0 rfl rfl rfl rfl (Nat.le_of_ble_eq_true rfl) dX7_bears_116) rfl ?_
                cases hf
                exact ik_iretW C hr hlk dX7_bears_119
              · have hf := ik_neg hc hf
                refine ik_iload_n C 1 rfl rfl dX7_bears_109 ?_
                refine ik_goto C 119 dX7_bears_110 (by decide) ?_
                cases hf
                exact ik_iretW C hr hlk dX7_bears_119
            · have hf := ik_pos hc hf
              refine ik_aload_n C 3 rfl rfl dX7_bears_58 ?_
              refine ik_get C inlX7 0 rfl rfl 0 (by decide) wl_4_12 rfl (v := .ref h1) rfl dX7_bears_59 ?_
              refine ik_iconst (v := (1 : Int32)) C (by decide) dX7_bears_62 ?_
              refine ik_iload_n C 1 rfl rfl dX7_bears_63 ?_
              refine ik_iast C 1 rfl (ik_vin (by decide)) (wz_X7 cI cS h0 h1 h2 h3 h4 h5 h6 h7 h8 h9 h10 h11 misKept mtaped msort mfrom mto mvalue mbad (upd mm_47 ((1 : Int32)).toNatClampNeg x3_47) mkept mwas_47 mother mfound mwarm_47 mdrip_47 mtape mbits msize mnumber) rfl dX7_bears_64 ?_
              refine ik_aload_n C 3 rfl rfl dX7_bears_65 ?_
              refine ik_iload_n C 4 rfl rfl dX7_bears_66 ?_
              obtain ⟨r3, g4, g5, g6, g7, hc7, hf⟩ := ik_b5s hf
              refine ik_goW [0, 1, 2, 3, 4, 5, 6, 7, 8, 9, 10, 11] rfl rfl (wz_X7 cI cS h0 h1 h2 h3 h4 h5 h6 h7 h8 h9 h10 h11 misKept mtaped msort mfrom mto mvalue mbad g4 mkept g5 mother mfound g6 g7 mtape mbits msize mnumber) rfl (ik_runV C (c_X7_held l D cI cS h0 h1 h2 h3 h4 h5 h6 h7 h8 h9 h10 h11 misKept mtaped msort mfrom mto mvalue mbad (upd mm_47 ((1 : Int32)).toNatClampNeg x3_47) mkept mwas_47 mother mfound mwarm_47 mdrip_47 mtape mbits msize mnumber x1 r3 g4 g5 g6 g7 hc7) mv_X7_held wl_26_15 ⟨rfl, rfl, Nat.le_of_ble_eq_true rfl, Nat.le_of_ble_eq_true rfl⟩ [0, 1, 2, 3, 4, 5, 6, 7, 8, 9, 10, 11] rfl (by decide) 0 rfl rfl rfl rfl (Nat.le_of_ble_eq_true rfl) dX7_bears_67) rfl ?_
              refine ik_iload_n C 4 rfl rfl dX7_bears_70 ?_
              refine ik_icmp_ne C 78 dX7_bears_71 (by decide) (fun hc => ?_) (fun hc => ?_)
              · have hf := ik_neg hc hf
                refine ik_iconst (v := (0 : Int32)) C (by decide) dX7_bears_78 ?_
                refine ik_istore C [(4, .int (0 : Int32)), (3, .int x3_47), (2, .int (mm ((1 : Int32)).toNatClampNeg)), (0, .ref h0), (1, .int x1)] (by decide) rfl dX7_bears_79 ?_
                refine ik_iload_n C 1 rfl rfl dX7_bears_81 ?_
                refine ik_iload C 0 rfl dX7_bears_82 ?_
                refine ik_if_eq C 91 dX7_bears_84 (by decide) (fun hc => ?_) (fun hc => ?_)
                · have hf := ik_pos hc hf
                  refine ik_iconst (v := (1 : Int32)) C (by decide) dX7_bears_91 ?_
                  refine ik_isub C dX7_bears_92 ?_
                  refine ik_istore_n C [(3, .int (x3_47 - (1 : Int32))), (4, .int (0 : Int32)), (2, .int (mm ((1 : Int32)).toNatClampNeg)), (0, .ref h0), (1, .int x1)] rfl (by decide) rfl dX7_bears_93 ?_
                  refine ik_goto C 47 dX7_bears_94 (by decide) ?_
                  exact ik_sub [1, 0, 2, 3, 4] [(4, .int (0 : Int32)), (3, .int (x3_47 - (1 : Int32))), (2, .int (mm ((1 : Int32)).toNatClampNeg)), (0, .ref h0), (1, .int x1)] rfl (ih_47 g4 g5 g6 g7 (x3_47 - (1 : Int32)) (0 : Int32) hf)
                · have hf := ik_neg hc hf
                  refine ik_iconst (v := (0 : Int32)) C (by decide) dX7_bears_87 ?_
                  refine ik_goto C 92 dX7_bears_88 (by decide) ?_
                  refine ik_isub C dX7_bears_92 ?_
                  refine ik_istore_n C [(3, .int (x3_47 - (0 : Int32))), (4, .int (0 : Int32)), (2, .int (mm ((1 : Int32)).toNatClampNeg)), (0, .ref h0), (1, .int x1)] rfl (by decide) rfl dX7_bears_93 ?_
                  refine ik_goto C 47 dX7_bears_94 (by decide) ?_
                  exact ik_sub [1, 0, 2, 3, 4] [(4, .int (0 : Int32)), (3, .int (x3_47 - (0 : Int32))), (2, .int (mm ((1 : Int32)).toNatClampNeg)), (0, .ref h0), (1, .int x1)] rfl (ih_47 g4 g5 g6 g7 (x3_47 - (0 : Int32)) (0 : Int32) hf)
              · have hf := ik_pos hc hf
                refine ik_iconst (v := (1 : Int32)) C (by decide) dX7_bears_74 ?_
                refine ik_goto C 79 dX7_bears_75 (by decide) ?_
                refine ik_istore C [(4, .int (1 : Int32)), (3, .int x3_47), (2, .int (mm ((1 : Int32)).toNatClampNeg)), (0, .ref h0), (1, .int x1)] (by decide) rfl dX7_bears_79 ?_
                refine ik_iload_n C 1 rfl rfl dX7_bears_81 ?_
                refine ik_iload C 0 rfl dX7_bears_82 ?_
                refine ik_if_eq C 91 dX7_bears_84 (by decide) (fun hc => ?_) (fun hc => ?_)
                · have hf := ik_pos hc hf
                  refine ik_iconst (v := (1 : Int32)) C (by decide) dX7_bears_91 ?_
                  refine ik_isub C dX7_bears_92 ?_
                  refine ik_istore_n C [(3, .int (x3_47 - (1 : Int32))), (4, .int (1 : Int32)), (2, .int (mm ((1 : Int32)).toNatClampNeg)), (0, .ref h0), (1, .int x1)] rfl (by decide) rfl dX7_bears_93 ?_
                  refine ik_goto C 47 dX7_bears_94 (by decide) ?_
                  exact ik_sub [1, 0, 2, 3, 4] [(4, .int (1 : Int32)), (3, .int (x3_47 - (1 : Int32))), (2, .int (mm ((1 : Int32)).toNatClampNeg)), (0, .ref h0), (1, .int x1)] rfl (ih_47 g4 g5 g6 g7 (x3_47 - (1 : Int32)) (1 : Int32) hf)
                · have hf := ik_neg hc hf
                  refine ik_iconst (v := (0 : Int32)) C (by decide) dX7_bears_87 ?_
                  refine ik_goto C 92 dX7_bears_88 (by decide) ?_
                  refine ik_isub C dX7_bears_92 ?_
                  refine ik_istore_n C [(3, .int (x3_47 - (0 : Int32))), (4, .int (1 : Int32)), (2, .int (mm ((1 : Int32)).toNatClampNeg)), (0, .ref h0), (1, .int x1)] rfl (by decide) rfl dX7_bears_93 ?_
                  refine ik_goto C 47 dX7_bears_94 (by decide) ?_
                  exact ik_sub [1, 0, 2, 3, 4] [(4, .int (1 : Int32)), (3, .int (x3_47 - (0 : Int32))), (2, .int (mm ((1 : Int32)).toNatClampNeg)), (0, .ref h0), (1, .int x1)] rfl (ih_47 g4 g5 g6 g7 (x3_47 - (0 : Int32)) (1 : Int32) hf)
      exact hL_47 ik_fu mm mwas mwarm mdrip (20 : Int32) (0 : Int32) hf
    · have hf := ik_neg hc hf
      refine ik_aload_n C 0 rfl rfl dX7_bears_27 ?_
      refine ik_ldc C wl_6_16 dX7_bears_28 ?_
      obtain ⟨r3, g4, hc4, hf⟩ := ik_b2s hf
      refine ik_goW [0, 1, 2, 3, 4, 5, 6, 7, 8, 9, 10, 11] rfl rfl (wz_X7 cI cS h0 h1 h2 h3 h4 h5 h6 h7 h8 h9 h10 h11 misKept mtaped msort mfrom mto mvalue mbad mm mkept mwas mother g4 mwarm mdrip mtape mbits msize mnumber) rfl (ik_runV C (c_X7_finds l D cI cS h0 h1 h2 h3 h4 h5 h6 h7 h8 h9 h10 h11 misKept mtaped msort mfrom mto mvalue mbad mm mkept mwas mother mfound mwarm mdrip mtape mbits msize mnumber (-1000005 : Int32) r3 g4 hc4) mv_X7_finds wl_7_8 ⟨rfl, rfl, Nat.le_of_ble_eq_true rfl, Nat.le_of_ble_eq_true rfl⟩ [0, 1, 2, 3, 4, 5, 6, 7, 8, 9, 10, 11] rfl (by decide) 0 rfl rfl rfl rfl (Nat.le_of_ble_eq_true rfl) dX7_bears_30) rfl ?_
      cases hf
      exact ik_iretW C hr hlk dX7_bears_33
  · have hf := ik_pos hc hf
    refine ik_aload_n C 0 rfl rfl dX7_bears_12 ?_
    refine ik_ldc C wl_6_14 dX7_bears_13 ?_
    obtain ⟨r2, g3, hc3, hf⟩ := ik_b2s hf
    refine ik_goW [0, 1, 2, 3, 4, 5, 6, 7, 8, 9, 10, 11] rfl rfl (wz_X7 cI cS h0 h1 h2 h3 h4 h5 h6 h7 h8 h9 h10 h11 misKept mtaped msort mfrom mto mvalue mbad mm mkept mwas mother g3 mwarm mdrip mtape mbits msize mnumber) rfl (ik_runV C (c_X7_finds l D cI cS h0 h1 h2 h3 h4 h5 h6 h7 h8 h9 h10 h11 misKept mtaped msort mfrom mto mvalue mbad mm mkept mwas mother mfound mwarm mdrip mtape mbits msize mnumber (-1000001 : Int32) r2 g3 hc3) mv_X7_finds wl_7_8 ⟨rfl, rfl, Nat.le_of_ble_eq_true rfl, Nat.le_of_ble_eq_true rfl⟩ [0, 1, 2, 3, 4, 5, 6, 7, 8, 9, 10, 11] rfl (by decide) 0 rfl rfl rfl rfl (Nat.le_of_ble_eq_true rfl) dX7_bears_15) rfl ?_
    cases hf
    exact ik_iretW C hr hlk dX7_bears_18
theorem mv_X7_wrongFor : ik_V yX7_wrongFor RX7 cX7_wrongFor 4 (some .int) 3 := ⟨wl_28_5, wl_28_6, wl_1_5, wl_28_7, by decide +kernel⟩
set_option maxHeartbeats 4000000 in
set_option maxRecDepth 100000 in
theorem c_X7_wrongFor (l : Launch) (D : va_G) (cI cS : ClassId) (h0 h1 h2 h3 h4 h5 h6 h7 h8 h9 h10 h11 : Nat) (misKept : Int32) (mtaped : Int32) (msort : Int32) (mfrom : Int32) (mto : Int32) (mvalue : Int32) (mbad : Int32) (mm : Nat → Int32) (mkept : Nat → Int32) (mwas : Nat → Int32) (mother : Nat → Int32) (mfound : Nat → Int32) (mwarm : Nat → Int32) (mdrip : Nat → Int32) (mtape : Nat → Int32) (mbits : Nat → Int32) (msize : Nat → Int32) (mnumber : Nat → Int32) (x1 : Int32) (x2 : Int32) (x3 : Int32) (R : Int32) (hf : f_X7_wrongFor mm x1 x2 x3 = some (R)) : Met l yX7_wrongFor (ik_ws yX7_wrongFor cX7_wrongFor 4 (some .int)) ({ frames := 2, cells := 0, slots := 0, locals := 46 } : Room) (ik_P D cI cS [.ref h0, .int x1, .int x2, .int x3] (wz_X7 cI cS h0 h1 h2 h3 h4 h5 h6 h7 h8 h9 h10 h11 misKept mtaped msort mfrom mto mvalue mbad mm mkept mwas mother mfound mwarm mdrip mtape mbits msize mnumber)) (ik_R (some (.int R))) 0 0 ik_no := by
  refine ik_metR RX7 rfl (by decide) (Nat.le_of_ble_eq_true rfl) [(0, .ref h0), (1, .int x1), (2, .int x2), (3, .int x3)] rfl ?_
  intro p e s m below meth c C hr hlk
  unfold f_X7_wrongFor at hf
  refine ik_aload_n C 0 rfl rfl dX7_wrongFor_0 ?_
  refine ik_iload_n C 1 rfl rfl dX7_wrongFor_1 ?_
  obtain ⟨r1, hc1, hf⟩ := ik_b1s hf
  refine ik_goR (ik_runV C (c_X7_isBlock l D cI cS h0 h1 h2 h3 h4 h5 h6 h7 h8 h9 h10 h11 misKept mtaped msort mfrom mto mvalue mbad mm mkept mwas mother mfound mwarm mdrip mtape mbits msize mnumber x1 r1 hc1) mv_X7_isBlock wl_9_17 ⟨rfl, rfl, Nat.le_of_ble_eq_true rfl, Nat.le_of_ble_eq_true rfl⟩ [0, 1, 2, 3, 4, 5, 6, 7, 8, 9, 10, 11] rfl (by decide) 0 rfl rfl rfl rfl (Nat.le_of_ble_eq_true rfl) dX7_wrongFor_2) rfl ?_
  refine ik_if_eq C 12 dX7_wrongFor_5 (by decide) (fun hc => ?_) (fun hc => ?_)
  · have hf := ik_pos hc hf
    refine ik_ldc C wl_6_14 dX7_wrongFor_12 ?_
    refine ik_goto C 39 dX7_wrongFor_14 (by decide) ?_
    cases hf
    exact ik_iretR C hr hlk dX7_wrongFor_39
  · have hf := ik_neg hc hf
    refine ik_iload_n C 3 rfl rfl dX7_wrongFor_8 ?_
    refine ik_if_ne C 17 dX7_wrongFor_9 (by decide) (fun hc => ?_) (fun hc => ?_)
    · have hf := ik_neg hc hf
      refine ik_aload_n C 0 rfl rfl dX7_wrongFor_17 ?_
      refine ik_iload_n C 1 rfl rfl dX7_wrongFor_18 ?_
      obtain ⟨r2, hc2, hf⟩ := ik_b1s hf
      refine ik_goR (ik_runV C (c_X7_isGone l D cI cS h0 h1 h2 h3 h4 h5 h6 h7 h8 h9 h10 h11 misKept mtaped msort mfrom mto mvalue mbad mm mkept mwas mother mfound mwarm mdrip mtape mbits msize mnumber x1 r2 hc2) mv_X7_isGone wl_10_5 ⟨rfl, rfl, Nat.le_of_ble_eq_true rfl, Nat.le_of_ble_eq_true rfl⟩ [0, 1, 2, 3, 4, 5, 6, 7, 8, 9, 10, 11] rfl (by decide) 0 rfl rfl rfl rfl (Nat.le_of_ble_eq_true rfl) dX7_wrongFor_19) rfl ?_
      refine ik_if_ne C 33 dX7_wrongFor_22 (by decide) (fun hc => ?_) (fun hc => ?_)
      · have hf := ik_neg hc hf
        refine ik_ldc C wl_6_16 dX7_wrongFor_33 ?_
        refine ik_goto C 39 dX7_wrongFor_35 (by decide) ?_
        cases hf
        exact ik_iretR C hr hlk dX7_wrongFor_39
      · have hf := ik_pos hc hf
        refine ik_aload_n C 0 rfl rfl dX7_wrongFor_25 ?_
        refine ik_iload_n C 2 rfl rfl dX7_wrongFor_26 ?_
        obtain ⟨r3, hc3, hf⟩ := ik_b1s hf
        refine ik_goR (ik_runV C (c_X7_isFarOn l D cI cS h0 h1 h2 h3 h4 h5 h6 h7 h8 h9 h10 h11 misKept mtaped msort mfrom mto mvalue mbad mm mkept mwas mother mfound mwarm mdrip mtape mbits msize mnumber x2 r3 hc3) mv_X7_isFarOn wl_25_19 ⟨rfl, rfl, Nat.le_of_ble_eq_true rfl, Nat.le_of_ble_eq_true rfl⟩ [0, 1, 2, 3, 4, 5, 6, 7, 8, 9, 10, 11] rfl (by decide) 0 rfl rfl rfl rfl (Nat.le_of_ble_eq_true rfl) dX7_wrongFor_27) rfl ?_
        refine ik_if_eq C 38 dX7_wrongFor_30 (by decide) (fun hc => ?_) (fun hc => ?_)
        · have hf := ik_pos hc hf
          refine ik_iconst (v := (0 : Int32)) C (by decide) dX7_wrongFor_38 ?_
          cases hf
          exact ik_iretR C hr hlk dX7_wrongFor_39
        · have hf := ik_neg hc hf
          refine ik_ldc C wl_6_16 dX7_wrongFor_33 ?_
          refine ik_goto C 39 dX7_wrongFor_35 (by decide) ?_
          cases hf
          exact ik_iretR C hr hlk dX7_wrongFor_39
    · have hf := ik_pos hc hf
      refine ik_ldc C wl_6_14 dX7_wrongFor_12 ?_
      refine ik_goto C 39 dX7_wrongFor_14 (by decide) ?_
      cases hf
      exact ik_iretR C hr hlk dX7_wrongFor_39
theorem ms_X7_capped : ik_S yX7_capped RX7 cX7_capped 1 (some .int) 1 := ⟨wl_28_9, wl_1_5, wl_28_10, by decide +kernel⟩
set_option maxHeartbeats 4000000 in
set_option maxRecDepth 100000 in
theorem c_X7_capped (l : Launch) (D : va_G) (cI cS : ClassId) (x0 : Int32) (R : Int32) (hf : f_X7_capped x0 = some (R)) : Met l yX7_capped (ik_ws yX7_capped cX7_capped 1 (some .int)) ({ frames := 0, cells := 0, slots := 0, locals := 0 } : Room) (ik_P D cI cS [.int x0] (wz_none cI cS)) (ik_R (some (.int R))) 0 0 ik_no := by
  refine ik_metR RX7 rfl (by decide) (Nat.le_of_ble_eq_true rfl) [(0, .int x0)] rfl ?_
  intro p e s m below meth c C hr hlk
  unfold f_X7_capped at hf
  refine ik_iload_n C 0 rfl rfl dX7_capped_0 ?_
  refine ik_bipush (v := (99 : Int32)) C (by decide) dX7_capped_1 ?_
  refine ik_icmp_le C 11 dX7_capped_3 (by decide) (fun hc => ?_) (fun hc => ?_)
  · have hf := ik_pos hc hf
    refine ik_iload_n C 0 rfl rfl dX7_capped_11 ?_
    cases hf
    exact ik_iretR C hr hlk dX7_capped_12
  · have hf := ik_neg hc hf
    refine ik_bipush (v := (99 : Int32)) C (by decide) dX7_capped_6 ?_
    refine ik_goto C 12 dX7_capped_8 (by decide) ?_
    cases hf
    exact ik_iretR C hr hlk dX7_capped_12
theorem mv_X7_needs : ik_V yX7_needs RX7 cX7_needs 7 (some .int) 2 := ⟨wl_28_1, wl_28_2, wl_1_5, wl_28_3, by decide +kernel⟩
set_option maxHeartbeats 4000000 in
set_option maxRecDepth 100000 in
theorem c_X7_needs (l : Launch) (D : va_G) (cI cS : ClassId) (h0 h1 h2 h3 h4 h5 h6 h7 h8 h9 h10 h11 : Nat) (misKept : Int32) (mtaped : Int32) (msort : Int32) (mfrom : Int32) (mto : Int32) (mvalue : Int32) (mbad : Int32) (mm : Nat → Int32) (mkept : Nat → Int32) (mwas : Nat → Int32) (mother : Nat → Int32) (mfound : Nat → Int32) (mwarm : Nat → Int32) (mdrip : Nat → Int32) (mtape : Nat → Int32) (mbits : Nat → Int32) (msize : Nat → Int32) (mnumber : Nat → Int32) (x1 : Int32) (x2 : Int32) (R : Int32) (mm_r : Nat → Int32) (mwas_r : Nat → Int32) (mfound_r : Nat → Int32) (mwarm_r : Nat → Int32) (mdrip_r : Nat → Int32) (hf : f_X7_needs mm mwas mfound mwarm mdrip x1 x2 = some (R, mm_r, mwas_r, mfound_r, mwarm_r, mdrip_r)) : Met l yX7_needs (ik_ws yX7_needs cX7_needs 7 (some .int)) ({ frames := 9, cells := 0, slots := 0, locals := 204 } : Room) (ik_P D cI cS [.ref h0, .int x1, .int x2] (wz_X7 cI cS h0 h1 h2 h3 h4 h5 h6 h7 h8 h9 h10 h11 misKept mtaped msort mfrom mto mvalue mbad mm mkept mwas mother mfound mwarm mdrip mtape mbits msize mnumber)) (ik_Q (some (.int R)) D (wz_X7 cI cS h0 h1 h2 h3 h4 h5 h6 h7 h8 h9 h10 h11 misKept mtaped msort mfrom mto mvalue mbad mm_r mkept mwas_r mother mfound_r mwarm_r mdrip_r mtape mbits msize mnumber) (wz_X7 cI cS h0 h1 h2 h3 h4 h5 h6 h7 h8 h9 h10 h11 misKept mtaped msort mfrom mto mvalue mbad mm mkept mwas mother mfound mwarm mdrip mtape mbits msize mnumber)) 0 0 (ik_in (wz_X7 cI cS h0 h1 h2 h3 h4 h5 h6 h7 h8 h9 h10 h11 misKept mtaped msort mfrom mto mvalue mbad mm mkept mwas mother mfound mwarm mdrip mtape mbits msize mnumber)) := by
  refine ik_metW RX7 rfl (by decide) (Nat.le_of_ble_eq_true rfl) [(0, .ref h0), (1, .int x1), (2, .int x2)] rfl ?_
  intro p e s m below meth c C hr hlk
  unfold f_X7_needs at hf
  refine ik_aload_n C 0 rfl rfl dX7_needs_0 ?_
  refine ik_iload_n C 1 rfl rfl dX7_needs_1 ?_
  refine ik_iload_n C 2 rfl rfl dX7_needs_2 ?_
  refine ik_iload_n C 2 rfl rfl dX7_needs_3 ?_
  refine ik_i2l C dX7_needs_4 ?_
  refine ik_lconst (v := (1 : Int64)) C (by decide) dX7_needs_5 ?_
  refine ik_ldc2 C wl_20_13 dX7_needs_6 ?_
  obtain ⟨r1, hc1, hf⟩ := ik_b1s hf
  refine ik_goR (ik_runS C (c_X7_in l D cI cS (x2).toInt64 (1 : Int64) (48 : Int64) r1 hc1) ms_X7_in wl_6_21 ⟨rfl, rfl, Nat.le_of_ble_eq_true rfl, Nat.le_of_ble_eq_true rfl⟩ [] rfl (by decide) rfl rfl (Nat.le_of_ble_eq_true rfl) dX7_needs_9) rfl ?_
  obtain ⟨r2, hc2, hf⟩ := ik_b1s hf
  refine ik_goR (ik_runV C (c_X7_wrongFor l D cI cS h0 h1 h2 h3 h4 h5 h6 h7 h8 h9 h10 h11 misKept mtaped msort mfrom mto mvalue mbad mm mkept mwas mother mfound mwarm mdrip mtape mbits msize mnumber x1 x2 r1 r2 hc2) mv_X7_wrongFor wl_28_4 ⟨rfl, rfl, Nat.le_of_ble_eq_true rfl, Nat.le_of_ble_eq_true rfl⟩ [0, 1, 2, 3, 4, 5, 6, 7, 8, 9, 10, 11] rfl (by decide) 0 rfl rfl rfl rfl (Nat.le_of_ble_eq_true rfl) dX7_needs_12) rfl ?_
  refine ik_istore_n C [(3, .int r2), (0, .ref h0), (1, .int x1), (2, .int x2)] rfl (by decide) rfl dX7_needs_15 ?_
  refine ik_iload_n C 0 rfl rfl dX7_needs_16 ?_
  refine ik_if_ge C 26 dX7_needs_17 (by decide) (fun hc => ?_) (fun hc => ?_)
  · have hf := ik_pos hc hf
    refine ik_aload_n C 1 rfl rfl dX7_needs_26 ?_
    refine ik_iload_n C 2 rfl rfl dX7_needs_27 ?_
    obtain ⟨r3, hc3, hf⟩ := ik_b1s hf
    refine ik_goR (ik_runV C (c_X7_grains l D cI cS h0 h1 h2 h3 h4 h5 h6 h7 h8 h9 h10 h11 misKept mtaped msort mfrom mto mvalue mbad mm mkept mwas mother mfound mwarm mdrip mtape mbits msize mnumber x1 r3 hc3) mv_X7_grains wl_10_1 ⟨rfl, rfl, Nat.le_of_ble_eq_true rfl, Nat.le_of_ble_eq_true rfl⟩ [0, 1, 2, 3, 4, 5, 6, 7, 8, 9, 10, 11] rfl (by decide) 0 rfl rfl rfl rfl (Nat.le_of_ble_eq_true rfl) dX7_needs_28) rfl ?_
    refine ik_istore C [(4, .int r3), (3, .int r2), (0, .ref h0), (1, .int x1), (2, .int x2)] (by decide) rfl dX7_needs_31 ?_
    refine ik_iconst (v := (-1 : Int32)) C (by decide) dX7_needs_33 ?_
    refine ik_istore C [(5, .int (-1 : Int32)), (4, .int r3), (3, .int r2), (0, .ref h0), (1, .int x1), (2, .int x2)] (by decide) rfl dX7_needs_34 ?_
    refine ik_iconst (v := (0 : Int32)) C (by decide) dX7_needs_36 ?_
    refine ik_istore C [(6, .int (0 : Int32)), (5, .int (-1 : Int32)), (4, .int r3), (3, .int r2), (0, .ref h0), (1, .int x1), (2, .int x2)] (by decide) rfl dX7_needs_37 ?_
    have hL_39 : ∀ (n_39 : Nat) (mm_39 : Nat → Int32) (mwas_39 : Nat → Int32) (mwarm_39 : Nat → Int32) (mdrip_39 : Nat → Int32) (x5_39 : Int32) (x6_39 : Int32), ik_lp6 (b_X7_needs_39 mfound x1 x2 r3) n_39 mm_39 mwas_39 mwarm_39 mdrip_39 x5_39 x6_39 = some (R, mm_r, mwas_r, mfound_r, mwarm_r, mdrip_r) → ik_G p l e ({ frames := 9, cells := 0, slots := 0, locals := 204 } : Room) s m ([.ref h0, .int x1, .int x2] : List Value).toArray below meth c D (ik_in (wz_X7 cI cS h0 h1 h2 h3 h4 h5 h6 h7 h8 h9 h10 h11 misKept mtaped msort mfrom mto mvalue mbad mm mkept mwas mother mfound mwarm mdrip mtape mbits msize mnumber)) (ik_in (wz_X7 cI cS h0 h1 h2 h3 h4 h5 h6 h7 h8 h9 h10 h11 misKept mtaped msort mfrom mto mvalue mbad mm mkept mwas mother mfound mwarm mdrip mtape mbits msize mnumber)) 7 (MQ below (ik_Q (some (.int R)) D (wz_X7 cI cS h0 h1 h2 h3 h4 h5 h6 h7 h8 h9 h10 h11 misKept mtaped msort mfrom mto mvalue mbad mm_r mkept mwas_r mother mfound_r mwarm_r mdrip_r mtape mbits msize mnumber) (wz_X7 cI cS h0 h1 h2 h3 h4 h5 h6 h7 h8 h9 h10 h11 misKept mtaped msort mfrom mto mvalue mbad mm mkept mwas mother mfound mwarm mdrip mtape mbits msize mnumber)) ([.ref h0, .int x1, .int x2] : List Value).toArray s 0 0 (ik_in (wz_X7 cI cS h0 h1 h2 h3 h4 h5 h6 h7 h8 h9 h10 h11 misKept mtaped msort mfrom mto mvalue mbad mm mkept mwas mother mfound mwarm mdrip mtape mbits msize mnumber))) 39 [(6, .int x6_39), (5, .int x5_39), (4, .int r3), (3, .int r2), (0, .ref h0), (1, .int x1), (2, .int x2)] [] (wz_X7 cI cS h0 h1 h2 h3 h4 h5 h6 h7 h8 h9 h10 h11 misKept mtaped msort mfrom mto mvalue mbad mm_39 mkept mwas_39 mother mfound mwarm_39 mdrip_39 mtape mbits msize mnumber) := by
      intro n_39
      induction n_39 with
      | zero => intro _ _ _ _ _ _ hf; exact nomatch hf
      | succ n_39 ih_39 =>
        intro mm_39 mwas_39 mwarm_39 mdrip_39 x5_39 x6_39 hf
        replace hf : b_X7_needs_39 mfound x1 x2 r3 (ik_lp6 (b_X7_needs_39 mfound x1 x2 r3) n_39) mm_39 mwas_39 mwarm_39 mdrip_39 x5_39 x6_39 = some (R, mm_r, mwas_r, mfound_r, mwarm_r, mdrip_r) := hf
        unfold b_X7_needs_39 at hf
        refine ik_iload C 0 rfl dX7_needs_39 ?_
        refine ik_bipush (v := (99 : Int32)) C (by decide) dX7_needs_41 ?_
        refine ik_icmp_gt C 87 dX7_needs_43 (by decide) (fun hc => ?_) (fun hc => ?_)
        · have hf := ik_pos hc hf
          refine ik_aload_n C 4 rfl rfl dX7_needs_87 ?_
          refine ik_iload_n C 5 rfl rfl dX7_needs_88 ?_
          refine ik_iload C 2 rfl dX7_needs_89 ?_
          obtain ⟨g4, hc4, hf⟩ := ik_b1s hf
          refine ik_goW [0, 1, 2, 3, 4, 5, 6, 7, 8, 9, 10, 11] rfl rfl (wz_X7 cI cS h0 h1 h2 h3 h4 h5 h6 h7 h8 h9 h10 h11 misKept mtaped msort mfrom mto mvalue mbad g4 mkept mwas_39 mother mfound mwarm_39 mdrip_39 mtape mbits msize mnumber) rfl (ik_runV C (c_X7_makes l D cI cS h0 h1 h2 h3 h4 h5 h6 h7 h8 h9 h10 h11 misKept mtaped msort mfrom mto mvalue mbad mm_39 mkept mwas_39 mother mfound mwarm_39 mdrip_39 mtape mbits msize mnumber x1 r3 g4 hc4) mv_X7_makes wl_14_23 ⟨rfl, rfl, Nat.le_of_ble_eq_true rfl, Nat.le_of_ble_eq_true rfl⟩ [0, 1, 2, 3, 4, 5, 6, 7, 8, 9, 10, 11] rfl (by decide) 0 rfl rfl rfl rfl (Nat.le_of_ble_eq_true rfl) dX7_needs_91) rfl ?_
          refine ik_aload_n C 4 rfl rfl dX7_needs_94 ?_
          refine ik_iload C 1 rfl dX7_needs_95 ?_
          obtain ⟨r5, g6, hc6, hf⟩ := ik_b2s hf
          refine ik_goW [0, 1, 2, 3, 4, 5, 6, 7, 8, 9, 10, 11] rfl rfl (wz_X7 cI cS h0 h1 h2 h3 h4 h5 h6 h7 h8 h9 h10 h11 misKept mtaped msort mfrom mto mvalue mbad g4 mkept mwas_39 mother g6 mwarm_39 mdrip_39 mtape mbits msize mnumber) rfl (ik_runV C (c_X7_orNone l D cI cS h0 h1 h2 h3 h4 h5 h6 h7 h8 h9 h10 h11 misKept mtaped msort mfrom mto mvalue mbad g4 mkept mwas_39 mother mfound mwarm_39 mdrip_39 mtape mbits msize mnumber x5_39 r5 g6 hc6) mv_X7_orNone wl_27_8 ⟨rfl, rfl, Nat.le_of_ble_eq_true rfl, Nat.le_of_ble_eq_true rfl⟩ [0, 1, 2, 3, 4, 5, 6, 7, 8, 9, 10, 11] rfl (by decide) 0 rfl rfl rfl rfl (Nat.le_of_ble_eq_true rfl) dX7_needs_97) rfl ?_
          cases hf
          exact ik_iretW C hr hlk dX7_needs_100
        · have hf := ik_neg hc hf
          refine ik_iload C 1 rfl dX7_needs_46 ?_
          refine ik_if_ge C 87 dX7_needs_48 (by decide) (fun hc => ?_) (fun hc => ?_)
          · have hf := ik_pos hc hf
            refine ik_aload_n C 4 rfl rfl dX7_needs_87 ?_
            refine ik_iload_n C 5 rfl rfl dX7_needs_88 ?_
            refine ik_iload C 2 rfl dX7_needs_89 ?_
            obtain ⟨g4, hc4, hf⟩ := ik_b1s hf
            refine ik_goW [0, 1, 2, 3, 4, 5, 6, 7, 8, 9, 10, 11] rfl rfl (wz_X7 cI cS h0 h1 h2 h3 h4 h5 h6 h7 h8 h9 h10 h11 misKept mtaped msort mfrom mto mvalue mbad g4 mkept mwas_39 mother mfound mwarm_39 mdrip_39 mtape mbits msize mnumber) rfl (ik_runV C (c_X7_makes l D cI cS h0 h1 h2 h3 h4 h5 h6 h7 h8 h9 h10 h11 misKept mtaped msort mfrom mto mvalue mbad mm_39 mkept mwas_39 mother mfound mwarm_39 mdrip_39 mtape mbits msize mnumber x1 r3 g4 hc4) mv_X7_makes wl_14_23 ⟨rfl, rfl, Nat.le_of_ble_eq_true rfl, Nat.le_of_ble_eq_true rfl⟩ [0, 1, 2, 3, 4, 5, 6, 7, 8, 9, 10, 11] rfl (by decide) 0 rfl rfl rfl rfl (Nat.le_of_ble_eq_true rfl) dX7_needs_91) rfl ?_
            refine ik_aload_n C 4 rfl rfl dX7_needs_94 ?_
            refine ik_iload C 1 rfl dX7_needs_95 ?_
            obtain ⟨r5, g6, hc6, hf⟩ := ik_b2s hf
            refine ik_goW [0, 1, 2, 3, 4, 5, 6, 7, 8, 9, 10, 11] rfl rfl (wz_X7 cI cS h0 h1 h2 h3 h4 h5 h6 h7 h8 h9 h10 h11 misKept mtaped msort mfrom mto mvalue mbad g4 mkept mwas_39 mother g6 mwarm_39 mdrip_39 mtape mbits msize mnumber) rfl (ik_runV C (c_X7_orNone l D cI cS h0 h1 h2 h3 h4 h5 h6 h7 h8 h9 h10 h11 misKept mtaped msort mfrom mto mvalue mbad g4 mkept mwas_39 mother mfound mwarm_39 mdrip_39 mtape mbits msize mnumber x5_39 r5 g6 hc6) mv_X7_orNone wl_27_8 ⟨rfl, rfl, Nat.le_of_ble_eq_true rfl, Nat.le_of_ble_eq_true rfl⟩ [0, 1, 2, 3, 4, 5, 6, 7, 8, 9, 10, 11] rfl (by decide) 0 rfl rfl rfl rfl (Nat.le_of_ble_eq_true rfl) dX7_needs_97) rfl ?_
            cases hf
            exact ik_iretW C hr hlk dX7_needs_100
          · have hf := ik_neg hc hf
            refine ik_aload_n C 4 rfl rfl dX7_needs_51 ?_
            refine ik_iload_n C 5 rfl rfl dX7_needs_52 ?_
            refine ik_iload C 2 rfl dX7_needs_53 ?_
            refine ik_iload C 0 rfl dX7_needs_55 ?_
            refine ik_iadd C dX7_needs_57 ?_
            obtain ⟨r4, hc4, hf⟩ := ik_b1s hf
            refine ik_goR (ik_runS C (c_X7_capped l D cI cS (r3 + x6_39) r4 hc4) ms_X7_capped wl_28_8 ⟨rfl, rfl, Nat.le_of_ble_eq_true rfl, Nat.le_of_ble_eq_true rfl⟩ [] rfl (by decide) rfl rfl (Nat.le_of_ble_eq_true rfl) dX7_needs_58) rfl ?_
            obtain ⟨g5, hc5, hf⟩ := ik_b1s hf
            refine ik_goW [0, 1, 2, 3, 4, 5, 6, 7, 8, 9, 10, 11] rfl rfl (wz_X7 cI cS h0 h1 h2 h3 h4 h5 h6 h7 h8 h9 h10 h11 misKept mtaped msort mfrom mto mvalue mbad g5 mkept mwas_39 mother mfound mwarm_39 mdrip_39 mtape mbits msize mnumber) rfl (ik_runV C (c_X7_makes l D cI cS h0 h1 h2 h3 h4 h5 h6 h7 h8 h9 h10 h11 misKept mtaped msort mfrom mto mvalue mbad mm_39 mkept mwas_39 mother mfound mwarm_39 mdrip_39 mtape mbits msize mnumber x1 r4 g5 hc5) mv_X7_makes wl_14_23 ⟨rfl, rfl, Nat.le_of_ble_eq_true rfl, Nat.le_of_ble_eq_true rfl⟩ [0, 1, 2, 3, 4, 5, 6, 7, 8, 9, 10, 11] rfl (by decide) 0 rfl rfl rfl rfl (Nat.le_of_ble_eq_true rfl) dX7_needs_61) rfl ?_
            refine ik_aload_n C 4 rfl rfl dX7_needs_64 ?_
            refine ik_iload_n C 6 rfl rfl dX7_needs_65 ?_
            obtain ⟨r6, g7, g8, g9, g10, hc10, hf⟩ := ik_b5s hf
            refine ik_goW [0, 1, 2, 3, 4, 5, 6, 7, 8, 9, 10, 11] rfl rfl (wz_X7 cI cS h0 h1 h2 h3 h4 h5 h6 h7 h8 h9 h10 h11 misKept mtaped msort mfrom mto mvalue mbad g7 mkept g8 mother mfound g9 g10 mtape mbits msize mnumber) rfl (ik_runV C (c_X7_held l D cI cS h0 h1 h2 h3 h4 h5 h6 h7 h8 h9 h10 h11 misKept mtaped msort mfrom mto mvalue mbad g5 mkept mwas_39 mother mfound mwarm_39 mdrip_39 mtape mbits msize mnumber x2 r6 g7 g8 g9 g10 hc10) mv_X7_held wl_26_15 ⟨rfl, rfl, Nat.le_of_ble_eq_true rfl, Nat.le_of_ble_eq_true rfl⟩ [0, 1, 2, 3, 4, 5, 6, 7, 8, 9, 10, 11] rfl (by decide) 0 rfl rfl rfl rfl (Nat.le_of_ble_eq_true rfl) dX7_needs_66) rfl ?_
            refine ik_iload_n C 6 rfl rfl dX7_needs_69 ?_
            refine ik_icmp_ne C 78 dX7_needs_70 (by decide) (fun hc => ?_) (fun hc => ?_)
            · have hf := ik_neg hc hf
              refine ik_iconst (v := (-1 : Int32)) C (by decide) dX7_needs_78 ?_
              refine ik_istore C [(5, .int (-1 : Int32)), (6, .int x6_39), (4, .int r3), (3, .int r2), (0, .ref h0), (1, .int x1), (2, .int x2)] (by decide) rfl dX7_needs_79 ?_
              refine ik_iinc C [(6, .int (x6_39 + (1 : Int32))), (5, .int (-1 : Int32)), (4, .int r3), (3, .int r2), (0, .ref h0), (1, .int x1), (2, .int x2)] 1 rfl rfl (by decide) rfl dX7_needs_81 ?_
              refine ik_goto C 39 dX7_needs_84 (by decide) ?_
              exact ik_sub [0, 1, 2, 3, 4, 5, 6] [(6, .int (x6_39 + (1 : Int32))), (5, .int (-1 : Int32)), (4, .int r3), (3, .int r2), (0, .ref h0), (1, .int x1), (2, .int x2)] rfl (ih_39 g7 g8 g9 g10 (-1 : Int32) (x6_39 + (1 : Int32)) hf)
            · have hf := ik_pos hc hf
              refine ik_iload C 0 rfl dX7_needs_73 ?_
              refine ik_goto C 79 dX7_needs_75 (by decide) ?_
              refine ik_istore C [(5, .int x6_39), (6, .int x6_39), (4, .int r3), (3, .int r2), (0, .ref h0), (1, .int x1), (2, .int x2)] (by decide) rfl dX7_needs_79 ?_
              refine ik_iinc C [(6, .int (x6_39 + (1 : Int32))), (5, .int x6_39), (4, .int r3), (3, .int r2), (0, .ref h0), (1, .int x1), (2, .int x2)] 1 rfl rfl (by decide) rfl dX7_needs_81 ?_
              refine ik_goto C 39 dX7_needs_84 (by decide) ?_
              exact ik_sub [0, 1, 2, 3, 4, 5, 6] [(6, .int (x6_39 + (1 : Int32))), (5, .int x6_39), (4, .int r3), (3, .int r2), (0, .ref h0), (1, .int x1), (2, .int x2)] rfl (ih_39 g7 g8 g9 g10 x6_39 (x6_39 + (1 : Int32)) hf)
    exact hL_39 ik_fu mm mwas mwarm mdrip (-1 : Int32) (0 : Int32) hf
  · have hf := ik_neg hc hf
    refine ik_aload_n C 1 rfl rfl dX7_needs_20 ?_
    refine ik_iload_n C 0 rfl rfl dX7_needs_21 ?_
    obtain ⟨r3, g4, hc4, hf⟩ := ik_b2s hf
    refine ik_goW [0, 1, 2, 3, 4, 5, 6, 7, 8, 9, 10, 11] rfl rfl (wz_X7 cI cS h0 h1 h2 h3 h4 h5 h6 h7 h8 h9 h10 h11 misKept mtaped msort mfrom mto mvalue mbad mm mkept mwas mother g4 mwarm mdrip mtape mbits msize mnumber) rfl (ik_runV C (c_X7_finds l D cI cS h0 h1 h2 h3 h4 h5 h6 h7 h8 h9 h10 h11 misKept mtaped msort mfrom mto mvalue mbad mm mkept mwas mother mfound mwarm mdrip mtape mbits msize mnumber r2 r3 g4 hc4) mv_X7_finds wl_7_8 ⟨rfl, rfl, Nat.le_of_ble_eq_true rfl, Nat.le_of_ble_eq_true rfl⟩ [0, 1, 2, 3, 4, 5, 6, 7, 8, 9, 10, 11] rfl (by decide) 0 rfl rfl rfl rfl (Nat.le_of_ble_eq_true rfl) dX7_needs_22) rfl ?_
    cases hf
    exact ik_iretW C hr hlk dX7_needs_25
theorem mv_X7_mend : ik_V yX7_mend RX7 cX7_mend 7 (some .int) 1 := ⟨wl_28_17, wl_28_18, wl_1_5, wl_28_19, by decide +kernel⟩
set_option maxHeartbeats 4000000 in
set_option maxRecDepth 100000 in
theorem c_X7_mend (l : Launch) (D : va_G) (cI cS : ClassId) (h0 h1 h2 h3 h4 h5 h6 h7 h8 h9 h10 h11 : Nat) (misKept : Int32) (mtaped : Int32) (msort : Int32) (mfrom : Int32) (mto : Int32) (mvalue : Int32) (mbad : Int32) (mm : Nat → Int32) (mkept : Nat → Int32) (mwas : Nat → Int32) (mother : Nat → Int32) (mfound : Nat → Int32) (mwarm : Nat → Int32) (mdrip : Nat → Int32) (mtape : Nat → Int32) (mbits : Nat → Int32) (msize : Nat → Int32) (mnumber : Nat → Int32) (x1 : Int32) (R : Int32) (mm_r : Nat → Int32) (mwas_r : Nat → Int32) (mfound_r : Nat → Int32) (mwarm_r : Nat → Int32) (mdrip_r : Nat → Int32) (hf : f_X7_mend mm mwas mfound mwarm mdrip x1 = some (R, mm_r, mwas_r, mfound_r, mwarm_r, mdrip_r)) : Met l yX7_mend (ik_ws yX7_mend cX7_mend 7 (some .int)) ({ frames := 9, cells := 0, slots := 0, locals := 204 } : Room) (ik_P D cI cS [.ref h0, .int x1] (wz_X7 cI cS h0 h1 h2 h3 h4 h5 h6 h7 h8 h9 h10 h11 misKept mtaped msort mfrom mto mvalue mbad mm mkept mwas mother mfound mwarm mdrip mtape mbits msize mnumber)) (ik_Q (some (.int R)) D (wz_X7 cI cS h0 h1 h2 h3 h4 h5 h6 h7 h8 h9 h10 h11 misKept mtaped msort mfrom mto mvalue mbad mm_r mkept mwas_r mother mfound_r mwarm_r mdrip_r mtape mbits msize mnumber) (wz_X7 cI cS h0 h1 h2 h3 h4 h5 h6 h7 h8 h9 h10 h11 misKept mtaped msort mfrom mto mvalue mbad mm mkept mwas mother mfound mwarm mdrip mtape mbits msize mnumber)) 0 0 (ik_in (wz_X7 cI cS h0 h1 h2 h3 h4 h5 h6 h7 h8 h9 h10 h11 misKept mtaped msort mfrom mto mvalue mbad mm mkept mwas mother mfound mwarm mdrip mtape mbits msize mnumber)) := by
  refine ik_metW RX7 rfl (by decide) (Nat.le_of_ble_eq_true rfl) [(0, .ref h0), (1, .int x1)] rfl ?_
  intro p e s m below meth c C hr hlk
  unfold f_X7_mend at hf
  refine ik_iload_n C 1 rfl rfl dX7_mend_0 ?_
  refine ik_i2l C dX7_mend_1 ?_
  refine ik_lconst (v := (1 : Int64)) C (by decide) dX7_mend_2 ?_
  refine ik_ldc2 C wl_28_20 dX7_mend_3 ?_
  obtain ⟨r1, hc1, hf⟩ := ik_b1s hf
  refine ik_goR (ik_runS C (c_X7_in l D cI cS (x1).toInt64 (1 : Int64) (98 : Int64) r1 hc1) ms_X7_in wl_6_21 ⟨rfl, rfl, Nat.le_of_ble_eq_true rfl, Nat.le_of_ble_eq_true rfl⟩ [] rfl (by decide) rfl rfl (Nat.le_of_ble_eq_true rfl) dX7_mend_6) rfl ?_
  refine ik_if_ne C 19 dX7_mend_9 (by decide) (fun hc => ?_) (fun hc => ?_)
  · have hf := ik_neg hc hf
    refine ik_aload_n C 0 rfl rfl dX7_mend_19 ?_
    refine ik_bipush (v := (96 : Int32)) C (by decide) dX7_mend_20 ?_
    obtain ⟨r2, hc2, hf⟩ := ik_b1s hf
    refine ik_goR (ik_runV C (c_X7_isFarOn l D cI cS h0 h1 h2 h3 h4 h5 h6 h7 h8 h9 h10 h11 misKept mtaped msort mfrom mto mvalue mbad mm mkept mwas mother mfound mwarm mdrip mtape mbits msize mnumber (96 : Int32) r2 hc2) mv_X7_isFarOn wl_25_19 ⟨rfl, rfl, Nat.le_of_ble_eq_true rfl, Nat.le_of_ble_eq_true rfl⟩ [0, 1, 2, 3, 4, 5, 6, 7, 8, 9, 10, 11] rfl (by decide) 0 rfl rfl rfl rfl (Nat.le_of_ble_eq_true rfl) dX7_mend_22) rfl ?_
    refine ik_if_eq C 35 dX7_mend_25 (by decide) (fun hc => ?_) (fun hc => ?_)
    · have hf := ik_pos hc hf
      refine ik_iconst (v := (-1 : Int32)) C (by decide) dX7_mend_35 ?_
      refine ik_istore_n C [(2, .int (-1 : Int32)), (0, .ref h0), (1, .int x1)] rfl (by decide) rfl dX7_mend_36 ?_
      refine ik_iconst (v := (0 : Int32)) C (by decide) dX7_mend_37 ?_
      refine ik_istore_n C [(3, .int (0 : Int32)), (2, .int (-1 : Int32)), (0, .ref h0), (1, .int x1)] rfl (by decide) rfl dX7_mend_38 ?_
      refine ik_iconst (v := (0 : Int32)) C (by decide) dX7_mend_39 ?_
      refine ik_istore C [(4, .int (0 : Int32)), (3, .int (0 : Int32)), (2, .int (-1 : Int32)), (0, .ref h0), (1, .int x1)] (by decide) rfl dX7_mend_40 ?_
      have hL_42 : ∀ (n_42 : Nat) (mm_42 : Nat → Int32) (mwas_42 : Nat → Int32) (mwarm_42 : Nat → Int32) (mdrip_42 : Nat → Int32) (x2_42 : Int32) (x3_42 : Int32) (x4_42 : Int32), ik_lp7 (b_X7_mend_42 mfound x1) n_42 mm_42 mwas_42 mwarm_42 mdrip_42 x2_42 x3_42 x4_42 = some (R, mm_r, mwas_r, mfound_r, mwarm_r, mdrip_r) → ik_G p l e ({ frames := 9, cells := 0, slots := 0, locals := 204 } : Room) s m ([.ref h0, .int x1] : List Value).toArray below meth c D (ik_in (wz_X7 cI cS h0 h1 h2 h3 h4 h5 h6 h7 h8 h9 h10 h11 misKept mtaped msort mfrom mto mvalue mbad mm mkept mwas mother mfound mwarm mdrip mtape mbits msize mnumber)) (ik_in (wz_X7 cI cS h0 h1 h2 h3 h4 h5 h6 h7 h8 h9 h10 h11 misKept mtaped msort mfrom mto mvalue mbad mm mkept mwas mother mfound mwarm mdrip mtape mbits msize mnumber)) 7 (MQ below (ik_Q (some (.int R)) D (wz_X7 cI cS h0 h1 h2 h3 h4 h5 h6 h7 h8 h9 h10 h11 misKept mtaped msort mfrom mto mvalue mbad mm_r mkept mwas_r mother mfound_r mwarm_r mdrip_r mtape mbits msize mnumber) (wz_X7 cI cS h0 h1 h2 h3 h4 h5 h6 h7 h8 h9 h10 h11 misKept mtaped msort mfrom mto mvalue mbad mm mkept mwas mother mfound mwarm mdrip mtape mbits msize mnumber)) ([.ref h0, .int x1] : List Value).toArray s 0 0 (ik_in (wz_X7 cI cS h0 h1 h2 h3 h4 h5 h6 h7 h8 h9 h10 h11 misKept mtaped msort mfrom mto mvalue mbad mm mkept mwas mother mfound mwarm mdrip mtape mbits msize mnumber))) 42 [(4, .int x4_42), (3, .int x3_42), (2, .int x2_42), (0, .ref h0), (1, .int x1)] [] (wz_X7 cI cS h0 h1 h2 h3 h4 h5 h6 h7 h8 h9 h10 h11 misKept mtaped msort mfrom mto mvalue mbad mm_42 mkept mwas_42 mother mfound mwarm_42 mdrip_42 mtape mbits msize mnumber) := by
        intro n_42
        induction n_42 with
        | zero => intro _ _ _ _ _ _ _ hf; exact nomatch hf
        | succ n_42 ih_42 =>
          intro mm_42 mwas_42 mwarm_42 mdrip_42 x2_42 x3_42 x4_42 hf
          replace hf : b_X7_mend_42 mfound x1 (ik_lp7 (b_X7_mend_42 mfound x1) n_42) mm_42 mwas_42 mwarm_42 mdrip_42 x2_42 x3_42 x4_42 = some (R, mm_r, mwas_r, mfound_r, mwarm_r, mdrip_r) := hf
          unfold b_X7_mend_42 at hf
          refine ik_iload C 0 rfl dX7_mend_42 ?_
          refine ik_aload_n C 3 rfl rfl dX7_mend_44 ?_
          refine ik_get C inlX7 0 rfl rfl 0 (by decide) wl_4_12 rfl (v := .ref h1) rfl dX7_mend_45 ?_
          refine ik_iconst (v := (5 : Int32)) C (by decide) dX7_mend_48 ?_
          refine ik_iald C 1 rfl (ik_vin (by decide)) dX7_mend_49 ?_
          refine ik_icmp_ge C 127 dX7_mend_50 (by decide) (fun hc => ?_) (fun hc => ?_)
          · have hf := ik_pos hc hf
            refine ik_aload_n C 3 rfl rfl dX7_mend_127 ?_
            refine ik_iload_n C 2 rfl rfl dX7_mend_128 ?_
            obtain ⟨r3, g4, hc4, hf⟩ := ik_b2s hf
            refine ik_goW [0, 1, 2, 3, 4, 5, 6, 7, 8, 9, 10, 11] rfl rfl (wz_X7 cI cS h0 h1 h2 h3 h4 h5 h6 h7 h8 h9 h10 h11 misKept mtaped msort mfrom mto mvalue mbad mm_42 mkept mwas_42 mother g4 mwarm_42 mdrip_42 mtape mbits msize mnumber) rfl (ik_runV C (c_X7_orNone l D cI cS h0 h1 h2 h3 h4 h5 h6 h7 h8 h9 h10 h11 misKept mtaped msort mfrom mto mvalue mbad mm_42 mkept mwas_42 mother mfound mwarm_42 mdrip_42 mtape mbits msize mnumber x2_42 r3 g4 hc4) mv_X7_orNone wl_27_8 ⟨rfl, rfl, Nat.le_of_ble_eq_true rfl, Nat.le_of_ble_eq_true rfl⟩ [0, 1, 2, 3, 4, 5, 6, 7, 8, 9, 10, 11] rfl (by decide) 0 rfl rfl rfl rfl (Nat.le_of_ble_eq_true rfl) dX7_mend_129) rfl ?_
            cases hf
            exact ik_iretW C hr hlk dX7_mend_132
          · have hf := ik_neg hc hf
            refine ik_aload_n C 3 rfl rfl dX7_mend_53 ?_
            refine ik_iload C 0 rfl dX7_mend_54 ?_
            obtain ⟨r3, hc3, hf⟩ := ik_b1s hf
            refine ik_goR (ik_runV C (c_X7_isGone l D cI cS h0 h1 h2 h3 h4 h5 h6 h7 h8 h9 h10 h11 misKept mtaped msort mfrom mto mvalue mbad mm_42 mkept mwas_42 mother mfound mwarm_42 mdrip_42 mtape mbits msize mnumber x4_42 r3 hc3) mv_X7_isGone wl_10_5 ⟨rfl, rfl, Nat.le_of_ble_eq_true rfl, Nat.le_of_ble_eq_true rfl⟩ [0, 1, 2, 3, 4, 5, 6, 7, 8, 9, 10, 11] rfl (by decide) 0 rfl rfl rfl rfl (Nat.le_of_ble_eq_true rfl) dX7_mend_56) rfl ?_
            refine ik_if_eq C 65 dX7_mend_59 (by decide) (fun hc => ?_) (fun hc => ?_)
            · have hf := ik_pos hc hf
              refine ik_aload_n C 3 rfl rfl dX7_mend_65 ?_
              refine ik_iload C 0 rfl dX7_mend_66 ?_
              obtain ⟨r4, hc4, hf⟩ := ik_b1s hf
              refine ik_goR (ik_runV C (c_X7_grains l D cI cS h0 h1 h2 h3 h4 h5 h6 h7 h8 h9 h10 h11 misKept mtaped msort mfrom mto mvalue mbad mm_42 mkept mwas_42 mother mfound mwarm_42 mdrip_42 mtape mbits msize mnumber x4_42 r4 hc4) mv_X7_grains wl_10_1 ⟨rfl, rfl, Nat.le_of_ble_eq_true rfl, Nat.le_of_ble_eq_true rfl⟩ [0, 1, 2, 3, 4, 5, 6, 7, 8, 9, 10, 11] rfl (by decide) 0 rfl rfl rfl rfl (Nat.le_of_ble_eq_true rfl) dX7_mend_68) rfl ?_
              refine ik_istore C [(5, .int r4), (4, .int x4_42), (3, .int x3_42), (2, .int x2_42), (0, .ref h0), (1, .int x1)] (by decide) rfl dX7_mend_71 ?_
              refine ik_aload_n C 4 rfl rfl dX7_mend_73 ?_
              refine ik_iload C 1 rfl dX7_mend_74 ?_
              refine ik_iload C 0 rfl dX7_mend_76 ?_
              refine ik_iload_n C 5 rfl rfl dX7_mend_78 ?_
              refine ik_iadd C dX7_mend_79 ?_
              obtain ⟨r5, hc5, hf⟩ := ik_b1s hf
              refine ik_goR (ik_runS C (c_X7_capped l D cI cS (r4 + x1) r5 hc5) ms_X7_capped wl_28_8 ⟨rfl, rfl, Nat.le_of_ble_eq_true rfl, Nat.le_of_ble_eq_true rfl⟩ [] rfl (by decide) rfl rfl (Nat.le_of_ble_eq_true rfl) dX7_mend_80) rfl ?_
              obtain ⟨g6, hc6, hf⟩ := ik_b1s hf
              refine ik_goW [0, 1, 2, 3, 4, 5, 6, 7, 8, 9, 10, 11] rfl rfl (wz_X7 cI cS h0 h1 h2 h3 h4 h5 h6 h7 h8 h9 h10 h11 misKept mtaped msort mfrom mto mvalue mbad g6 mkept mwas_42 mother mfound mwarm_42 mdrip_42 mtape mbits msize mnumber) rfl (ik_runV C (c_X7_makes l D cI cS h0 h1 h2 h3 h4 h5 h6 h7 h8 h9 h10 h11 misKept mtaped msort mfrom mto mvalue mbad mm_42 mkept mwas_42 mother mfound mwarm_42 mdrip_42 mtape mbits msize mnumber x4_42 r5 g6 hc6) mv_X7_makes wl_14_23 ⟨rfl, rfl, Nat.le_of_ble_eq_true rfl, Nat.le_of_ble_eq_true rfl⟩ [0, 1, 2, 3, 4, 5, 6, 7, 8, 9, 10, 11] rfl (by decide) 0 rfl rfl rfl rfl (Nat.le_of_ble_eq_true rfl) dX7_mend_83) rfl ?_
              refine ik_aload_n C 4 rfl rfl dX7_mend_86 ?_
              refine ik_bipush (v := (96 : Int32)) C (by decide) dX7_mend_87 ?_
              obtain ⟨r7, g8, g9, g10, g11, hc11, hf⟩ := ik_b5s hf
              refine ik_goW [0, 1, 2, 3, 4, 5, 6, 7, 8, 9, 10, 11] rfl rfl (wz_X7 cI cS h0 h1 h2 h3 h4 h5 h6 h7 h8 h9 h10 h11 misKept mtaped msort mfrom mto mvalue mbad g8 mkept g9 mother mfound g10 g11 mtape mbits msize mnumber) rfl (ik_runV C (c_X7_held l D cI cS h0 h1 h2 h3 h4 h5 h6 h7 h8 h9 h10 h11 misKept mtaped msort mfrom mto mvalue mbad g6 mkept mwas_42 mother mfound mwarm_42 mdrip_42 mtape mbits msize mnumber (96 : Int32) r7 g8 g9 g10 g11 hc11) mv_X7_held wl_26_15 ⟨rfl, rfl, Nat.le_of_ble_eq_true rfl, Nat.le_of_ble_eq_true rfl⟩ [0, 1, 2, 3, 4, 5, 6, 7, 8, 9, 10, 11] rfl (by decide) 0 rfl rfl rfl rfl (Nat.le_of_ble_eq_true rfl) dX7_mend_89) rfl ?_
              refine ik_istore C [(6, .int r7), (5, .int r4), (4, .int x4_42), (3, .int x3_42), (2, .int x2_42), (0, .ref h0), (1, .int x1)] (by decide) rfl dX7_mend_92 ?_
              refine ik_aload_n C 5 rfl rfl dX7_mend_94 ?_
              refine ik_iload C 2 rfl dX7_mend_95 ?_
              refine ik_iload C 1 rfl dX7_mend_97 ?_
              obtain ⟨g12, hc12, hf⟩ := ik_b1s hf
              refine ik_goW [0, 1, 2, 3, 4, 5, 6, 7, 8, 9, 10, 11] rfl rfl (wz_X7 cI cS h0 h1 h2 h3 h4 h5 h6 h7 h8 h9 h10 h11 misKept mtaped msort mfrom mto mvalue mbad g12 mkept g9 mother mfound g10 g11 mtape mbits msize mnumber) rfl (ik_runV C (c_X7_makes l D cI cS h0 h1 h2 h3 h4 h5 h6 h7 h8 h9 h10 h11 misKept mtaped msort mfrom mto mvalue mbad g8 mkept g9 mother mfound g10 g11 mtape mbits msize mnumber x4_42 r4 g12 hc12) mv_X7_makes wl_14_23 ⟨rfl, rfl, Nat.le_of_ble_eq_true rfl, Nat.le_of_ble_eq_true rfl⟩ [0, 1, 2, 3, 4, 5, 6, 7, 8, 9, 10, 11] rfl (by decide) 0 rfl rfl rfl rfl (Nat.le_of_ble_eq_true rfl) dX7_mend_99) rfl ?_
              refine ik_iload_n C 4 rfl rfl dX7_mend_102 ?_
              refine ik_if_lt C 115 dX7_mend_103 (by decide) (fun hc => ?_) (fun hc => ?_)
              · have hf := ik_pos hc hf
                refine ik_iload C 2 rfl dX7_mend_115 ?_
                refine ik_istore_n C [(2, .int x4_42), (6, .int r7), (5, .int r4), (4, .int x4_42), (3, .int x3_42), (0, .ref h0), (1, .int x1)] rfl (by decide) rfl dX7_mend_117 ?_
                refine ik_iload C 1 rfl dX7_mend_118 ?_
                refine ik_istore_n C [(3, .int r7), (2, .int x4_42), (6, .int r7), (5, .int r4), (4, .int x4_42), (0, .ref h0), (1, .int x1)] rfl (by decide) rfl dX7_mend_120 ?_
                refine ik_iinc C [(4, .int (x4_42 + (1 : Int32))), (3, .int r7), (2, .int x4_42), (6, .int r7), (5, .int r4), (0, .ref h0), (1, .int x1)] 4 rfl rfl (by decide) rfl dX7_mend_121 ?_
                refine ik_goto C 42 dX7_mend_124 (by decide) ?_
                exact ik_sub [0, 1, 2, 5, 6] [(4, .int (x4_42 + (1 : Int32))), (3, .int r7), (2, .int x4_42), (0, .ref h0), (1, .int x1)] rfl (ih_42 g12 g9 g10 g11 x4_42 r7 (x4_42 + (1 : Int32)) hf)
              · have hf := ik_neg hc hf
                refine ik_iload C 0 rfl dX7_mend_106 ?_
                refine ik_iload_n C 3 rfl rfl dX7_mend_108 ?_
                refine ik_icmp_gt C 115 dX7_mend_109 (by decide) (fun hc => ?_) (fun hc => ?_)
                · have hf := ik_pos hc hf
                  refine ik_iload C 2 rfl dX7_mend_115 ?_
                  refine ik_istore_n C [(2, .int x4_42), (6, .int r7), (5, .int r4), (4, .int x4_42), (3, .int x3_42), (0, .ref h0), (1, .int x1)] rfl (by decide) rfl dX7_mend_117 ?_
                  refine ik_iload C 1 rfl dX7_mend_118 ?_
                  refine ik_istore_n C [(3, .int r7), (2, .int x4_42), (6, .int r7), (5, .int r4), (4, .int x4_42), (0, .ref h0), (1, .int x1)] rfl (by decide) rfl dX7_mend_120 ?_
                  refine ik_iinc C [(4, .int (x4_42 + (1 : Int32))), (3, .int r7), (2, .int x4_42), (6, .int r7), (5, .int r4), (0, .ref h0), (1, .int x1)] 4 rfl rfl (by decide) rfl dX7_mend_121 ?_
                  refine ik_goto C 42 dX7_mend_124 (by decide) ?_
                  exact ik_sub [0, 1, 2, 5, 6] [(4, .int (x4_42 + (1 : Int32))), (3, .int r7), (2, .int x4_42), (0, .ref h0), (1, .int x1)] rfl (ih_42 g12 g9 g10 g11 x4_42 r7 (x4_42 + (1 : Int32)) hf)
                · have hf := ik_neg hc hf
                  refine ik_goto C 121 dX7_mend_112 (by decide) ?_
                  refine ik_iinc C [(4, .int (x4_42 + (1 : Int32))), (6, .int r7), (5, .int r4), (3, .int x3_42), (2, .int x2_42), (0, .ref h0), (1, .int x1)] 2 rfl rfl (by decide) rfl dX7_mend_121 ?_
                  refine ik_goto C 42 dX7_mend_124 (by decide) ?_
                  exact ik_sub [0, 3, 4, 5, 6] [(4, .int (x4_42 + (1 : Int32))), (3, .int x3_42), (2, .int x2_42), (0, .ref h0), (1, .int x1)] rfl (ih_42 g12 g9 g10 g11 x2_42 x3_42 (x4_42 + (1 : Int32)) hf)
            · have hf := ik_neg hc hf
              refine ik_goto C 121 dX7_mend_62 (by decide) ?_
              refine ik_iinc C [(4, .int (x4_42 + (1 : Int32))), (3, .int x3_42), (2, .int x2_42), (0, .ref h0), (1, .int x1)] 0 rfl rfl (by decide) rfl dX7_mend_121 ?_
              refine ik_goto C 42 dX7_mend_124 (by decide) ?_
              exact ik_sub [0, 1, 2, 3, 4] [(4, .int (x4_42 + (1 : Int32))), (3, .int x3_42), (2, .int x2_42), (0, .ref h0), (1, .int x1)] rfl (ih_42 mm_42 mwas_42 mwarm_42 mdrip_42 x2_42 x3_42 (x4_42 + (1 : Int32)) hf)
      exact hL_42 ik_fu mm mwas mwarm mdrip (-1 : Int32) (0 : Int32) (0 : Int32) hf
    · have hf := ik_neg hc hf
      refine ik_aload_n C 0 rfl rfl dX7_mend_28 ?_
      refine ik_ldc C wl_6_16 dX7_mend_29 ?_
      obtain ⟨r3, g4, hc4, hf⟩ := ik_b2s hf
      refine ik_goW [0, 1, 2, 3, 4, 5, 6, 7, 8, 9, 10, 11] rfl rfl (wz_X7 cI cS h0 h1 h2 h3 h4 h5 h6 h7 h8 h9 h10 h11 misKept mtaped msort mfrom mto mvalue mbad mm mkept mwas mother g4 mwarm mdrip mtape mbits msize mnumber) rfl (ik_runV C (c_X7_finds l D cI cS h0 h1 h2 h3 h4 h5 h6 h7 h8 h9 h10 h11 misKept mtaped msort mfrom mto mvalue mbad mm mkept mwas mother mfound mwarm mdrip mtape mbits msize mnumber (-1000005 : Int32) r3 g4 hc4) mv_X7_finds wl_7_8 ⟨rfl, rfl, Nat.le_of_ble_eq_true rfl, Nat.le_of_ble_eq_true rfl⟩ [0, 1, 2, 3, 4, 5, 6, 7, 8, 9, 10, 11] rfl (by decide) 0 rfl rfl rfl rfl (Nat.le_of_ble_eq_true rfl) dX7_mend_31) rfl ?_
      cases hf
      exact ik_iretW C hr hlk dX7_mend_34
  · have hf := ik_pos hc hf
    refine ik_aload_n C 0 rfl rfl dX7_mend_12 ?_
    refine ik_ldc C wl_6_14 dX7_mend_13 ?_
    obtain ⟨r2, g3, hc3, hf⟩ := ik_b2s hf
    refine ik_goW [0, 1, 2, 3, 4, 5, 6, 7, 8, 9, 10, 11] rfl rfl (wz_X7 cI cS h0 h1 h2 h3 h4 h5 h6 h7 h8 h9 h10 h11 misKept mtaped msort mfrom mto mvalue mbad mm mkept mwas mother g3 mwarm mdrip mtape mbits msize mnumber) rfl (ik_runV C (c_X7_finds l D cI cS h0 h1 h2 h3 h4 h5 h6 h7 h8 h9 h10 h11 misKept mtaped msort mfrom mto mvalue mbad mm mkept mwas mother mfound mwarm mdrip mtape mbits msize mnumber (-1000001 : Int32) r2 g3 hc3) mv_X7_finds wl_7_8 ⟨rfl, rfl, Nat.le_of_ble_eq_true rfl, Nat.le_of_ble_eq_true rfl⟩ [0, 1, 2, 3, 4, 5, 6, 7, 8, 9, 10, 11] rfl (by decide) 0 rfl rfl rfl rfl (Nat.le_of_ble_eq_true rfl) dX7_mend_15) rfl ?_
    cases hf
    exact ik_iretW C hr hlk dX7_mend_18
theorem mv_X7_whose : ik_V yX7_whose RX7 cX7_whose 7 (some .int) 1 := ⟨wl_29_2, wl_29_3, wl_1_5, wl_29_4, by decide +kernel⟩
set_option maxHeartbeats 4000000 in
set_option maxRecDepth 100000 in
theorem c_X7_whose (l : Launch) (D : va_G) (cI cS : ClassId) (h0 h1 h2 h3 h4 h5 h6 h7 h8 h9 h10 h11 : Nat) (misKept : Int32) (mtaped : Int32) (msort : Int32) (mfrom : Int32) (mto : Int32) (mvalue : Int32) (mbad : Int32) (mm : Nat → Int32) (mkept : Nat → Int32) (mwas : Nat → Int32) (mother : Nat → Int32) (mfound : Nat → Int32) (mwarm : Nat → Int32) (mdrip : Nat → Int32) (mtape : Nat → Int32) (mbits : Nat → Int32) (msize : Nat → Int32) (mnumber : Nat → Int32) (x1 : Int32) (R : Int32) (mm_r : Nat → Int32) (mwas_r : Nat → Int32) (mfound_r : Nat → Int32) (mwarm_r : Nat → Int32) (mdrip_r : Nat → Int32) (hf : f_X7_whose mm mwas mfound mwarm mdrip x1 = some (R, mm_r, mwas_r, mfound_r, mwarm_r, mdrip_r)) : Met l yX7_whose (ik_ws yX7_whose cX7_whose 7 (some .int)) ({ frames := 9, cells := 0, slots := 0, locals := 203 } : Room) (ik_P D cI cS [.ref h0, .int x1] (wz_X7 cI cS h0 h1 h2 h3 h4 h5 h6 h7 h8 h9 h10 h11 misKept mtaped msort mfrom mto mvalue mbad mm mkept mwas mother mfound mwarm mdrip mtape mbits msize mnumber)) (ik_Q (some (.int R)) D (wz_X7 cI cS h0 h1 h2 h3 h4 h5 h6 h7 h8 h9 h10 h11 misKept mtaped msort mfrom mto mvalue mbad mm_r mkept mwas_r mother mfound_r mwarm_r mdrip_r mtape mbits msize mnumber) (wz_X7 cI cS h0 h1 h2 h3 h4 h5 h6 h7 h8 h9 h10 h11 misKept mtaped msort mfrom mto mvalue mbad mm mkept mwas mother mfound mwarm mdrip mtape mbits msize mnumber)) 0 0 (ik_in (wz_X7 cI cS h0 h1 h2 h3 h4 h5 h6 h7 h8 h9 h10 h11 misKept mtaped msort mfrom mto mvalue mbad mm mkept mwas mother mfound mwarm mdrip mtape mbits msize mnumber)) := by
  refine ik_metW RX7 rfl (by decide) (Nat.le_of_ble_eq_true rfl) [(0, .ref h0), (1, .int x1)] rfl ?_
  intro p e s m below meth c C hr hlk
  unfold f_X7_whose at hf
  refine ik_aload_n C 0 rfl rfl dX7_whose_0 ?_
  refine ik_iload_n C 1 rfl rfl dX7_whose_1 ?_
  refine ik_bipush (v := (96 : Int32)) C (by decide) dX7_whose_2 ?_
  refine ik_iconst (v := (1 : Int32)) C (by decide) dX7_whose_4 ?_
  obtain ⟨r1, hc1, hf⟩ := ik_b1s hf
  refine ik_goR (ik_runV C (c_X7_wrongFor l D cI cS h0 h1 h2 h3 h4 h5 h6 h7 h8 h9 h10 h11 misKept mtaped msort mfrom mto mvalue mbad mm mkept mwas mother mfound mwarm mdrip mtape mbits msize mnumber x1 (96 : Int32) (1 : Int32) r1 hc1) mv_X7_wrongFor wl_28_4 ⟨rfl, rfl, Nat.le_of_ble_eq_true rfl, Nat.le_of_ble_eq_true rfl⟩ [0, 1, 2, 3, 4, 5, 6, 7, 8, 9, 10, 11] rfl (by decide) 0 rfl rfl rfl rfl (Nat.le_of_ble_eq_true rfl) dX7_whose_5) rfl ?_
  refine ik_istore_n C [(2, .int r1), (0, .ref h0), (1, .int x1)] rfl (by decide) rfl dX7_whose_8 ?_
  refine ik_iload_n C 0 rfl rfl dX7_whose_9 ?_
  refine ik_if_ge C 19 dX7_whose_10 (by decide) (fun hc => ?_) (fun hc => ?_)
  · have hf := ik_pos hc hf
    refine ik_iconst (v := (-1 : Int32)) C (by decide) dX7_whose_19 ?_
    refine ik_istore_n C [(3, .int (-1 : Int32)), (2, .int r1), (0, .ref h0), (1, .int x1)] rfl (by decide) rfl dX7_whose_20 ?_
    refine ik_iconst (v := (0 : Int32)) C (by decide) dX7_whose_21 ?_
    refine ik_istore C [(4, .int (0 : Int32)), (3, .int (-1 : Int32)), (2, .int r1), (0, .ref h0), (1, .int x1)] (by decide) rfl dX7_whose_22 ?_
    refine ik_iconst (v := (0 : Int32)) C (by decide) dX7_whose_24 ?_
    refine ik_istore C [(5, .int (0 : Int32)), (4, .int (0 : Int32)), (3, .int (-1 : Int32)), (2, .int r1), (0, .ref h0), (1, .int x1)] (by decide) rfl dX7_whose_25 ?_
    have hL_27 : ∀ (n_27 : Nat) (mm_27 : Nat → Int32) (mwas_27 : Nat → Int32) (mwarm_27 : Nat → Int32) (mdrip_27 : Nat → Int32) (x3_27 : Int32) (x4_27 : Int32) (x5_27 : Int32), ik_lp7 (b_X7_whose_27 mfound x1) n_27 mm_27 mwas_27 mwarm_27 mdrip_27 x3_27 x4_27 x5_27 = some (R, mm_r, mwas_r, mfound_r, mwarm_r, mdrip_r) → ik_G p l e ({ frames := 9, cells := 0, slots := 0, locals := 203 } : Room) s m ([.ref h0, .int x1] : List Value).toArray below meth c D (ik_in (wz_X7 cI cS h0 h1 h2 h3 h4 h5 h6 h7 h8 h9 h10 h11 misKept mtaped msort mfrom mto mvalue mbad mm mkept mwas mother mfound mwarm mdrip mtape mbits msize mnumber)) (ik_in (wz_X7 cI cS h0 h1 h2 h3 h4 h5 h6 h7 h8 h9 h10 h11 misKept mtaped msort mfrom mto mvalue mbad mm mkept mwas mother mfound mwarm mdrip mtape mbits msize mnumber)) 7 (MQ below (ik_Q (some (.int R)) D (wz_X7 cI cS h0 h1 h2 h3 h4 h5 h6 h7 h8 h9 h10 h11 misKept mtaped msort mfrom mto mvalue mbad mm_r mkept mwas_r mother mfound_r mwarm_r mdrip_r mtape mbits msize mnumber) (wz_X7 cI cS h0 h1 h2 h3 h4 h5 h6 h7 h8 h9 h10 h11 misKept mtaped msort mfrom mto mvalue mbad mm mkept mwas mother mfound mwarm mdrip mtape mbits msize mnumber)) ([.ref h0, .int x1] : List Value).toArray s 0 0 (ik_in (wz_X7 cI cS h0 h1 h2 h3 h4 h5 h6 h7 h8 h9 h10 h11 misKept mtaped msort mfrom mto mvalue mbad mm mkept mwas mother mfound mwarm mdrip mtape mbits msize mnumber))) 27 [(5, .int x5_27), (4, .int x4_27), (3, .int x3_27), (2, .int r1), (0, .ref h0), (1, .int x1)] [] (wz_X7 cI cS h0 h1 h2 h3 h4 h5 h6 h7 h8 h9 h10 h11 misKept mtaped msort mfrom mto mvalue mbad mm_27 mkept mwas_27 mother mfound mwarm_27 mdrip_27 mtape mbits msize mnumber) := by
      intro n_27
      induction n_27 with
      | zero => intro _ _ _ _ _ _ _ hf; exact nomatch hf
      | succ n_27 ih_27 =>
        intro mm_27 mwas_27 mwarm_27 mdrip_27 x3_27 x4_27 x5_27 hf
        replace hf : b_X7_whose_27 mfound x1 (ik_lp7 (b_X7_whose_27 mfound x1) n_27) mm_27 mwas_27 mwarm_27 mdrip_27 x3_27 x4_27 x5_27 = some (R, mm_r, mwas_r, mfound_r, mwarm_r, mdrip_r) := hf
        unfold b_X7_whose_27 at hf
        refine ik_iload C 0 rfl dX7_whose_27 ?_
        refine ik_bipush (v := (6 : Int32)) C (by decide) dX7_whose_29 ?_
        refine ik_icmp_ge C 112 dX7_whose_31 (by decide) (fun hc => ?_) (fun hc => ?_)
        · have hf := ik_pos hc hf
          refine ik_aload_n C 4 rfl rfl dX7_whose_112 ?_
          refine ik_iload_n C 2 rfl rfl dX7_whose_113 ?_
          obtain ⟨r2, g3, hc3, hf⟩ := ik_b2s hf
          refine ik_goW [0, 1, 2, 3, 4, 5, 6, 7, 8, 9, 10, 11] rfl rfl (wz_X7 cI cS h0 h1 h2 h3 h4 h5 h6 h7 h8 h9 h10 h11 misKept mtaped msort mfrom mto mvalue mbad mm_27 mkept mwas_27 mother g3 mwarm_27 mdrip_27 mtape mbits msize mnumber) rfl (ik_runV C (c_X7_orNone l D cI cS h0 h1 h2 h3 h4 h5 h6 h7 h8 h9 h10 h11 misKept mtaped msort mfrom mto mvalue mbad mm_27 mkept mwas_27 mother mfound mwarm_27 mdrip_27 mtape mbits msize mnumber x3_27 r2 g3 hc3) mv_X7_orNone wl_27_8 ⟨rfl, rfl, Nat.le_of_ble_eq_true rfl, Nat.le_of_ble_eq_true rfl⟩ [0, 1, 2, 3, 4, 5, 6, 7, 8, 9, 10, 11] rfl (by decide) 0 rfl rfl rfl rfl (Nat.le_of_ble_eq_true rfl) dX7_whose_114) rfl ?_
          cases hf
          exact ik_iretW C hr hlk dX7_whose_117
        · have hf := ik_neg hc hf
          refine ik_aload_n C 4 rfl rfl dX7_whose_34 ?_
          refine ik_iload C 0 rfl dX7_whose_35 ?_
          obtain ⟨r2, hc2, hf⟩ := ik_b1s hf
          refine ik_goR (ik_runV C (c_X7_isLit l D cI cS h0 h1 h2 h3 h4 h5 h6 h7 h8 h9 h10 h11 misKept mtaped msort mfrom mto mvalue mbad mm_27 mkept mwas_27 mother mfound mwarm_27 mdrip_27 mtape mbits msize mnumber x5_27 r2 hc2) mv_X7_isLit wl_14_16 ⟨rfl, rfl, Nat.le_of_ble_eq_true rfl, Nat.le_of_ble_eq_true rfl⟩ [0, 1, 2, 3, 4, 5, 6, 7, 8, 9, 10, 11] rfl (by decide) 0 rfl rfl rfl rfl (Nat.le_of_ble_eq_true rfl) dX7_whose_37) rfl ?_
          refine ik_if_ne C 46 dX7_whose_40 (by decide) (fun hc => ?_) (fun hc => ?_)
          · have hf := ik_neg hc hf
            refine ik_aload_n C 4 rfl rfl dX7_whose_46 ?_
            refine ik_get C inlX7 0 rfl rfl 0 (by decide) wl_4_12 rfl (v := .ref h1) rfl dX7_whose_47 ?_
            refine ik_bipush (v := (6 : Int32)) C (by decide) dX7_whose_50 ?_
            refine ik_iconst (v := (3 : Int32)) C (by decide) dX7_whose_52 ?_
            refine ik_iload C 0 rfl dX7_whose_53 ?_
            refine ik_imul C dX7_whose_55 ?_
            refine ik_iadd C dX7_whose_56 ?_
            refine ik_iconst (v := (2 : Int32)) C (by decide) dX7_whose_57 ?_
            refine ik_iadd C dX7_whose_58 ?_
            refine ik_iconst (v := (0 : Int32)) C (by decide) dX7_whose_59 ?_
            have hg := ik_gdi hf
            have hf := ik_gdk hf
            refine ik_iast C 1 rfl hg (wz_X7 cI cS h0 h1 h2 h3 h4 h5 h6 h7 h8 h9 h10 h11 misKept mtaped msort mfrom mto mvalue mbad (upd mm_27 ((((6 : Int32) + ((3 : Int32) * x5_27)) + (2 : Int32))).toNatClampNeg (0 : Int32)) mkept mwas_27 mother mfound mwarm_27 mdrip_27 mtape mbits msize mnumber) rfl dX7_whose_60 ?_
            refine ik_aload_n C 4 rfl rfl dX7_whose_61 ?_
            refine ik_iload_n C 5 rfl rfl dX7_whose_62 ?_
            refine ik_bipush (v := (96 : Int32)) C (by decide) dX7_whose_63 ?_
            obtain ⟨r3, g4, g5, g6, g7, hc7, hf⟩ := ik_b5s hf
            refine ik_goW [0, 1, 2, 3, 4, 5, 6, 7, 8, 9, 10, 11] rfl rfl (wz_X7 cI cS h0 h1 h2 h3 h4 h5 h6 h7 h8 h9 h10 h11 misKept mtaped msort mfrom mto mvalue mbad g4 mkept g5 mother mfound g6 g7 mtape mbits msize mnumber) rfl (ik_runV C (c_X7_goneIn l D cI cS h0 h1 h2 h3 h4 h5 h6 h7 h8 h9 h10 h11 misKept mtaped msort mfrom mto mvalue mbad (upd mm_27 ((((6 : Int32) + ((3 : Int32) * x5_27)) + (2 : Int32))).toNatClampNeg (0 : Int32)) mkept mwas_27 mother mfound mwarm_27 mdrip_27 mtape mbits msize mnumber x1 (96 : Int32) r3 g4 g5 g6 g7 hc7) mv_X7_goneIn wl_25_23 ⟨rfl, rfl, Nat.le_of_ble_eq_true rfl, Nat.le_of_ble_eq_true rfl⟩ [0, 1, 2, 3, 4, 5, 6, 7, 8, 9, 10, 11] rfl (by decide) 0 rfl rfl rfl rfl (Nat.le_of_ble_eq_true rfl) dX7_whose_65) rfl ?_
            refine ik_istore C [(6, .int r3), (5, .int x5_27), (4, .int x4_27), (3, .int x3_27), (2, .int r1), (0, .ref h0), (1, .int x1)] (by decide) rfl dX7_whose_68 ?_
            refine ik_aload_n C 5 rfl rfl dX7_whose_70 ?_
            refine ik_get C inlX7 0 rfl rfl 0 (by decide) wl_4_12 rfl (v := .ref h1) rfl dX7_whose_71 ?_
            refine ik_bipush (v := (6 : Int32)) C (by decide) dX7_whose_74 ?_
            refine ik_iconst (v := (3 : Int32)) C (by decide) dX7_whose_76 ?_
            refine ik_iload C 1 rfl dX7_whose_77 ?_
            refine ik_imul C dX7_whose_79 ?_
            refine ik_iadd C dX7_whose_80 ?_
            refine ik_iconst (v := (2 : Int32)) C (by decide) dX7_whose_81 ?_
            refine ik_iadd C dX7_whose_82 ?_
            refine ik_iconst (v := (1 : Int32)) C (by decide) dX7_whose_83 ?_
            have hg := ik_gdi hf
            have hf := ik_gdk hf
            refine ik_iast C 1 rfl hg (wz_X7 cI cS h0 h1 h2 h3 h4 h5 h6 h7 h8 h9 h10 h11 misKept mtaped msort mfrom mto mvalue mbad (upd g4 ((((6 : Int32) + ((3 : Int32) * x5_27)) + (2 : Int32))).toNatClampNeg (1 : Int32)) mkept g5 mother mfound g6 g7 mtape mbits msize mnumber) rfl dX7_whose_84 ?_
            refine ik_iload_n C 3 rfl rfl dX7_whose_85 ?_
            refine ik_if_lt C 99 dX7_whose_86 (by decide) (fun hc => ?_) (fun hc => ?_)
            · have hf := ik_pos hc hf
              refine ik_iload C 1 rfl dX7_whose_99 ?_
              refine ik_istore_n C [(3, .int x5_27), (6, .int r3), (5, .int x5_27), (4, .int x4_27), (2, .int r1), (0, .ref h0), (1, .int x1)] rfl (by decide) rfl dX7_whose_101 ?_
              refine ik_iload C 1 rfl dX7_whose_102 ?_
              refine ik_istore C [(4, .int r3), (3, .int x5_27), (6, .int r3), (5, .int x5_27), (2, .int r1), (0, .ref h0), (1, .int x1)] (by decide) rfl dX7_whose_104 ?_
              refine ik_iinc C [(5, .int (x5_27 + (1 : Int32))), (4, .int r3), (3, .int x5_27), (6, .int r3), (2, .int r1), (0, .ref h0), (1, .int x1)] 3 rfl rfl (by decide) rfl dX7_whose_106 ?_
              refine ik_goto C 27 dX7_whose_109 (by decide) ?_
              exact ik_sub [0, 1, 2, 4, 5, 6] [(5, .int (x5_27 + (1 : Int32))), (4, .int r3), (3, .int x5_27), (2, .int r1), (0, .ref h0), (1, .int x1)] rfl (ih_27 (upd g4 ((((6 : Int32) + ((3 : Int32) * x5_27)) + (2 : Int32))).toNatClampNeg (1 : Int32)) g5 g6 g7 x5_27 r3 (x5_27 + (1 : Int32)) hf)
            · have hf := ik_neg hc hf
              refine ik_iload C 0 rfl dX7_whose_89 ?_
              refine ik_iload C 2 rfl dX7_whose_91 ?_
              refine ik_icmp_gt C 99 dX7_whose_93 (by decide) (fun hc => ?_) (fun hc => ?_)
              · have hf := ik_pos hc hf
                refine ik_iload C 1 rfl dX7_whose_99 ?_
                refine ik_istore_n C [(3, .int x5_27), (6, .int r3), (5, .int x5_27), (4, .int x4_27), (2, .int r1), (0, .ref h0), (1, .int x1)] rfl (by decide) rfl dX7_whose_101 ?_
                refine ik_iload C 1 rfl dX7_whose_102 ?_
                refine ik_istore C [(4, .int r3), (3, .int x5_27), (6, .int r3), (5, .int x5_27), (2, .int r1), (0, .ref h0), (1, .int x1)] (by decide) rfl dX7_whose_104 ?_
                refine ik_iinc C [(5, .int (x5_27 + (1 : Int32))), (4, .int r3), (3, .int x5_27), (6, .int r3), (2, .int r1), (0, .ref h0), (1, .int x1)] 3 rfl rfl (by decide) rfl dX7_whose_106 ?_
                refine ik_goto C 27 dX7_whose_109 (by decide) ?_
                exact ik_sub [0, 1, 2, 4, 5, 6] [(5, .int (x5_27 + (1 : Int32))), (4, .int r3), (3, .int x5_27), (2, .int r1), (0, .ref h0), (1, .int x1)] rfl (ih_27 (upd g4 ((((6 : Int32) + ((3 : Int32) * x5_27)) + (2 : Int32))).toNatClampNeg (1 : Int32)) g5 g6 g7 x5_27 r3 (x5_27 + (1 : Int32)) hf)
              · have hf := ik_neg hc hf
                refine ik_goto C 106 dX7_whose_96 (by decide) ?_
                refine ik_iinc C [(5, .int (x5_27 + (1 : Int32))), (6, .int r3), (4, .int x4_27), (3, .int x3_27), (2, .int r1), (0, .ref h0), (1, .int x1)] 1 rfl rfl (by decide) rfl dX7_whose_106 ?_
                refine ik_goto C 27 dX7_whose_109 (by decide) ?_
                exact ik_sub [0, 2, 3, 4, 5, 6] [(5, .int (x5_27 + (1 : Int32))), (4, .int x4_27), (3, .int x3_27), (2, .int r1), (0, .ref h0), (1, .int x1)] rfl (ih_27 (upd g4 ((((6 : Int32) + ((3 : Int32) * x5_27)) + (2 : Int32))).toNatClampNeg (1 : Int32)) g5 g6 g7 x3_27 x4_27 (x5_27 + (1 : Int32)) hf)
          · have hf := ik_pos hc hf
            refine ik_goto C 106 dX7_whose_43 (by decide) ?_
            refine ik_iinc C [(5, .int (x5_27 + (1 : Int32))), (4, .int x4_27), (3, .int x3_27), (2, .int r1), (0, .ref h0), (1, .int x1)] 0 rfl rfl (by decide) rfl dX7_whose_106 ?_
            refine ik_goto C 27 dX7_whose_109 (by decide) ?_
            exact ik_sub [0, 1, 2, 3, 4, 5] [(5, .int (x5_27 + (1 : Int32))), (4, .int x4_27), (3, .int x3_27), (2, .int r1), (0, .ref h0), (1, .int x1)] rfl (ih_27 mm_27 mwas_27 mwarm_27 mdrip_27 x3_27 x4_27 (x5_27 + (1 : Int32)) hf)
    exact hL_27 ik_fu mm mwas mwarm mdrip (-1 : Int32) (0 : Int32) (0 : Int32) hf
  · have hf := ik_neg hc hf
    refine ik_aload_n C 1 rfl rfl dX7_whose_13 ?_
    refine ik_iload_n C 0 rfl rfl dX7_whose_14 ?_
    obtain ⟨r2, g3, hc3, hf⟩ := ik_b2s hf
    refine ik_goW [0, 1, 2, 3, 4, 5, 6, 7, 8, 9, 10, 11] rfl rfl (wz_X7 cI cS h0 h1 h2 h3 h4 h5 h6 h7 h8 h9 h10 h11 misKept mtaped msort mfrom mto mvalue mbad mm mkept mwas mother g3 mwarm mdrip mtape mbits msize mnumber) rfl (ik_runV C (c_X7_finds l D cI cS h0 h1 h2 h3 h4 h5 h6 h7 h8 h9 h10 h11 misKept mtaped msort mfrom mto mvalue mbad mm mkept mwas mother mfound mwarm mdrip mtape mbits msize mnumber r1 r2 g3 hc3) mv_X7_finds wl_7_8 ⟨rfl, rfl, Nat.le_of_ble_eq_true rfl, Nat.le_of_ble_eq_true rfl⟩ [0, 1, 2, 3, 4, 5, 6, 7, 8, 9, 10, 11] rfl (by decide) 0 rfl rfl rfl rfl (Nat.le_of_ble_eq_true rfl) dX7_whose_15) rfl ?_
    cases hf
    exact ik_iretW C hr hlk dX7_whose_18
theorem mv_X7_grainsBehind : ik_V yX7_grainsBehind RX7 cX7_grainsBehind 4 (some .int) 2 := ⟨wl_29_15, wl_29_16, wl_1_5, wl_29_17, by decide +kernel⟩
set_option maxHeartbeats 4000000 in
set_option maxRecDepth 100000 in
theorem c_X7_grainsBehind (l : Launch) (D : va_G) (cI cS : ClassId) (h0 h1 h2 h3 h4 h5 h6 h7 h8 h9 h10 h11 : Nat) (misKept : Int32) (mtaped : Int32) (msort : Int32) (mfrom : Int32) (mto : Int32) (mvalue : Int32) (mbad : Int32) (mm : Nat → Int32) (mkept : Nat → Int32) (mwas : Nat → Int32) (mother : Nat → Int32) (mfound : Nat → Int32) (mwarm : Nat → Int32) (mdrip : Nat → Int32) (mtape : Nat → Int32) (mbits : Nat → Int32) (msize : Nat → Int32) (mnumber : Nat → Int32) (x1 : Int32) (x2 : Int32) (R : Int32) (mm_r : Nat → Int32) (mwas_r : Nat → Int32) (mwarm_r : Nat → Int32) (mdrip_r : Nat → Int32) (hf : f_X7_grainsBehind mm mwas mwarm mdrip x1 x2 = some (R, mm_r, mwas_r, mwarm_r, mdrip_r)) : Met l yX7_grainsBehind (ik_ws yX7_grainsBehind cX7_grainsBehind 4 (some .int)) ({ frames := 8, cells := 0, slots := 0, locals := 180 } : Room) (ik_P D cI cS [.ref h0, .int x1, .int x2] (wz_X7 cI cS h0 h1 h2 h3 h4 h5 h6 h7 h8 h9 h10 h11 misKept mtaped msort mfrom mto mvalue mbad mm mkept mwas mother mfound mwarm mdrip mtape mbits msize mnumber)) (ik_Q (some (.int R)) D (wz_X7 cI cS h0 h1 h2 h3 h4 h5 h6 h7 h8 h9 h10 h11 misKept mtaped msort mfrom mto mvalue mbad mm_r mkept mwas_r mother mfound mwarm_r mdrip_r mtape mbits msize mnumber) (wz_X7 cI cS h0 h1 h2 h3 h4 h5 h6 h7 h8 h9 h10 h11 misKept mtaped msort mfrom mto mvalue mbad mm mkept mwas mother mfound mwarm mdrip mtape mbits msize mnumber)) 0 0 (ik_in (wz_X7 cI cS h0 h1 h2 h3 h4 h5 h6 h7 h8 h9 h10 h11 misKept mtaped msort mfrom mto mvalue mbad mm mkept mwas mother mfound mwarm mdrip mtape mbits msize mnumber)) := by
  refine ik_metW RX7 rfl (by decide) (Nat.le_of_ble_eq_true rfl) [(0, .ref h0), (1, .int x1), (2, .int x2)] rfl ?_
  intro p e s m below meth c C hr hlk
  unfold f_X7_grainsBehind at hf
  refine ik_aload_n C 0 rfl rfl dX7_grainsBehind_0 ?_
  refine ik_get C inlX7 0 rfl rfl 0 (by decide) wl_4_12 rfl (v := .ref h1) rfl dX7_grainsBehind_1 ?_
  refine ik_aload_n C 0 rfl rfl dX7_grainsBehind_4 ?_
  refine ik_get C inlX7 0 rfl rfl 2 (by decide) wl_4_14 rfl (v := .ref h3) rfl dX7_grainsBehind_5 ?_
  obtain ⟨g1, hc1, hf⟩ := ik_b1s hf
  refine ik_goW [1, 3] rfl rfl (wz_X7 cI cS h0 h1 h2 h3 h4 h5 h6 h7 h8 h9 h10 h11 misKept mtaped msort mfrom mto mvalue mbad mm mkept g1 mother mfound mwarm mdrip mtape mbits msize mnumber) rfl (ik_runS C (c_X7_row l D cI cS h1 h3 mm mwas g1 hc1) ms_X7_row wl_24_22 ⟨rfl, rfl, Nat.le_of_ble_eq_true rfl, Nat.le_of_ble_eq_true rfl⟩ [1, 3] rfl (by decide) rfl rfl (Nat.le_of_ble_eq_true rfl) dX7_grainsBehind_8) rfl ?_
  refine ik_iconst (v := (0 : Int32)) C (by decide) dX7_grainsBehind_11 ?_
  refine ik_istore_n C [(3, .int (0 : Int32)), (0, .ref h0), (1, .int x1), (2, .int x2)] rfl (by decide) rfl dX7_grainsBehind_12 ?_
  have hL_13 : ∀ (n_13 : Nat) (mm_13 : Nat → Int32) (mwarm_13 : Nat → Int32) (mdrip_13 : Nat → Int32) (x3_13 : Int32), ik_lp4 (b_X7_grainsBehind_13 x1 x2 g1) n_13 mm_13 mwarm_13 mdrip_13 x3_13 = some (R, mm_r, mwas_r, mwarm_r, mdrip_r) → ik_G p l e ({ frames := 8, cells := 0, slots := 0, locals := 180 } : Room) s m ([.ref h0, .int x1, .int x2] : List Value).toArray below meth c D (ik_in (wz_X7 cI cS h0 h1 h2 h3 h4 h5 h6 h7 h8 h9 h10 h11 misKept mtaped msort mfrom mto mvalue mbad mm mkept mwas mother mfound mwarm mdrip mtape mbits msize mnumber)) (ik_in (wz_X7 cI cS h0 h1 h2 h3 h4 h5 h6 h7 h8 h9 h10 h11 misKept mtaped msort mfrom mto mvalue mbad mm mkept mwas mother mfound mwarm mdrip mtape mbits msize mnumber)) 4 (MQ below (ik_Q (some (.int R)) D (wz_X7 cI cS h0 h1 h2 h3 h4 h5 h6 h7 h8 h9 h10 h11 misKept mtaped msort mfrom mto mvalue mbad mm_r mkept mwas_r mother mfound mwarm_r mdrip_r mtape mbits msize mnumber) (wz_X7 cI cS h0 h1 h2 h3 h4 h5 h6 h7 h8 h9 h10 h11 misKept mtaped msort mfrom mto mvalue mbad mm mkept mwas mother mfound mwarm mdrip mtape mbits msize mnumber)) ([.ref h0, .int x1, .int x2] : List Value).toArray s 0 0 (ik_in (wz_X7 cI cS h0 h1 h2 h3 h4 h5 h6 h7 h8 h9 h10 h11 misKept mtaped msort mfrom mto mvalue mbad mm mkept mwas mother mfound mwarm mdrip mtape mbits msize mnumber))) 13 [(3, .int x3_13), (0, .ref h0), (1, .int x1), (2, .int x2)] [] (wz_X7 cI cS h0 h1 h2 h3 h4 h5 h6 h7 h8 h9 h10 h11 misKept mtaped msort mfrom mto mvalue mbad mm_13 mkept g1 mother mfound mwarm_13 mdrip_13 mtape mbits msize mnumber) := by
    intro n_13
    induction n_13 with
    | zero => intro _ _ _ _ hf; exact nomatch hf
    | succ n_13 ih_13 =>
      intro mm_13 mwarm_13 mdrip_13 x3_13 hf
      replace hf : b_X7_grainsBehind_13 x1 x2 g1 (ik_lp4 (b_X7_grainsBehind_13 x1 x2 g1) n_13) mm_13 mwarm_13 mdrip_13 x3_13 = some (R, mm_r, mwas_r, mwarm_r, mdrip_r) := hf
      unfold b_X7_grainsBehind_13 at hf
      refine ik_iload_n C 0 rfl rfl dX7_grainsBehind_13 ?_
      refine ik_iload_n C 3 rfl rfl dX7_grainsBehind_14 ?_
      refine ik_icmp_ge C 28 dX7_grainsBehind_15 (by decide) (fun hc => ?_) (fun hc => ?_)
      · have hf := ik_pos hc hf
        refine ik_aload_n C 1 rfl rfl dX7_grainsBehind_28 ?_
        refine ik_iload_n C 2 rfl rfl dX7_grainsBehind_29 ?_
        obtain ⟨r2, hc2, hf⟩ := ik_b1s hf
        refine ik_goR (ik_runV C (c_X7_grains l D cI cS h0 h1 h2 h3 h4 h5 h6 h7 h8 h9 h10 h11 misKept mtaped msort mfrom mto mvalue mbad mm_13 mkept g1 mother mfound mwarm_13 mdrip_13 mtape mbits msize mnumber x1 r2 hc2) mv_X7_grains wl_10_1 ⟨rfl, rfl, Nat.le_of_ble_eq_true rfl, Nat.le_of_ble_eq_true rfl⟩ [0, 1, 2, 3, 4, 5, 6, 7, 8, 9, 10, 11] rfl (by decide) 0 rfl rfl rfl rfl (Nat.le_of_ble_eq_true rfl) dX7_grainsBehind_30) rfl ?_
        refine ik_istore_n C [(3, .int r2), (0, .ref h0), (1, .int x1), (2, .int x2)] rfl (by decide) rfl dX7_grainsBehind_33 ?_
        refine ik_aload_n C 1 rfl rfl dX7_grainsBehind_34 ?_
        refine ik_get C inlX7 0 rfl rfl 2 (by decide) wl_4_14 rfl (v := .ref h3) rfl dX7_grainsBehind_35 ?_
        refine ik_aload_n C 1 rfl rfl dX7_grainsBehind_38 ?_
        refine ik_get C inlX7 0 rfl rfl 0 (by decide) wl_4_12 rfl (v := .ref h1) rfl dX7_grainsBehind_39 ?_
        obtain ⟨g3, hc3, hf⟩ := ik_b1s hf
        refine ik_goW [3, 1] rfl rfl (wz_X7 cI cS h0 h1 h2 h3 h4 h5 h6 h7 h8 h9 h10 h11 misKept mtaped msort mfrom mto mvalue mbad g3 mkept g1 mother mfound mwarm_13 mdrip_13 mtape mbits msize mnumber) rfl (ik_runS C (c_X7_row l D cI cS h3 h1 g1 mm_13 g3 hc3) ms_X7_row wl_24_22 ⟨rfl, rfl, Nat.le_of_ble_eq_true rfl, Nat.le_of_ble_eq_true rfl⟩ [3, 1] rfl (by decide) rfl rfl (Nat.le_of_ble_eq_true rfl) dX7_grainsBehind_42) rfl ?_
        refine ik_iload_n C 0 rfl rfl dX7_grainsBehind_45 ?_
        cases hf
        exact ik_iretW C hr hlk dX7_grainsBehind_46
      · have hf := ik_neg hc hf
        refine ik_aload_n C 1 rfl rfl dX7_grainsBehind_18 ?_
        obtain ⟨g2, g3, g4, hc4, hf⟩ := ik_b3s hf
        refine ik_goW [0, 1, 2, 3, 4, 5, 6, 7, 8, 9, 10, 11] rfl rfl (wz_X7 cI cS h0 h1 h2 h3 h4 h5 h6 h7 h8 h9 h10 h11 misKept mtaped msort mfrom mto mvalue mbad g2 mkept g1 mother mfound g3 g4 mtape mbits msize mnumber) rfl (ik_runV C (c_X7_hour l D cI cS h0 h1 h2 h3 h4 h5 h6 h7 h8 h9 h10 h11 misKept mtaped msort mfrom mto mvalue mbad mm_13 mkept g1 mother mfound mwarm_13 mdrip_13 mtape mbits msize mnumber g2 g3 g4 hc4) mv_X7_hour wl_20_18 ⟨rfl, rfl, Nat.le_of_ble_eq_true rfl, Nat.le_of_ble_eq_true rfl⟩ [0, 1, 2, 3, 4, 5, 6, 7, 8, 9, 10, 11] rfl (by decide) 0 rfl rfl rfl rfl (Nat.le_of_ble_eq_true rfl) dX7_grainsBehind_19) rfl ?_
        refine ik_iinc C [(3, .int (x3_13 + (1 : Int32))), (0, .ref h0), (1, .int x1), (2, .int x2)] 0 rfl rfl (by decide) rfl dX7_grainsBehind_22 ?_
        refine ik_goto C 13 dX7_grainsBehind_25 (by decide) ?_
        exact ik_sub [0, 1, 2, 3] [(3, .int (x3_13 + (1 : Int32))), (0, .ref h0), (1, .int x1), (2, .int x2)] rfl (ih_13 g2 g3 g4 (x3_13 + (1 : Int32)) hf)
  exact hL_13 ik_fu mm mwarm mdrip (0 : Int32) hf
theorem mv_X7_drawing : ik_V yX7_drawing RX7 cX7_drawing 9 (some .int) 3 := ⟨wl_29_10, wl_29_11, wl_1_5, wl_29_12, by decide +kernel⟩
set_option maxHeartbeats 4000000 in
set_option maxRecDepth 100000 in
theorem c_X7_drawing (l : Launch) (D : va_G) (cI cS : ClassId) (h0 h1 h2 h3 h4 h5 h6 h7 h8 h9 h10 h11 : Nat) (misKept : Int32) (mtaped : Int32) (msort : Int32) (mfrom : Int32) (mto : Int32) (mvalue : Int32) (mbad : Int32) (mm : Nat → Int32) (mkept : Nat → Int32) (mwas : Nat → Int32) (mother : Nat → Int32) (mfound : Nat → Int32) (mwarm : Nat → Int32) (mdrip : Nat → Int32) (mtape : Nat → Int32) (mbits : Nat → Int32) (msize : Nat → Int32) (mnumber : Nat → Int32) (x1 : Int32) (x2 : Int32) (x3 : Int32) (R : Int32) (mm_r : Nat → Int32) (mwas_r : Nat → Int32) (mfound_r : Nat → Int32) (mwarm_r : Nat → Int32) (mdrip_r : Nat → Int32) (hf : f_X7_drawing mm mwas mfound mwarm mdrip x1 x2 x3 = some (R, mm_r, mwas_r, mfound_r, mwarm_r, mdrip_r)) : Met l yX7_drawing (ik_ws yX7_drawing cX7_drawing 9 (some .int)) ({ frames := 9, cells := 0, slots := 0, locals := 203 } : Room) (ik_P D cI cS [.ref h0, .int x1, .int x2, .int x3] (wz_X7 cI cS h0 h1 h2 h3 h4 h5 h6 h7 h8 h9 h10 h11 misKept mtaped msort mfrom mto mvalue mbad mm mkept mwas mother mfound mwarm mdrip mtape mbits msize mnumber)) (ik_Q (some (.int R)) D (wz_X7 cI cS h0 h1 h2 h3 h4 h5 h6 h7 h8 h9 h10 h11 misKept mtaped msort mfrom mto mvalue mbad mm_r mkept mwas_r mother mfound_r mwarm_r mdrip_r mtape mbits msize mnumber) (wz_X7 cI cS h0 h1 h2 h3 h4 h5 h6 h7 h8 h9 h10 h11 misKept mtaped msort mfrom mto mvalue mbad mm mkept mwas mother mfound mwarm mdrip mtape mbits msize mnumber)) 0 0 (ik_in (wz_X7 cI cS h0 h1 h2 h3 h4 h5 h6 h7 h8 h9 h10 h11 misKept mtaped msort mfrom mto mvalue mbad mm mkept mwas mother mfound mwarm mdrip mtape mbits msize mnumber)) := by
  refine ik_metW RX7 rfl (by decide) (Nat.le_of_ble_eq_true rfl) [(0, .ref h0), (1, .int x1), (2, .int x2), (3, .int x3)] rfl ?_
  intro p e s m below meth c C hr hlk
  unfold f_X7_drawing at hf
  refine ik_aload_n C 0 rfl rfl dX7_drawing_0 ?_
  refine ik_iload_n C 1 rfl rfl dX7_drawing_1 ?_
  refine ik_iload_n C 2 rfl rfl dX7_drawing_2 ?_
  have hJ_32 : ∀ (v0_32 : Int32), j_X7_drawing_32 mm mwas mfound mwarm mdrip x1 x2 x3 v0_32 = some (R, mm_r, mwas_r, mfound_r, mwarm_r, mdrip_r) → ik_G p l e ({ frames := 9, cells := 0, slots := 0, locals := 203 } : Room) s m ([.ref h0, .int x1, .int x2, .int x3] : List Value).toArray below meth c D (ik_in (wz_X7 cI cS h0 h1 h2 h3 h4 h5 h6 h7 h8 h9 h10 h11 misKept mtaped msort mfrom mto mvalue mbad mm mkept mwas mother mfound mwarm mdrip mtape mbits msize mnumber)) (ik_in (wz_X7 cI cS h0 h1 h2 h3 h4 h5 h6 h7 h8 h9 h10 h11 misKept mtaped msort mfrom mto mvalue mbad mm mkept mwas mother mfound mwarm mdrip mtape mbits msize mnumber)) 9 (MQ below (ik_Q (some (.int R)) D (wz_X7 cI cS h0 h1 h2 h3 h4 h5 h6 h7 h8 h9 h10 h11 misKept mtaped msort mfrom mto mvalue mbad mm_r mkept mwas_r mother mfound_r mwarm_r mdrip_r mtape mbits msize mnumber) (wz_X7 cI cS h0 h1 h2 h3 h4 h5 h6 h7 h8 h9 h10 h11 misKept mtaped msort mfrom mto mvalue mbad mm mkept mwas mother mfound mwarm mdrip mtape mbits msize mnumber)) ([.ref h0, .int x1, .int x2, .int x3] : List Value).toArray s 0 0 (ik_in (wz_X7 cI cS h0 h1 h2 h3 h4 h5 h6 h7 h8 h9 h10 h11 misKept mtaped msort mfrom mto mvalue mbad mm mkept mwas mother mfound mwarm mdrip mtape mbits msize mnumber))) 32 [(0, .ref h0), (1, .int x1), (2, .int x2), (3, .int x3)] [.int v0_32, .int x2, .int x1, .ref h0] (wz_X7 cI cS h0 h1 h2 h3 h4 h5 h6 h7 h8 h9 h10 h11 misKept mtaped msort mfrom mto mvalue mbad mm mkept mwas mother mfound mwarm mdrip mtape mbits msize mnumber) := by
    intro v0_32 hf
    unfold j_X7_drawing_32 at hf
    obtain ⟨r1, hc1, hf⟩ := ik_b1s hf
    refine ik_goR (ik_runV C (c_X7_wrongFor l D cI cS h0 h1 h2 h3 h4 h5 h6 h7 h8 h9 h10 h11 misKept mtaped msort mfrom mto mvalue mbad mm mkept mwas mother mfound mwarm mdrip mtape mbits msize mnumber x1 x2 v0_32 r1 hc1) mv_X7_wrongFor wl_28_4 ⟨rfl, rfl, Nat.le_of_ble_eq_true rfl, Nat.le_of_ble_eq_true rfl⟩ [0, 1, 2, 3, 4, 5, 6, 7, 8, 9, 10, 11] rfl (by decide) 0 rfl rfl rfl rfl (Nat.le_of_ble_eq_true rfl) dX7_drawing_32) rfl ?_
    refine ik_istore C [(4, .int r1), (0, .ref h0), (1, .int x1), (2, .int x2), (3, .int x3)] (by decide) rfl dX7_drawing_35 ?_
    refine ik_iload C 0 rfl dX7_drawing_37 ?_
    refine ik_if_ge C 49 dX7_drawing_39 (by decide) (fun hc => ?_) (fun hc => ?_)
    · have hf := ik_pos hc hf
      refine ik_aload_n C 1 rfl rfl dX7_drawing_49 ?_
      refine ik_get C inlX7 0 rfl rfl 0 (by decide) wl_4_12 rfl (v := .ref h1) rfl dX7_drawing_50 ?_
      refine ik_iconst (v := (1 : Int32)) C (by decide) dX7_drawing_53 ?_
      refine ik_iald C 1 rfl (ik_vin (by decide)) dX7_drawing_54 ?_
      refine ik_istore C [(5, .int (mm ((1 : Int32)).toNatClampNeg)), (4, .int r1), (0, .ref h0), (1, .int x1), (2, .int x2), (3, .int x3)] (by decide) rfl dX7_drawing_55 ?_
      refine ik_iconst (v := (0 : Int32)) C (by decide) dX7_drawing_57 ?_
      refine ik_istore C [(6, .int (0 : Int32)), (5, .int (mm ((1 : Int32)).toNatClampNeg)), (4, .int r1), (0, .ref h0), (1, .int x1), (2, .int x2), (3, .int x3)] (by decide) rfl dX7_drawing_58 ?_
      refine ik_iconst (v := (0 : Int32)) C (by decide) dX7_drawing_60 ?_
      refine ik_istore C [(7, .int (0 : Int32)), (6, .int (0 : Int32)), (5, .int (mm ((1 : Int32)).toNatClampNeg)), (4, .int r1), (0, .ref h0), (1, .int x1), (2, .int x2), (3, .int x3)] (by decide) rfl dX7_drawing_61 ?_
      refine ik_bipush (v := (20 : Int32)) C (by decide) dX7_drawing_63 ?_
      refine ik_istore C [(8, .int (20 : Int32)), (7, .int (0 : Int32)), (6, .int (0 : Int32)), (5, .int (mm ((1 : Int32)).toNatClampNeg)), (4, .int r1), (0, .ref h0), (1, .int x1), (2, .int x2), (3, .int x3)] (by decide) rfl dX7_drawing_65 ?_
      have hL_67 : ∀ (n_67 : Nat) (mm_67 : Nat → Int32) (mwas_67 : Nat → Int32) (mwarm_67 : Nat → Int32) (mdrip_67 : Nat → Int32) (x6_67 : Int32) (x7_67 : Int32) (x8_67 : Int32), ik_lp7 (b_X7_drawing_67 mm mfound x1 x2 x3) n_67 mm_67 mwas_67 mwarm_67 mdrip_67 x6_67 x7_67 x8_67 = some (R, mm_r, mwas_r, mfound_r, mwarm_r, mdrip_r) → ik_G p l e ({ frames := 9, cells := 0, slots := 0, locals := 203 } : Room) s m ([.ref h0, .int x1, .int x2, .int x3] : List Value).toArray below meth c D (ik_in (wz_X7 cI cS h0 h1 h2 h3 h4 h5 h6 h7 h8 h9 h10 h11 misKept mtaped msort mfrom mto mvalue mbad mm mkept mwas mother mfound mwarm mdrip mtape mbits msize mnumber)) (ik_in (wz_X7 cI cS h0 h1 h2 h3 h4 h5 h6 h7 h8 h9 h10 h11 misKept mtaped msort mfrom mto mvalue mbad mm mkept mwas mother mfound mwarm mdrip mtape mbits msize mnumber)) 9 (MQ below (ik_Q (some (.int R)) D (wz_X7 cI cS h0 h1 h2 h3 h4 h5 h6 h7 h8 h9 h10 h11 misKept mtaped msort mfrom mto mvalue mbad mm_r mkept mwas_r mother mfound_r mwarm_r mdrip_r mtape mbits msize mnumber) (wz_X7 cI cS h0 h1 h2 h3 h4 h5 h6 h7 h8 h9 h10 h11 misKept mtaped msort mfrom mto mvalue mbad mm mkept mwas mother mfound mwarm mdrip mtape mbits msize mnumber)) ([.ref h0, .int x1, .int x2, .int x3] : List Value).toArray s 0 0 (ik_in (wz_X7 cI cS h0 h1 h2 h3 h4 h5 h6 h7 h8 h9 h10 h11 misKept mtaped msort mfrom mto mvalue mbad mm mkept mwas mother mfound mwarm mdrip mtape mbits msize mnumber))) 67 [(8, .int x8_67), (7, .int x7_67), (6, .int x6_67), (5, .int (mm ((1 : Int32)).toNatClampNeg)), (4, .int r1), (0, .ref h0), (1, .int x1), (2, .int x2), (3, .int x3)] [] (wz_X7 cI cS h0 h1 h2 h3 h4 h5 h6 h7 h8 h9 h10 h11 misKept mtaped msort mfrom mto mvalue mbad mm_67 mkept mwas_67 mother mfound mwarm_67 mdrip_67 mtape mbits msize mnumber) := by
        intro n_67
        induction n_67 with
        | zero => intro _ _ _ _ _ _ _ hf; exact nomatch hf
        | succ n_67 ih_67 =>
          intro mm_67 mwas_67 mwarm_67 mdrip_67 x6_67 x7_67 x8_67 hf
          replace hf : b_X7_drawing_67 mm mfound x1 x2 x3 (ik_lp7 (b_X7_drawing_67 mm mfound x1 x2 x3) n_67) mm_67 mwas_67 mwarm_67 mdrip_67 x6_67 x7_67 x8_67 = some (R, mm_r, mwas_r, mfound_r, mwarm_r, mdrip_r) := hf
          unfold b_X7_drawing_67 at hf
          refine ik_iload C 0 rfl dX7_drawing_67 ?_
          refine ik_bipush (v := (-20 : Int32)) C (by decide) dX7_drawing_69 ?_
          refine ik_icmp_lt C 108 dX7_drawing_71 (by decide) (fun hc => ?_) (fun hc => ?_)
          · have hf := ik_pos hc hf
            refine ik_aload_n C 5 rfl rfl dX7_drawing_108 ?_
            refine ik_get C inlX7 0 rfl rfl 0 (by decide) wl_4_12 rfl (v := .ref h1) rfl dX7_drawing_109 ?_
            refine ik_iconst (v := (1 : Int32)) C (by decide) dX7_drawing_112 ?_
            refine ik_iload C 3 rfl dX7_drawing_113 ?_
            refine ik_iast C 1 rfl (ik_vin (by decide)) (wz_X7 cI cS h0 h1 h2 h3 h4 h5 h6 h7 h8 h9 h10 h11 misKept mtaped msort mfrom mto mvalue mbad (upd mm_67 ((1 : Int32)).toNatClampNeg (mm ((1 : Int32)).toNatClampNeg)) mkept mwas_67 mother mfound mwarm_67 mdrip_67 mtape mbits msize mnumber) rfl dX7_drawing_115 ?_
            refine ik_iload C 2 rfl dX7_drawing_116 ?_
            refine ik_if_ne C 130 dX7_drawing_118 (by decide) (fun hc => ?_) (fun hc => ?_)
            · have hf := ik_neg hc hf
              refine ik_bipush (v := (100 : Int32)) C (by decide) dX7_drawing_130 ?_
              refine ik_iload C 2 rfl dX7_drawing_132 ?_
              refine ik_imul C dX7_drawing_134 ?_
              refine ik_bipush (v := (20 : Int32)) C (by decide) dX7_drawing_135 ?_
              refine ik_iadd C dX7_drawing_137 ?_
              refine ik_iload C 1 rfl dX7_drawing_138 ?_
              refine ik_iadd C dX7_drawing_140 ?_
              cases hf
              exact ik_iretW C hr hlk dX7_drawing_141
            · have hf := ik_pos hc hf
              refine ik_aload_n C 5 rfl rfl dX7_drawing_121 ?_
              refine ik_ldc C wl_25_18 dX7_drawing_122 ?_
              obtain ⟨r2, g3, hc3, hf⟩ := ik_b2s hf
              refine ik_goW [0, 1, 2, 3, 4, 5, 6, 7, 8, 9, 10, 11] rfl rfl (wz_X7 cI cS h0 h1 h2 h3 h4 h5 h6 h7 h8 h9 h10 h11 misKept mtaped msort mfrom mto mvalue mbad (upd mm_67 ((1 : Int32)).toNatClampNeg (mm ((1 : Int32)).toNatClampNeg)) mkept mwas_67 mother g3 mwarm_67 mdrip_67 mtape mbits msize mnumber) rfl (ik_runV C (c_X7_finds l D cI cS h0 h1 h2 h3 h4 h5 h6 h7 h8 h9 h10 h11 misKept mtaped msort mfrom mto mvalue mbad (upd mm_67 ((1 : Int32)).toNatClampNeg (mm ((1 : Int32)).toNatClampNeg)) mkept mwas_67 mother mfound mwarm_67 mdrip_67 mtape mbits msize mnumber (-1000004 : Int32) r2 g3 hc3) mv_X7_finds wl_7_8 ⟨rfl, rfl, Nat.le_of_ble_eq_true rfl, Nat.le_of_ble_eq_true rfl⟩ [0, 1, 2, 3, 4, 5, 6, 7, 8, 9, 10, 11] rfl (by decide) 0 rfl rfl rfl rfl (Nat.le_of_ble_eq_true rfl) dX7_drawing_124) rfl ?_
              refine ik_goto C 141 dX7_drawing_127 (by decide) ?_
              cases hf
              exact ik_iretW C hr hlk dX7_drawing_141
          · have hf := ik_neg hc hf
            refine ik_aload_n C 5 rfl rfl dX7_drawing_74 ?_
            refine ik_get C inlX7 0 rfl rfl 0 (by decide) wl_4_12 rfl (v := .ref h1) rfl dX7_drawing_75 ?_
            refine ik_iconst (v := (1 : Int32)) C (by decide) dX7_drawing_78 ?_
            refine ik_iload C 0 rfl dX7_drawing_79 ?_
            refine ik_iast C 1 rfl (ik_vin (by decide)) (wz_X7 cI cS h0 h1 h2 h3 h4 h5 h6 h7 h8 h9 h10 h11 misKept mtaped msort mfrom mto mvalue mbad (upd mm_67 ((1 : Int32)).toNatClampNeg x8_67) mkept mwas_67 mother mfound mwarm_67 mdrip_67 mtape mbits msize mnumber) rfl dX7_drawing_81 ?_
            refine ik_aload_n C 5 rfl rfl dX7_drawing_82 ?_
            refine ik_iload_n C 6 rfl rfl dX7_drawing_83 ?_
            refine ik_iload_n C 7 rfl rfl dX7_drawing_84 ?_
            obtain ⟨r2, g3, g4, g5, g6, hc6, hf⟩ := ik_b5s hf
            refine ik_goW [0, 1, 2, 3, 4, 5, 6, 7, 8, 9, 10, 11] rfl rfl (wz_X7 cI cS h0 h1 h2 h3 h4 h5 h6 h7 h8 h9 h10 h11 misKept mtaped msort mfrom mto mvalue mbad g3 mkept g4 mother mfound g5 g6 mtape mbits msize mnumber) rfl (ik_runV C (c_X7_grainsBehind l D cI cS h0 h1 h2 h3 h4 h5 h6 h7 h8 h9 h10 h11 misKept mtaped msort mfrom mto mvalue mbad (upd mm_67 ((1 : Int32)).toNatClampNeg x8_67) mkept mwas_67 mother mfound mwarm_67 mdrip_67 mtape mbits msize mnumber x1 x2 r2 g3 g4 g5 g6 hc6) mv_X7_grainsBehind wl_29_14 ⟨rfl, rfl, Nat.le_of_ble_eq_true rfl, Nat.le_of_ble_eq_true rfl⟩ [0, 1, 2, 3, 4, 5, 6, 7, 8, 9, 10, 11] rfl (by decide) 0 rfl rfl rfl rfl (Nat.le_of_ble_eq_true rfl) dX7_drawing_85) rfl ?_
            refine ik_iload_n C 8 rfl rfl dX7_drawing_88 ?_
            refine ik_icmp_eq C 95 dX7_drawing_89 (by decide) (fun hc => ?_) (fun hc => ?_)
            · have hf := ik_pos hc hf
              refine ik_iinc C [(6, .int (x6_67 + (1 : Int32))), (8, .int x8_67), (7, .int x7_67), (5, .int (mm ((1 : Int32)).toNatClampNeg)), (4, .int r1), (0, .ref h0), (1, .int x1), (2, .int x2), (3, .int x3)] 2 rfl rfl (by decide) rfl dX7_drawing_95 ?_
              refine ik_iload C 1 rfl dX7_drawing_98 ?_
              refine ik_istore C [(7, .int x8_67), (6, .int (x6_67 + (1 : Int32))), (8, .int x8_67), (5, .int (mm ((1 : Int32)).toNatClampNeg)), (4, .int r1), (0, .ref h0), (1, .int x1), (2, .int x2), (3, .int x3)] (by decide) rfl dX7_drawing_100 ?_
              refine ik_iinc C [(8, .int (x8_67 + (-1 : Int32))), (7, .int x8_67), (6, .int (x6_67 + (1 : Int32))), (5, .int (mm ((1 : Int32)).toNatClampNeg)), (4, .int r1), (0, .ref h0), (1, .int x1), (2, .int x2), (3, .int x3)] 2 rfl rfl (by decide) rfl dX7_drawing_102 ?_
              refine ik_goto C 67 dX7_drawing_105 (by decide) ?_
              exact ik_sub [0, 1, 2, 3, 4, 5, 6, 7, 8] [(8, .int (x8_67 + (-1 : Int32))), (7, .int x8_67), (6, .int (x6_67 + (1 : Int32))), (5, .int (mm ((1 : Int32)).toNatClampNeg)), (4, .int r1), (0, .ref h0), (1, .int x1), (2, .int x2), (3, .int x3)] rfl (ih_67 g3 g4 g5 g6 (x6_67 + (1 : Int32)) x8_67 (x8_67 + (-1 : Int32)) hf)
            · have hf := ik_neg hc hf
              refine ik_goto C 102 dX7_drawing_92 (by decide) ?_
              refine ik_iinc C [(8, .int (x8_67 + (-1 : Int32))), (7, .int x7_67), (6, .int x6_67), (5, .int (mm ((1 : Int32)).toNatClampNeg)), (4, .int r1), (0, .ref h0), (1, .int x1), (2, .int x2), (3, .int x3)] 0 rfl rfl (by decide) rfl dX7_drawing_102 ?_
              refine ik_goto C 67 dX7_drawing_105 (by decide) ?_
              exact ik_sub [0, 1, 2, 3, 4, 5, 6, 7, 8] [(8, .int (x8_67 + (-1 : Int32))), (7, .int x7_67), (6, .int x6_67), (5, .int (mm ((1 : Int32)).toNatClampNeg)), (4, .int r1), (0, .ref h0), (1, .int x1), (2, .int x2), (3, .int x3)] rfl (ih_67 g3 g4 g5 g6 x6_67 x7_67 (x8_67 + (-1 : Int32)) hf)
      exact hL_67 ik_fu mm mwas mwarm mdrip (0 : Int32) (0 : Int32) (20 : Int32) hf
    · have hf := ik_neg hc hf
      refine ik_aload_n C 1 rfl rfl dX7_drawing_42 ?_
      refine ik_iload C 0 rfl dX7_drawing_43 ?_
      obtain ⟨r2, g3, hc3, hf⟩ := ik_b2s hf
      refine ik_goW [0, 1, 2, 3, 4, 5, 6, 7, 8, 9, 10, 11] rfl rfl (wz_X7 cI cS h0 h1 h2 h3 h4 h5 h6 h7 h8 h9 h10 h11 misKept mtaped msort mfrom mto mvalue mbad mm mkept mwas mother g3 mwarm mdrip mtape mbits msize mnumber) rfl (ik_runV C (c_X7_finds l D cI cS h0 h1 h2 h3 h4 h5 h6 h7 h8 h9 h10 h11 misKept mtaped msort mfrom mto mvalue mbad mm mkept mwas mother mfound mwarm mdrip mtape mbits msize mnumber r1 r2 g3 hc3) mv_X7_finds wl_7_8 ⟨rfl, rfl, Nat.le_of_ble_eq_true rfl, Nat.le_of_ble_eq_true rfl⟩ [0, 1, 2, 3, 4, 5, 6, 7, 8, 9, 10, 11] rfl (by decide) 0 rfl rfl rfl rfl (Nat.le_of_ble_eq_true rfl) dX7_drawing_45) rfl ?_
      cases hf
      exact ik_iretW C hr hlk dX7_drawing_48
  refine ik_iload_n C 2 rfl rfl dX7_drawing_3 ?_
  refine ik_i2l C dX7_drawing_4 ?_
  refine ik_lconst (v := (1 : Int64)) C (by decide) dX7_drawing_5 ?_
  refine ik_ldc2 C wl_29_13 dX7_drawing_6 ?_
  obtain ⟨r1, hc1, hf⟩ := ik_b1s hf
  refine ik_goR (ik_runS C (c_X7_in l D cI cS (x2).toInt64 (1 : Int64) (24 : Int64) r1 hc1) ms_X7_in wl_6_21 ⟨rfl, rfl, Nat.le_of_ble_eq_true rfl, Nat.le_of_ble_eq_true rfl⟩ [] rfl (by decide) rfl rfl (Nat.le_of_ble_eq_true rfl) dX7_drawing_9) rfl ?_
  refine ik_if_eq C 31 dX7_drawing_12 (by decide) (fun hc => ?_) (fun hc => ?_)
  · have hf := ik_pos hc hf
    refine ik_iconst (v := (0 : Int32)) C (by decide) dX7_drawing_31 ?_
    exact ik_sub [0, 1, 2, 3] [(0, .ref h0), (1, .int x1), (2, .int x2), (3, .int x3)] rfl (hJ_32 (0 : Int32) hf)
  · have hf := ik_neg hc hf
    refine ik_iload_n C 3 rfl rfl dX7_drawing_15 ?_
    refine ik_i2l C dX7_drawing_16 ?_
    refine ik_lconst (v := (0 : Int64)) C (by decide) dX7_drawing_17 ?_
    refine ik_ldc2 C wl_7_7 dX7_drawing_18 ?_
    obtain ⟨r2, hc2, hf⟩ := ik_b1s hf
    refine ik_goR (ik_runS C (c_X7_in l D cI cS (x3).toInt64 (0 : Int64) (99 : Int64) r2 hc2) ms_X7_in wl_6_21 ⟨rfl, rfl, Nat.le_of_ble_eq_true rfl, Nat.le_of_ble_eq_true rfl⟩ [] rfl (by decide) rfl rfl (Nat.le_of_ble_eq_true rfl) dX7_drawing_21) rfl ?_
    refine ik_if_eq C 31 dX7_drawing_24 (by decide) (fun hc => ?_) (fun hc => ?_)
    · have hf := ik_pos hc hf
      refine ik_iconst (v := (0 : Int32)) C (by decide) dX7_drawing_31 ?_
      exact ik_sub [0, 1, 2, 3] [(0, .ref h0), (1, .int x1), (2, .int x2), (3, .int x3)] rfl (hJ_32 (0 : Int32) hf)
    · have hf := ik_neg hc hf
      refine ik_iconst (v := (1 : Int32)) C (by decide) dX7_drawing_27 ?_
      refine ik_goto C 32 dX7_drawing_28 (by decide) ?_
      exact ik_sub [0, 1, 2, 3] [(0, .ref h0), (1, .int x1), (2, .int x2), (3, .int x3)] rfl (hJ_32 (1 : Int32) hf)
theorem mv_X7_there : ik_V yX7_there RX7 cX7_there 1 (some .int) 0 := ⟨wl_30_16, wl_30_17, wl_1_5, wl_30_18, by decide +kernel⟩
set_option maxHeartbeats 4000000 in
set_option maxRecDepth 100000 in
theorem c_X7_there (l : Launch) (D : va_G) (cI cS : ClassId) (h0 h1 h2 h3 h4 h5 h6 h7 h8 h9 h10 h11 : Nat) (misKept : Int32) (mtaped : Int32) (msort : Int32) (mfrom : Int32) (mto : Int32) (mvalue : Int32) (mbad : Int32) (mm : Nat → Int32) (mkept : Nat → Int32) (mwas : Nat → Int32) (mother : Nat → Int32) (mfound : Nat → Int32) (mwarm : Nat → Int32) (mdrip : Nat → Int32) (mtape : Nat → Int32) (mbits : Nat → Int32) (msize : Nat → Int32) (mnumber : Nat → Int32) (R : Int32) (hf : f_X7_there mm = some (R)) : Met l yX7_there (ik_ws yX7_there cX7_there 1 (some .int)) ({ frames := 3, cells := 0, slots := 0, locals := 64 } : Room) (ik_P D cI cS [.ref h0] (wz_X7 cI cS h0 h1 h2 h3 h4 h5 h6 h7 h8 h9 h10 h11 misKept mtaped msort mfrom mto mvalue mbad mm mkept mwas mother mfound mwarm mdrip mtape mbits msize mnumber)) (ik_R (some (.int R))) 0 0 ik_no := by
  refine ik_metR RX7 rfl (by decide) (Nat.le_of_ble_eq_true rfl) [(0, .ref h0)] rfl ?_
  intro p e s m below meth c C hr hlk
  unfold f_X7_there at hf
  refine ik_aload_n C 0 rfl rfl dX7_there_0 ?_
  obtain ⟨r1, hc1, hf⟩ := ik_b1s hf
  refine ik_goR (ik_runV C (c_X7_goneNow l D cI cS h0 h1 h2 h3 h4 h5 h6 h7 h8 h9 h10 h11 misKept mtaped msort mfrom mto mvalue mbad mm mkept mwas mother mfound mwarm mdrip mtape mbits msize mnumber r1 hc1) mv_X7_goneNow wl_20_14 ⟨rfl, rfl, Nat.le_of_ble_eq_true rfl, Nat.le_of_ble_eq_true rfl⟩ [0, 1, 2, 3, 4, 5, 6, 7, 8, 9, 10, 11] rfl (by decide) 0 rfl rfl rfl rfl (Nat.le_of_ble_eq_true rfl) dX7_there_1) rfl ?_
  refine ik_iconst (v := (-1 : Int32)) C (by decide) dX7_there_4 ?_
  refine ik_ixor C dX7_there_5 ?_
  refine ik_iconst (v := (1 : Int32)) C (by decide) dX7_there_6 ?_
  refine ik_aload_n C 0 rfl rfl dX7_there_7 ?_
  refine ik_get C inlX7 0 rfl rfl 0 (by decide) wl_4_12 rfl (v := .ref h1) rfl dX7_there_8 ?_
  refine ik_iconst (v := (5 : Int32)) C (by decide) dX7_there_11 ?_
  refine ik_iald C 1 rfl (ik_vin (by decide)) dX7_there_12 ?_
  refine ik_ishl C dX7_there_13 ?_
  refine ik_iconst (v := (1 : Int32)) C (by decide) dX7_there_14 ?_
  refine ik_isub C dX7_there_15 ?_
  refine ik_iand C dX7_there_16 ?_
  cases hf
  exact ik_iretR C hr hlk dX7_there_17
theorem mv_X7_order : ik_V yX7_order RX7 cX7_order 7 (some .int) 1 := ⟨wl_30_11, wl_30_12, wl_1_5, wl_30_13, by decide +kernel⟩
set_option maxHeartbeats 4000000 in
set_option maxRecDepth 100000 in
theorem c_X7_order (l : Launch) (D : va_G) (cI cS : ClassId) (h0 h1 h2 h3 h4 h5 h6 h7 h8 h9 h10 h11 : Nat) (misKept : Int32) (mtaped : Int32) (msort : Int32) (mfrom : Int32) (mto : Int32) (mvalue : Int32) (mbad : Int32) (mm : Nat → Int32) (mkept : Nat → Int32) (mwas : Nat → Int32) (mother : Nat → Int32) (mfound : Nat → Int32) (mwarm : Nat → Int32) (mdrip : Nat → Int32) (mtape : Nat → Int32) (mbits : Nat → Int32) (msize : Nat → Int32) (mnumber : Nat → Int32) (x1 : Int32) (R : Int32) (mfound_r : Nat → Int32) (hf : f_X7_order mm mfound x1 = some (R, mfound_r)) : Met l yX7_order (ik_ws yX7_order cX7_order 7 (some .int)) ({ frames := 4, cells := 0, slots := 0, locals := 91 } : Room) (ik_P D cI cS [.ref h0, .int x1] (wz_X7 cI cS h0 h1 h2 h3 h4 h5 h6 h7 h8 h9 h10 h11 misKept mtaped msort mfrom mto mvalue mbad mm mkept mwas mother mfound mwarm mdrip mtape mbits msize mnumber)) (ik_Q (some (.int R)) D (wz_X7 cI cS h0 h1 h2 h3 h4 h5 h6 h7 h8 h9 h10 h11 misKept mtaped msort mfrom mto mvalue mbad mm mkept mwas mother mfound_r mwarm mdrip mtape mbits msize mnumber) (wz_X7 cI cS h0 h1 h2 h3 h4 h5 h6 h7 h8 h9 h10 h11 misKept mtaped msort mfrom mto mvalue mbad mm mkept mwas mother mfound mwarm mdrip mtape mbits msize mnumber)) 0 0 (ik_in (wz_X7 cI cS h0 h1 h2 h3 h4 h5 h6 h7 h8 h9 h10 h11 misKept mtaped msort mfrom mto mvalue mbad mm mkept mwas mother mfound mwarm mdrip mtape mbits msize mnumber)) := by
  refine ik_metW RX7 rfl (by decide) (Nat.le_of_ble_eq_true rfl) [(0, .ref h0), (1, .int x1)] rfl ?_
  intro p e s m below meth c C hr hlk
  unfold f_X7_order at hf
  refine ik_iload_n C 1 rfl rfl dX7_order_0 ?_
  refine ik_i2l C dX7_order_1 ?_
  refine ik_lconst (v := (0 : Int64)) C (by decide) dX7_order_2 ?_
  refine ik_ldc2 C wl_30_14 dX7_order_3 ?_
  obtain ⟨r1, hc1, hf⟩ := ik_b1s hf
  refine ik_goR (ik_runS C (c_X7_in l D cI cS (x1).toInt64 (0 : Int64) (15 : Int64) r1 hc1) ms_X7_in wl_6_21 ⟨rfl, rfl, Nat.le_of_ble_eq_true rfl, Nat.le_of_ble_eq_true rfl⟩ [] rfl (by decide) rfl rfl (Nat.le_of_ble_eq_true rfl) dX7_order_6) rfl ?_
  refine ik_if_ne C 19 dX7_order_9 (by decide) (fun hc => ?_) (fun hc => ?_)
  · have hf := ik_neg hc hf
    refine ik_iconst (v := (0 : Int32)) C (by decide) dX7_order_19 ?_
    refine ik_istore_n C [(2, .int (0 : Int32)), (0, .ref h0), (1, .int x1)] rfl (by decide) rfl dX7_order_20 ?_
    refine ik_iconst (v := (-1 : Int32)) C (by decide) dX7_order_21 ?_
    refine ik_istore_n C [(3, .int (-1 : Int32)), (2, .int (0 : Int32)), (0, .ref h0), (1, .int x1)] rfl (by decide) rfl dX7_order_22 ?_
    refine ik_iconst (v := (0 : Int32)) C (by decide) dX7_order_23 ?_
    refine ik_istore C [(4, .int (0 : Int32)), (3, .int (-1 : Int32)), (2, .int (0 : Int32)), (0, .ref h0), (1, .int x1)] (by decide) rfl dX7_order_24 ?_
    have hL_26 : ∀ (n_26 : Nat) (x2_26 : Int32) (x3_26 : Int32) (x4_26 : Int32), ik_lp3 (b_X7_order_26 mm mfound x1) n_26 x2_26 x3_26 x4_26 = some (R, mfound_r) → ik_G p l e ({ frames := 4, cells := 0, slots := 0, locals := 91 } : Room) s m ([.ref h0, .int x1] : List Value).toArray below meth c D (ik_in (wz_X7 cI cS h0 h1 h2 h3 h4 h5 h6 h7 h8 h9 h10 h11 misKept mtaped msort mfrom mto mvalue mbad mm mkept mwas mother mfound mwarm mdrip mtape mbits msize mnumber)) (ik_in (wz_X7 cI cS h0 h1 h2 h3 h4 h5 h6 h7 h8 h9 h10 h11 misKept mtaped msort mfrom mto mvalue mbad mm mkept mwas mother mfound mwarm mdrip mtape mbits msize mnumber)) 7 (MQ below (ik_Q (some (.int R)) D (wz_X7 cI cS h0 h1 h2 h3 h4 h5 h6 h7 h8 h9 h10 h11 misKept mtaped msort mfrom mto mvalue mbad mm mkept mwas mother mfound_r mwarm mdrip mtape mbits msize mnumber) (wz_X7 cI cS h0 h1 h2 h3 h4 h5 h6 h7 h8 h9 h10 h11 misKept mtaped msort mfrom mto mvalue mbad mm mkept mwas mother mfound mwarm mdrip mtape mbits msize mnumber)) ([.ref h0, .int x1] : List Value).toArray s 0 0 (ik_in (wz_X7 cI cS h0 h1 h2 h3 h4 h5 h6 h7 h8 h9 h10 h11 misKept mtaped msort mfrom mto mvalue mbad mm mkept mwas mother mfound mwarm mdrip mtape mbits msize mnumber))) 26 [(4, .int x4_26), (3, .int x3_26), (2, .int x2_26), (0, .ref h0), (1, .int x1)] [] (wz_X7 cI cS h0 h1 h2 h3 h4 h5 h6 h7 h8 h9 h10 h11 misKept mtaped msort mfrom mto mvalue mbad mm mkept mwas mother mfound mwarm mdrip mtape mbits msize mnumber) := by
      intro n_26
      induction n_26 with
      | zero => intro _ _ _ hf; exact nomatch hf
      | succ n_26 ih_26 =>
        intro x2_26 x3_26 x4_26 hf
        replace hf : b_X7_order_26 mm mfound x1 (ik_lp3 (b_X7_order_26 mm mfound x1) n_26) x2_26 x3_26 x4_26 = some (R, mfound_r) := hf
        unfold b_X7_order_26 at hf
        refine ik_iload C 0 rfl dX7_order_26 ?_
        refine ik_aload_n C 3 rfl rfl dX7_order_28 ?_
        refine ik_get C inlX7 0 rfl rfl 0 (by decide) wl_4_12 rfl (v := .ref h1) rfl dX7_order_29 ?_
        refine ik_iconst (v := (5 : Int32)) C (by decide) dX7_order_32 ?_
        refine ik_iald C 1 rfl (ik_vin (by decide)) dX7_order_33 ?_
        refine ik_icmp_ge C 130 dX7_order_34 (by decide) (fun hc => ?_) (fun hc => ?_)
        · have hf := ik_pos hc hf
          refine ik_iload_n C 2 rfl rfl dX7_order_130 ?_
          refine ik_aload_n C 3 rfl rfl dX7_order_131 ?_
          obtain ⟨r2, hc2, hf⟩ := ik_b1s hf
          refine ik_goR (ik_runV C (c_X7_there l D cI cS h0 h1 h2 h3 h4 h5 h6 h7 h8 h9 h10 h11 misKept mtaped msort mfrom mto mvalue mbad mm mkept mwas mother mfound mwarm mdrip mtape mbits msize mnumber r2 hc2) mv_X7_there wl_30_15 ⟨rfl, rfl, Nat.le_of_ble_eq_true rfl, Nat.le_of_ble_eq_true rfl⟩ [0, 1, 2, 3, 4, 5, 6, 7, 8, 9, 10, 11] rfl (by decide) 0 rfl rfl rfl rfl (Nat.le_of_ble_eq_true rfl) dX7_order_132) rfl ?_
          refine ik_icmp_ne C 146 dX7_order_135 (by decide) (fun hc => ?_) (fun hc => ?_)
          · have hf := ik_neg hc hf
            refine ik_aload_n C 3 rfl rfl dX7_order_146 ?_
            refine ik_ldc C wl_25_18 dX7_order_147 ?_
            obtain ⟨r3, g4, hc4, hf⟩ := ik_b2s hf
            refine ik_goW [0, 1, 2, 3, 4, 5, 6, 7, 8, 9, 10, 11] rfl rfl (wz_X7 cI cS h0 h1 h2 h3 h4 h5 h6 h7 h8 h9 h10 h11 misKept mtaped msort mfrom mto mvalue mbad mm mkept mwas mother g4 mwarm mdrip mtape mbits msize mnumber) rfl (ik_runV C (c_X7_finds l D cI cS h0 h1 h2 h3 h4 h5 h6 h7 h8 h9 h10 h11 misKept mtaped msort mfrom mto mvalue mbad mm mkept mwas mother mfound mwarm mdrip mtape mbits msize mnumber (-1000004 : Int32) r3 g4 hc4) mv_X7_finds wl_7_8 ⟨rfl, rfl, Nat.le_of_ble_eq_true rfl, Nat.le_of_ble_eq_true rfl⟩ [0, 1, 2, 3, 4, 5, 6, 7, 8, 9, 10, 11] rfl (by decide) 0 rfl rfl rfl rfl (Nat.le_of_ble_eq_true rfl) dX7_order_149) rfl ?_
            cases hf
            exact ik_iretW C hr hlk dX7_order_152
          · have hf := ik_pos hc hf
            refine ik_aload_n C 3 rfl rfl dX7_order_138 ?_
            refine ik_iload_n C 1 rfl rfl dX7_order_139 ?_
            obtain ⟨r3, g4, hc4, hf⟩ := ik_b2s hf
            refine ik_goW [0, 1, 2, 3, 4, 5, 6, 7, 8, 9, 10, 11] rfl rfl (wz_X7 cI cS h0 h1 h2 h3 h4 h5 h6 h7 h8 h9 h10 h11 misKept mtaped msort mfrom mto mvalue mbad mm mkept mwas mother g4 mwarm mdrip mtape mbits msize mnumber) rfl (ik_runV C (c_X7_orNone l D cI cS h0 h1 h2 h3 h4 h5 h6 h7 h8 h9 h10 h11 misKept mtaped msort mfrom mto mvalue mbad mm mkept mwas mother mfound mwarm mdrip mtape mbits msize mnumber x3_26 r3 g4 hc4) mv_X7_orNone wl_27_8 ⟨rfl, rfl, Nat.le_of_ble_eq_true rfl, Nat.le_of_ble_eq_true rfl⟩ [0, 1, 2, 3, 4, 5, 6, 7, 8, 9, 10, 11] rfl (by decide) 0 rfl rfl rfl rfl (Nat.le_of_ble_eq_true rfl) dX7_order_140) rfl ?_
            refine ik_goto C 152 dX7_order_143 (by decide) ?_
            cases hf
            exact ik_iretW C hr hlk dX7_order_152
        · have hf := ik_neg hc hf
          refine ik_iconst (v := (-1 : Int32)) C (by decide) dX7_order_37 ?_
          refine ik_istore C [(5, .int (-1 : Int32)), (4, .int x4_26), (3, .int x3_26), (2, .int x2_26), (0, .ref h0), (1, .int x1)] (by decide) rfl dX7_order_38 ?_
          refine ik_aload_n C 4 rfl rfl dX7_order_40 ?_
          refine ik_get C inlX7 0 rfl rfl 0 (by decide) wl_4_12 rfl (v := .ref h1) rfl dX7_order_41 ?_
          refine ik_iconst (v := (5 : Int32)) C (by decide) dX7_order_44 ?_
          refine ik_iald C 1 rfl (ik_vin (by decide)) dX7_order_45 ?_
          refine ik_iconst (v := (1 : Int32)) C (by decide) dX7_order_46 ?_
          refine ik_isub C dX7_order_47 ?_
          refine ik_istore C [(6, .int ((mm ((5 : Int32)).toNatClampNeg) - (1 : Int32))), (5, .int (-1 : Int32)), (4, .int x4_26), (3, .int x3_26), (2, .int x2_26), (0, .ref h0), (1, .int x1)] (by decide) rfl dX7_order_48 ?_
          have hL_50 : ∀ (n_50 : Nat) (x5_50 : Int32) (x6_50 : Int32), ik_lp2 (b_X7_order_50 mm mfound x1 x2_26 x3_26 x4_26 (ik_lp3 (b_X7_order_26 mm mfound x1) n_26)) n_50 x5_50 x6_50 = some (R, mfound_r) → ik_G p l e ({ frames := 4, cells := 0, slots := 0, locals := 91 } : Room) s m ([.ref h0, .int x1] : List Value).toArray below meth c D (ik_in (wz_X7 cI cS h0 h1 h2 h3 h4 h5 h6 h7 h8 h9 h10 h11 misKept mtaped msort mfrom mto mvalue mbad mm mkept mwas mother mfound mwarm mdrip mtape mbits msize mnumber)) (ik_in (wz_X7 cI cS h0 h1 h2 h3 h4 h5 h6 h7 h8 h9 h10 h11 misKept mtaped msort mfrom mto mvalue mbad mm mkept mwas mother mfound mwarm mdrip mtape mbits msize mnumber)) 7 (MQ below (ik_Q (some (.int R)) D (wz_X7 cI cS h0 h1 h2 h3 h4 h5 h6 h7 h8 h9 h10 h11 misKept mtaped msort mfrom mto mvalue mbad mm mkept mwas mother mfound_r mwarm mdrip mtape mbits msize mnumber) (wz_X7 cI cS h0 h1 h2 h3 h4 h5 h6 h7 h8 h9 h10 h11 misKept mtaped msort mfrom mto mvalue mbad mm mkept mwas mother mfound mwarm mdrip mtape mbits msize mnumber)) ([.ref h0, .int x1] : List Value).toArray s 0 0 (ik_in (wz_X7 cI cS h0 h1 h2 h3 h4 h5 h6 h7 h8 h9 h10 h11 misKept mtaped msort mfrom mto mvalue mbad mm mkept mwas mother mfound mwarm mdrip mtape mbits msize mnumber))) 50 [(6, .int x6_50), (5, .int x5_50), (4, .int x4_26), (3, .int x3_26), (2, .int x2_26), (0, .ref h0), (1, .int x1)] [] (wz_X7 cI cS h0 h1 h2 h3 h4 h5 h6 h7 h8 h9 h10 h11 misKept mtaped msort mfrom mto mvalue mbad mm mkept mwas mother mfound mwarm mdrip mtape mbits msize mnumber) := by
            intro n_50
            induction n_50 with
            | zero => intro _ _ hf; exact nomatch hf
            | succ n_50 ih_50 =>
              intro x5_50 x6_50 hf
              replace hf : b_X7_order_50 mm mfound x1 x2_26 x3_26 x4_26 (ik_lp3 (b_X7_order_26 mm mfound x1) n_26) (ik_lp2 (b_X7_order_50 mm mfound x1 x2_26 x3_26 x4_26 (ik_lp3 (b_X7_order_26 mm mfound x1) n_26)) n_50) x5_50 x6_50 = some (R, mfound_r) := hf
              unfold b_X7_order_50 at hf
              refine ik_iload C 0 rfl dX7_order_50 ?_
              refine ik_if_lt C 96 dX7_order_52 (by decide) (fun hc => ?_) (fun hc => ?_)
              · have hf := ik_pos hc hf
                refine ik_iload C 1 rfl dX7_order_96 ?_
                refine ik_if_ge C 104 dX7_order_98 (by decide) (fun hc => ?_) (fun hc => ?_)
                · have hf := ik_pos hc hf
                  refine ik_iload_n C 4 rfl rfl dX7_order_104 ?_
                  refine ik_iconst (v := (1 : Int32)) C (by decide) dX7_order_105 ?_
                  refine ik_iload C 1 rfl dX7_order_106 ?_
                  refine ik_ishl C dX7_order_108 ?_
                  refine ik_ior C dX7_order_109 ?_
                  refine ik_istore_n C [(2, .int (x2_26 ||| ((1 : Int32) <<< (x5_50 &&& 31)))), (6, .int x6_50), (5, .int x5_50), (4, .int x4_26), (3, .int x3_26), (0, .ref h0), (1, .int x1)] rfl (by decide) rfl dX7_order_110 ?_
                  refine ik_iload C 3 rfl dX7_order_111 ?_
                  refine ik_iload_n C 6 rfl rfl dX7_order_113 ?_
                  refine ik_icmp_ne C 122 dX7_order_114 (by decide) (fun hc => ?_) (fun hc => ?_)
                  · have hf := ik_neg hc hf
                    refine ik_iload_n C 4 rfl rfl dX7_order_122 ?_
                    refine ik_istore_n C [(3, .int x3_26), (2, .int (x2_26 ||| ((1 : Int32) <<< (x5_50 &&& 31)))), (6, .int x6_50), (5, .int x5_50), (4, .int x4_26), (0, .ref h0), (1, .int x1)] rfl (by decide) rfl dX7_order_123 ?_
                    refine ik_iinc C [(4, .int (x4_26 + (1 : Int32))), (3, .int x3_26), (2, .int (x2_26 ||| ((1 : Int32) <<< (x5_50 &&& 31)))), (6, .int x6_50), (5, .int x5_50), (0, .ref h0), (1, .int x1)] 4 rfl rfl (by decide) rfl dX7_order_124 ?_
                    refine ik_goto C 26 dX7_order_127 (by decide) ?_
                    exact ik_sub [0, 1, 2, 5, 6] [(4, .int (x4_26 + (1 : Int32))), (3, .int x3_26), (2, .int (x2_26 ||| ((1 : Int32) <<< (x5_50 &&& 31)))), (0, .ref h0), (1, .int x1)] rfl (ih_26 (x2_26 ||| ((1 : Int32) <<< (x5_50 &&& 31))) x3_26 (x4_26 + (1 : Int32)) hf)
                  · have hf := ik_pos hc hf
                    refine ik_iload C 2 rfl dX7_order_117 ?_
                    refine ik_goto C 123 dX7_order_119 (by decide) ?_
                    refine ik_istore_n C [(3, .int x5_50), (2, .int (x2_26 ||| ((1 : Int32) <<< (x5_50 &&& 31)))), (6, .int x6_50), (5, .int x5_50), (4, .int x4_26), (0, .ref h0), (1, .int x1)] rfl (by decide) rfl dX7_order_123 ?_
                    refine ik_iinc C [(4, .int (x4_26 + (1 : Int32))), (3, .int x5_50), (2, .int (x2_26 ||| ((1 : Int32) <<< (x5_50 &&& 31)))), (6, .int x6_50), (5, .int x5_50), (0, .ref h0), (1, .int x1)] 4 rfl rfl (by decide) rfl dX7_order_124 ?_
                    refine ik_goto C 26 dX7_order_127 (by decide) ?_
                    exact ik_sub [0, 1, 2, 5, 6] [(4, .int (x4_26 + (1 : Int32))), (3, .int x5_50), (2, .int (x2_26 ||| ((1 : Int32) <<< (x5_50 &&& 31)))), (0, .ref h0), (1, .int x1)] rfl (ih_26 (x2_26 ||| ((1 : Int32) <<< (x5_50 &&& 31))) x5_50 (x4_26 + (1 : Int32)) hf)
                · have hf := ik_neg hc hf
                  refine ik_goto C 130 dX7_order_101 (by decide) ?_
                  refine ik_iload_n C 4 rfl rfl dX7_order_130 ?_
                  refine ik_aload_n C 5 rfl rfl dX7_order_131 ?_
                  obtain ⟨r2, hc2, hf⟩ := ik_b1s hf
                  refine ik_goR (ik_runV C (c_X7_there l D cI cS h0 h1 h2 h3 h4 h5 h6 h7 h8 h9 h10 h11 misKept mtaped msort mfrom mto mvalue mbad mm mkept mwas mother mfound mwarm mdrip mtape mbits msize mnumber r2 hc2) mv_X7_there wl_30_15 ⟨rfl, rfl, Nat.le_of_ble_eq_true rfl, Nat.le_of_ble_eq_true rfl⟩ [0, 1, 2, 3, 4, 5, 6, 7, 8, 9, 10, 11] rfl (by decide) 0 rfl rfl rfl rfl (Nat.le_of_ble_eq_true rfl) dX7_order_132) rfl ?_
                  refine ik_icmp_ne C 146 dX7_order_135 (by decide) (fun hc => ?_) (fun hc => ?_)
                  · have hf := ik_neg hc hf
                    refine ik_aload_n C 5 rfl rfl dX7_order_146 ?_
                    refine ik_ldc C wl_25_18 dX7_order_147 ?_
                    obtain ⟨r3, g4, hc4, hf⟩ := ik_b2s hf
                    refine ik_goW [0, 1, 2, 3, 4, 5, 6, 7, 8, 9, 10, 11] rfl rfl (wz_X7 cI cS h0 h1 h2 h3 h4 h5 h6 h7 h8 h9 h10 h11 misKept mtaped msort mfrom mto mvalue mbad mm mkept mwas mother g4 mwarm mdrip mtape mbits msize mnumber) rfl (ik_runV C (c_X7_finds l D cI cS h0 h1 h2 h3 h4 h5 h6 h7 h8 h9 h10 h11 misKept mtaped msort mfrom mto mvalue mbad mm mkept mwas mother mfound mwarm mdrip mtape mbits msize mnumber (-1000004 : Int32) r3 g4 hc4) mv_X7_finds wl_7_8 ⟨rfl, rfl, Nat.le_of_ble_eq_true rfl, Nat.le_of_ble_eq_true rfl⟩ [0, 1, 2, 3, 4, 5, 6, 7, 8, 9, 10, 11] rfl (by decide) 0 rfl rfl rfl rfl (Nat.le_of_ble_eq_true rfl) dX7_order_149) rfl ?_
                    cases hf
                    exact ik_iretW C hr hlk dX7_order_152
                  · have hf := ik_pos hc hf
                    refine ik_aload_n C 5 rfl rfl dX7_order_138 ?_
                    refine ik_iload_n C 3 rfl rfl dX7_order_139 ?_
                    obtain ⟨r3, g4, hc4, hf⟩ := ik_b2s hf
                    refine ik_goW [0, 1, 2, 3, 4, 5, 6, 7, 8, 9, 10, 11] rfl rfl (wz_X7 cI cS h0 h1 h2 h3 h4 h5 h6 h7 h8 h9 h10 h11 misKept mtaped msort mfrom mto mvalue mbad mm mkept mwas mother g4 mwarm mdrip mtape mbits msize mnumber) rfl (ik_runV C (c_X7_orNone l D cI cS h0 h1 h2 h3 h4 h5 h6 h7 h8 h9 h10 h11 misKept mtaped msort mfrom mto mvalue mbad mm mkept mwas mother mfound mwarm mdrip mtape mbits msize mnumber x3_26 r3 g4 hc4) mv_X7_orNone wl_27_8 ⟨rfl, rfl, Nat.le_of_ble_eq_true rfl, Nat.le_of_ble_eq_true rfl⟩ [0, 1, 2, 3, 4, 5, 6, 7, 8, 9, 10, 11] rfl (by decide) 0 rfl rfl rfl rfl (Nat.le_of_ble_eq_true rfl) dX7_order_140) rfl ?_
                    refine ik_goto C 152 dX7_order_143 (by decide) ?_
                    cases hf
                    exact ik_iretW C hr hlk dX7_order_152
              · have hf := ik_neg hc hf
                refine ik_aload_n C 5 rfl rfl dX7_order_55 ?_
                obtain ⟨r2, hc2, hf⟩ := ik_b1s hf
                refine ik_goR (ik_runV C (c_X7_there l D cI cS h0 h1 h2 h3 h4 h5 h6 h7 h8 h9 h10 h11 misKept mtaped msort mfrom mto mvalue mbad mm mkept mwas mother mfound mwarm mdrip mtape mbits msize mnumber r2 hc2) mv_X7_there wl_30_15 ⟨rfl, rfl, Nat.le_of_ble_eq_true rfl, Nat.le_of_ble_eq_true rfl⟩ [0, 1, 2, 3, 4, 5, 6, 7, 8, 9, 10, 11] rfl (by decide) 0 rfl rfl rfl rfl (Nat.le_of_ble_eq_true rfl) dX7_order_56) rfl ?_
                refine ik_iload_n C 4 rfl rfl dX7_order_59 ?_
                refine ik_iconst (v := (-1 : Int32)) C (by decide) dX7_order_60 ?_
                refine ik_ixor C dX7_order_61 ?_
                refine ik_iand C dX7_order_62 ?_
                refine ik_iload C 0 rfl dX7_order_63 ?_
                obtain ⟨r3, hc3, hf⟩ := ik_b1s hf
                refine ik_goR (ik_runS C (c_X7_has l D cI cS (r2 &&& (x2_26 ^^^ (-1 : Int32))) x6_50 r3 hc3) ms_X7_has wl_11_0 ⟨rfl, rfl, Nat.le_of_ble_eq_true rfl, Nat.le_of_ble_eq_true rfl⟩ [] rfl (by decide) rfl rfl (Nat.le_of_ble_eq_true rfl) dX7_order_65) rfl ?_
                refine ik_if_eq C 86 dX7_order_68 (by decide) (fun hc => ?_) (fun hc => ?_)
                · have hf := ik_pos hc hf
                  refine ik_iload C 1 rfl dX7_order_86 ?_
                  refine ik_istore C [(5, .int x5_50), (6, .int x6_50), (4, .int x4_26), (3, .int x3_26), (2, .int x2_26), (0, .ref h0), (1, .int x1)] (by decide) rfl dX7_order_88 ?_
                  refine ik_iinc C [(6, .int (x6_50 + (-1 : Int32))), (5, .int x5_50), (4, .int x4_26), (3, .int x3_26), (2, .int x2_26), (0, .ref h0), (1, .int x1)] 1 rfl rfl (by decide) rfl dX7_order_90 ?_
                  refine ik_goto C 50 dX7_order_93 (by decide) ?_
                  exact ik_sub [0, 1, 2, 3, 4, 5, 6] [(6, .int (x6_50 + (-1 : Int32))), (5, .int x5_50), (4, .int x4_26), (3, .int x3_26), (2, .int x2_26), (0, .ref h0), (1, .int x1)] rfl (ih_50 x5_50 (x6_50 + (-1 : Int32)) hf)
                · have hf := ik_neg hc hf
                  refine ik_aload_n C 5 rfl rfl dX7_order_71 ?_
                  refine ik_iload C 0 rfl dX7_order_72 ?_
                  refine ik_iload_n C 4 rfl rfl dX7_order_74 ?_
                  obtain ⟨r4, hc4, hf⟩ := ik_b1s hf
                  refine ik_goR (ik_runV C (c_X7_standsBy l D cI cS h0 h1 h2 h3 h4 h5 h6 h7 h8 h9 h10 h11 misKept mtaped msort mfrom mto mvalue mbad mm mkept mwas mother mfound mwarm mdrip mtape mbits msize mnumber x6_50 x2_26 r4 hc4) mv_X7_standsBy wl_10_13 ⟨rfl, rfl, Nat.le_of_ble_eq_true rfl, Nat.le_of_ble_eq_true rfl⟩ [0, 1, 2, 3, 4, 5, 6, 7, 8, 9, 10, 11] rfl (by decide) 0 rfl rfl rfl rfl (Nat.le_of_ble_eq_true rfl) dX7_order_75) rfl ?_
                  refine ik_if_eq C 86 dX7_order_78 (by decide) (fun hc => ?_) (fun hc => ?_)
                  · have hf := ik_pos hc hf
                    refine ik_iload C 1 rfl dX7_order_86 ?_
                    refine ik_istore C [(5, .int x5_50), (6, .int x6_50), (4, .int x4_26), (3, .int x3_26), (2, .int x2_26), (0, .ref h0), (1, .int x1)] (by decide) rfl dX7_order_88 ?_
                    refine ik_iinc C [(6, .int (x6_50 + (-1 : Int32))), (5, .int x5_50), (4, .int x4_26), (3, .int x3_26), (2, .int x2_26), (0, .ref h0), (1, .int x1)] 1 rfl rfl (by decide) rfl dX7_order_90 ?_
                    refine ik_goto C 50 dX7_order_93 (by decide) ?_
                    exact ik_sub [0, 1, 2, 3, 4, 5, 6] [(6, .int (x6_50 + (-1 : Int32))), (5, .int x5_50), (4, .int x4_26), (3, .int x3_26), (2, .int x2_26), (0, .ref h0), (1, .int x1)] rfl (ih_50 x5_50 (x6_50 + (-1 : Int32)) hf)
                  · have hf := ik_neg hc hf
                    refine ik_iload C 0 rfl dX7_order_81 ?_
                    refine ik_goto C 88 dX7_order_83 (by decide) ?_
                    refine ik_istore C [(5, .int x6_50), (6, .int x6_50), (4, .int x4_26), (3, .int x3_26), (2, .int x2_26), (0, .ref h0), (1, .int x1)] (by decide) rfl dX7_order_88 ?_
                    refine ik_iinc C [(6, .int (x6_50 + (-1 : Int32))), (5, .int x6_50), (4, .int x4_26), (3, .int x3_26), (2, .int x2_26), (0, .ref h0), (1, .int x1)] 1 rfl rfl (by decide) rfl dX7_order_90 ?_
                    refine ik_goto C 50 dX7_order_93 (by decide) ?_
                    exact ik_sub [0, 1, 2, 3, 4, 5, 6] [(6, .int (x6_50 + (-1 : Int32))), (5, .int x6_50), (4, .int x4_26), (3, .int x3_26), (2, .int x2_26), (0, .ref h0), (1, .int x1)] rfl (ih_50 x6_50 (x6_50 + (-1 : Int32)) hf)
          exact hL_50 ik_fu (-1 : Int32) ((mm ((5 : Int32)).toNatClampNeg) - (1 : Int32)) hf
    exact hL_26 ik_fu (0 : Int32) (-1 : Int32) (0 : Int32) hf
  · have hf := ik_pos hc hf
    refine ik_aload_n C 0 rfl rfl dX7_order_12 ?_
    refine ik_ldc C wl_6_14 dX7_order_13 ?_
    obtain ⟨r2, g3, hc3, hf⟩ := ik_b2s hf
    refine ik_goW [0, 1, 2, 3, 4, 5, 6, 7, 8, 9, 10, 11] rfl rfl (wz_X7 cI cS h0 h1 h2 h3 h4 h5 h6 h7 h8 h9 h10 h11 misKept mtaped msort mfrom mto mvalue mbad mm mkept mwas mother g3 mwarm mdrip mtape mbits msize mnumber) rfl (ik_runV C (c_X7_finds l D cI cS h0 h1 h2 h3 h4 h5 h6 h7 h8 h9 h10 h11 misKept mtaped msort mfrom mto mvalue mbad mm mkept mwas mother mfound mwarm mdrip mtape mbits msize mnumber (-1000001 : Int32) r2 g3 hc3) mv_X7_finds wl_7_8 ⟨rfl, rfl, Nat.le_of_ble_eq_true rfl, Nat.le_of_ble_eq_true rfl⟩ [0, 1, 2, 3, 4, 5, 6, 7, 8, 9, 10, 11] rfl (by decide) 0 rfl rfl rfl rfl (Nat.le_of_ble_eq_true rfl) dX7_order_15) rfl ?_
    cases hf
    exact ik_iretW C hr hlk dX7_order_18
theorem mv_X7_steps : ik_V yX7_steps RX7 cX7_steps 6 (some .int) 1 := ⟨wl_31_5, wl_31_6, wl_1_5, wl_31_7, by decide +kernel⟩
set_option maxHeartbeats 4000000 in
set_option maxRecDepth 100000 in
theorem c_X7_steps (l : Launch) (D : va_G) (cI cS : ClassId) (h0 h1 h2 h3 h4 h5 h6 h7 h8 h9 h10 h11 : Nat) (misKept : Int32) (mtaped : Int32) (msort : Int32) (mfrom : Int32) (mto : Int32) (mvalue : Int32) (mbad : Int32) (mm : Nat → Int32) (mkept : Nat → Int32) (mwas : Nat → Int32) (mother : Nat → Int32) (mfound : Nat → Int32) (mwarm : Nat → Int32) (mdrip : Nat → Int32) (mtape : Nat → Int32) (mbits : Nat → Int32) (msize : Nat → Int32) (mnumber : Nat → Int32) (x1 : Int32) (R : Int32) (mfound_r : Nat → Int32) (hf : f_X7_steps mm mfound x1 = some (R, mfound_r)) : Met l yX7_steps (ik_ws yX7_steps cX7_steps 6 (some .int)) ({ frames := 4, cells := 0, slots := 0, locals := 91 } : Room) (ik_P D cI cS [.ref h0, .int x1] (wz_X7 cI cS h0 h1 h2 h3 h4 h5 h6 h7 h8 h9 h10 h11 misKept mtaped msort mfrom mto mvalue mbad mm mkept mwas mother mfound mwarm mdrip mtape mbits msize mnumber)) (ik_Q (some (.int R)) D (wz_X7 cI cS h0 h1 h2 h3 h4 h5 h6 h7 h8 h9 h10 h11 misKept mtaped msort mfrom mto mvalue mbad mm mkept mwas mother mfound_r mwarm mdrip mtape mbits msize mnumber) (wz_X7 cI cS h0 h1 h2 h3 h4 h5 h6 h7 h8 h9 h10 h11 misKept mtaped msort mfrom mto mvalue mbad mm mkept mwas mother mfound mwarm mdrip mtape mbits msize mnumber)) 0 0 (ik_in (wz_X7 cI cS h0 h1 h2 h3 h4 h5 h6 h7 h8 h9 h10 h11 misKept mtaped msort mfrom mto mvalue mbad mm mkept mwas mother mfound mwarm mdrip mtape mbits msize mnumber)) := by
  refine ik_metW RX7 rfl (by decide) (Nat.le_of_ble_eq_true rfl) [(0, .ref h0), (1, .int x1)] rfl ?_
  intro p e s m below meth c C hr hlk
  unfold f_X7_steps at hf
  refine ik_iload_n C 1 rfl rfl dX7_steps_0 ?_
  refine ik_i2l C dX7_steps_1 ?_
  refine ik_lconst (v := (1 : Int64)) C (by decide) dX7_steps_2 ?_
  refine ik_ldc2 C wl_31_8 dX7_steps_3 ?_
  obtain ⟨r1, hc1, hf⟩ := ik_b1s hf
  refine ik_goR (ik_runS C (c_X7_in l D cI cS (x1).toInt64 (1 : Int64) (8 : Int64) r1 hc1) ms_X7_in wl_6_21 ⟨rfl, rfl, Nat.le_of_ble_eq_true rfl, Nat.le_of_ble_eq_true rfl⟩ [] rfl (by decide) rfl rfl (Nat.le_of_ble_eq_true rfl) dX7_steps_6) rfl ?_
  refine ik_if_ne C 19 dX7_steps_9 (by decide) (fun hc => ?_) (fun hc => ?_)
  · have hf := ik_neg hc hf
    refine ik_iconst (v := (0 : Int32)) C (by decide) dX7_steps_19 ?_
    refine ik_istore_n C [(2, .int (0 : Int32)), (0, .ref h0), (1, .int x1)] rfl (by decide) rfl dX7_steps_20 ?_
    refine ik_iconst (v := (0 : Int32)) C (by decide) dX7_steps_21 ?_
    refine ik_istore_n C [(3, .int (0 : Int32)), (2, .int (0 : Int32)), (0, .ref h0), (1, .int x1)] rfl (by decide) rfl dX7_steps_22 ?_
    have hL_23 : ∀ (n_23 : Nat) (mfound_23 : Nat → Int32) (x2_23 : Int32) (x3_23 : Int32), ik_lp3 (b_X7_steps_23 mm x1) n_23 mfound_23 x2_23 x3_23 = some (R, mfound_r) → ik_G p l e ({ frames := 4, cells := 0, slots := 0, locals := 91 } : Room) s m ([.ref h0, .int x1] : List Value).toArray below meth c D (ik_in (wz_X7 cI cS h0 h1 h2 h3 h4 h5 h6 h7 h8 h9 h10 h11 misKept mtaped msort mfrom mto mvalue mbad mm mkept mwas mother mfound mwarm mdrip mtape mbits msize mnumber)) (ik_in (wz_X7 cI cS h0 h1 h2 h3 h4 h5 h6 h7 h8 h9 h10 h11 misKept mtaped msort mfrom mto mvalue mbad mm mkept mwas mother mfound mwarm mdrip mtape mbits msize mnumber)) 6 (MQ below (ik_Q (some (.int R)) D (wz_X7 cI cS h0 h1 h2 h3 h4 h5 h6 h7 h8 h9 h10 h11 misKept mtaped msort mfrom mto mvalue mbad mm mkept mwas mother mfound_r mwarm mdrip mtape mbits msize mnumber) (wz_X7 cI cS h0 h1 h2 h3 h4 h5 h6 h7 h8 h9 h10 h11 misKept mtaped msort mfrom mto mvalue mbad mm mkept mwas mother mfound mwarm mdrip mtape mbits msize mnumber)) ([.ref h0, .int x1] : List Value).toArray s 0 0 (ik_in (wz_X7 cI cS h0 h1 h2 h3 h4 h5 h6 h7 h8 h9 h10 h11 misKept mtaped msort mfrom mto mvalue mbad mm mkept mwas mother mfound mwarm mdrip mtape mbits msize mnumber))) 23 [(3, .int x3_23), (2, .int x2_23), (0, .ref h0), (1, .int x1)] [] (wz_X7 cI cS h0 h1 h2 h3 h4 h5 h6 h7 h8 h9 h10 h11 misKept mtaped msort mfrom mto mvalue mbad mm mkept mwas mother mfound_23 mwarm mdrip mtape mbits msize mnumber) := by
      intro n_23
      induction n_23 with
      | zero => intro _ _ _ hf; exact nomatch hf
      | succ n_23 ih_23 =>
        intro mfound_23 x2_23 x3_23 hf
        replace hf : b_X7_steps_23 mm x1 (ik_lp3 (b_X7_steps_23 mm x1) n_23) mfound_23 x2_23 x3_23 = some (R, mfound_r) := hf
        unfold b_X7_steps_23 at hf
        refine ik_iload_n C 1 rfl rfl dX7_steps_23 ?_
        refine ik_aload_n C 2 rfl rfl dX7_steps_24 ?_
        obtain ⟨r2, hc2, hf⟩ := ik_b1s hf
        refine ik_goR (ik_runV C (c_X7_there l D cI cS h0 h1 h2 h3 h4 h5 h6 h7 h8 h9 h10 h11 misKept mtaped msort mfrom mto mvalue mbad mm mkept mwas mother mfound_23 mwarm mdrip mtape mbits msize mnumber r2 hc2) mv_X7_there wl_30_15 ⟨rfl, rfl, Nat.le_of_ble_eq_true rfl, Nat.le_of_ble_eq_true rfl⟩ [0, 1, 2, 3, 4, 5, 6, 7, 8, 9, 10, 11] rfl (by decide) 0 rfl rfl rfl rfl (Nat.le_of_ble_eq_true rfl) dX7_steps_25) rfl ?_
        refine ik_icmp_eq C 125 dX7_steps_28 (by decide) (fun hc => ?_) (fun hc => ?_)
        · have hf := ik_pos hc hf
          refine ik_iload_n C 0 rfl rfl dX7_steps_125 ?_
          cases hf
          exact ik_iretW C hr hlk dX7_steps_126
        · have hf := ik_neg hc hf
          refine ik_iconst (v := (0 : Int32)) C (by decide) dX7_steps_31 ?_
          refine ik_istore C [(4, .int (0 : Int32)), (3, .int x3_23), (2, .int x2_23), (0, .ref h0), (1, .int x1)] (by decide) rfl dX7_steps_32 ?_
          refine ik_iconst (v := (0 : Int32)) C (by decide) dX7_steps_34 ?_
          refine ik_istore C [(5, .int (0 : Int32)), (4, .int (0 : Int32)), (3, .int x3_23), (2, .int x2_23), (0, .ref h0), (1, .int x1)] (by decide) rfl dX7_steps_35 ?_
          have hL_37 : ∀ (n_37 : Nat) (x4_37 : Int32) (x5_37 : Int32), ik_lp2 (b_X7_steps_37 mm x1 mfound_23 x2_23 x3_23 (ik_lp3 (b_X7_steps_23 mm x1) n_23)) n_37 x4_37 x5_37 = some (R, mfound_r) → ik_G p l e ({ frames := 4, cells := 0, slots := 0, locals := 91 } : Room) s m ([.ref h0, .int x1] : List Value).toArray below meth c D (ik_in (wz_X7 cI cS h0 h1 h2 h3 h4 h5 h6 h7 h8 h9 h10 h11 misKept mtaped msort mfrom mto mvalue mbad mm mkept mwas mother mfound mwarm mdrip mtape mbits msize mnumber)) (ik_in (wz_X7 cI cS h0 h1 h2 h3 h4 h5 h6 h7 h8 h9 h10 h11 misKept mtaped msort mfrom mto mvalue mbad mm mkept mwas mother mfound mwarm mdrip mtape mbits msize mnumber)) 6 (MQ below (ik_Q (some (.int R)) D (wz_X7 cI cS h0 h1 h2 h3 h4 h5 h6 h7 h8 h9 h10 h11 misKept mtaped msort mfrom mto mvalue mbad mm mkept mwas mother mfound_r mwarm mdrip mtape mbits msize mnumber) (wz_X7 cI cS h0 h1 h2 h3 h4 h5 h6 h7 h8 h9 h10 h11 misKept mtaped msort mfrom mto mvalue mbad mm mkept mwas mother mfound mwarm mdrip mtape mbits msize mnumber)) ([.ref h0, .int x1] : List Value).toArray s 0 0 (ik_in (wz_X7 cI cS h0 h1 h2 h3 h4 h5 h6 h7 h8 h9 h10 h11 misKept mtaped msort mfrom mto mvalue mbad mm mkept mwas mother mfound mwarm mdrip mtape mbits msize mnumber))) 37 [(5, .int x5_37), (4, .int x4_37), (3, .int x3_23), (2, .int x2_23), (0, .ref h0), (1, .int x1)] [] (wz_X7 cI cS h0 h1 h2 h3 h4 h5 h6 h7 h8 h9 h10 h11 misKept mtaped msort mfrom mto mvalue mbad mm mkept mwas mother mfound_23 mwarm mdrip mtape mbits msize mnumber) := by
            intro n_37
            induction n_37 with
            | zero => intro _ _ hf; exact nomatch hf
            | succ n_37 ih_37 =>
              intro x4_37 x5_37 hf
              replace hf : b_X7_steps_37 mm x1 mfound_23 x2_23 x3_23 (ik_lp3 (b_X7_steps_23 mm x1) n_23) (ik_lp2 (b_X7_steps_37 mm x1 mfound_23 x2_23 x3_23 (ik_lp3 (b_X7_steps_23 mm x1) n_23)) n_37) x4_37 x5_37 = some (R, mfound_r) := hf
              unfold b_X7_steps_37 at hf
              refine ik_iload C 0 rfl dX7_steps_37 ?_
              refine ik_aload_n C 4 rfl rfl dX7_steps_39 ?_
              refine ik_get C inlX7 0 rfl rfl 0 (by decide) wl_4_12 rfl (v := .ref h1) rfl dX7_steps_40 ?_
              refine ik_iconst (v := (5 : Int32)) C (by decide) dX7_steps_43 ?_
              refine ik_iald C 1 rfl (ik_vin (by decide)) dX7_steps_44 ?_
              refine ik_icmp_ge C 102 dX7_steps_45 (by decide) (fun hc => ?_) (fun hc => ?_)
              · have hf := ik_pos hc hf
                refine ik_iload C 1 rfl dX7_steps_102 ?_
                refine ik_if_ne C 114 dX7_steps_104 (by decide) (fun hc => ?_) (fun hc => ?_)
                · have hf := ik_neg hc hf
                  refine ik_iload_n C 3 rfl rfl dX7_steps_114 ?_
                  refine ik_iload C 1 rfl dX7_steps_115 ?_
                  refine ik_ior C dX7_steps_117 ?_
                  refine ik_istore_n C [(2, .int (x2_23 ||| x4_37)), (5, .int x5_37), (4, .int x4_37), (3, .int x3_23), (0, .ref h0), (1, .int x1)] rfl (by decide) rfl dX7_steps_118 ?_
                  refine ik_iinc C [(3, .int (x3_23 + (1 : Int32))), (2, .int (x2_23 ||| x4_37)), (5, .int x5_37), (4, .int x4_37), (0, .ref h0), (1, .int x1)] 3 rfl rfl (by decide) rfl dX7_steps_119 ?_
                  refine ik_goto C 23 dX7_steps_122 (by decide) ?_
                  exact ik_sub [0, 1, 4, 5] [(3, .int (x3_23 + (1 : Int32))), (2, .int (x2_23 ||| x4_37)), (0, .ref h0), (1, .int x1)] rfl (ih_23 mfound_23 (x2_23 ||| x4_37) (x3_23 + (1 : Int32)) hf)
                · have hf := ik_pos hc hf
                  refine ik_aload_n C 4 rfl rfl dX7_steps_107 ?_
                  refine ik_ldc C wl_25_18 dX7_steps_108 ?_
                  obtain ⟨r3, g4, hc4, hf⟩ := ik_b2s hf
                  refine ik_goW [0, 1, 2, 3, 4, 5, 6, 7, 8, 9, 10, 11] rfl rfl (wz_X7 cI cS h0 h1 h2 h3 h4 h5 h6 h7 h8 h9 h10 h11 misKept mtaped msort mfrom mto mvalue mbad mm mkept mwas mother g4 mwarm mdrip mtape mbits msize mnumber) rfl (ik_runV C (c_X7_finds l D cI cS h0 h1 h2 h3 h4 h5 h6 h7 h8 h9 h10 h11 misKept mtaped msort mfrom mto mvalue mbad mm mkept mwas mother mfound_23 mwarm mdrip mtape mbits msize mnumber (-1000004 : Int32) r3 g4 hc4) mv_X7_finds wl_7_8 ⟨rfl, rfl, Nat.le_of_ble_eq_true rfl, Nat.le_of_ble_eq_true rfl⟩ [0, 1, 2, 3, 4, 5, 6, 7, 8, 9, 10, 11] rfl (by decide) 0 rfl rfl rfl rfl (Nat.le_of_ble_eq_true rfl) dX7_steps_110) rfl ?_
                  cases hf
                  exact ik_iretW C hr hlk dX7_steps_113
              · have hf := ik_neg hc hf
                refine ik_iload C 1 rfl dX7_steps_48 ?_
                refine ik_aload_n C 4 rfl rfl dX7_steps_50 ?_
                obtain ⟨r3, hc3, hf⟩ := ik_b1s hf
                refine ik_goR (ik_runV C (c_X7_there l D cI cS h0 h1 h2 h3 h4 h5 h6 h7 h8 h9 h10 h11 misKept mtaped msort mfrom mto mvalue mbad mm mkept mwas mother mfound_23 mwarm mdrip mtape mbits msize mnumber r3 hc3) mv_X7_there wl_30_15 ⟨rfl, rfl, Nat.le_of_ble_eq_true rfl, Nat.le_of_ble_eq_true rfl⟩ [0, 1, 2, 3, 4, 5, 6, 7, 8, 9, 10, 11] rfl (by decide) 0 rfl rfl rfl rfl (Nat.le_of_ble_eq_true rfl) dX7_steps_51) rfl ?_
                refine ik_iload_n C 3 rfl rfl dX7_steps_54 ?_
                refine ik_iconst (v := (-1 : Int32)) C (by decide) dX7_steps_55 ?_
                refine ik_ixor C dX7_steps_56 ?_
                refine ik_iand C dX7_steps_57 ?_
                refine ik_iload C 0 rfl dX7_steps_58 ?_
                obtain ⟨r4, hc4, hf⟩ := ik_b1s hf
                refine ik_goR (ik_runS C (c_X7_has l D cI cS (r3 &&& (x2_23 ^^^ (-1 : Int32))) x5_37 r4 hc4) ms_X7_has wl_11_0 ⟨rfl, rfl, Nat.le_of_ble_eq_true rfl, Nat.le_of_ble_eq_true rfl⟩ [] rfl (by decide) rfl rfl (Nat.le_of_ble_eq_true rfl) dX7_steps_60) rfl ?_
                refine ik_if_eq C 92 dX7_steps_63 (by decide) (fun hc => ?_) (fun hc => ?_)
                · have hf := ik_pos hc hf
                  refine ik_iconst (v := (0 : Int32)) C (by decide) dX7_steps_92 ?_
                  refine ik_ior C dX7_steps_93 ?_
                  refine ik_istore C [(4, .int (x4_37 ||| (0 : Int32))), (5, .int x5_37), (3, .int x3_23), (2, .int x2_23), (0, .ref h0), (1, .int x1)] (by decide) rfl dX7_steps_94 ?_
                  refine ik_iinc C [(5, .int (x5_37 + (1 : Int32))), (4, .int (x4_37 ||| (0 : Int32))), (3, .int x3_23), (2, .int x2_23), (0, .ref h0), (1, .int x1)] 1 rfl rfl (by decide) rfl dX7_steps_96 ?_
                  refine ik_goto C 37 dX7_steps_99 (by decide) ?_
                  exact ik_sub [0, 1, 2, 3, 4, 5] [(5, .int (x5_37 + (1 : Int32))), (4, .int (x4_37 ||| (0 : Int32))), (3, .int x3_23), (2, .int x2_23), (0, .ref h0), (1, .int x1)] rfl (ih_37 (x4_37 ||| (0 : Int32)) (x5_37 + (1 : Int32)) hf)
                · have hf := ik_neg hc hf
                  refine ik_iload C 1 rfl dX7_steps_66 ?_
                  obtain ⟨r5, hc5, hf⟩ := ik_b1s hf
                  refine ik_goR (ik_runS C (c_X7_many l D cI cS x4_37 r5 hc5) ms_X7_many wl_21_22 ⟨rfl, rfl, Nat.le_of_ble_eq_true rfl, Nat.le_of_ble_eq_true rfl⟩ [] rfl (by decide) rfl rfl (Nat.le_of_ble_eq_true rfl) dX7_steps_68) rfl ?_
                  refine ik_iload_n C 5 rfl rfl dX7_steps_71 ?_
                  refine ik_icmp_ge C 92 dX7_steps_72 (by decide) (fun hc => ?_) (fun hc => ?_)
                  · have hf := ik_pos hc hf
                    refine ik_iconst (v := (0 : Int32)) C (by decide) dX7_steps_92 ?_
                    refine ik_ior C dX7_steps_93 ?_
                    refine ik_istore C [(4, .int (x4_37 ||| (0 : Int32))), (5, .int x5_37), (3, .int x3_23), (2, .int x2_23), (0, .ref h0), (1, .int x1)] (by decide) rfl dX7_steps_94 ?_
                    refine ik_iinc C [(5, .int (x5_37 + (1 : Int32))), (4, .int (x4_37 ||| (0 : Int32))), (3, .int x3_23), (2, .int x2_23), (0, .ref h0), (1, .int x1)] 1 rfl rfl (by decide) rfl dX7_steps_96 ?_
                    refine ik_goto C 37 dX7_steps_99 (by decide) ?_
                    exact ik_sub [0, 1, 2, 3, 4, 5] [(5, .int (x5_37 + (1 : Int32))), (4, .int (x4_37 ||| (0 : Int32))), (3, .int x3_23), (2, .int x2_23), (0, .ref h0), (1, .int x1)] rfl (ih_37 (x4_37 ||| (0 : Int32)) (x5_37 + (1 : Int32)) hf)
                  · have hf := ik_neg hc hf
                    refine ik_aload_n C 4 rfl rfl dX7_steps_75 ?_
                    refine ik_iload C 0 rfl dX7_steps_76 ?_
                    refine ik_iload_n C 3 rfl rfl dX7_steps_78 ?_
                    obtain ⟨r6, hc6, hf⟩ := ik_b1s hf
                    refine ik_goR (ik_runV C (c_X7_standsBy l D cI cS h0 h1 h2 h3 h4 h5 h6 h7 h8 h9 h10 h11 misKept mtaped msort mfrom mto mvalue mbad mm mkept mwas mother mfound_23 mwarm mdrip mtape mbits msize mnumber x5_37 x2_23 r6 hc6) mv_X7_standsBy wl_10_13 ⟨rfl, rfl, Nat.le_of_ble_eq_true rfl, Nat.le_of_ble_eq_true rfl⟩ [0, 1, 2, 3, 4, 5, 6, 7, 8, 9, 10, 11] rfl (by decide) 0 rfl rfl rfl rfl (Nat.le_of_ble_eq_true rfl) dX7_steps_79) rfl ?_
                    refine ik_if_eq C 92 dX7_steps_82 (by decide) (fun hc => ?_) (fun hc => ?_)
                    · have hf := ik_pos hc hf
                      refine ik_iconst (v := (0 : Int32)) C (by decide) dX7_steps_92 ?_
                      refine ik_ior C dX7_steps_93 ?_
                      refine ik_istore C [(4, .int (x4_37 ||| (0 : Int32))), (5, .int x5_37), (3, .int x3_23), (2, .int x2_23), (0, .ref h0), (1, .int x1)] (by decide) rfl dX7_steps_94 ?_
                      refine ik_iinc C [(5, .int (x5_37 + (1 : Int32))), (4, .int (x4_37 ||| (0 : Int32))), (3, .int x3_23), (2, .int x2_23), (0, .ref h0), (1, .int x1)] 1 rfl rfl (by decide) rfl dX7_steps_96 ?_
                      refine ik_goto C 37 dX7_steps_99 (by decide) ?_
                      exact ik_sub [0, 1, 2, 3, 4, 5] [(5, .int (x5_37 + (1 : Int32))), (4, .int (x4_37 ||| (0 : Int32))), (3, .int x3_23), (2, .int x2_23), (0, .ref h0), (1, .int x1)] rfl (ih_37 (x4_37 ||| (0 : Int32)) (x5_37 + (1 : Int32)) hf)
                    · have hf := ik_neg hc hf
                      refine ik_iconst (v := (1 : Int32)) C (by decide) dX7_steps_85 ?_
                      refine ik_iload C 0 rfl dX7_steps_86 ?_
                      refine ik_ishl C dX7_steps_88 ?_
                      refine ik_goto C 93 dX7_steps_89 (by decide) ?_
                      refine ik_ior C dX7_steps_93 ?_
                      refine ik_istore C [(4, .int (x4_37 ||| ((1 : Int32) <<< (x5_37 &&& 31)))), (5, .int x5_37), (3, .int x3_23), (2, .int x2_23), (0, .ref h0), (1, .int x1)] (by decide) rfl dX7_steps_94 ?_
                      refine ik_iinc C [(5, .int (x5_37 + (1 : Int32))), (4, .int (x4_37 ||| ((1 : Int32) <<< (x5_37 &&& 31)))), (3, .int x3_23), (2, .int x2_23), (0, .ref h0), (1, .int x1)] 1 rfl rfl (by decide) rfl dX7_steps_96 ?_
                      refine ik_goto C 37 dX7_steps_99 (by decide) ?_
                      exact ik_sub [0, 1, 2, 3, 4, 5] [(5, .int (x5_37 + (1 : Int32))), (4, .int (x4_37 ||| ((1 : Int32) <<< (x5_37 &&& 31)))), (3, .int x3_23), (2, .int x2_23), (0, .ref h0), (1, .int x1)] rfl (ih_37 (x4_37 ||| ((1 : Int32) <<< (x5_37 &&& 31))) (x5_37 + (1 : Int32)) hf)
          exact hL_37 ik_fu (0 : Int32) (0 : Int32) hf
    exact hL_23 ik_fu mfound (0 : Int32) (0 : Int32) hf
  · have hf := ik_pos hc hf
    refine ik_aload_n C 0 rfl rfl dX7_steps_12 ?_
    refine ik_ldc C wl_6_14 dX7_steps_13 ?_
    obtain ⟨r2, g3, hc3, hf⟩ := ik_b2s hf
    refine ik_goW [0, 1, 2, 3, 4, 5, 6, 7, 8, 9, 10, 11] rfl rfl (wz_X7 cI cS h0 h1 h2 h3 h4 h5 h6 h7 h8 h9 h10 h11 misKept mtaped msort mfrom mto mvalue mbad mm mkept mwas mother g3 mwarm mdrip mtape mbits msize mnumber) rfl (ik_runV C (c_X7_finds l D cI cS h0 h1 h2 h3 h4 h5 h6 h7 h8 h9 h10 h11 misKept mtaped msort mfrom mto mvalue mbad mm mkept mwas mother mfound mwarm mdrip mtape mbits msize mnumber (-1000001 : Int32) r2 g3 hc3) mv_X7_finds wl_7_8 ⟨rfl, rfl, Nat.le_of_ble_eq_true rfl, Nat.le_of_ble_eq_true rfl⟩ [0, 1, 2, 3, 4, 5, 6, 7, 8, 9, 10, 11] rfl (by decide) 0 rfl rfl rfl rfl (Nat.le_of_ble_eq_true rfl) dX7_steps_15) rfl ?_
    cases hf
    exact ik_iretW C hr hlk dX7_steps_18
theorem mv_X7_shaken : ik_V yX7_shaken RX7 cX7_shaken 4 (some .int) 1 := ⟨wl_32_6, wl_32_7, wl_1_5, wl_32_8, by decide +kernel⟩
set_option maxHeartbeats 4000000 in
set_option maxRecDepth 100000 in
theorem c_X7_shaken (l : Launch) (D : va_G) (cI cS : ClassId) (h0 h1 h2 h3 h4 h5 h6 h7 h8 h9 h10 h11 : Nat) (misKept : Int32) (mtaped : Int32) (msort : Int32) (mfrom : Int32) (mto : Int32) (mvalue : Int32) (mbad : Int32) (mm : Nat → Int32) (mkept : Nat → Int32) (mwas : Nat → Int32) (mother : Nat → Int32) (mfound : Nat → Int32) (mwarm : Nat → Int32) (mdrip : Nat → Int32) (mtape : Nat → Int32) (mbits : Nat → Int32) (msize : Nat → Int32) (mnumber : Nat → Int32) (x1 : Int32) (R : Int32) (hf : f_X7_shaken mm x1 = some (R)) : Met l yX7_shaken (ik_ws yX7_shaken cX7_shaken 4 (some .int)) ({ frames := 2, cells := 0, slots := 0, locals := 42 } : Room) (ik_P D cI cS [.ref h0, .int x1] (wz_X7 cI cS h0 h1 h2 h3 h4 h5 h6 h7 h8 h9 h10 h11 misKept mtaped msort mfrom mto mvalue mbad mm mkept mwas mother mfound mwarm mdrip mtape mbits msize mnumber)) (ik_R (some (.int R))) 0 0 ik_no := by
  refine ik_metR RX7 rfl (by decide) (Nat.le_of_ble_eq_true rfl) [(0, .ref h0), (1, .int x1)] rfl ?_
  intro p e s m below meth c C hr hlk
  unfold f_X7_shaken at hf
  refine ik_iconst (v := (0 : Int32)) C (by decide) dX7_shaken_0 ?_
  refine ik_istore_n C [(2, .int (0 : Int32)), (0, .ref h0), (1, .int x1)] rfl (by decide) rfl dX7_shaken_1 ?_
  refine ik_iconst (v := (0 : Int32)) C (by decide) dX7_shaken_2 ?_
  refine ik_istore_n C [(3, .int (0 : Int32)), (2, .int (0 : Int32)), (0, .ref h0), (1, .int x1)] rfl (by decide) rfl dX7_shaken_3 ?_
  have hL_4 : ∀ (n_4 : Nat) (x2_4 : Int32) (x3_4 : Int32), ik_lp2 (b_X7_shaken_4 mm x1) n_4 x2_4 x3_4 = some (R) → ik_G p l e ({ frames := 2, cells := 0, slots := 0, locals := 42 } : Room) s m ([.ref h0, .int x1] : List Value).toArray below meth c D ik_no (fun _ => True) 4 (MQ below (ik_R (some (.int R))) ([.ref h0, .int x1] : List Value).toArray s 0 0 ik_no) 4 [(3, .int x3_4), (2, .int x2_4), (0, .ref h0), (1, .int x1)] [] (wz_X7 cI cS h0 h1 h2 h3 h4 h5 h6 h7 h8 h9 h10 h11 misKept mtaped msort mfrom mto mvalue mbad mm mkept mwas mother mfound mwarm mdrip mtape mbits msize mnumber) := by
    intro n_4
    induction n_4 with
    | zero => intro _ _ hf; exact nomatch hf
    | succ n_4 ih_4 =>
      intro x2_4 x3_4 hf
      replace hf : b_X7_shaken_4 mm x1 (ik_lp2 (b_X7_shaken_4 mm x1) n_4) x2_4 x3_4 = some (R) := hf
      unfold b_X7_shaken_4 at hf
      refine ik_iload_n C 0 rfl rfl dX7_shaken_4 ?_
      refine ik_aload_n C 2 rfl rfl dX7_shaken_5 ?_
      refine ik_get C inlX7 0 rfl rfl 0 (by decide) wl_4_12 rfl (v := .ref h1) rfl dX7_shaken_6 ?_
      refine ik_iconst (v := (5 : Int32)) C (by decide) dX7_shaken_9 ?_
      refine ik_iald C 1 rfl (ik_vin (by decide)) dX7_shaken_10 ?_
      refine ik_icmp_ge C 48 dX7_shaken_11 (by decide) (fun hc => ?_) (fun hc => ?_)
      · have hf := ik_pos hc hf
        refine ik_iload_n C 1 rfl rfl dX7_shaken_48 ?_
        cases hf
        exact ik_iretR C hr hlk dX7_shaken_49
      · have hf := ik_neg hc hf
        refine ik_iload_n C 1 rfl rfl dX7_shaken_14 ?_
        refine ik_aload_n C 2 rfl rfl dX7_shaken_15 ?_
        refine ik_iload_n C 0 rfl rfl dX7_shaken_16 ?_
        obtain ⟨r1, hc1, hf⟩ := ik_b1s hf
        refine ik_goR (ik_runV C (c_X7_isGone l D cI cS h0 h1 h2 h3 h4 h5 h6 h7 h8 h9 h10 h11 misKept mtaped msort mfrom mto mvalue mbad mm mkept mwas mother mfound mwarm mdrip mtape mbits msize mnumber x3_4 r1 hc1) mv_X7_isGone wl_10_5 ⟨rfl, rfl, Nat.le_of_ble_eq_true rfl, Nat.le_of_ble_eq_true rfl⟩ [0, 1, 2, 3, 4, 5, 6, 7, 8, 9, 10, 11] rfl (by decide) 0 rfl rfl rfl rfl (Nat.le_of_ble_eq_true rfl) dX7_shaken_17) rfl ?_
        refine ik_if_ne C 39 dX7_shaken_20 (by decide) (fun hc => ?_) (fun hc => ?_)
        · have hf := ik_neg hc hf
          refine ik_iconst (v := (0 : Int32)) C (by decide) dX7_shaken_39 ?_
          refine ik_ior C dX7_shaken_40 ?_
          refine ik_istore_n C [(2, .int (x2_4 ||| (0 : Int32))), (3, .int x3_4), (0, .ref h0), (1, .int x1)] rfl (by decide) rfl dX7_shaken_41 ?_
          refine ik_iinc C [(3, .int (x3_4 + (1 : Int32))), (2, .int (x2_4 ||| (0 : Int32))), (0, .ref h0), (1, .int x1)] 1 rfl rfl (by decide) rfl dX7_shaken_42 ?_
          refine ik_goto C 4 dX7_shaken_45 (by decide) ?_
          exact ik_sub [0, 1, 2, 3] [(3, .int (x3_4 + (1 : Int32))), (2, .int (x2_4 ||| (0 : Int32))), (0, .ref h0), (1, .int x1)] rfl (ih_4 (x2_4 ||| (0 : Int32)) (x3_4 + (1 : Int32)) hf)
        · have hf := ik_pos hc hf
          refine ik_aload_n C 2 rfl rfl dX7_shaken_23 ?_
          refine ik_iload_n C 0 rfl rfl dX7_shaken_24 ?_
          obtain ⟨r2, hc2, hf⟩ := ik_b1s hf
          refine ik_goR (ik_runV C (c_X7_grains l D cI cS h0 h1 h2 h3 h4 h5 h6 h7 h8 h9 h10 h11 misKept mtaped msort mfrom mto mvalue mbad mm mkept mwas mother mfound mwarm mdrip mtape mbits msize mnumber x3_4 r2 hc2) mv_X7_grains wl_10_1 ⟨rfl, rfl, Nat.le_of_ble_eq_true rfl, Nat.le_of_ble_eq_true rfl⟩ [0, 1, 2, 3, 4, 5, 6, 7, 8, 9, 10, 11] rfl (by decide) 0 rfl rfl rfl rfl (Nat.le_of_ble_eq_true rfl) dX7_shaken_25) rfl ?_
          refine ik_iload_n C 3 rfl rfl dX7_shaken_28 ?_
          have hg := ik_gni hf
          have hf := ik_gnk hf
          refine ik_irem C hg dX7_shaken_29 ?_
          refine ik_if_ne C 39 dX7_shaken_30 (by decide) (fun hc => ?_) (fun hc => ?_)
          · have hf := ik_neg hc hf
            refine ik_iconst (v := (0 : Int32)) C (by decide) dX7_shaken_39 ?_
            refine ik_ior C dX7_shaken_40 ?_
            refine ik_istore_n C [(2, .int (x2_4 ||| (0 : Int32))), (3, .int x3_4), (0, .ref h0), (1, .int x1)] rfl (by decide) rfl dX7_shaken_41 ?_
            refine ik_iinc C [(3, .int (x3_4 + (1 : Int32))), (2, .int (x2_4 ||| (0 : Int32))), (0, .ref h0), (1, .int x1)] 1 rfl rfl (by decide) rfl dX7_shaken_42 ?_
            refine ik_goto C 4 dX7_shaken_45 (by decide) ?_
            exact ik_sub [0, 1, 2, 3] [(3, .int (x3_4 + (1 : Int32))), (2, .int (x2_4 ||| (0 : Int32))), (0, .ref h0), (1, .int x1)] rfl (ih_4 (x2_4 ||| (0 : Int32)) (x3_4 + (1 : Int32)) hf)
          · have hf := ik_pos hc hf
            refine ik_iconst (v := (1 : Int32)) C (by decide) dX7_shaken_33 ?_
            refine ik_iload_n C 0 rfl rfl dX7_shaken_34 ?_
            refine ik_ishl C dX7_shaken_35 ?_
            refine ik_goto C 40 dX7_shaken_36 (by decide) ?_
            refine ik_ior C dX7_shaken_40 ?_
            refine ik_istore_n C [(2, .int (x2_4 ||| ((1 : Int32) <<< (x3_4 &&& 31)))), (3, .int x3_4), (0, .ref h0), (1, .int x1)] rfl (by decide) rfl dX7_shaken_41 ?_
            refine ik_iinc C [(3, .int (x3_4 + (1 : Int32))), (2, .int (x2_4 ||| ((1 : Int32) <<< (x3_4 &&& 31)))), (0, .ref h0), (1, .int x1)] 1 rfl rfl (by decide) rfl dX7_shaken_42 ?_
            refine ik_goto C 4 dX7_shaken_45 (by decide) ?_
            exact ik_sub [0, 1, 2, 3] [(3, .int (x3_4 + (1 : Int32))), (2, .int (x2_4 ||| ((1 : Int32) <<< (x3_4 &&& 31)))), (0, .ref h0), (1, .int x1)] rfl (ih_4 (x2_4 ||| ((1 : Int32) <<< (x3_4 &&& 31))) (x3_4 + (1 : Int32)) hf)
  exact hL_4 ik_fu (0 : Int32) (0 : Int32) hf
theorem ms_X7_isTune : ik_S yX7_isTune RX7 cX7_isTune 1 (some .boolean) 1 := ⟨wl_32_1, wl_1_5, wl_32_2, by decide +kernel⟩
set_option maxHeartbeats 4000000 in
set_option maxRecDepth 100000 in
theorem c_X7_isTune (l : Launch) (D : va_G) (cI cS : ClassId) (x0 : Int32) (R : Int32) (hf : f_X7_isTune x0 = some (R)) : Met l yX7_isTune (ik_ws yX7_isTune cX7_isTune 1 (some .boolean)) ({ frames := 1, cells := 0, slots := 0, locals := 25 } : Room) (ik_P D cI cS [.int x0] (wz_none cI cS)) (ik_R (some (.int R))) 0 0 ik_no := by
  refine ik_metR RX7 rfl (by decide) (Nat.le_of_ble_eq_true rfl) [(0, .int x0)] rfl ?_
  intro p e s m below meth c C hr hlk
  unfold f_X7_isTune at hf
  refine ik_iload_n C 0 rfl rfl dX7_isTune_0 ?_
  refine ik_i2l C dX7_isTune_1 ?_
  refine ik_ldc2 C wl_32_3 dX7_isTune_2 ?_
  refine ik_ldc2 C wl_32_4 dX7_isTune_5 ?_
  obtain ⟨r1, hc1, hf⟩ := ik_b1s hf
  refine ik_goR (ik_runS C (c_X7_in l D cI cS (x0).toInt64 (2 : Int64) (9 : Int64) r1 hc1) ms_X7_in wl_6_21 ⟨rfl, rfl, Nat.le_of_ble_eq_true rfl, Nat.le_of_ble_eq_true rfl⟩ [] rfl (by decide) rfl rfl (Nat.le_of_ble_eq_true rfl) dX7_isTune_8) rfl ?_
  have hz := ik_gzi hf
  have hf := ik_gzk hf
  cases hf
  exact ik_zretR C hr hz.1 hlk dX7_isTune_11
theorem mv_X7_shakes : ik_V yX7_shakes RX7 cX7_shakes 2 (some .int) 1 := ⟨wl_31_21, wl_31_22, wl_1_5, wl_31_23, by decide +kernel⟩
set_option maxHeartbeats 4000000 in
set_option maxRecDepth 100000 in
theorem c_X7_shakes (l : Launch) (D : va_G) (cI cS : ClassId) (h0 h1 h2 h3 h4 h5 h6 h7 h8 h9 h10 h11 : Nat) (misKept : Int32) (mtaped : Int32) (msort : Int32) (mfrom : Int32) (mto : Int32) (mvalue : Int32) (mbad : Int32) (mm : Nat → Int32) (mkept : Nat → Int32) (mwas : Nat → Int32) (mother : Nat → Int32) (mfound : Nat → Int32) (mwarm : Nat → Int32) (mdrip : Nat → Int32) (mtape : Nat → Int32) (mbits : Nat → Int32) (msize : Nat → Int32) (mnumber : Nat → Int32) (x1 : Int32) (R : Int32) (mfound_r : Nat → Int32) (hf : f_X7_shakes mm mfound x1 = some (R, mfound_r)) : Met l yX7_shakes (ik_ws yX7_shakes cX7_shakes 2 (some .int)) ({ frames := 3, cells := 0, slots := 0, locals := 65 } : Room) (ik_P D cI cS [.ref h0, .int x1] (wz_X7 cI cS h0 h1 h2 h3 h4 h5 h6 h7 h8 h9 h10 h11 misKept mtaped msort mfrom mto mvalue mbad mm mkept mwas mother mfound mwarm mdrip mtape mbits msize mnumber)) (ik_Q (some (.int R)) D (wz_X7 cI cS h0 h1 h2 h3 h4 h5 h6 h7 h8 h9 h10 h11 misKept mtaped msort mfrom mto mvalue mbad mm mkept mwas mother mfound_r mwarm mdrip mtape mbits msize mnumber) (wz_X7 cI cS h0 h1 h2 h3 h4 h5 h6 h7 h8 h9 h10 h11 misKept mtaped msort mfrom mto mvalue mbad mm mkept mwas mother mfound mwarm mdrip mtape mbits msize mnumber)) 0 0 (ik_in (wz_X7 cI cS h0 h1 h2 h3 h4 h5 h6 h7 h8 h9 h10 h11 misKept mtaped msort mfrom mto mvalue mbad mm mkept mwas mother mfound mwarm mdrip mtape mbits msize mnumber)) := by
  refine ik_metW RX7 rfl (by decide) (Nat.le_of_ble_eq_true rfl) [(0, .ref h0), (1, .int x1)] rfl ?_
  intro p e s m below meth c C hr hlk
  unfold f_X7_shakes at hf
  refine ik_iload_n C 1 rfl rfl dX7_shakes_0 ?_
  obtain ⟨r1, hc1, hf⟩ := ik_b1s hf
  refine ik_goR (ik_runS C (c_X7_isTune l D cI cS x1 r1 hc1) ms_X7_isTune wl_32_0 ⟨rfl, rfl, Nat.le_of_ble_eq_true rfl, Nat.le_of_ble_eq_true rfl⟩ [] rfl (by decide) rfl rfl (Nat.le_of_ble_eq_true rfl) dX7_shakes_1) rfl ?_
  refine ik_if_eq C 15 dX7_shakes_4 (by decide) (fun hc => ?_) (fun hc => ?_)
  · have hf := ik_pos hc hf
    refine ik_aload_n C 0 rfl rfl dX7_shakes_15 ?_
    refine ik_ldc C wl_6_14 dX7_shakes_16 ?_
    obtain ⟨r2, g3, hc3, hf⟩ := ik_b2s hf
    refine ik_goW [0, 1, 2, 3, 4, 5, 6, 7, 8, 9, 10, 11] rfl rfl (wz_X7 cI cS h0 h1 h2 h3 h4 h5 h6 h7 h8 h9 h10 h11 misKept mtaped msort mfrom mto mvalue mbad mm mkept mwas mother g3 mwarm mdrip mtape mbits msize mnumber) rfl (ik_runV C (c_X7_finds l D cI cS h0 h1 h2 h3 h4 h5 h6 h7 h8 h9 h10 h11 misKept mtaped msort mfrom mto mvalue mbad mm mkept mwas mother mfound mwarm mdrip mtape mbits msize mnumber (-1000001 : Int32) r2 g3 hc3) mv_X7_finds wl_7_8 ⟨rfl, rfl, Nat.le_of_ble_eq_true rfl, Nat.le_of_ble_eq_true rfl⟩ [0, 1, 2, 3, 4, 5, 6, 7, 8, 9, 10, 11] rfl (by decide) 0 rfl rfl rfl rfl (Nat.le_of_ble_eq_true rfl) dX7_shakes_18) rfl ?_
    cases hf
    exact ik_iretW C hr hlk dX7_shakes_21
  · have hf := ik_neg hc hf
    refine ik_aload_n C 0 rfl rfl dX7_shakes_7 ?_
    refine ik_iload_n C 1 rfl rfl dX7_shakes_8 ?_
    obtain ⟨r2, hc2, hf⟩ := ik_b1s hf
    refine ik_goR (ik_runV C (c_X7_shaken l D cI cS h0 h1 h2 h3 h4 h5 h6 h7 h8 h9 h10 h11 misKept mtaped msort mfrom mto mvalue mbad mm mkept mwas mother mfound mwarm mdrip mtape mbits msize mnumber x1 r2 hc2) mv_X7_shaken wl_32_5 ⟨rfl, rfl, Nat.le_of_ble_eq_true rfl, Nat.le_of_ble_eq_true rfl⟩ [0, 1, 2, 3, 4, 5, 6, 7, 8, 9, 10, 11] rfl (by decide) 0 rfl rfl rfl rfl (Nat.le_of_ble_eq_true rfl) dX7_shakes_9) rfl ?_
    refine ik_goto C 21 dX7_shakes_12 (by decide) ?_
    cases hf
    exact ik_iretW C hr hlk dX7_shakes_21
theorem mv_X7_danced : ik_V yX7_danced RX7 cX7_danced 5 (some .int) 1 := ⟨wl_32_23, wl_33_0, wl_1_5, wl_33_1, by decide +kernel⟩
set_option maxHeartbeats 4000000 in
set_option maxRecDepth 100000 in
theorem c_X7_danced (l : Launch) (D : va_G) (cI cS : ClassId) (h0 h1 h2 h3 h4 h5 h6 h7 h8 h9 h10 h11 : Nat) (misKept : Int32) (mtaped : Int32) (msort : Int32) (mfrom : Int32) (mto : Int32) (mvalue : Int32) (mbad : Int32) (mm : Nat → Int32) (mkept : Nat → Int32) (mwas : Nat → Int32) (mother : Nat → Int32) (mfound : Nat → Int32) (mwarm : Nat → Int32) (mdrip : Nat → Int32) (mtape : Nat → Int32) (mbits : Nat → Int32) (msize : Nat → Int32) (mnumber : Nat → Int32) (x1 : Int32) (R : Int32) (mm_r : Nat → Int32) (hf : f_X7_danced mm x1 = some (R, mm_r)) : Met l yX7_danced (ik_ws yX7_danced cX7_danced 5 (some .int)) ({ frames := 7, cells := 0, slots := 0, locals := 159 } : Room) (ik_P D cI cS [.ref h0, .int x1] (wz_X7 cI cS h0 h1 h2 h3 h4 h5 h6 h7 h8 h9 h10 h11 misKept mtaped msort mfrom mto mvalue mbad mm mkept mwas mother mfound mwarm mdrip mtape mbits msize mnumber)) (ik_Q (some (.int R)) D (wz_X7 cI cS h0 h1 h2 h3 h4 h5 h6 h7 h8 h9 h10 h11 misKept mtaped msort mfrom mto mvalue mbad mm_r mkept mwas mother mfound mwarm mdrip mtape mbits msize mnumber) (wz_X7 cI cS h0 h1 h2 h3 h4 h5 h6 h7 h8 h9 h10 h11 misKept mtaped msort mfrom mto mvalue mbad mm mkept mwas mother mfound mwarm mdrip mtape mbits msize mnumber)) 0 0 (ik_in (wz_X7 cI cS h0 h1 h2 h3 h4 h5 h6 h7 h8 h9 h10 h11 misKept mtaped msort mfrom mto mvalue mbad mm mkept mwas mother mfound mwarm mdrip mtape mbits msize mnumber)) := by
  refine ik_metW RX7 rfl (by decide) (Nat.le_of_ble_eq_true rfl) [(0, .ref h0), (1, .int x1)] rfl ?_
  intro p e s m below meth c C hr hlk
  unfold f_X7_danced at hf
  refine ik_aload_n C 0 rfl rfl dX7_danced_0 ?_
  obtain ⟨r1, hc1, hf⟩ := ik_b1s hf
  refine ik_goR (ik_runV C (c_X7_goneNow l D cI cS h0 h1 h2 h3 h4 h5 h6 h7 h8 h9 h10 h11 misKept mtaped msort mfrom mto mvalue mbad mm mkept mwas mother mfound mwarm mdrip mtape mbits msize mnumber r1 hc1) mv_X7_goneNow wl_20_14 ⟨rfl, rfl, Nat.le_of_ble_eq_true rfl, Nat.le_of_ble_eq_true rfl⟩ [0, 1, 2, 3, 4, 5, 6, 7, 8, 9, 10, 11] rfl (by decide) 0 rfl rfl rfl rfl (Nat.le_of_ble_eq_true rfl) dX7_danced_1) rfl ?_
  refine ik_istore_n C [(2, .int r1), (0, .ref h0), (1, .int x1)] rfl (by decide) rfl dX7_danced_4 ?_
  refine ik_aload_n C 1 rfl rfl dX7_danced_5 ?_
  refine ik_iload_n C 2 rfl rfl dX7_danced_6 ?_
  obtain ⟨r2, hc2, hf⟩ := ik_b1s hf
  refine ik_goR (ik_runV C (c_X7_shaken l D cI cS h0 h1 h2 h3 h4 h5 h6 h7 h8 h9 h10 h11 misKept mtaped msort mfrom mto mvalue mbad mm mkept mwas mother mfound mwarm mdrip mtape mbits msize mnumber x1 r2 hc2) mv_X7_shaken wl_32_5 ⟨rfl, rfl, Nat.le_of_ble_eq_true rfl, Nat.le_of_ble_eq_true rfl⟩ [0, 1, 2, 3, 4, 5, 6, 7, 8, 9, 10, 11] rfl (by decide) 0 rfl rfl rfl rfl (Nat.le_of_ble_eq_true rfl) dX7_danced_7) rfl ?_
  refine ik_istore_n C [(3, .int r2), (2, .int r1), (0, .ref h0), (1, .int x1)] rfl (by decide) rfl dX7_danced_10 ?_
  refine ik_iconst (v := (0 : Int32)) C (by decide) dX7_danced_11 ?_
  refine ik_istore C [(4, .int (0 : Int32)), (3, .int r2), (2, .int r1), (0, .ref h0), (1, .int x1)] (by decide) rfl dX7_danced_12 ?_
  have hL_14 : ∀ (n_14 : Nat) (mm_14 : Nat → Int32) (x4_14 : Int32), ik_lp2 (b_X7_danced_14 r1 r2) n_14 mm_14 x4_14 = some (R, mm_r) → ik_G p l e ({ frames := 7, cells := 0, slots := 0, locals := 159 } : Room) s m ([.ref h0, .int x1] : List Value).toArray below meth c D (ik_in (wz_X7 cI cS h0 h1 h2 h3 h4 h5 h6 h7 h8 h9 h10 h11 misKept mtaped msort mfrom mto mvalue mbad mm mkept mwas mother mfound mwarm mdrip mtape mbits msize mnumber)) (ik_in (wz_X7 cI cS h0 h1 h2 h3 h4 h5 h6 h7 h8 h9 h10 h11 misKept mtaped msort mfrom mto mvalue mbad mm mkept mwas mother mfound mwarm mdrip mtape mbits msize mnumber)) 5 (MQ below (ik_Q (some (.int R)) D (wz_X7 cI cS h0 h1 h2 h3 h4 h5 h6 h7 h8 h9 h10 h11 misKept mtaped msort mfrom mto mvalue mbad mm_r mkept mwas mother mfound mwarm mdrip mtape mbits msize mnumber) (wz_X7 cI cS h0 h1 h2 h3 h4 h5 h6 h7 h8 h9 h10 h11 misKept mtaped msort mfrom mto mvalue mbad mm mkept mwas mother mfound mwarm mdrip mtape mbits msize mnumber)) ([.ref h0, .int x1] : List Value).toArray s 0 0 (ik_in (wz_X7 cI cS h0 h1 h2 h3 h4 h5 h6 h7 h8 h9 h10 h11 misKept mtaped msort mfrom mto mvalue mbad mm mkept mwas mother mfound mwarm mdrip mtape mbits msize mnumber))) 14 [(4, .int x4_14), (3, .int r2), (2, .int r1), (0, .ref h0), (1, .int x1)] [] (wz_X7 cI cS h0 h1 h2 h3 h4 h5 h6 h7 h8 h9 h10 h11 misKept mtaped msort mfrom mto mvalue mbad mm_14 mkept mwas mother mfound mwarm mdrip mtape mbits msize mnumber) := by
    intro n_14
    induction n_14 with
    | zero => intro _ _ hf; exact nomatch hf
    | succ n_14 ih_14 =>
      intro mm_14 x4_14 hf
      replace hf : b_X7_danced_14 r1 r2 (ik_lp2 (b_X7_danced_14 r1 r2) n_14) mm_14 x4_14 = some (R, mm_r) := hf
      unfold b_X7_danced_14 at hf
      refine ik_iload C 0 rfl dX7_danced_14 ?_
      refine ik_aload_n C 3 rfl rfl dX7_danced_16 ?_
      refine ik_get C inlX7 0 rfl rfl 0 (by decide) wl_4_12 rfl (v := .ref h1) rfl dX7_danced_17 ?_
      refine ik_iconst (v := (5 : Int32)) C (by decide) dX7_danced_20 ?_
      refine ik_iald C 1 rfl (ik_vin (by decide)) dX7_danced_21 ?_
      refine ik_icmp_ge C 67 dX7_danced_22 (by decide) (fun hc => ?_) (fun hc => ?_)
      · have hf := ik_pos hc hf
        refine ik_aload_n C 3 rfl rfl dX7_danced_67 ?_
        obtain ⟨g3, hc3, hf⟩ := ik_b1s hf
        refine ik_goW [0, 1, 2, 3, 4, 5, 6, 7, 8, 9, 10, 11] rfl rfl (wz_X7 cI cS h0 h1 h2 h3 h4 h5 h6 h7 h8 h9 h10 h11 misKept mtaped msort mfrom mto mvalue mbad g3 mkept mwas mother mfound mwarm mdrip mtape mbits msize mnumber) rfl (ik_runV C (c_X7_emptyGo l D cI cS h0 h1 h2 h3 h4 h5 h6 h7 h8 h9 h10 h11 misKept mtaped msort mfrom mto mvalue mbad mm_14 mkept mwas mother mfound mwarm mdrip mtape mbits msize mnumber g3 hc3) mv_X7_emptyGo wl_21_6 ⟨rfl, rfl, Nat.le_of_ble_eq_true rfl, Nat.le_of_ble_eq_true rfl⟩ [0, 1, 2, 3, 4, 5, 6, 7, 8, 9, 10, 11] rfl (by decide) 0 rfl rfl rfl rfl (Nat.le_of_ble_eq_true rfl) dX7_danced_68) rfl ?_
        refine ik_aload_n C 3 rfl rfl dX7_danced_71 ?_
        obtain ⟨g4, hc4, hf⟩ := ik_b1s hf
        refine ik_goW [0, 1, 2, 3, 4, 5, 6, 7, 8, 9, 10, 11] rfl rfl (wz_X7 cI cS h0 h1 h2 h3 h4 h5 h6 h7 h8 h9 h10 h11 misKept mtaped msort mfrom mto mvalue mbad g4 mkept mwas mother mfound mwarm mdrip mtape mbits msize mnumber) rfl (ik_runV C (c_X7_falls l D cI cS h0 h1 h2 h3 h4 h5 h6 h7 h8 h9 h10 h11 misKept mtaped msort mfrom mto mvalue mbad g3 mkept mwas mother mfound mwarm mdrip mtape mbits msize mnumber g4 hc4) mv_X7_falls wl_21_10 ⟨rfl, rfl, Nat.le_of_ble_eq_true rfl, Nat.le_of_ble_eq_true rfl⟩ [0, 1, 2, 3, 4, 5, 6, 7, 8, 9, 10, 11] rfl (by decide) 0 rfl rfl rfl rfl (Nat.le_of_ble_eq_true rfl) dX7_danced_72) rfl ?_
        refine ik_aload_n C 3 rfl rfl dX7_danced_75 ?_
        obtain ⟨r5, hc5, hf⟩ := ik_b1s hf
        refine ik_goR (ik_runV C (c_X7_goneNow l D cI cS h0 h1 h2 h3 h4 h5 h6 h7 h8 h9 h10 h11 misKept mtaped msort mfrom mto mvalue mbad g4 mkept mwas mother mfound mwarm mdrip mtape mbits msize mnumber r5 hc5) mv_X7_goneNow wl_20_14 ⟨rfl, rfl, Nat.le_of_ble_eq_true rfl, Nat.le_of_ble_eq_true rfl⟩ [0, 1, 2, 3, 4, 5, 6, 7, 8, 9, 10, 11] rfl (by decide) 0 rfl rfl rfl rfl (Nat.le_of_ble_eq_true rfl) dX7_danced_76) rfl ?_
        refine ik_iload_n C 2 rfl rfl dX7_danced_79 ?_
        refine ik_iconst (v := (-1 : Int32)) C (by decide) dX7_danced_80 ?_
        refine ik_ixor C dX7_danced_81 ?_
        refine ik_iand C dX7_danced_82 ?_
        obtain ⟨r6, hc6, hf⟩ := ik_b1s hf
        refine ik_goR (ik_runS C (c_X7_many l D cI cS (r5 &&& (r1 ^^^ (-1 : Int32))) r6 hc6) ms_X7_many wl_21_22 ⟨rfl, rfl, Nat.le_of_ble_eq_true rfl, Nat.le_of_ble_eq_true rfl⟩ [] rfl (by decide) rfl rfl (Nat.le_of_ble_eq_true rfl) dX7_danced_83) rfl ?_
        cases hf
        exact ik_iretW C hr hlk dX7_danced_86
      · have hf := ik_neg hc hf
        refine ik_iload_n C 1 rfl rfl dX7_danced_25 ?_
        refine ik_iload C 0 rfl dX7_danced_26 ?_
        obtain ⟨r3, hc3, hf⟩ := ik_b1s hf
        refine ik_goR (ik_runS C (c_X7_has l D cI cS r2 x4_14 r3 hc3) ms_X7_has wl_11_0 ⟨rfl, rfl, Nat.le_of_ble_eq_true rfl, Nat.le_of_ble_eq_true rfl⟩ [] rfl (by decide) rfl rfl (Nat.le_of_ble_eq_true rfl) dX7_danced_28) rfl ?_
        refine ik_if_ne C 37 dX7_danced_31 (by decide) (fun hc => ?_) (fun hc => ?_)
        · have hf := ik_neg hc hf
          refine ik_aload_n C 3 rfl rfl dX7_danced_37 ?_
          refine ik_iload C 0 rfl dX7_danced_38 ?_
          refine ik_aload_n C 3 rfl rfl dX7_danced_40 ?_
          refine ik_iload C 0 rfl dX7_danced_41 ?_
          obtain ⟨r4, hc4, hf⟩ := ik_b1s hf
          refine ik_goR (ik_runV C (c_X7_grains l D cI cS h0 h1 h2 h3 h4 h5 h6 h7 h8 h9 h10 h11 misKept mtaped msort mfrom mto mvalue mbad mm_14 mkept mwas mother mfound mwarm mdrip mtape mbits msize mnumber x4_14 r4 hc4) mv_X7_grains wl_10_1 ⟨rfl, rfl, Nat.le_of_ble_eq_true rfl, Nat.le_of_ble_eq_true rfl⟩ [0, 1, 2, 3, 4, 5, 6, 7, 8, 9, 10, 11] rfl (by decide) 0 rfl rfl rfl rfl (Nat.le_of_ble_eq_true rfl) dX7_danced_43) rfl ?_
          refine ik_iconst (v := (1 : Int32)) C (by decide) dX7_danced_46 ?_
          refine ik_isub C dX7_danced_47 ?_
          obtain ⟨g5, hc5, hf⟩ := ik_b1s hf
          refine ik_goW [0, 1, 2, 3, 4, 5, 6, 7, 8, 9, 10, 11] rfl rfl (wz_X7 cI cS h0 h1 h2 h3 h4 h5 h6 h7 h8 h9 h10 h11 misKept mtaped msort mfrom mto mvalue mbad g5 mkept mwas mother mfound mwarm mdrip mtape mbits msize mnumber) rfl (ik_runV C (c_X7_makes l D cI cS h0 h1 h2 h3 h4 h5 h6 h7 h8 h9 h10 h11 misKept mtaped msort mfrom mto mvalue mbad mm_14 mkept mwas mother mfound mwarm mdrip mtape mbits msize mnumber x4_14 (r4 - (1 : Int32)) g5 hc5) mv_X7_makes wl_14_23 ⟨rfl, rfl, Nat.le_of_ble_eq_true rfl, Nat.le_of_ble_eq_true rfl⟩ [0, 1, 2, 3, 4, 5, 6, 7, 8, 9, 10, 11] rfl (by decide) 0 rfl rfl rfl rfl (Nat.le_of_ble_eq_true rfl) dX7_danced_48) rfl ?_
          refine ik_aload_n C 3 rfl rfl dX7_danced_51 ?_
          refine ik_get C inlX7 0 rfl rfl 0 (by decide) wl_4_12 rfl (v := .ref h1) rfl dX7_danced_52 ?_
          refine ik_iconst (v := (2 : Int32)) C (by decide) dX7_danced_55 ?_
          refine ik_dup2 C rfl rfl dX7_danced_56 ?_
          refine ik_iald C 1 rfl (ik_vin (by decide)) dX7_danced_57 ?_
          refine ik_iconst (v := (1 : Int32)) C (by decide) dX7_danced_58 ?_
          refine ik_iadd C dX7_danced_59 ?_
          refine ik_iast C 1 rfl (ik_vin (by decide)) (wz_X7 cI cS h0 h1 h2 h3 h4 h5 h6 h7 h8 h9 h10 h11 misKept mtaped msort mfrom mto mvalue mbad (upd g5 ((2 : Int32)).toNatClampNeg ((g5 ((2 : Int32)).toNatClampNeg) + (1 : Int32))) mkept mwas mother mfound mwarm mdrip mtape mbits msize mnumber) rfl dX7_danced_60 ?_
          refine ik_iinc C [(4, .int (x4_14 + (1 : Int32))), (3, .int r2), (2, .int r1), (0, .ref h0), (1, .int x1)] 0 rfl rfl (by decide) rfl dX7_danced_61 ?_
          refine ik_goto C 14 dX7_danced_64 (by decide) ?_
          exact ik_sub [0, 1, 2, 3, 4] [(4, .int (x4_14 + (1 : Int32))), (3, .int r2), (2, .int r1), (0, .ref h0), (1, .int x1)] rfl (ih_14 (upd g5 ((2 : Int32)).toNatClampNeg ((g5 ((2 : Int32)).toNatClampNeg) + (1 : Int32))) (x4_14 + (1 : Int32)) hf)
        · have hf := ik_pos hc hf
          refine ik_goto C 61 dX7_danced_34 (by decide) ?_
          refine ik_iinc C [(4, .int (x4_14 + (1 : Int32))), (3, .int r2), (2, .int r1), (0, .ref h0), (1, .int x1)] 0 rfl rfl (by decide) rfl dX7_danced_61 ?_
          refine ik_goto C 14 dX7_danced_64 (by decide) ?_
          exact ik_sub [0, 1, 2, 3, 4] [(4, .int (x4_14 + (1 : Int32))), (3, .int r2), (2, .int r1), (0, .ref h0), (1, .int x1)] rfl (ih_14 mm_14 (x4_14 + (1 : Int32)) hf)
  exact hL_14 ik_fu mm (0 : Int32) hf
theorem mv_X7_dance : ik_V yX7_dance RX7 cX7_dance 2 (some .int) 1 := ⟨wl_32_19, wl_32_20, wl_1_5, wl_32_21, by decide +kernel⟩
set_option maxHeartbeats 4000000 in
set_option maxRecDepth 100000 in
theorem c_X7_dance (l : Launch) (D : va_G) (cI cS : ClassId) (h0 h1 h2 h3 h4 h5 h6 h7 h8 h9 h10 h11 : Nat) (misKept : Int32) (mtaped : Int32) (msort : Int32) (mfrom : Int32) (mto : Int32) (mvalue : Int32) (mbad : Int32) (mm : Nat → Int32) (mkept : Nat → Int32) (mwas : Nat → Int32) (mother : Nat → Int32) (mfound : Nat → Int32) (mwarm : Nat → Int32) (mdrip : Nat → Int32) (mtape : Nat → Int32) (mbits : Nat → Int32) (msize : Nat → Int32) (mnumber : Nat → Int32) (x1 : Int32) (R : Int32) (mm_r : Nat → Int32) (mfound_r : Nat → Int32) (hf : f_X7_dance mm mfound x1 = some (R, mm_r, mfound_r)) : Met l yX7_dance (ik_ws yX7_dance cX7_dance 2 (some .int)) ({ frames := 8, cells := 0, slots := 0, locals := 183 } : Room) (ik_P D cI cS [.ref h0, .int x1] (wz_X7 cI cS h0 h1 h2 h3 h4 h5 h6 h7 h8 h9 h10 h11 misKept mtaped msort mfrom mto mvalue mbad mm mkept mwas mother mfound mwarm mdrip mtape mbits msize mnumber)) (ik_Q (some (.int R)) D (wz_X7 cI cS h0 h1 h2 h3 h4 h5 h6 h7 h8 h9 h10 h11 misKept mtaped msort mfrom mto mvalue mbad mm_r mkept mwas mother mfound_r mwarm mdrip mtape mbits msize mnumber) (wz_X7 cI cS h0 h1 h2 h3 h4 h5 h6 h7 h8 h9 h10 h11 misKept mtaped msort mfrom mto mvalue mbad mm mkept mwas mother mfound mwarm mdrip mtape mbits msize mnumber)) 0 0 (ik_in (wz_X7 cI cS h0 h1 h2 h3 h4 h5 h6 h7 h8 h9 h10 h11 misKept mtaped msort mfrom mto mvalue mbad mm mkept mwas mother mfound mwarm mdrip mtape mbits msize mnumber)) := by
  refine ik_metW RX7 rfl (by decide) (Nat.le_of_ble_eq_true rfl) [(0, .ref h0), (1, .int x1)] rfl ?_
  intro p e s m below meth c C hr hlk
  unfold f_X7_dance at hf
  refine ik_iload_n C 1 rfl rfl dX7_dance_0 ?_
  obtain ⟨r1, hc1, hf⟩ := ik_b1s hf
  refine ik_goR (ik_runS C (c_X7_isTune l D cI cS x1 r1 hc1) ms_X7_isTune wl_32_0 ⟨rfl, rfl, Nat.le_of_ble_eq_true rfl, Nat.le_of_ble_eq_true rfl⟩ [] rfl (by decide) rfl rfl (Nat.le_of_ble_eq_true rfl) dX7_dance_1) rfl ?_
  refine ik_if_eq C 15 dX7_dance_4 (by decide) (fun hc => ?_) (fun hc => ?_)
  · have hf := ik_pos hc hf
    refine ik_aload_n C 0 rfl rfl dX7_dance_15 ?_
    refine ik_ldc C wl_6_14 dX7_dance_16 ?_
    obtain ⟨r2, g3, hc3, hf⟩ := ik_b2s hf
    refine ik_goW [0, 1, 2, 3, 4, 5, 6, 7, 8, 9, 10, 11] rfl rfl (wz_X7 cI cS h0 h1 h2 h3 h4 h5 h6 h7 h8 h9 h10 h11 misKept mtaped msort mfrom mto mvalue mbad mm mkept mwas mother g3 mwarm mdrip mtape mbits msize mnumber) rfl (ik_runV C (c_X7_finds l D cI cS h0 h1 h2 h3 h4 h5 h6 h7 h8 h9 h10 h11 misKept mtaped msort mfrom mto mvalue mbad mm mkept mwas mother mfound mwarm mdrip mtape mbits msize mnumber (-1000001 : Int32) r2 g3 hc3) mv_X7_finds wl_7_8 ⟨rfl, rfl, Nat.le_of_ble_eq_true rfl, Nat.le_of_ble_eq_true rfl⟩ [0, 1, 2, 3, 4, 5, 6, 7, 8, 9, 10, 11] rfl (by decide) 0 rfl rfl rfl rfl (Nat.le_of_ble_eq_true rfl) dX7_dance_18) rfl ?_
    cases hf
    exact ik_iretW C hr hlk dX7_dance_21
  · have hf := ik_neg hc hf
    refine ik_aload_n C 0 rfl rfl dX7_dance_7 ?_
    refine ik_iload_n C 1 rfl rfl dX7_dance_8 ?_
    obtain ⟨r2, g3, hc3, hf⟩ := ik_b2s hf
    refine ik_goW [0, 1, 2, 3, 4, 5, 6, 7, 8, 9, 10, 11] rfl rfl (wz_X7 cI cS h0 h1 h2 h3 h4 h5 h6 h7 h8 h9 h10 h11 misKept mtaped msort mfrom mto mvalue mbad g3 mkept mwas mother mfound mwarm mdrip mtape mbits msize mnumber) rfl (ik_runV C (c_X7_danced l D cI cS h0 h1 h2 h3 h4 h5 h6 h7 h8 h9 h10 h11 misKept mtaped msort mfrom mto mvalue mbad mm mkept mwas mother mfound mwarm mdrip mtape mbits msize mnumber x1 r2 g3 hc3) mv_X7_danced wl_32_22 ⟨rfl, rfl, Nat.le_of_ble_eq_true rfl, Nat.le_of_ble_eq_true rfl⟩ [0, 1, 2, 3, 4, 5, 6, 7, 8, 9, 10, 11] rfl (by decide) 0 rfl rfl rfl rfl (Nat.le_of_ble_eq_true rfl) dX7_dance_9) rfl ?_
    refine ik_goto C 21 dX7_dance_12 (by decide) ?_
    cases hf
    exact ik_iretW C hr hlk dX7_dance_21
theorem mv_X7_tune : ik_V yX7_tune RX7 cX7_tune 5 (some .int) 0 := ⟨wl_33_7, wl_33_8, wl_1_5, wl_33_9, by decide +kernel⟩
set_option maxHeartbeats 4000000 in
set_option maxRecDepth 100000 in
theorem c_X7_tune (l : Launch) (D : va_G) (cI cS : ClassId) (h0 h1 h2 h3 h4 h5 h6 h7 h8 h9 h10 h11 : Nat) (misKept : Int32) (mtaped : Int32) (msort : Int32) (mfrom : Int32) (mto : Int32) (mvalue : Int32) (mbad : Int32) (mm : Nat → Int32) (mkept : Nat → Int32) (mwas : Nat → Int32) (mother : Nat → Int32) (mfound : Nat → Int32) (mwarm : Nat → Int32) (mdrip : Nat → Int32) (mtape : Nat → Int32) (mbits : Nat → Int32) (msize : Nat → Int32) (mnumber : Nat → Int32) (R : Int32) (mm_r : Nat → Int32) (mwas_r : Nat → Int32) (hf : f_X7_tune mm mwas = some (R, mm_r, mwas_r)) : Met l yX7_tune (ik_ws yX7_tune cX7_tune 5 (some .int)) ({ frames := 8, cells := 0, slots := 0, locals := 183 } : Room) (ik_P D cI cS [.ref h0] (wz_X7 cI cS h0 h1 h2 h3 h4 h5 h6 h7 h8 h9 h10 h11 misKept mtaped msort mfrom mto mvalue mbad mm mkept mwas mother mfound mwarm mdrip mtape mbits msize mnumber)) (ik_Q (some (.int R)) D (wz_X7 cI cS h0 h1 h2 h3 h4 h5 h6 h7 h8 h9 h10 h11 misKept mtaped msort mfrom mto mvalue mbad mm_r mkept mwas_r mother mfound mwarm mdrip mtape mbits msize mnumber) (wz_X7 cI cS h0 h1 h2 h3 h4 h5 h6 h7 h8 h9 h10 h11 misKept mtaped msort mfrom mto mvalue mbad mm mkept mwas mother mfound mwarm mdrip mtape mbits msize mnumber)) 0 0 (ik_in (wz_X7 cI cS h0 h1 h2 h3 h4 h5 h6 h7 h8 h9 h10 h11 misKept mtaped msort mfrom mto mvalue mbad mm mkept mwas mother mfound mwarm mdrip mtape mbits msize mnumber)) := by
  refine ik_metW RX7 rfl (by decide) (Nat.le_of_ble_eq_true rfl) [(0, .ref h0)] rfl ?_
  intro p e s m below meth c C hr hlk
  unfold f_X7_tune at hf
  refine ik_iconst (v := (0 : Int32)) C (by decide) dX7_tune_0 ?_
  refine ik_istore_n C [(1, .int (0 : Int32)), (0, .ref h0)] rfl (by decide) rfl dX7_tune_1 ?_
  refine ik_iconst (v := (0 : Int32)) C (by decide) dX7_tune_2 ?_
  refine ik_istore_n C [(2, .int (0 : Int32)), (1, .int (0 : Int32)), (0, .ref h0)] rfl (by decide) rfl dX7_tune_3 ?_
  refine ik_iconst (v := (2 : Int32)) C (by decide) dX7_tune_4 ?_
  refine ik_istore_n C [(3, .int (2 : Int32)), (2, .int (0 : Int32)), (1, .int (0 : Int32)), (0, .ref h0)] rfl (by decide) rfl dX7_tune_5 ?_
  have hL_6 : ∀ (n_6 : Nat) (mm_6 : Nat → Int32) (mwas_6 : Nat → Int32) (x1_6 : Int32) (x2_6 : Int32) (x3_6 : Int32), ik_lp5 (b_X7_tune_6) n_6 mm_6 mwas_6 x1_6 x2_6 x3_6 = some (R, mm_r, mwas_r) → ik_G p l e ({ frames := 8, cells := 0, slots := 0, locals := 183 } : Room) s m ([.ref h0] : List Value).toArray below meth c D (ik_in (wz_X7 cI cS h0 h1 h2 h3 h4 h5 h6 h7 h8 h9 h10 h11 misKept mtaped msort mfrom mto mvalue mbad mm mkept mwas mother mfound mwarm mdrip mtape mbits msize mnumber)) (ik_in (wz_X7 cI cS h0 h1 h2 h3 h4 h5 h6 h7 h8 h9 h10 h11 misKept mtaped msort mfrom mto mvalue mbad mm mkept mwas mother mfound mwarm mdrip mtape mbits msize mnumber)) 5 (MQ below (ik_Q (some (.int R)) D (wz_X7 cI cS h0 h1 h2 h3 h4 h5 h6 h7 h8 h9 h10 h11 misKept mtaped msort mfrom mto mvalue mbad mm_r mkept mwas_r mother mfound mwarm mdrip mtape mbits msize mnumber) (wz_X7 cI cS h0 h1 h2 h3 h4 h5 h6 h7 h8 h9 h10 h11 misKept mtaped msort mfrom mto mvalue mbad mm mkept mwas mother mfound mwarm mdrip mtape mbits msize mnumber)) ([.ref h0] : List Value).toArray s 0 0 (ik_in (wz_X7 cI cS h0 h1 h2 h3 h4 h5 h6 h7 h8 h9 h10 h11 misKept mtaped msort mfrom mto mvalue mbad mm mkept mwas mother mfound mwarm mdrip mtape mbits msize mnumber))) 6 [(3, .int x3_6), (2, .int x2_6), (1, .int x1_6), (0, .ref h0)] [] (wz_X7 cI cS h0 h1 h2 h3 h4 h5 h6 h7 h8 h9 h10 h11 misKept mtaped msort mfrom mto mvalue mbad mm_6 mkept mwas_6 mother mfound mwarm mdrip mtape mbits msize mnumber) := by
    intro n_6
    induction n_6 with
    | zero => intro _ _ _ _ _ hf; exact nomatch hf
    | succ n_6 ih_6 =>
      intro mm_6 mwas_6 x1_6 x2_6 x3_6 hf
      replace hf : b_X7_tune_6 (ik_lp5 (b_X7_tune_6) n_6) mm_6 mwas_6 x1_6 x2_6 x3_6 = some (R, mm_r, mwas_r) := hf
      unfold b_X7_tune_6 at hf
      refine ik_iload_n C 0 rfl rfl dX7_tune_6 ?_
      refine ik_bipush (v := (9 : Int32)) C (by decide) dX7_tune_7 ?_
      refine ik_icmp_gt C 65 dX7_tune_9 (by decide) (fun hc => ?_) (fun hc => ?_)
      · have hf := ik_pos hc hf
        refine ik_iload_n C 2 rfl rfl dX7_tune_65 ?_
        cases hf
        exact ik_iretW C hr hlk dX7_tune_66
      · have hf := ik_neg hc hf
        refine ik_aload_n C 3 rfl rfl dX7_tune_12 ?_
        refine ik_get C inlX7 0 rfl rfl 0 (by decide) wl_4_12 rfl (v := .ref h1) rfl dX7_tune_13 ?_
        refine ik_aload_n C 3 rfl rfl dX7_tune_16 ?_
        refine ik_get C inlX7 0 rfl rfl 2 (by decide) wl_4_14 rfl (v := .ref h3) rfl dX7_tune_17 ?_
        obtain ⟨g1, hc1, hf⟩ := ik_b1s hf
        refine ik_goW [1, 3] rfl rfl (wz_X7 cI cS h0 h1 h2 h3 h4 h5 h6 h7 h8 h9 h10 h11 misKept mtaped msort mfrom mto mvalue mbad mm_6 mkept g1 mother mfound mwarm mdrip mtape mbits msize mnumber) rfl (ik_runS C (c_X7_row l D cI cS h1 h3 mm_6 mwas_6 g1 hc1) ms_X7_row wl_24_22 ⟨rfl, rfl, Nat.le_of_ble_eq_true rfl, Nat.le_of_ble_eq_true rfl⟩ [1, 3] rfl (by decide) rfl rfl (Nat.le_of_ble_eq_true rfl) dX7_tune_20) rfl ?_
        refine ik_aload_n C 3 rfl rfl dX7_tune_23 ?_
        refine ik_iload_n C 0 rfl rfl dX7_tune_24 ?_
        obtain ⟨r2, g3, hc3, hf⟩ := ik_b2s hf
        refine ik_goW [0, 1, 2, 3, 4, 5, 6, 7, 8, 9, 10, 11] rfl rfl (wz_X7 cI cS h0 h1 h2 h3 h4 h5 h6 h7 h8 h9 h10 h11 misKept mtaped msort mfrom mto mvalue mbad g3 mkept g1 mother mfound mwarm mdrip mtape mbits msize mnumber) rfl (ik_runV C (c_X7_danced l D cI cS h0 h1 h2 h3 h4 h5 h6 h7 h8 h9 h10 h11 misKept mtaped msort mfrom mto mvalue mbad mm_6 mkept g1 mother mfound mwarm mdrip mtape mbits msize mnumber x3_6 r2 g3 hc3) mv_X7_danced wl_32_22 ⟨rfl, rfl, Nat.le_of_ble_eq_true rfl, Nat.le_of_ble_eq_true rfl⟩ [0, 1, 2, 3, 4, 5, 6, 7, 8, 9, 10, 11] rfl (by decide) 0 rfl rfl rfl rfl (Nat.le_of_ble_eq_true rfl) dX7_tune_25) rfl ?_
        refine ik_istore C [(4, .int r2), (3, .int x3_6), (2, .int x2_6), (1, .int x1_6), (0, .ref h0)] (by decide) rfl dX7_tune_28 ?_
        refine ik_aload_n C 4 rfl rfl dX7_tune_30 ?_
        refine ik_get C inlX7 0 rfl rfl 2 (by decide) wl_4_14 rfl (v := .ref h3) rfl dX7_tune_31 ?_
        refine ik_aload_n C 4 rfl rfl dX7_tune_34 ?_
        refine ik_get C inlX7 0 rfl rfl 0 (by decide) wl_4_12 rfl (v := .ref h1) rfl dX7_tune_35 ?_
        obtain ⟨g4, hc4, hf⟩ := ik_b1s hf
        refine ik_goW [3, 1] rfl rfl (wz_X7 cI cS h0 h1 h2 h3 h4 h5 h6 h7 h8 h9 h10 h11 misKept mtaped msort mfrom mto mvalue mbad g4 mkept g1 mother mfound mwarm mdrip mtape mbits msize mnumber) rfl (ik_runS C (c_X7_row l D cI cS h3 h1 g1 g3 g4 hc4) ms_X7_row wl_24_22 ⟨rfl, rfl, Nat.le_of_ble_eq_true rfl, Nat.le_of_ble_eq_true rfl⟩ [3, 1] rfl (by decide) rfl rfl (Nat.le_of_ble_eq_true rfl) dX7_tune_38) rfl ?_
        refine ik_iload_n C 3 rfl rfl dX7_tune_41 ?_
        refine ik_if_le C 54 dX7_tune_42 (by decide) (fun hc => ?_) (fun hc => ?_)
        · have hf := ik_pos hc hf
          refine ik_iload_n C 1 rfl rfl dX7_tune_54 ?_
          refine ik_istore_n C [(1, .int x3_6), (4, .int r2), (3, .int x3_6), (2, .int x2_6), (0, .ref h0)] rfl (by decide) rfl dX7_tune_55 ?_
          refine ik_iload C 1 rfl dX7_tune_56 ?_
          refine ik_istore_n C [(2, .int r2), (1, .int x3_6), (4, .int r2), (3, .int x3_6), (0, .ref h0)] rfl (by decide) rfl dX7_tune_58 ?_
          refine ik_iinc C [(3, .int (x3_6 + (1 : Int32))), (2, .int r2), (1, .int x3_6), (4, .int r2), (0, .ref h0)] 3 rfl rfl (by decide) rfl dX7_tune_59 ?_
          refine ik_goto C 6 dX7_tune_62 (by decide) ?_
          exact ik_sub [0, 1, 2, 4] [(3, .int (x3_6 + (1 : Int32))), (2, .int r2), (1, .int x3_6), (0, .ref h0)] rfl (ih_6 g4 g1 x3_6 r2 (x3_6 + (1 : Int32)) hf)
        · have hf := ik_neg hc hf
          refine ik_iload C 0 rfl dX7_tune_45 ?_
          refine ik_iload_n C 2 rfl rfl dX7_tune_47 ?_
          refine ik_icmp_lt C 54 dX7_tune_48 (by decide) (fun hc => ?_) (fun hc => ?_)
          · have hf := ik_pos hc hf
            refine ik_iload_n C 1 rfl rfl dX7_tune_54 ?_
            refine ik_istore_n C [(1, .int x3_6), (4, .int r2), (3, .int x3_6), (2, .int x2_6), (0, .ref h0)] rfl (by decide) rfl dX7_tune_55 ?_
            refine ik_iload C 1 rfl dX7_tune_56 ?_
            refine ik_istore_n C [(2, .int r2), (1, .int x3_6), (4, .int r2), (3, .int x3_6), (0, .ref h0)] rfl (by decide) rfl dX7_tune_58 ?_
            refine ik_iinc C [(3, .int (x3_6 + (1 : Int32))), (2, .int r2), (1, .int x3_6), (4, .int r2), (0, .ref h0)] 3 rfl rfl (by decide) rfl dX7_tune_59 ?_
            refine ik_goto C 6 dX7_tune_62 (by decide) ?_
            exact ik_sub [0, 1, 2, 4] [(3, .int (x3_6 + (1 : Int32))), (2, .int r2), (1, .int x3_6), (0, .ref h0)] rfl (ih_6 g4 g1 x3_6 r2 (x3_6 + (1 : Int32)) hf)
          · have hf := ik_neg hc hf
            refine ik_goto C 59 dX7_tune_51 (by decide) ?_
            refine ik_iinc C [(3, .int (x3_6 + (1 : Int32))), (4, .int r2), (2, .int x2_6), (1, .int x1_6), (0, .ref h0)] 1 rfl rfl (by decide) rfl dX7_tune_59 ?_
            refine ik_goto C 6 dX7_tune_62 (by decide) ?_
            exact ik_sub [0, 2, 3, 4] [(3, .int (x3_6 + (1 : Int32))), (2, .int x2_6), (1, .int x1_6), (0, .ref h0)] rfl (ih_6 g4 g1 x1_6 x2_6 (x3_6 + (1 : Int32)) hf)
  exact hL_6 ik_fu mm mwas (0 : Int32) (0 : Int32) (2 : Int32) hf
theorem mv_X7_draw : ik_V yX7_draw RX7 cX7_draw 1 (some .int) 0 := ⟨wl_34_0, wl_34_1, wl_1_5, wl_34_2, by decide +kernel⟩
set_option maxHeartbeats 4000000 in
set_option maxRecDepth 100000 in
theorem c_X7_draw (l : Launch) (D : va_G) (cI cS : ClassId) (h0 h1 h2 h3 h4 h5 h6 h7 h8 h9 h10 h11 : Nat) (misKept : Int32) (mtaped : Int32) (msort : Int32) (mfrom : Int32) (mto : Int32) (mvalue : Int32) (mbad : Int32) (mm : Nat → Int32) (mkept : Nat → Int32) (mwas : Nat → Int32) (mother : Nat → Int32) (mfound : Nat → Int32) (mwarm : Nat → Int32) (mdrip : Nat → Int32) (mtape : Nat → Int32) (mbits : Nat → Int32) (msize : Nat → Int32) (mnumber : Nat → Int32) (R : Int32) (mm_r : Nat → Int32) (hf : f_X7_draw mm = some (R, mm_r)) : Met l yX7_draw (ik_ws yX7_draw cX7_draw 1 (some .int)) ({ frames := 0, cells := 0, slots := 0, locals := 0 } : Room) (ik_P D cI cS [.ref h0] (wz_X7 cI cS h0 h1 h2 h3 h4 h5 h6 h7 h8 h9 h10 h11 misKept mtaped msort mfrom mto mvalue mbad mm mkept mwas mother mfound mwarm mdrip mtape mbits msize mnumber)) (ik_Q (some (.int R)) D (wz_X7 cI cS h0 h1 h2 h3 h4 h5 h6 h7 h8 h9 h10 h11 misKept mtaped msort mfrom mto mvalue mbad mm_r mkept mwas mother mfound mwarm mdrip mtape mbits msize mnumber) (wz_X7 cI cS h0 h1 h2 h3 h4 h5 h6 h7 h8 h9 h10 h11 misKept mtaped msort mfrom mto mvalue mbad mm mkept mwas mother mfound mwarm mdrip mtape mbits msize mnumber)) 0 0 (ik_in (wz_X7 cI cS h0 h1 h2 h3 h4 h5 h6 h7 h8 h9 h10 h11 misKept mtaped msort mfrom mto mvalue mbad mm mkept mwas mother mfound mwarm mdrip mtape mbits msize mnumber)) := by
  refine ik_metW RX7 rfl (by decide) (Nat.le_of_ble_eq_true rfl) [(0, .ref h0)] rfl ?_
  intro p e s m below meth c C hr hlk
  unfold f_X7_draw at hf
  refine ik_aload_n C 0 rfl rfl dX7_draw_0 ?_
  refine ik_get C inlX7 0 rfl rfl 0 (by decide) wl_4_12 rfl (v := .ref h1) rfl dX7_draw_1 ?_
  refine ik_iconst (v := (4 : Int32)) C (by decide) dX7_draw_4 ?_
  refine ik_aload_n C 0 rfl rfl dX7_draw_5 ?_
  refine ik_get C inlX7 0 rfl rfl 0 (by decide) wl_4_12 rfl (v := .ref h1) rfl dX7_draw_6 ?_
  refine ik_iconst (v := (4 : Int32)) C (by decide) dX7_draw_9 ?_
  refine ik_iald C 1 rfl (ik_vin (by decide)) dX7_draw_10 ?_
  refine ik_ldc C wl_34_3 dX7_draw_11 ?_
  refine ik_imul C dX7_draw_13 ?_
  refine ik_sipush (v := (12345 : Int32)) C (by decide) dX7_draw_14 ?_
  refine ik_iadd C dX7_draw_17 ?_
  refine ik_iast C 1 rfl (ik_vin (by decide)) (wz_X7 cI cS h0 h1 h2 h3 h4 h5 h6 h7 h8 h9 h10 h11 misKept mtaped msort mfrom mto mvalue mbad (upd mm ((4 : Int32)).toNatClampNeg (((mm ((4 : Int32)).toNatClampNeg) * (1103515245 : Int32)) + (12345 : Int32))) mkept mwas mother mfound mwarm mdrip mtape mbits msize mnumber) rfl dX7_draw_18 ?_
  refine ik_aload_n C 0 rfl rfl dX7_draw_19 ?_
  refine ik_get C inlX7 0 rfl rfl 0 (by decide) wl_4_12 rfl (v := .ref h1) rfl dX7_draw_20 ?_
  refine ik_iconst (v := (4 : Int32)) C (by decide) dX7_draw_23 ?_
  refine ik_iald C 1 rfl (ik_vin (by decide)) dX7_draw_24 ?_
  refine ik_bipush (v := (8 : Int32)) C (by decide) dX7_draw_25 ?_
  refine ik_iushr C dX7_draw_27 ?_
  cases hf
  exact ik_iretW C hr hlk dX7_draw_28
theorem mv_X7_wind : ik_V yX7_wind RX7 cX7_wind 4 (some .int) 1 := ⟨wl_33_20, wl_33_21, wl_1_5, wl_33_22, by decide +kernel⟩
set_option maxHeartbeats 4000000 in
set_option maxRecDepth 100000 in
theorem c_X7_wind (l : Launch) (D : va_G) (cI cS : ClassId) (h0 h1 h2 h3 h4 h5 h6 h7 h8 h9 h10 h11 : Nat) (misKept : Int32) (mtaped : Int32) (msort : Int32) (mfrom : Int32) (mto : Int32) (mvalue : Int32) (mbad : Int32) (mm : Nat → Int32) (mkept : Nat → Int32) (mwas : Nat → Int32) (mother : Nat → Int32) (mfound : Nat → Int32) (mwarm : Nat → Int32) (mdrip : Nat → Int32) (mtape : Nat → Int32) (mbits : Nat → Int32) (msize : Nat → Int32) (mnumber : Nat → Int32) (x1 : Int32) (R : Int32) (mm_r : Nat → Int32) (mfound_r : Nat → Int32) (hf : f_X7_wind mm mfound x1 = some (R, mm_r, mfound_r)) : Met l yX7_wind (ik_ws yX7_wind cX7_wind 4 (some .int)) ({ frames := 2, cells := 0, slots := 0, locals := 43 } : Room) (ik_P D cI cS [.ref h0, .int x1] (wz_X7 cI cS h0 h1 h2 h3 h4 h5 h6 h7 h8 h9 h10 h11 misKept mtaped msort mfrom mto mvalue mbad mm mkept mwas mother mfound mwarm mdrip mtape mbits msize mnumber)) (ik_Q (some (.int R)) D (wz_X7 cI cS h0 h1 h2 h3 h4 h5 h6 h7 h8 h9 h10 h11 misKept mtaped msort mfrom mto mvalue mbad mm_r mkept mwas mother mfound_r mwarm mdrip mtape mbits msize mnumber) (wz_X7 cI cS h0 h1 h2 h3 h4 h5 h6 h7 h8 h9 h10 h11 misKept mtaped msort mfrom mto mvalue mbad mm mkept mwas mother mfound mwarm mdrip mtape mbits msize mnumber)) 0 0 (ik_in (wz_X7 cI cS h0 h1 h2 h3 h4 h5 h6 h7 h8 h9 h10 h11 misKept mtaped msort mfrom mto mvalue mbad mm mkept mwas mother mfound mwarm mdrip mtape mbits msize mnumber)) := by
  refine ik_metW RX7 rfl (by decide) (Nat.le_of_ble_eq_true rfl) [(0, .ref h0), (1, .int x1)] rfl ?_
  intro p e s m below meth c C hr hlk
  unfold f_X7_wind at hf
  refine ik_iload_n C 1 rfl rfl dX7_wind_0 ?_
  refine ik_i2l C dX7_wind_1 ?_
  refine ik_lconst (v := (1 : Int64)) C (by decide) dX7_wind_2 ?_
  refine ik_ldc2 C wl_16_20 dX7_wind_3 ?_
  obtain ⟨r1, hc1, hf⟩ := ik_b1s hf
  refine ik_goR (ik_runS C (c_X7_in l D cI cS (x1).toInt64 (1 : Int64) (20 : Int64) r1 hc1) ms_X7_in wl_6_21 ⟨rfl, rfl, Nat.le_of_ble_eq_true rfl, Nat.le_of_ble_eq_true rfl⟩ [] rfl (by decide) rfl rfl (Nat.le_of_ble_eq_true rfl) dX7_wind_6) rfl ?_
  refine ik_if_ne C 19 dX7_wind_9 (by decide) (fun hc => ?_) (fun hc => ?_)
  · have hf := ik_neg hc hf
    refine ik_iconst (v := (0 : Int32)) C (by decide) dX7_wind_19 ?_
    refine ik_istore_n C [(2, .int (0 : Int32)), (0, .ref h0), (1, .int x1)] rfl (by decide) rfl dX7_wind_20 ?_
    have hL_21 : ∀ (n_21 : Nat) (mm_21 : Nat → Int32) (x2_21 : Int32), ik_lp2 (b_X7_wind_21 mfound x1) n_21 mm_21 x2_21 = some (R, mm_r, mfound_r) → ik_G p l e ({ frames := 2, cells := 0, slots := 0, locals := 43 } : Room) s m ([.ref h0, .int x1] : List Value).toArray below meth c D (ik_in (wz_X7 cI cS h0 h1 h2 h3 h4 h5 h6 h7 h8 h9 h10 h11 misKept mtaped msort mfrom mto mvalue mbad mm mkept mwas mother mfound mwarm mdrip mtape mbits msize mnumber)) (ik_in (wz_X7 cI cS h0 h1 h2 h3 h4 h5 h6 h7 h8 h9 h10 h11 misKept mtaped msort mfrom mto mvalue mbad mm mkept mwas mother mfound mwarm mdrip mtape mbits msize mnumber)) 4 (MQ below (ik_Q (some (.int R)) D (wz_X7 cI cS h0 h1 h2 h3 h4 h5 h6 h7 h8 h9 h10 h11 misKept mtaped msort mfrom mto mvalue mbad mm_r mkept mwas mother mfound_r mwarm mdrip mtape mbits msize mnumber) (wz_X7 cI cS h0 h1 h2 h3 h4 h5 h6 h7 h8 h9 h10 h11 misKept mtaped msort mfrom mto mvalue mbad mm mkept mwas mother mfound mwarm mdrip mtape mbits msize mnumber)) ([.ref h0, .int x1] : List Value).toArray s 0 0 (ik_in (wz_X7 cI cS h0 h1 h2 h3 h4 h5 h6 h7 h8 h9 h10 h11 misKept mtaped msort mfrom mto mvalue mbad mm mkept mwas mother mfound mwarm mdrip mtape mbits msize mnumber))) 21 [(2, .int x2_21), (0, .ref h0), (1, .int x1)] [] (wz_X7 cI cS h0 h1 h2 h3 h4 h5 h6 h7 h8 h9 h10 h11 misKept mtaped msort mfrom mto mvalue mbad mm_21 mkept mwas mother mfound mwarm mdrip mtape mbits msize mnumber) := by
      intro n_21
      induction n_21 with
      | zero => intro _ _ hf; exact nomatch hf
      | succ n_21 ih_21 =>
        intro mm_21 x2_21 hf
        replace hf : b_X7_wind_21 mfound x1 (ik_lp2 (b_X7_wind_21 mfound x1) n_21) mm_21 x2_21 = some (R, mm_r, mfound_r) := hf
        unfold b_X7_wind_21 at hf
        refine ik_iload_n C 0 rfl rfl dX7_wind_21 ?_
        refine ik_iload_n C 2 rfl rfl dX7_wind_22 ?_
        refine ik_icmp_ge C 68 dX7_wind_23 (by decide) (fun hc => ?_) (fun hc => ?_)
        · have hf := ik_pos hc hf
          refine ik_aload_n C 1 rfl rfl dX7_wind_68 ?_
          obtain ⟨r2, hc2, hf⟩ := ik_b1s hf
          refine ik_goR (ik_runV C (c_X7_light l D cI cS h0 h1 h2 h3 h4 h5 h6 h7 h8 h9 h10 h11 misKept mtaped msort mfrom mto mvalue mbad mm_21 mkept mwas mother mfound mwarm mdrip mtape mbits msize mnumber r2 hc2) mv_X7_light wl_27_7 ⟨rfl, rfl, Nat.le_of_ble_eq_true rfl, Nat.le_of_ble_eq_true rfl⟩ [0, 1, 2, 3, 4, 5, 6, 7, 8, 9, 10, 11] rfl (by decide) 0 rfl rfl rfl rfl (Nat.le_of_ble_eq_true rfl) dX7_wind_69) rfl ?_
          cases hf
          exact ik_iretW C hr hlk dX7_wind_72
        · have hf := ik_neg hc hf
          refine ik_aload_n C 1 rfl rfl dX7_wind_26 ?_
          obtain ⟨r2, g3, hc3, hf⟩ := ik_b2s hf
          refine ik_goW [0, 1, 2, 3, 4, 5, 6, 7, 8, 9, 10, 11] rfl rfl (wz_X7 cI cS h0 h1 h2 h3 h4 h5 h6 h7 h8 h9 h10 h11 misKept mtaped msort mfrom mto mvalue mbad g3 mkept mwas mother mfound mwarm mdrip mtape mbits msize mnumber) rfl (ik_runV C (c_X7_draw l D cI cS h0 h1 h2 h3 h4 h5 h6 h7 h8 h9 h10 h11 misKept mtaped msort mfrom mto mvalue mbad mm_21 mkept mwas mother mfound mwarm mdrip mtape mbits msize mnumber r2 g3 hc3) mv_X7_draw wl_33_23 ⟨rfl, rfl, Nat.le_of_ble_eq_true rfl, Nat.le_of_ble_eq_true rfl⟩ [0, 1, 2, 3, 4, 5, 6, 7, 8, 9, 10, 11] rfl (by decide) 0 rfl rfl rfl rfl (Nat.le_of_ble_eq_true rfl) dX7_wind_27) rfl ?_
          refine ik_bipush (v := (6 : Int32)) C (by decide) dX7_wind_30 ?_
          refine ik_irem C (by decide) dX7_wind_32 ?_
          refine ik_istore_n C [(3, .int (r2 - r2 / (6 : Int32) * (6 : Int32))), (2, .int x2_21), (0, .ref h0), (1, .int x1)] rfl (by decide) rfl dX7_wind_33 ?_
          refine ik_aload_n C 2 rfl rfl dX7_wind_34 ?_
          refine ik_get C inlX7 0 rfl rfl 0 (by decide) wl_4_12 rfl (v := .ref h1) rfl dX7_wind_35 ?_
          refine ik_bipush (v := (6 : Int32)) C (by decide) dX7_wind_38 ?_
          refine ik_iconst (v := (3 : Int32)) C (by decide) dX7_wind_40 ?_
          refine ik_iload_n C 0 rfl rfl dX7_wind_41 ?_
          refine ik_imul C dX7_wind_42 ?_
          refine ik_iadd C dX7_wind_43 ?_
          refine ik_iconst (v := (2 : Int32)) C (by decide) dX7_wind_44 ?_
          refine ik_iadd C dX7_wind_45 ?_
          refine ik_iconst (v := (1 : Int32)) C (by decide) dX7_wind_46 ?_
          refine ik_aload_n C 2 rfl rfl dX7_wind_47 ?_
          refine ik_get C inlX7 0 rfl rfl 0 (by decide) wl_4_12 rfl (v := .ref h1) rfl dX7_wind_48 ?_
          refine ik_bipush (v := (6 : Int32)) C (by decide) dX7_wind_51 ?_
          refine ik_iconst (v := (3 : Int32)) C (by decide) dX7_wind_53 ?_
          refine ik_iload_n C 0 rfl rfl dX7_wind_54 ?_
          refine ik_imul C dX7_wind_55 ?_
          refine ik_iadd C dX7_wind_56 ?_
          refine ik_iconst (v := (2 : Int32)) C (by decide) dX7_wind_57 ?_
          refine ik_iadd C dX7_wind_58 ?_
          have hg := ik_gdi hf
          have hf := ik_gdk hf
          refine ik_iald C 1 rfl hg dX7_wind_59 ?_
          refine ik_isub C dX7_wind_60 ?_
          have hg := ik_gdi hf
          have hf := ik_gdk hf
          refine ik_iast C 1 rfl hg (wz_X7 cI cS h0 h1 h2 h3 h4 h5 h6 h7 h8 h9 h10 h11 misKept mtaped msort mfrom mto mvalue mbad (upd g3 ((((6 : Int32) + ((3 : Int32) * (r2 - r2 / (6 : Int32) * (6 : Int32)))) + (2 : Int32))).toNatClampNeg ((1 : Int32) - (g3 ((((6 : Int32) + ((3 : Int32) * (r2 - r2 / (6 : Int32) * (6 : Int32)))) + (2 : Int32))).toNatClampNeg))) mkept mwas mother mfound mwarm mdrip mtape mbits msize mnumber) rfl dX7_wind_61 ?_
          refine ik_iinc C [(2, .int (x2_21 + (1 : Int32))), (3, .int (r2 - r2 / (6 : Int32) * (6 : Int32))), (0, .ref h0), (1, .int x1)] 1 rfl rfl (by decide) rfl dX7_wind_62 ?_
          refine ik_goto C 21 dX7_wind_65 (by decide) ?_
          exact ik_sub [0, 2, 3] [(2, .int (x2_21 + (1 : Int32))), (0, .ref h0), (1, .int x1)] rfl (ih_21 (upd g3 ((((6 : Int32) + ((3 : Int32) * (r2 - r2 / (6 : Int32) * (6 : Int32)))) + (2 : Int32))).toNatClampNeg ((1 : Int32) - (g3 ((((6 : Int32) + ((3 : Int32) * (r2 - r2 / (6 : Int32) * (6 : Int32)))) + (2 : Int32))).toNatClampNeg))) (x2_21 + (1 : Int32)) hf)
    exact hL_21 ik_fu mm (0 : Int32) hf
  · have hf := ik_pos hc hf
    refine ik_aload_n C 0 rfl rfl dX7_wind_12 ?_
    refine ik_ldc C wl_6_14 dX7_wind_13 ?_
    obtain ⟨r2, g3, hc3, hf⟩ := ik_b2s hf
    refine ik_goW [0, 1, 2, 3, 4, 5, 6, 7, 8, 9, 10, 11] rfl rfl (wz_X7 cI cS h0 h1 h2 h3 h4 h5 h6 h7 h8 h9 h10 h11 misKept mtaped msort mfrom mto mvalue mbad mm mkept mwas mother g3 mwarm mdrip mtape mbits msize mnumber) rfl (ik_runV C (c_X7_finds l D cI cS h0 h1 h2 h3 h4 h5 h6 h7 h8 h9 h10 h11 misKept mtaped msort mfrom mto mvalue mbad mm mkept mwas mother mfound mwarm mdrip mtape mbits msize mnumber (-1000001 : Int32) r2 g3 hc3) mv_X7_finds wl_7_8 ⟨rfl, rfl, Nat.le_of_ble_eq_true rfl, Nat.le_of_ble_eq_true rfl⟩ [0, 1, 2, 3, 4, 5, 6, 7, 8, 9, 10, 11] rfl (by decide) 0 rfl rfl rfl rfl (Nat.le_of_ble_eq_true rfl) dX7_wind_15) rfl ?_
    cases hf
    exact ik_iretW C hr hlk dX7_wind_18
