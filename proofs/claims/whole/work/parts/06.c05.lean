theorem mv_X7_goneIn : ik_V yX7_goneIn RX7 cX7_goneIn 4 (some .int) 2 := ⟨wl_26_0, wl_26_1, wl_1_5, wl_26_2, by decide +kernel⟩
set_option maxHeartbeats 4000000 in
set_option maxRecDepth 100000 in
theorem c_X7_goneIn (l : Launch) (D : va_G) (cI cS : ClassId) (h0 h1 h2 h3 h4 h5 h6 h7 h8 h9 h10 h11 : Nat) (misKept : Int32) (mtaped : Int32) (msort : Int32) (mfrom : Int32) (mto : Int32) (mvalue : Int32) (mbad : Int32) (mm : Nat → Int32) (mkept : Nat → Int32) (mwas : Nat → Int32) (mother : Nat → Int32) (mfound : Nat → Int32) (mwarm : Nat → Int32) (mdrip : Nat → Int32) (mtape : Nat → Int32) (mbits : Nat → Int32) (msize : Nat → Int32) (mnumber : Nat → Int32) (x1 : Int32) (x2 : Int32) (R : Int32) (mm_r : Nat → Int32) (mwas_r : Nat → Int32) (mwarm_r : Nat → Int32) (mdrip_r : Nat → Int32) (hf : f_X7_goneIn mm mwas mwarm mdrip x1 x2 = some (R, mm_r, mwas_r, mwarm_r, mdrip_r)) : Met l yX7_goneIn (ik_ws yX7_goneIn cX7_goneIn 4 (some .int)) ({ frames := 8, cells := 0, slots := 0, locals := 180 } : Room) (ik_P D cI cS [.ref h0, .int x1, .int x2] (wz_X7 cI cS h0 h1 h2 h3 h4 h5 h6 h7 h8 h9 h10 h11 misKept mtaped msort mfrom mto mvalue mbad mm mkept mwas mother mfound mwarm mdrip mtape mbits msize mnumber)) (ik_Q (some (.int R)) D (wz_X7 cI cS h0 h1 h2 h3 h4 h5 h6 h7 h8 h9 h10 h11 misKept mtaped msort mfrom mto mvalue mbad mm_r mkept mwas_r mother mfound mwarm_r mdrip_r mtape mbits msize mnumber) (wz_X7 cI cS h0 h1 h2 h3 h4 h5 h6 h7 h8 h9 h10 h11 misKept mtaped msort mfrom mto mvalue mbad mm mkept mwas mother mfound mwarm mdrip mtape mbits msize mnumber)) 0 0 (ik_in (wz_X7 cI cS h0 h1 h2 h3 h4 h5 h6 h7 h8 h9 h10 h11 misKept mtaped msort mfrom mto mvalue mbad mm mkept mwas mother mfound mwarm mdrip mtape mbits msize mnumber)) := by
  refine ik_metW RX7 rfl (by decide) (Nat.le_of_ble_eq_true rfl) [(0, .ref h0), (1, .int x1), (2, .int x2)] rfl ?_
  intro p e s m below meth c C hr hlk
  unfold f_X7_goneIn at hf
  refine ik_aload_n C 0 rfl rfl dX7_goneIn_0 ?_
  refine ik_get C inlX7 0 rfl rfl 0 (by decide) wl_4_12 rfl (v := .ref h1) rfl dX7_goneIn_1 ?_
  refine ik_aload_n C 0 rfl rfl dX7_goneIn_4 ?_
  refine ik_get C inlX7 0 rfl rfl 2 (by decide) wl_4_14 rfl (v := .ref h3) rfl dX7_goneIn_5 ?_
  obtain ⟨g1, hc1, hf⟩ := ik_b1s hf
  have hM := (c_X7_row l D cI cS h1 h3 mm mwas g1 hc1)
  refine ik_goW (v := none) (wc := (wz_row cI cS h1 h3 mm mwas)) (w1 := (wz_row cI cS h1 h3 mm g1)) [1, 3] [0, 2, 4, 5, 6, 7, 8, 9, 10, 11] 12 rfl rfl (wz_X7 cI cS h0 h1 h2 h3 h4 h5 h6 h7 h8 h9 h10 h11 misKept mtaped msort mfrom mto mvalue mbad mm mkept g1 mother mfound mwarm mdrip mtape mbits msize mnumber) rfl [(h0, .inr (7, [.ref h1, .ref h2, .ref h3, .ref h4, .int misKept, .ref h5, .ref h6, .ref h7, .ref h8, .int mtaped, .int msort, .int mfrom, .int mto, .int mvalue, .int mbad, .ref h9, .ref h10, .ref h11])), (h2, .inl (cI, 82, .inl mkept)), (h4, .inl (cI, 82, .inl mother)), (h5, .inl (cI, 7, .inl mfound)), (h6, .inl (cI, 16, .inl mwarm)), (h7, .inl (cI, 8, .inl mdrip)), (h8, .inl (cI, 120, .inl mtape)), (h9, .inl (cI, 4, .inl mbits)), (h10, .inl (cI, 4, .inl msize)), (h11, .inl (cI, 160, .inl mnumber))] rfl rfl rfl (by decide +kernel) (ik_runS (st := []) (As := [.ref h1, .ref h3]) C hM ms_X7_row wl_24_22 ⟨rfl, rfl, Nat.le_of_ble_eq_true rfl, Nat.le_of_ble_eq_true rfl⟩ [1, 3] rfl (by decide +kernel) rfl rfl (Nat.le_of_ble_eq_true rfl) dX7_goneIn_8 ⟨Nat.zero_le _, Nat.zero_le _⟩) rfl ?_
  refine ik_iconst (v := (0 : Int32)) C (by decide) dX7_goneIn_11 ?_
  refine ik_istore_n C [(3, .int (0 : Int32)), (0, .ref h0), (1, .int x1), (2, .int x2)] rfl (by decide) rfl dX7_goneIn_12 ?_
  have hL_13 : ∀ (n_13 : Nat) (mm_13 : Nat → Int32) (mwarm_13 : Nat → Int32) (mdrip_13 : Nat → Int32) (x3_13 : Int32), ik_lp4 (b_X7_goneIn_13 x1 x2 g1) n_13 mm_13 mwarm_13 mdrip_13 x3_13 = some (R, mm_r, mwas_r, mwarm_r, mdrip_r) → ik_G p l e ({ frames := 8, cells := 0, slots := 0, locals := 180 } : Room) s m ([.ref h0, .int x1, .int x2] : List Value).toArray below meth c D (ik_in (wz_X7 cI cS h0 h1 h2 h3 h4 h5 h6 h7 h8 h9 h10 h11 misKept mtaped msort mfrom mto mvalue mbad mm mkept mwas mother mfound mwarm mdrip mtape mbits msize mnumber)) (ik_in (wz_X7 cI cS h0 h1 h2 h3 h4 h5 h6 h7 h8 h9 h10 h11 misKept mtaped msort mfrom mto mvalue mbad mm mkept mwas mother mfound mwarm mdrip mtape mbits msize mnumber)) 4 0 0 (MQ below (ik_Q (some (.int R)) D (wz_X7 cI cS h0 h1 h2 h3 h4 h5 h6 h7 h8 h9 h10 h11 misKept mtaped msort mfrom mto mvalue mbad mm_r mkept mwas_r mother mfound mwarm_r mdrip_r mtape mbits msize mnumber) (wz_X7 cI cS h0 h1 h2 h3 h4 h5 h6 h7 h8 h9 h10 h11 misKept mtaped msort mfrom mto mvalue mbad mm mkept mwas mother mfound mwarm mdrip mtape mbits msize mnumber)) ([.ref h0, .int x1, .int x2] : List Value).toArray s 0 0 (ik_in (wz_X7 cI cS h0 h1 h2 h3 h4 h5 h6 h7 h8 h9 h10 h11 misKept mtaped msort mfrom mto mvalue mbad mm mkept mwas mother mfound mwarm mdrip mtape mbits msize mnumber))) 13 [(3, .int x3_13), (0, .ref h0), (1, .int x1), (2, .int x2)] [] (wz_X7 cI cS h0 h1 h2 h3 h4 h5 h6 h7 h8 h9 h10 h11 misKept mtaped msort mfrom mto mvalue mbad mm_13 mkept g1 mother mfound mwarm_13 mdrip_13 mtape mbits msize mnumber) := by
    intro n_13
    induction n_13 with
    | zero => intro _ _ _ _ hf; exact nomatch hf
    | succ n_13 ih_13 =>
      intro mm_13 mwarm_13 mdrip_13 x3_13 hf
      replace hf : b_X7_goneIn_13 x1 x2 g1 (ik_lp4 (b_X7_goneIn_13 x1 x2 g1) n_13) mm_13 mwarm_13 mdrip_13 x3_13 = some (R, mm_r, mwas_r, mwarm_r, mdrip_r) := hf
      unfold b_X7_goneIn_13 at hf
      refine ik_iload_n C 0 rfl rfl dX7_goneIn_13 ?_
      refine ik_iload_n C 3 rfl rfl dX7_goneIn_14 ?_
      refine ik_icmp_gt C 41 dX7_goneIn_15 (by decide) (fun hc => ?_) (fun hc => ?_)
      · have hf := ik_pos hc hf
        refine ik_aload_n C 1 rfl rfl dX7_goneIn_41 ?_
        refine ik_get C inlX7 0 rfl rfl 2 (by decide) wl_4_14 rfl (v := .ref h3) rfl dX7_goneIn_42 ?_
        refine ik_aload_n C 1 rfl rfl dX7_goneIn_45 ?_
        refine ik_get C inlX7 0 rfl rfl 0 (by decide) wl_4_12 rfl (v := .ref h1) rfl dX7_goneIn_46 ?_
        obtain ⟨g2, hc2, hf⟩ := ik_b1s hf
        have hM := (c_X7_row l D cI cS h3 h1 g1 mm_13 g2 hc2)
        refine ik_goW (v := none) (wc := (wz_row cI cS h3 h1 g1 mm_13)) (w1 := (wz_row cI cS h3 h1 g1 g2)) [3, 1] [0, 2, 4, 5, 6, 7, 8, 9, 10, 11] 12 rfl rfl (wz_X7 cI cS h0 h1 h2 h3 h4 h5 h6 h7 h8 h9 h10 h11 misKept mtaped msort mfrom mto mvalue mbad g2 mkept g1 mother mfound mwarm_13 mdrip_13 mtape mbits msize mnumber) rfl [(h0, .inr (7, [.ref h1, .ref h2, .ref h3, .ref h4, .int misKept, .ref h5, .ref h6, .ref h7, .ref h8, .int mtaped, .int msort, .int mfrom, .int mto, .int mvalue, .int mbad, .ref h9, .ref h10, .ref h11])), (h2, .inl (cI, 82, .inl mkept)), (h4, .inl (cI, 82, .inl mother)), (h5, .inl (cI, 7, .inl mfound)), (h6, .inl (cI, 16, .inl mwarm_13)), (h7, .inl (cI, 8, .inl mdrip_13)), (h8, .inl (cI, 120, .inl mtape)), (h9, .inl (cI, 4, .inl mbits)), (h10, .inl (cI, 4, .inl msize)), (h11, .inl (cI, 160, .inl mnumber))] rfl rfl rfl (by decide +kernel) (ik_runS (st := []) (As := [.ref h3, .ref h1]) C hM ms_X7_row wl_24_22 ⟨rfl, rfl, Nat.le_of_ble_eq_true rfl, Nat.le_of_ble_eq_true rfl⟩ [3, 1] rfl (by decide +kernel) rfl rfl (Nat.le_of_ble_eq_true rfl) dX7_goneIn_49 ⟨Nat.zero_le _, Nat.zero_le _⟩) rfl ?_
        refine ik_iload_n C 0 rfl rfl dX7_goneIn_52 ?_
        obtain ⟨rfl, rfl, rfl, rfl, rfl⟩ := ik_e5 hf
        exact ik_iretW C hr hlk dX7_goneIn_53
      · have hf := ik_neg hc hf
        refine ik_aload_n C 1 rfl rfl dX7_goneIn_18 ?_
        refine ik_iload_n C 2 rfl rfl dX7_goneIn_19 ?_
        obtain ⟨r2, hc2, hf⟩ := ik_b1s hf
        have hM := (c_X7_isGone l D cI cS h0 h1 h2 h3 h4 h5 h6 h7 h8 h9 h10 h11 misKept mtaped msort mfrom mto mvalue mbad mm_13 mkept g1 mother mfound mwarm_13 mdrip_13 mtape mbits msize mnumber x1 r2 hc2)
        refine ik_goR (ik_runV (st := []) (As := [.int x1]) C hM mv_X7_isGone wl_10_5 ⟨rfl, rfl, Nat.le_of_ble_eq_true rfl, Nat.le_of_ble_eq_true rfl⟩ [0, 1, 2, 3, 4, 5, 6, 7, 8, 9, 10, 11] rfl (by decide +kernel) 0 rfl rfl rfl rfl (Nat.le_of_ble_eq_true rfl) dX7_goneIn_20 ⟨Nat.zero_le _, Nat.zero_le _⟩) rfl ?_
        refine ik_if_ne C 41 dX7_goneIn_23 (by decide) (fun hc => ?_) (fun hc => ?_)
        · have hf := ik_neg hc hf
          refine ik_aload_n C 1 rfl rfl dX7_goneIn_41 ?_
          refine ik_get C inlX7 0 rfl rfl 2 (by decide) wl_4_14 rfl (v := .ref h3) rfl dX7_goneIn_42 ?_
          refine ik_aload_n C 1 rfl rfl dX7_goneIn_45 ?_
          refine ik_get C inlX7 0 rfl rfl 0 (by decide) wl_4_12 rfl (v := .ref h1) rfl dX7_goneIn_46 ?_
          obtain ⟨g3, hc3, hf⟩ := ik_b1s hf
          have hM := (c_X7_row l D cI cS h3 h1 g1 mm_13 g3 hc3)
          refine ik_goW (v := none) (wc := (wz_row cI cS h3 h1 g1 mm_13)) (w1 := (wz_row cI cS h3 h1 g1 g3)) [3, 1] [0, 2, 4, 5, 6, 7, 8, 9, 10, 11] 12 rfl rfl (wz_X7 cI cS h0 h1 h2 h3 h4 h5 h6 h7 h8 h9 h10 h11 misKept mtaped msort mfrom mto mvalue mbad g3 mkept g1 mother mfound mwarm_13 mdrip_13 mtape mbits msize mnumber) rfl [(h0, .inr (7, [.ref h1, .ref h2, .ref h3, .ref h4, .int misKept, .ref h5, .ref h6, .ref h7, .ref h8, .int mtaped, .int msort, .int mfrom, .int mto, .int mvalue, .int mbad, .ref h9, .ref h10, .ref h11])), (h2, .inl (cI, 82, .inl mkept)), (h4, .inl (cI, 82, .inl mother)), (h5, .inl (cI, 7, .inl mfound)), (h6, .inl (cI, 16, .inl mwarm_13)), (h7, .inl (cI, 8, .inl mdrip_13)), (h8, .inl (cI, 120, .inl mtape)), (h9, .inl (cI, 4, .inl mbits)), (h10, .inl (cI, 4, .inl msize)), (h11, .inl (cI, 160, .inl mnumber))] rfl rfl rfl (by decide +kernel) (ik_runS (st := []) (As := [.ref h3, .ref h1]) C hM ms_X7_row wl_24_22 ⟨rfl, rfl, Nat.le_of_ble_eq_true rfl, Nat.le_of_ble_eq_true rfl⟩ [3, 1] rfl (by decide +kernel) rfl rfl (Nat.le_of_ble_eq_true rfl) dX7_goneIn_49 ⟨Nat.zero_le _, Nat.zero_le _⟩) rfl ?_
          refine ik_iload_n C 0 rfl rfl dX7_goneIn_52 ?_
          obtain ⟨rfl, rfl, rfl, rfl, rfl⟩ := ik_e5 hf
          exact ik_iretW C hr hlk dX7_goneIn_53
        · have hf := ik_pos hc hf
          refine ik_iinc C [(3, .int (x3_13 + (1 : Int32))), (0, .ref h0), (1, .int x1), (2, .int x2)] 0 rfl rfl (by decide) rfl dX7_goneIn_26 ?_
          refine ik_iload_n C 0 rfl rfl dX7_goneIn_29 ?_
          refine ik_iload_n C 3 rfl rfl dX7_goneIn_30 ?_
          refine ik_icmp_gt C 13 dX7_goneIn_31 (by decide) (fun hc => ?_) (fun hc => ?_)
          · have hf := ik_pos hc hf
            exact ik_sub [0, 1, 2, 3] [(3, .int (x3_13 + (1 : Int32))), (0, .ref h0), (1, .int x1), (2, .int x2)] rfl (ih_13 mm_13 mwarm_13 mdrip_13 (x3_13 + (1 : Int32)) hf)
          · have hf := ik_neg hc hf
            refine ik_aload_n C 1 rfl rfl dX7_goneIn_34 ?_
            obtain ⟨g3, g4, g5, hc5, hf⟩ := ik_b3s hf
            have hM := (c_X7_hour l D cI cS h0 h1 h2 h3 h4 h5 h6 h7 h8 h9 h10 h11 misKept mtaped msort mfrom mto mvalue mbad mm_13 mkept g1 mother mfound mwarm_13 mdrip_13 mtape mbits msize mnumber g3 g4 g5 hc5)
            refine ik_goW (v := none) (wc := (wz_X7 cI cS h0 h1 h2 h3 h4 h5 h6 h7 h8 h9 h10 h11 misKept mtaped msort mfrom mto mvalue mbad mm_13 mkept g1 mother mfound mwarm_13 mdrip_13 mtape mbits msize mnumber)) (w1 := (wz_X7 cI cS h0 h1 h2 h3 h4 h5 h6 h7 h8 h9 h10 h11 misKept mtaped msort mfrom mto mvalue mbad g3 mkept g1 mother mfound g4 g5 mtape mbits msize mnumber)) [0, 1, 2, 3, 4, 5, 6, 7, 8, 9, 10, 11] [] 12 rfl rfl (wz_X7 cI cS h0 h1 h2 h3 h4 h5 h6 h7 h8 h9 h10 h11 misKept mtaped msort mfrom mto mvalue mbad g3 mkept g1 mother mfound g4 g5 mtape mbits msize mnumber) rfl [] rfl rfl rfl (by decide +kernel) (ik_runV (st := []) (As := []) C hM mv_X7_hour wl_20_18 ⟨rfl, rfl, Nat.le_of_ble_eq_true rfl, Nat.le_of_ble_eq_true rfl⟩ [0, 1, 2, 3, 4, 5, 6, 7, 8, 9, 10, 11] rfl (by decide +kernel) 0 rfl rfl rfl rfl (Nat.le_of_ble_eq_true rfl) dX7_goneIn_35 ⟨Nat.zero_le _, Nat.zero_le _⟩) rfl ?_
            refine ik_goto C 13 dX7_goneIn_38 (by decide) ?_
            exact ik_sub [0, 1, 2, 3] [(3, .int (x3_13 + (1 : Int32))), (0, .ref h0), (1, .int x1), (2, .int x2)] rfl (ih_13 g3 g4 g5 (x3_13 + (1 : Int32)) hf)
  exact hL_13 ik_fu mm mwarm mdrip (0 : Int32) hf
theorem mv_X7_isFarOn : ik_V yX7_isFarOn RX7 cX7_isFarOn 2 (some .boolean) 1 := ⟨wl_25_20, wl_25_21, wl_1_5, wl_25_22, by decide +kernel⟩
set_option maxHeartbeats 4000000 in
set_option maxRecDepth 100000 in
theorem c_X7_isFarOn (l : Launch) (D : va_G) (cI cS : ClassId) (h0 h1 h2 h3 h4 h5 h6 h7 h8 h9 h10 h11 : Nat) (misKept : Int32) (mtaped : Int32) (msort : Int32) (mfrom : Int32) (mto : Int32) (mvalue : Int32) (mbad : Int32) (mm : Nat → Int32) (mkept : Nat → Int32) (mwas : Nat → Int32) (mother : Nat → Int32) (mfound : Nat → Int32) (mwarm : Nat → Int32) (mdrip : Nat → Int32) (mtape : Nat → Int32) (mbits : Nat → Int32) (msize : Nat → Int32) (mnumber : Nat → Int32) (x1 : Int32) (R : Int32) (hf : f_X7_isFarOn mm x1 = some (R)) : Met l yX7_isFarOn (ik_ws yX7_isFarOn cX7_isFarOn 2 (some .boolean)) ({ frames := 0, cells := 0, slots := 0, locals := 0 } : Room) (ik_P D cI cS [.ref h0, .int x1] (wz_X7 cI cS h0 h1 h2 h3 h4 h5 h6 h7 h8 h9 h10 h11 misKept mtaped msort mfrom mto mvalue mbad mm mkept mwas mother mfound mwarm mdrip mtape mbits msize mnumber)) (ik_R (some (.int R))) 0 0 ik_no := by
  refine ik_metR RX7 rfl (by decide) (Nat.le_of_ble_eq_true rfl) [(0, .ref h0), (1, .int x1)] rfl ?_
  intro p e s m below meth c C hr hlk
  unfold f_X7_isFarOn at hf
  refine ik_aload_n C 0 rfl rfl dX7_isFarOn_0 ?_
  refine ik_get C inlX7 0 rfl rfl 0 (by decide) wl_4_12 rfl (v := .ref h1) rfl dX7_isFarOn_1 ?_
  refine ik_iconst (v := (0 : Int32)) C (by decide) dX7_isFarOn_4 ?_
  refine ik_iald C 1 rfl (ik_vin (by decide)) dX7_isFarOn_5 ?_
  refine ik_iload_n C 1 rfl rfl dX7_isFarOn_6 ?_
  refine ik_iadd C dX7_isFarOn_7 ?_
  refine ik_sipush (v := (9999 : Int32)) C (by decide) dX7_isFarOn_8 ?_
  refine ik_icmp_le C 18 dX7_isFarOn_11 (by decide) (fun hc => ?_) (fun hc => ?_)
  · have hf := ik_pos hc hf
    refine ik_iconst (v := (0 : Int32)) C (by decide) dX7_isFarOn_18 ?_
    obtain rfl := Option.some.inj hf
    exact ik_zretR C hr (by decide) hlk dX7_isFarOn_19
  · have hf := ik_neg hc hf
    refine ik_iconst (v := (1 : Int32)) C (by decide) dX7_isFarOn_14 ?_
    refine ik_goto C 19 dX7_isFarOn_15 (by decide) ?_
    obtain rfl := Option.some.inj hf
    exact ik_zretR C hr (by decide) hlk dX7_isFarOn_19
theorem mv_X7_goes : ik_V yX7_goes RX7 cX7_goes 3 (some .int) 1 := ⟨wl_25_15, wl_25_16, wl_1_5, wl_25_17, by decide +kernel⟩
set_option maxHeartbeats 4000000 in
set_option maxRecDepth 100000 in
theorem c_X7_goes (l : Launch) (D : va_G) (cI cS : ClassId) (h0 h1 h2 h3 h4 h5 h6 h7 h8 h9 h10 h11 : Nat) (misKept : Int32) (mtaped : Int32) (msort : Int32) (mfrom : Int32) (mto : Int32) (mvalue : Int32) (mbad : Int32) (mm : Nat → Int32) (mkept : Nat → Int32) (mwas : Nat → Int32) (mother : Nat → Int32) (mfound : Nat → Int32) (mwarm : Nat → Int32) (mdrip : Nat → Int32) (mtape : Nat → Int32) (mbits : Nat → Int32) (msize : Nat → Int32) (mnumber : Nat → Int32) (x1 : Int32) (R : Int32) (mm_r : Nat → Int32) (mwas_r : Nat → Int32) (mfound_r : Nat → Int32) (mwarm_r : Nat → Int32) (mdrip_r : Nat → Int32) (hf : f_X7_goes mm mwas mfound mwarm mdrip x1 = some (R, mm_r, mwas_r, mfound_r, mwarm_r, mdrip_r)) : Met l yX7_goes (ik_ws yX7_goes cX7_goes 3 (some .int)) ({ frames := 9, cells := 0, slots := 0, locals := 203 } : Room) (ik_P D cI cS [.ref h0, .int x1] (wz_X7 cI cS h0 h1 h2 h3 h4 h5 h6 h7 h8 h9 h10 h11 misKept mtaped msort mfrom mto mvalue mbad mm mkept mwas mother mfound mwarm mdrip mtape mbits msize mnumber)) (ik_Q (some (.int R)) D (wz_X7 cI cS h0 h1 h2 h3 h4 h5 h6 h7 h8 h9 h10 h11 misKept mtaped msort mfrom mto mvalue mbad mm_r mkept mwas_r mother mfound_r mwarm_r mdrip_r mtape mbits msize mnumber) (wz_X7 cI cS h0 h1 h2 h3 h4 h5 h6 h7 h8 h9 h10 h11 misKept mtaped msort mfrom mto mvalue mbad mm mkept mwas mother mfound mwarm mdrip mtape mbits msize mnumber)) 0 0 (ik_in (wz_X7 cI cS h0 h1 h2 h3 h4 h5 h6 h7 h8 h9 h10 h11 misKept mtaped msort mfrom mto mvalue mbad mm mkept mwas mother mfound mwarm mdrip mtape mbits msize mnumber)) := by
  refine ik_metW RX7 rfl (by decide) (Nat.le_of_ble_eq_true rfl) [(0, .ref h0), (1, .int x1)] rfl ?_
  intro p e s m below meth c C hr hlk
  unfold f_X7_goes at hf
  refine ik_aload_n C 0 rfl rfl dX7_goes_0 ?_
  refine ik_iload_n C 1 rfl rfl dX7_goes_1 ?_
  obtain ⟨r1, hc1, hf⟩ := ik_b1s hf
  have hM := (c_X7_isBlock l D cI cS h0 h1 h2 h3 h4 h5 h6 h7 h8 h9 h10 h11 misKept mtaped msort mfrom mto mvalue mbad mm mkept mwas mother mfound mwarm mdrip mtape mbits msize mnumber x1 r1 hc1)
  refine ik_goR (ik_runV (st := []) (As := [.int x1]) C hM mv_X7_isBlock wl_9_17 ⟨rfl, rfl, Nat.le_of_ble_eq_true rfl, Nat.le_of_ble_eq_true rfl⟩ [0, 1, 2, 3, 4, 5, 6, 7, 8, 9, 10, 11] rfl (by decide +kernel) 0 rfl rfl rfl rfl (Nat.le_of_ble_eq_true rfl) dX7_goes_2 ⟨Nat.zero_le _, Nat.zero_le _⟩) rfl ?_
  refine ik_if_ne C 15 dX7_goes_5 (by decide) (fun hc => ?_) (fun hc => ?_)
  · have hf := ik_neg hc hf
    refine ik_aload_n C 0 rfl rfl dX7_goes_15 ?_
    refine ik_iload_n C 1 rfl rfl dX7_goes_16 ?_
    obtain ⟨r2, hc2, hf⟩ := ik_b1s hf
    have hM := (c_X7_isGone l D cI cS h0 h1 h2 h3 h4 h5 h6 h7 h8 h9 h10 h11 misKept mtaped msort mfrom mto mvalue mbad mm mkept mwas mother mfound mwarm mdrip mtape mbits msize mnumber x1 r2 hc2)
    refine ik_goR (ik_runV (st := []) (As := [.int x1]) C hM mv_X7_isGone wl_10_5 ⟨rfl, rfl, Nat.le_of_ble_eq_true rfl, Nat.le_of_ble_eq_true rfl⟩ [0, 1, 2, 3, 4, 5, 6, 7, 8, 9, 10, 11] rfl (by decide +kernel) 0 rfl rfl rfl rfl (Nat.le_of_ble_eq_true rfl) dX7_goes_17 ⟨Nat.zero_le _, Nat.zero_le _⟩) rfl ?_
    refine ik_if_ne C 32 dX7_goes_20 (by decide) (fun hc => ?_) (fun hc => ?_)
    · have hf := ik_neg hc hf
      refine ik_aload_n C 0 rfl rfl dX7_goes_32 ?_
      refine ik_ldc C wl_6_16 dX7_goes_33 ?_
      obtain ⟨r3, g4, hc4, hf⟩ := ik_b2s hf
      have hM := (c_X7_finds l D cI cS h0 h1 h2 h3 h4 h5 h6 h7 h8 h9 h10 h11 misKept mtaped msort mfrom mto mvalue mbad mm mkept mwas mother mfound mwarm mdrip mtape mbits msize mnumber (-1000005 : Int32) r3 g4 hc4)
      refine ik_goW (v := (some (.int r3))) (wc := (wz_X7 cI cS h0 h1 h2 h3 h4 h5 h6 h7 h8 h9 h10 h11 misKept mtaped msort mfrom mto mvalue mbad mm mkept mwas mother mfound mwarm mdrip mtape mbits msize mnumber)) (w1 := (wz_X7 cI cS h0 h1 h2 h3 h4 h5 h6 h7 h8 h9 h10 h11 misKept mtaped msort mfrom mto mvalue mbad mm mkept mwas mother g4 mwarm mdrip mtape mbits msize mnumber)) [0, 1, 2, 3, 4, 5, 6, 7, 8, 9, 10, 11] [] 12 rfl rfl (wz_X7 cI cS h0 h1 h2 h3 h4 h5 h6 h7 h8 h9 h10 h11 misKept mtaped msort mfrom mto mvalue mbad mm mkept mwas mother g4 mwarm mdrip mtape mbits msize mnumber) rfl [] rfl rfl rfl (by decide +kernel) (ik_runV (st := []) (As := [.int (-1000005 : Int32)]) C hM mv_X7_finds wl_7_8 ⟨rfl, rfl, Nat.le_of_ble_eq_true rfl, Nat.le_of_ble_eq_true rfl⟩ [0, 1, 2, 3, 4, 5, 6, 7, 8, 9, 10, 11] rfl (by decide +kernel) 0 rfl rfl rfl rfl (Nat.le_of_ble_eq_true rfl) dX7_goes_35 ⟨Nat.zero_le _, Nat.zero_le _⟩) rfl ?_
      obtain ⟨rfl, rfl, rfl, rfl, rfl, rfl⟩ := ik_e6 hf
      exact ik_iretW C hr hlk dX7_goes_38
    · have hf := ik_pos hc hf
      refine ik_aload_n C 0 rfl rfl dX7_goes_23 ?_
      refine ik_bipush (v := (96 : Int32)) C (by decide) dX7_goes_24 ?_
      obtain ⟨r3, hc3, hf⟩ := ik_b1s hf
      have hM := (c_X7_isFarOn l D cI cS h0 h1 h2 h3 h4 h5 h6 h7 h8 h9 h10 h11 misKept mtaped msort mfrom mto mvalue mbad mm mkept mwas mother mfound mwarm mdrip mtape mbits msize mnumber (96 : Int32) r3 hc3)
      refine ik_goR (ik_runV (st := []) (As := [.int (96 : Int32)]) C hM mv_X7_isFarOn wl_25_19 ⟨rfl, rfl, Nat.le_of_ble_eq_true rfl, Nat.le_of_ble_eq_true rfl⟩ [0, 1, 2, 3, 4, 5, 6, 7, 8, 9, 10, 11] rfl (by decide +kernel) 0 rfl rfl rfl rfl (Nat.le_of_ble_eq_true rfl) dX7_goes_26 ⟨Nat.zero_le _, Nat.zero_le _⟩) rfl ?_
      refine ik_if_eq C 39 dX7_goes_29 (by decide) (fun hc => ?_) (fun hc => ?_)
      · have hf := ik_pos hc hf
        refine ik_aload_n C 0 rfl rfl dX7_goes_39 ?_
        refine ik_iload_n C 1 rfl rfl dX7_goes_40 ?_
        refine ik_bipush (v := (96 : Int32)) C (by decide) dX7_goes_41 ?_
        obtain ⟨r4, g5, g6, g7, g8, hc8, hf⟩ := ik_b5s hf
        have hM := (c_X7_goneIn l D cI cS h0 h1 h2 h3 h4 h5 h6 h7 h8 h9 h10 h11 misKept mtaped msort mfrom mto mvalue mbad mm mkept mwas mother mfound mwarm mdrip mtape mbits msize mnumber x1 (96 : Int32) r4 g5 g6 g7 g8 hc8)
        refine ik_goW (v := (some (.int r4))) (wc := (wz_X7 cI cS h0 h1 h2 h3 h4 h5 h6 h7 h8 h9 h10 h11 misKept mtaped msort mfrom mto mvalue mbad mm mkept mwas mother mfound mwarm mdrip mtape mbits msize mnumber)) (w1 := (wz_X7 cI cS h0 h1 h2 h3 h4 h5 h6 h7 h8 h9 h10 h11 misKept mtaped msort mfrom mto mvalue mbad g5 mkept g6 mother mfound g7 g8 mtape mbits msize mnumber)) [0, 1, 2, 3, 4, 5, 6, 7, 8, 9, 10, 11] [] 12 rfl rfl (wz_X7 cI cS h0 h1 h2 h3 h4 h5 h6 h7 h8 h9 h10 h11 misKept mtaped msort mfrom mto mvalue mbad g5 mkept g6 mother mfound g7 g8 mtape mbits msize mnumber) rfl [] rfl rfl rfl (by decide +kernel) (ik_runV (st := []) (As := [.int x1, .int (96 : Int32)]) C hM mv_X7_goneIn wl_25_23 ⟨rfl, rfl, Nat.le_of_ble_eq_true rfl, Nat.le_of_ble_eq_true rfl⟩ [0, 1, 2, 3, 4, 5, 6, 7, 8, 9, 10, 11] rfl (by decide +kernel) 0 rfl rfl rfl rfl (Nat.le_of_ble_eq_true rfl) dX7_goes_43 ⟨Nat.zero_le _, Nat.zero_le _⟩) rfl ?_
        refine ik_istore_n C [(2, .int r4), (0, .ref h0), (1, .int x1)] rfl (by decide) rfl dX7_goes_46 ?_
        refine ik_iload_n C 0 rfl rfl dX7_goes_47 ?_
        refine ik_bipush (v := (96 : Int32)) C (by decide) dX7_goes_48 ?_
        refine ik_icmp_le C 62 dX7_goes_50 (by decide) (fun hc => ?_) (fun hc => ?_)
        · have hf := ik_pos hc hf
          refine ik_iload_n C 0 rfl rfl dX7_goes_62 ?_
          obtain ⟨rfl, rfl, rfl, rfl, rfl, rfl⟩ := ik_e6 hf
          exact ik_iretW C hr hlk dX7_goes_63
        · have hf := ik_neg hc hf
          refine ik_aload_n C 1 rfl rfl dX7_goes_53 ?_
          refine ik_ldc C wl_25_18 dX7_goes_54 ?_
          obtain ⟨r9, g10, hc10, hf⟩ := ik_b2s hf
          have hM := (c_X7_finds l D cI cS h0 h1 h2 h3 h4 h5 h6 h7 h8 h9 h10 h11 misKept mtaped msort mfrom mto mvalue mbad g5 mkept g6 mother mfound g7 g8 mtape mbits msize mnumber (-1000004 : Int32) r9 g10 hc10)
          refine ik_goW (v := (some (.int r9))) (wc := (wz_X7 cI cS h0 h1 h2 h3 h4 h5 h6 h7 h8 h9 h10 h11 misKept mtaped msort mfrom mto mvalue mbad g5 mkept g6 mother mfound g7 g8 mtape mbits msize mnumber)) (w1 := (wz_X7 cI cS h0 h1 h2 h3 h4 h5 h6 h7 h8 h9 h10 h11 misKept mtaped msort mfrom mto mvalue mbad g5 mkept g6 mother g10 g7 g8 mtape mbits msize mnumber)) [0, 1, 2, 3, 4, 5, 6, 7, 8, 9, 10, 11] [] 12 rfl rfl (wz_X7 cI cS h0 h1 h2 h3 h4 h5 h6 h7 h8 h9 h10 h11 misKept mtaped msort mfrom mto mvalue mbad g5 mkept g6 mother g10 g7 g8 mtape mbits msize mnumber) rfl [] rfl rfl rfl (by decide +kernel) (ik_runV (st := []) (As := [.int (-1000004 : Int32)]) C hM mv_X7_finds wl_7_8 ⟨rfl, rfl, Nat.le_of_ble_eq_true rfl, Nat.le_of_ble_eq_true rfl⟩ [0, 1, 2, 3, 4, 5, 6, 7, 8, 9, 10, 11] rfl (by decide +kernel) 0 rfl rfl rfl rfl (Nat.le_of_ble_eq_true rfl) dX7_goes_56 ⟨Nat.zero_le _, Nat.zero_le _⟩) rfl ?_
          refine ik_goto C 63 dX7_goes_59 (by decide) ?_
          obtain ⟨rfl, rfl, rfl, rfl, rfl, rfl⟩ := ik_e6 hf
          exact ik_iretW C hr hlk dX7_goes_63
      · have hf := ik_neg hc hf
        refine ik_aload_n C 0 rfl rfl dX7_goes_32 ?_
        refine ik_ldc C wl_6_16 dX7_goes_33 ?_
        obtain ⟨r4, g5, hc5, hf⟩ := ik_b2s hf
        have hM := (c_X7_finds l D cI cS h0 h1 h2 h3 h4 h5 h6 h7 h8 h9 h10 h11 misKept mtaped msort mfrom mto mvalue mbad mm mkept mwas mother mfound mwarm mdrip mtape mbits msize mnumber (-1000005 : Int32) r4 g5 hc5)
        refine ik_goW (v := (some (.int r4))) (wc := (wz_X7 cI cS h0 h1 h2 h3 h4 h5 h6 h7 h8 h9 h10 h11 misKept mtaped msort mfrom mto mvalue mbad mm mkept mwas mother mfound mwarm mdrip mtape mbits msize mnumber)) (w1 := (wz_X7 cI cS h0 h1 h2 h3 h4 h5 h6 h7 h8 h9 h10 h11 misKept mtaped msort mfrom mto mvalue mbad mm mkept mwas mother g5 mwarm mdrip mtape mbits msize mnumber)) [0, 1, 2, 3, 4, 5, 6, 7, 8, 9, 10, 11] [] 12 rfl rfl (wz_X7 cI cS h0 h1 h2 h3 h4 h5 h6 h7 h8 h9 h10 h11 misKept mtaped msort mfrom mto mvalue mbad mm mkept mwas mother g5 mwarm mdrip mtape mbits msize mnumber) rfl [] rfl rfl rfl (by decide +kernel) (ik_runV (st := []) (As := [.int (-1000005 : Int32)]) C hM mv_X7_finds wl_7_8 ⟨rfl, rfl, Nat.le_of_ble_eq_true rfl, Nat.le_of_ble_eq_true rfl⟩ [0, 1, 2, 3, 4, 5, 6, 7, 8, 9, 10, 11] rfl (by decide +kernel) 0 rfl rfl rfl rfl (Nat.le_of_ble_eq_true rfl) dX7_goes_35 ⟨Nat.zero_le _, Nat.zero_le _⟩) rfl ?_
        obtain ⟨rfl, rfl, rfl, rfl, rfl, rfl⟩ := ik_e6 hf
        exact ik_iretW C hr hlk dX7_goes_38
  · have hf := ik_pos hc hf
    refine ik_aload_n C 0 rfl rfl dX7_goes_8 ?_
    refine ik_ldc C wl_6_14 dX7_goes_9 ?_
    obtain ⟨r2, g3, hc3, hf⟩ := ik_b2s hf
    have hM := (c_X7_finds l D cI cS h0 h1 h2 h3 h4 h5 h6 h7 h8 h9 h10 h11 misKept mtaped msort mfrom mto mvalue mbad mm mkept mwas mother mfound mwarm mdrip mtape mbits msize mnumber (-1000001 : Int32) r2 g3 hc3)
    refine ik_goW (v := (some (.int r2))) (wc := (wz_X7 cI cS h0 h1 h2 h3 h4 h5 h6 h7 h8 h9 h10 h11 misKept mtaped msort mfrom mto mvalue mbad mm mkept mwas mother mfound mwarm mdrip mtape mbits msize mnumber)) (w1 := (wz_X7 cI cS h0 h1 h2 h3 h4 h5 h6 h7 h8 h9 h10 h11 misKept mtaped msort mfrom mto mvalue mbad mm mkept mwas mother g3 mwarm mdrip mtape mbits msize mnumber)) [0, 1, 2, 3, 4, 5, 6, 7, 8, 9, 10, 11] [] 12 rfl rfl (wz_X7 cI cS h0 h1 h2 h3 h4 h5 h6 h7 h8 h9 h10 h11 misKept mtaped msort mfrom mto mvalue mbad mm mkept mwas mother g3 mwarm mdrip mtape mbits msize mnumber) rfl [] rfl rfl rfl (by decide +kernel) (ik_runV (st := []) (As := [.int (-1000001 : Int32)]) C hM mv_X7_finds wl_7_8 ⟨rfl, rfl, Nat.le_of_ble_eq_true rfl, Nat.le_of_ble_eq_true rfl⟩ [0, 1, 2, 3, 4, 5, 6, 7, 8, 9, 10, 11] rfl (by decide +kernel) 0 rfl rfl rfl rfl (Nat.le_of_ble_eq_true rfl) dX7_goes_11 ⟨Nat.zero_le _, Nat.zero_le _⟩) rfl ?_
    obtain ⟨rfl, rfl, rfl, rfl, rfl, rfl⟩ := ik_e6 hf
    exact ik_iretW C hr hlk dX7_goes_14
theorem mv_X7_held : ik_V yX7_held RX7 cX7_held 5 (some .int) 1 := ⟨wl_26_16, wl_26_17, wl_1_5, wl_26_18, by decide +kernel⟩
set_option maxHeartbeats 4000000 in
set_option maxRecDepth 100000 in
theorem c_X7_held (l : Launch) (D : va_G) (cI cS : ClassId) (h0 h1 h2 h3 h4 h5 h6 h7 h8 h9 h10 h11 : Nat) (misKept : Int32) (mtaped : Int32) (msort : Int32) (mfrom : Int32) (mto : Int32) (mvalue : Int32) (mbad : Int32) (mm : Nat → Int32) (mkept : Nat → Int32) (mwas : Nat → Int32) (mother : Nat → Int32) (mfound : Nat → Int32) (mwarm : Nat → Int32) (mdrip : Nat → Int32) (mtape : Nat → Int32) (mbits : Nat → Int32) (msize : Nat → Int32) (mnumber : Nat → Int32) (x1 : Int32) (R : Int32) (mm_r : Nat → Int32) (mwas_r : Nat → Int32) (mwarm_r : Nat → Int32) (mdrip_r : Nat → Int32) (hf : f_X7_held mm mwas mwarm mdrip x1 = some (R, mm_r, mwas_r, mwarm_r, mdrip_r)) : Met l yX7_held (ik_ws yX7_held cX7_held 5 (some .int)) ({ frames := 8, cells := 0, slots := 0, locals := 180 } : Room) (ik_P D cI cS [.ref h0, .int x1] (wz_X7 cI cS h0 h1 h2 h3 h4 h5 h6 h7 h8 h9 h10 h11 misKept mtaped msort mfrom mto mvalue mbad mm mkept mwas mother mfound mwarm mdrip mtape mbits msize mnumber)) (ik_Q (some (.int R)) D (wz_X7 cI cS h0 h1 h2 h3 h4 h5 h6 h7 h8 h9 h10 h11 misKept mtaped msort mfrom mto mvalue mbad mm_r mkept mwas_r mother mfound mwarm_r mdrip_r mtape mbits msize mnumber) (wz_X7 cI cS h0 h1 h2 h3 h4 h5 h6 h7 h8 h9 h10 h11 misKept mtaped msort mfrom mto mvalue mbad mm mkept mwas mother mfound mwarm mdrip mtape mbits msize mnumber)) 0 0 (ik_in (wz_X7 cI cS h0 h1 h2 h3 h4 h5 h6 h7 h8 h9 h10 h11 misKept mtaped msort mfrom mto mvalue mbad mm mkept mwas mother mfound mwarm mdrip mtape mbits msize mnumber)) := by
  refine ik_metW RX7 rfl (by decide) (Nat.le_of_ble_eq_true rfl) [(0, .ref h0), (1, .int x1)] rfl ?_
  intro p e s m below meth c C hr hlk
  unfold f_X7_held at hf
  refine ik_aload_n C 0 rfl rfl dX7_held_0 ?_
  refine ik_get C inlX7 0 rfl rfl 0 (by decide) wl_4_12 rfl (v := .ref h1) rfl dX7_held_1 ?_
  refine ik_aload_n C 0 rfl rfl dX7_held_4 ?_
  refine ik_get C inlX7 0 rfl rfl 2 (by decide) wl_4_14 rfl (v := .ref h3) rfl dX7_held_5 ?_
  obtain ⟨g1, hc1, hf⟩ := ik_b1s hf
  have hM := (c_X7_row l D cI cS h1 h3 mm mwas g1 hc1)
  refine ik_goW (v := none) (wc := (wz_row cI cS h1 h3 mm mwas)) (w1 := (wz_row cI cS h1 h3 mm g1)) [1, 3] [0, 2, 4, 5, 6, 7, 8, 9, 10, 11] 12 rfl rfl (wz_X7 cI cS h0 h1 h2 h3 h4 h5 h6 h7 h8 h9 h10 h11 misKept mtaped msort mfrom mto mvalue mbad mm mkept g1 mother mfound mwarm mdrip mtape mbits msize mnumber) rfl [(h0, .inr (7, [.ref h1, .ref h2, .ref h3, .ref h4, .int misKept, .ref h5, .ref h6, .ref h7, .ref h8, .int mtaped, .int msort, .int mfrom, .int mto, .int mvalue, .int mbad, .ref h9, .ref h10, .ref h11])), (h2, .inl (cI, 82, .inl mkept)), (h4, .inl (cI, 82, .inl mother)), (h5, .inl (cI, 7, .inl mfound)), (h6, .inl (cI, 16, .inl mwarm)), (h7, .inl (cI, 8, .inl mdrip)), (h8, .inl (cI, 120, .inl mtape)), (h9, .inl (cI, 4, .inl mbits)), (h10, .inl (cI, 4, .inl msize)), (h11, .inl (cI, 160, .inl mnumber))] rfl rfl rfl (by decide +kernel) (ik_runS (st := []) (As := [.ref h1, .ref h3]) C hM ms_X7_row wl_24_22 ⟨rfl, rfl, Nat.le_of_ble_eq_true rfl, Nat.le_of_ble_eq_true rfl⟩ [1, 3] rfl (by decide +kernel) rfl rfl (Nat.le_of_ble_eq_true rfl) dX7_held_8 ⟨Nat.zero_le _, Nat.zero_le _⟩) rfl ?_
  refine ik_aload_n C 0 rfl rfl dX7_held_11 ?_
  obtain ⟨r2, hc2, hf⟩ := ik_b1s hf
  have hM := (c_X7_goneNow l D cI cS h0 h1 h2 h3 h4 h5 h6 h7 h8 h9 h10 h11 misKept mtaped msort mfrom mto mvalue mbad mm mkept g1 mother mfound mwarm mdrip mtape mbits msize mnumber r2 hc2)
  refine ik_goR (ik_runV (st := []) (As := []) C hM mv_X7_goneNow wl_20_14 ⟨rfl, rfl, Nat.le_of_ble_eq_true rfl, Nat.le_of_ble_eq_true rfl⟩ [0, 1, 2, 3, 4, 5, 6, 7, 8, 9, 10, 11] rfl (by decide +kernel) 0 rfl rfl rfl rfl (Nat.le_of_ble_eq_true rfl) dX7_held_12 ⟨Nat.zero_le _, Nat.zero_le _⟩) rfl ?_
  refine ik_istore_n C [(2, .int r2), (0, .ref h0), (1, .int x1)] rfl (by decide) rfl dX7_held_15 ?_
  refine ik_iconst (v := (0 : Int32)) C (by decide) dX7_held_16 ?_
  refine ik_istore_n C [(3, .int (0 : Int32)), (2, .int r2), (0, .ref h0), (1, .int x1)] rfl (by decide) rfl dX7_held_17 ?_
  refine ik_iconst (v := (1 : Int32)) C (by decide) dX7_held_18 ?_
  refine ik_istore C [(4, .int (1 : Int32)), (3, .int (0 : Int32)), (2, .int r2), (0, .ref h0), (1, .int x1)] (by decide) rfl dX7_held_19 ?_
  have hL_21 : ∀ (n_21 : Nat) (mm_21 : Nat → Int32) (mwarm_21 : Nat → Int32) (mdrip_21 : Nat → Int32) (x3_21 : Int32) (x4_21 : Int32), ik_lp5 (b_X7_held_21 x1 g1 r2) n_21 mm_21 mwarm_21 mdrip_21 x3_21 x4_21 = some (R, mm_r, mwas_r, mwarm_r, mdrip_r) → ik_G p l e ({ frames := 8, cells := 0, slots := 0, locals := 180 } : Room) s m ([.ref h0, .int x1] : List Value).toArray below meth c D (ik_in (wz_X7 cI cS h0 h1 h2 h3 h4 h5 h6 h7 h8 h9 h10 h11 misKept mtaped msort mfrom mto mvalue mbad mm mkept mwas mother mfound mwarm mdrip mtape mbits msize mnumber)) (ik_in (wz_X7 cI cS h0 h1 h2 h3 h4 h5 h6 h7 h8 h9 h10 h11 misKept mtaped msort mfrom mto mvalue mbad mm mkept mwas mother mfound mwarm mdrip mtape mbits msize mnumber)) 5 0 0 (MQ below (ik_Q (some (.int R)) D (wz_X7 cI cS h0 h1 h2 h3 h4 h5 h6 h7 h8 h9 h10 h11 misKept mtaped msort mfrom mto mvalue mbad mm_r mkept mwas_r mother mfound mwarm_r mdrip_r mtape mbits msize mnumber) (wz_X7 cI cS h0 h1 h2 h3 h4 h5 h6 h7 h8 h9 h10 h11 misKept mtaped msort mfrom mto mvalue mbad mm mkept mwas mother mfound mwarm mdrip mtape mbits msize mnumber)) ([.ref h0, .int x1] : List Value).toArray s 0 0 (ik_in (wz_X7 cI cS h0 h1 h2 h3 h4 h5 h6 h7 h8 h9 h10 h11 misKept mtaped msort mfrom mto mvalue mbad mm mkept mwas mother mfound mwarm mdrip mtape mbits msize mnumber))) 21 [(4, .int x4_21), (3, .int x3_21), (2, .int r2), (0, .ref h0), (1, .int x1)] [] (wz_X7 cI cS h0 h1 h2 h3 h4 h5 h6 h7 h8 h9 h10 h11 misKept mtaped msort mfrom mto mvalue mbad mm_21 mkept g1 mother mfound mwarm_21 mdrip_21 mtape mbits msize mnumber) := by
    intro n_21
    induction n_21 with
    | zero => intro _ _ _ _ _ hf; exact nomatch hf
    | succ n_21 ih_21 =>
      intro mm_21 mwarm_21 mdrip_21 x3_21 x4_21 hf
      replace hf : b_X7_held_21 x1 g1 r2 (ik_lp5 (b_X7_held_21 x1 g1 r2) n_21) mm_21 mwarm_21 mdrip_21 x3_21 x4_21 = some (R, mm_r, mwas_r, mwarm_r, mdrip_r) := hf
      unfold b_X7_held_21 at hf
      refine ik_iload_n C 1 rfl rfl dX7_held_21 ?_
      refine ik_iload_n C 4 rfl rfl dX7_held_22 ?_
      refine ik_icmp_ge C 66 dX7_held_23 (by decide) (fun hc => ?_) (fun hc => ?_)
      · have hf := ik_pos hc hf
        refine ik_aload_n C 3 rfl rfl dX7_held_66 ?_
        refine ik_get C inlX7 0 rfl rfl 2 (by decide) wl_4_14 rfl (v := .ref h3) rfl dX7_held_67 ?_
        refine ik_aload_n C 3 rfl rfl dX7_held_70 ?_
        refine ik_get C inlX7 0 rfl rfl 0 (by decide) wl_4_12 rfl (v := .ref h1) rfl dX7_held_71 ?_
        obtain ⟨g3, hc3, hf⟩ := ik_b1s hf
        have hM := (c_X7_row l D cI cS h3 h1 g1 mm_21 g3 hc3)
        refine ik_goW (v := none) (wc := (wz_row cI cS h3 h1 g1 mm_21)) (w1 := (wz_row cI cS h3 h1 g1 g3)) [3, 1] [0, 2, 4, 5, 6, 7, 8, 9, 10, 11] 12 rfl rfl (wz_X7 cI cS h0 h1 h2 h3 h4 h5 h6 h7 h8 h9 h10 h11 misKept mtaped msort mfrom mto mvalue mbad g3 mkept g1 mother mfound mwarm_21 mdrip_21 mtape mbits msize mnumber) rfl [(h0, .inr (7, [.ref h1, .ref h2, .ref h3, .ref h4, .int misKept, .ref h5, .ref h6, .ref h7, .ref h8, .int mtaped, .int msort, .int mfrom, .int mto, .int mvalue, .int mbad, .ref h9, .ref h10, .ref h11])), (h2, .inl (cI, 82, .inl mkept)), (h4, .inl (cI, 82, .inl mother)), (h5, .inl (cI, 7, .inl mfound)), (h6, .inl (cI, 16, .inl mwarm_21)), (h7, .inl (cI, 8, .inl mdrip_21)), (h8, .inl (cI, 120, .inl mtape)), (h9, .inl (cI, 4, .inl mbits)), (h10, .inl (cI, 4, .inl msize)), (h11, .inl (cI, 160, .inl mnumber))] rfl rfl rfl (by decide +kernel) (ik_runS (st := []) (As := [.ref h3, .ref h1]) C hM ms_X7_row wl_24_22 ⟨rfl, rfl, Nat.le_of_ble_eq_true rfl, Nat.le_of_ble_eq_true rfl⟩ [3, 1] rfl (by decide +kernel) rfl rfl (Nat.le_of_ble_eq_true rfl) dX7_held_74 ⟨Nat.zero_le _, Nat.zero_le _⟩) rfl ?_
        refine ik_iload_n C 1 rfl rfl dX7_held_77 ?_
        obtain ⟨rfl, rfl, rfl, rfl, rfl⟩ := ik_e5 hf
        exact ik_iretW C hr hlk dX7_held_78
      · have hf := ik_neg hc hf
        refine ik_iload C 0 rfl dX7_held_26 ?_
        refine ik_if_eq C 66 dX7_held_28 (by decide) (fun hc => ?_) (fun hc => ?_)
        · have hf := ik_pos hc hf
          refine ik_aload_n C 3 rfl rfl dX7_held_66 ?_
          refine ik_get C inlX7 0 rfl rfl 2 (by decide) wl_4_14 rfl (v := .ref h3) rfl dX7_held_67 ?_
          refine ik_aload_n C 3 rfl rfl dX7_held_70 ?_
          refine ik_get C inlX7 0 rfl rfl 0 (by decide) wl_4_12 rfl (v := .ref h1) rfl dX7_held_71 ?_
          obtain ⟨g3, hc3, hf⟩ := ik_b1s hf
          have hM := (c_X7_row l D cI cS h3 h1 g1 mm_21 g3 hc3)
          refine ik_goW (v := none) (wc := (wz_row cI cS h3 h1 g1 mm_21)) (w1 := (wz_row cI cS h3 h1 g1 g3)) [3, 1] [0, 2, 4, 5, 6, 7, 8, 9, 10, 11] 12 rfl rfl (wz_X7 cI cS h0 h1 h2 h3 h4 h5 h6 h7 h8 h9 h10 h11 misKept mtaped msort mfrom mto mvalue mbad g3 mkept g1 mother mfound mwarm_21 mdrip_21 mtape mbits msize mnumber) rfl [(h0, .inr (7, [.ref h1, .ref h2, .ref h3, .ref h4, .int misKept, .ref h5, .ref h6, .ref h7, .ref h8, .int mtaped, .int msort, .int mfrom, .int mto, .int mvalue, .int mbad, .ref h9, .ref h10, .ref h11])), (h2, .inl (cI, 82, .inl mkept)), (h4, .inl (cI, 82, .inl mother)), (h5, .inl (cI, 7, .inl mfound)), (h6, .inl (cI, 16, .inl mwarm_21)), (h7, .inl (cI, 8, .inl mdrip_21)), (h8, .inl (cI, 120, .inl mtape)), (h9, .inl (cI, 4, .inl mbits)), (h10, .inl (cI, 4, .inl msize)), (h11, .inl (cI, 160, .inl mnumber))] rfl rfl rfl (by decide +kernel) (ik_runS (st := []) (As := [.ref h3, .ref h1]) C hM ms_X7_row wl_24_22 ⟨rfl, rfl, Nat.le_of_ble_eq_true rfl, Nat.le_of_ble_eq_true rfl⟩ [3, 1] rfl (by decide +kernel) rfl rfl (Nat.le_of_ble_eq_true rfl) dX7_held_74 ⟨Nat.zero_le _, Nat.zero_le _⟩) rfl ?_
          refine ik_iload_n C 1 rfl rfl dX7_held_77 ?_
          obtain ⟨rfl, rfl, rfl, rfl, rfl⟩ := ik_e5 hf
          exact ik_iretW C hr hlk dX7_held_78
        · have hf := ik_neg hc hf
          refine ik_aload_n C 3 rfl rfl dX7_held_31 ?_
          obtain ⟨g3, g4, g5, hc5, hf⟩ := ik_b3s hf
          have hM := (c_X7_hour l D cI cS h0 h1 h2 h3 h4 h5 h6 h7 h8 h9 h10 h11 misKept mtaped msort mfrom mto mvalue mbad mm_21 mkept g1 mother mfound mwarm_21 mdrip_21 mtape mbits msize mnumber g3 g4 g5 hc5)
          refine ik_goW (v := none) (wc := (wz_X7 cI cS h0 h1 h2 h3 h4 h5 h6 h7 h8 h9 h10 h11 misKept mtaped msort mfrom mto mvalue mbad mm_21 mkept g1 mother mfound mwarm_21 mdrip_21 mtape mbits msize mnumber)) (w1 := (wz_X7 cI cS h0 h1 h2 h3 h4 h5 h6 h7 h8 h9 h10 h11 misKept mtaped msort mfrom mto mvalue mbad g3 mkept g1 mother mfound g4 g5 mtape mbits msize mnumber)) [0, 1, 2, 3, 4, 5, 6, 7, 8, 9, 10, 11] [] 12 rfl rfl (wz_X7 cI cS h0 h1 h2 h3 h4 h5 h6 h7 h8 h9 h10 h11 misKept mtaped msort mfrom mto mvalue mbad g3 mkept g1 mother mfound g4 g5 mtape mbits msize mnumber) rfl [] rfl rfl rfl (by decide +kernel) (ik_runV (st := []) (As := []) C hM mv_X7_hour wl_20_18 ⟨rfl, rfl, Nat.le_of_ble_eq_true rfl, Nat.le_of_ble_eq_true rfl⟩ [0, 1, 2, 3, 4, 5, 6, 7, 8, 9, 10, 11] rfl (by decide +kernel) 0 rfl rfl rfl rfl (Nat.le_of_ble_eq_true rfl) dX7_held_32 ⟨Nat.zero_le _, Nat.zero_le _⟩) rfl ?_
          refine ik_aload_n C 3 rfl rfl dX7_held_35 ?_
          obtain ⟨r6, hc6, hf⟩ := ik_b1s hf
          have hM := (c_X7_goneNow l D cI cS h0 h1 h2 h3 h4 h5 h6 h7 h8 h9 h10 h11 misKept mtaped msort mfrom mto mvalue mbad g3 mkept g1 mother mfound g4 g5 mtape mbits msize mnumber r6 hc6)
          refine ik_goR (ik_runV (st := []) (As := []) C hM mv_X7_goneNow wl_20_14 ⟨rfl, rfl, Nat.le_of_ble_eq_true rfl, Nat.le_of_ble_eq_true rfl⟩ [0, 1, 2, 3, 4, 5, 6, 7, 8, 9, 10, 11] rfl (by decide +kernel) 0 rfl rfl rfl rfl (Nat.le_of_ble_eq_true rfl) dX7_held_36 ⟨Nat.zero_le _, Nat.zero_le _⟩) rfl ?_
          refine ik_iload_n C 2 rfl rfl dX7_held_39 ?_
          refine ik_icmp_ne C 47 dX7_held_40 (by decide) (fun hc => ?_) (fun hc => ?_)
          · have hf := ik_neg hc hf
            refine ik_iconst (v := (0 : Int32)) C (by decide) dX7_held_47 ?_
            refine ik_istore C [(4, .int (0 : Int32)), (3, .int x3_21), (2, .int r2), (0, .ref h0), (1, .int x1)] (by decide) rfl dX7_held_48 ?_
            refine ik_iload_n C 1 rfl rfl dX7_held_50 ?_
            refine ik_iload C 0 rfl dX7_held_51 ?_
            refine ik_if_eq C 60 dX7_held_53 (by decide) (fun hc => ?_) (fun hc => ?_)
            · have hf := ik_pos hc hf
              refine ik_iconst (v := (0 : Int32)) C (by decide) dX7_held_60 ?_
              refine ik_iadd C dX7_held_61 ?_
              refine ik_istore_n C [(3, .int (x3_21 + (0 : Int32))), (4, .int (0 : Int32)), (2, .int r2), (0, .ref h0), (1, .int x1)] rfl (by decide) rfl dX7_held_62 ?_
              refine ik_goto C 21 dX7_held_63 (by decide) ?_
              exact ik_sub [1, 0, 2, 3, 4] [(4, .int (0 : Int32)), (3, .int (x3_21 + (0 : Int32))), (2, .int r2), (0, .ref h0), (1, .int x1)] rfl (ih_21 g3 g4 g5 (x3_21 + (0 : Int32)) (0 : Int32) hf)
            · have hf := ik_neg hc hf
              refine ik_iconst (v := (1 : Int32)) C (by decide) dX7_held_56 ?_
              refine ik_goto C 61 dX7_held_57 (by decide) ?_
              refine ik_iadd C dX7_held_61 ?_
              refine ik_istore_n C [(3, .int (x3_21 + (1 : Int32))), (4, .int (0 : Int32)), (2, .int r2), (0, .ref h0), (1, .int x1)] rfl (by decide) rfl dX7_held_62 ?_
              refine ik_goto C 21 dX7_held_63 (by decide) ?_
              exact ik_sub [1, 0, 2, 3, 4] [(4, .int (0 : Int32)), (3, .int (x3_21 + (1 : Int32))), (2, .int r2), (0, .ref h0), (1, .int x1)] rfl (ih_21 g3 g4 g5 (x3_21 + (1 : Int32)) (0 : Int32) hf)
          · have hf := ik_pos hc hf
            refine ik_iconst (v := (1 : Int32)) C (by decide) dX7_held_43 ?_
            refine ik_goto C 48 dX7_held_44 (by decide) ?_
            refine ik_istore C [(4, .int (1 : Int32)), (3, .int x3_21), (2, .int r2), (0, .ref h0), (1, .int x1)] (by decide) rfl dX7_held_48 ?_
            refine ik_iload_n C 1 rfl rfl dX7_held_50 ?_
            refine ik_iload C 0 rfl dX7_held_51 ?_
            refine ik_if_eq C 60 dX7_held_53 (by decide) (fun hc => ?_) (fun hc => ?_)
            · have hf := ik_pos hc hf
              refine ik_iconst (v := (0 : Int32)) C (by decide) dX7_held_60 ?_
              refine ik_iadd C dX7_held_61 ?_
              refine ik_istore_n C [(3, .int (x3_21 + (0 : Int32))), (4, .int (1 : Int32)), (2, .int r2), (0, .ref h0), (1, .int x1)] rfl (by decide) rfl dX7_held_62 ?_
              refine ik_goto C 21 dX7_held_63 (by decide) ?_
              exact ik_sub [1, 0, 2, 3, 4] [(4, .int (1 : Int32)), (3, .int (x3_21 + (0 : Int32))), (2, .int r2), (0, .ref h0), (1, .int x1)] rfl (ih_21 g3 g4 g5 (x3_21 + (0 : Int32)) (1 : Int32) hf)
            · have hf := ik_neg hc hf
              refine ik_iconst (v := (1 : Int32)) C (by decide) dX7_held_56 ?_
              refine ik_goto C 61 dX7_held_57 (by decide) ?_
              refine ik_iadd C dX7_held_61 ?_
              refine ik_istore_n C [(3, .int (x3_21 + (1 : Int32))), (4, .int (1 : Int32)), (2, .int r2), (0, .ref h0), (1, .int x1)] rfl (by decide) rfl dX7_held_62 ?_
              refine ik_goto C 21 dX7_held_63 (by decide) ?_
              exact ik_sub [1, 0, 2, 3, 4] [(4, .int (1 : Int32)), (3, .int (x3_21 + (1 : Int32))), (2, .int r2), (0, .ref h0), (1, .int x1)] rfl (ih_21 g3 g4 g5 (x3_21 + (1 : Int32)) (1 : Int32) hf)
  exact hL_21 ik_fu mm mwarm mdrip (0 : Int32) (1 : Int32) hf
theorem mv_X7_holds : ik_V yX7_holds RX7 cX7_holds 1 (some .int) 0 := ⟨wl_26_12, wl_26_13, wl_1_5, wl_26_14, by decide +kernel⟩
set_option maxHeartbeats 4000000 in
set_option maxRecDepth 100000 in
theorem c_X7_holds (l : Launch) (D : va_G) (cI cS : ClassId) (h0 h1 h2 h3 h4 h5 h6 h7 h8 h9 h10 h11 : Nat) (misKept : Int32) (mtaped : Int32) (msort : Int32) (mfrom : Int32) (mto : Int32) (mvalue : Int32) (mbad : Int32) (mm : Nat → Int32) (mkept : Nat → Int32) (mwas : Nat → Int32) (mother : Nat → Int32) (mfound : Nat → Int32) (mwarm : Nat → Int32) (mdrip : Nat → Int32) (mtape : Nat → Int32) (mbits : Nat → Int32) (msize : Nat → Int32) (mnumber : Nat → Int32) (R : Int32) (mm_r : Nat → Int32) (mwas_r : Nat → Int32) (mfound_r : Nat → Int32) (mwarm_r : Nat → Int32) (mdrip_r : Nat → Int32) (hf : f_X7_holds mm mwas mfound mwarm mdrip = some (R, mm_r, mwas_r, mfound_r, mwarm_r, mdrip_r)) : Met l yX7_holds (ik_ws yX7_holds cX7_holds 1 (some .int)) ({ frames := 9, cells := 0, slots := 0, locals := 204 } : Room) (ik_P D cI cS [.ref h0] (wz_X7 cI cS h0 h1 h2 h3 h4 h5 h6 h7 h8 h9 h10 h11 misKept mtaped msort mfrom mto mvalue mbad mm mkept mwas mother mfound mwarm mdrip mtape mbits msize mnumber)) (ik_Q (some (.int R)) D (wz_X7 cI cS h0 h1 h2 h3 h4 h5 h6 h7 h8 h9 h10 h11 misKept mtaped msort mfrom mto mvalue mbad mm_r mkept mwas_r mother mfound_r mwarm_r mdrip_r mtape mbits msize mnumber) (wz_X7 cI cS h0 h1 h2 h3 h4 h5 h6 h7 h8 h9 h10 h11 misKept mtaped msort mfrom mto mvalue mbad mm mkept mwas mother mfound mwarm mdrip mtape mbits msize mnumber)) 0 0 (ik_in (wz_X7 cI cS h0 h1 h2 h3 h4 h5 h6 h7 h8 h9 h10 h11 misKept mtaped msort mfrom mto mvalue mbad mm mkept mwas mother mfound mwarm mdrip mtape mbits msize mnumber)) := by
  refine ik_metW RX7 rfl (by decide) (Nat.le_of_ble_eq_true rfl) [(0, .ref h0)] rfl ?_
  intro p e s m below meth c C hr hlk
  unfold f_X7_holds at hf
  refine ik_aload_n C 0 rfl rfl dX7_holds_0 ?_
  refine ik_bipush (v := (96 : Int32)) C (by decide) dX7_holds_1 ?_
  obtain ⟨r1, hc1, hf⟩ := ik_b1s hf
  have hM := (c_X7_isFarOn l D cI cS h0 h1 h2 h3 h4 h5 h6 h7 h8 h9 h10 h11 misKept mtaped msort mfrom mto mvalue mbad mm mkept mwas mother mfound mwarm mdrip mtape mbits msize mnumber (96 : Int32) r1 hc1)
  refine ik_goR (ik_runV (st := []) (As := [.int (96 : Int32)]) C hM mv_X7_isFarOn wl_25_19 ⟨rfl, rfl, Nat.le_of_ble_eq_true rfl, Nat.le_of_ble_eq_true rfl⟩ [0, 1, 2, 3, 4, 5, 6, 7, 8, 9, 10, 11] rfl (by decide +kernel) 0 rfl rfl rfl rfl (Nat.le_of_ble_eq_true rfl) dX7_holds_3 ⟨Nat.zero_le _, Nat.zero_le _⟩) rfl ?_
  refine ik_if_eq C 18 dX7_holds_6 (by decide) (fun hc => ?_) (fun hc => ?_)
  · have hf := ik_pos hc hf
    refine ik_aload_n C 0 rfl rfl dX7_holds_18 ?_
    refine ik_bipush (v := (96 : Int32)) C (by decide) dX7_holds_19 ?_
    obtain ⟨r2, g3, g4, g5, g6, hc6, hf⟩ := ik_b5s hf
    have hM := (c_X7_held l D cI cS h0 h1 h2 h3 h4 h5 h6 h7 h8 h9 h10 h11 misKept mtaped msort mfrom mto mvalue mbad mm mkept mwas mother mfound mwarm mdrip mtape mbits msize mnumber (96 : Int32) r2 g3 g4 g5 g6 hc6)
    refine ik_goW (v := (some (.int r2))) (wc := (wz_X7 cI cS h0 h1 h2 h3 h4 h5 h6 h7 h8 h9 h10 h11 misKept mtaped msort mfrom mto mvalue mbad mm mkept mwas mother mfound mwarm mdrip mtape mbits msize mnumber)) (w1 := (wz_X7 cI cS h0 h1 h2 h3 h4 h5 h6 h7 h8 h9 h10 h11 misKept mtaped msort mfrom mto mvalue mbad g3 mkept g4 mother mfound g5 g6 mtape mbits msize mnumber)) [0, 1, 2, 3, 4, 5, 6, 7, 8, 9, 10, 11] [] 12 rfl rfl (wz_X7 cI cS h0 h1 h2 h3 h4 h5 h6 h7 h8 h9 h10 h11 misKept mtaped msort mfrom mto mvalue mbad g3 mkept g4 mother mfound g5 g6 mtape mbits msize mnumber) rfl [] rfl rfl rfl (by decide +kernel) (ik_runV (st := []) (As := [.int (96 : Int32)]) C hM mv_X7_held wl_26_15 ⟨rfl, rfl, Nat.le_of_ble_eq_true rfl, Nat.le_of_ble_eq_true rfl⟩ [0, 1, 2, 3, 4, 5, 6, 7, 8, 9, 10, 11] rfl (by decide +kernel) 0 rfl rfl rfl rfl (Nat.le_of_ble_eq_true rfl) dX7_holds_21 ⟨Nat.zero_le _, Nat.zero_le _⟩) rfl ?_
    obtain ⟨rfl, rfl, rfl, rfl, rfl, rfl⟩ := ik_e6 hf
    exact ik_iretW C hr hlk dX7_holds_24
  · have hf := ik_neg hc hf
    refine ik_aload_n C 0 rfl rfl dX7_holds_9 ?_
    refine ik_ldc C wl_6_16 dX7_holds_10 ?_
    obtain ⟨r2, g3, hc3, hf⟩ := ik_b2s hf
    have hM := (c_X7_finds l D cI cS h0 h1 h2 h3 h4 h5 h6 h7 h8 h9 h10 h11 misKept mtaped msort mfrom mto mvalue mbad mm mkept mwas mother mfound mwarm mdrip mtape mbits msize mnumber (-1000005 : Int32) r2 g3 hc3)
    refine ik_goW (v := (some (.int r2))) (wc := (wz_X7 cI cS h0 h1 h2 h3 h4 h5 h6 h7 h8 h9 h10 h11 misKept mtaped msort mfrom mto mvalue mbad mm mkept mwas mother mfound mwarm mdrip mtape mbits msize mnumber)) (w1 := (wz_X7 cI cS h0 h1 h2 h3 h4 h5 h6 h7 h8 h9 h10 h11 misKept mtaped msort mfrom mto mvalue mbad mm mkept mwas mother g3 mwarm mdrip mtape mbits msize mnumber)) [0, 1, 2, 3, 4, 5, 6, 7, 8, 9, 10, 11] [] 12 rfl rfl (wz_X7 cI cS h0 h1 h2 h3 h4 h5 h6 h7 h8 h9 h10 h11 misKept mtaped msort mfrom mto mvalue mbad mm mkept mwas mother g3 mwarm mdrip mtape mbits msize mnumber) rfl [] rfl rfl rfl (by decide +kernel) (ik_runV (st := []) (As := [.int (-1000005 : Int32)]) C hM mv_X7_finds wl_7_8 ⟨rfl, rfl, Nat.le_of_ble_eq_true rfl, Nat.le_of_ble_eq_true rfl⟩ [0, 1, 2, 3, 4, 5, 6, 7, 8, 9, 10, 11] rfl (by decide +kernel) 0 rfl rfl rfl rfl (Nat.le_of_ble_eq_true rfl) dX7_holds_12 ⟨Nat.zero_le _, Nat.zero_le _⟩) rfl ?_
    refine ik_goto C 24 dX7_holds_15 (by decide) ?_
    obtain ⟨rfl, rfl, rfl, rfl, rfl, rfl⟩ := ik_e6 hf
    exact ik_iretW C hr hlk dX7_holds_24
theorem mv_X7_lights : ik_V yX7_lights RX7 cX7_lights 3 none 1 := ⟨wl_27_4, wl_27_5, wl_1_5, wl_27_6, by decide +kernel⟩
set_option maxHeartbeats 4000000 in
set_option maxRecDepth 100000 in
theorem c_X7_lights (l : Launch) (D : va_G) (cI cS : ClassId) (h0 h1 h2 h3 h4 h5 h6 h7 h8 h9 h10 h11 : Nat) (misKept : Int32) (mtaped : Int32) (msort : Int32) (mfrom : Int32) (mto : Int32) (mvalue : Int32) (mbad : Int32) (mm : Nat → Int32) (mkept : Nat → Int32) (mwas : Nat → Int32) (mother : Nat → Int32) (mfound : Nat → Int32) (mwarm : Nat → Int32) (mdrip : Nat → Int32) (mtape : Nat → Int32) (mbits : Nat → Int32) (msize : Nat → Int32) (mnumber : Nat → Int32) (x1 : Int32) (mm_r : Nat → Int32) (hf : f_X7_lights mm x1 = some (mm_r)) : Met l yX7_lights (ik_ws yX7_lights cX7_lights 3 none) ({ frames := 0, cells := 0, slots := 0, locals := 0 } : Room) (ik_P D cI cS [.ref h0, .int x1] (wz_X7 cI cS h0 h1 h2 h3 h4 h5 h6 h7 h8 h9 h10 h11 misKept mtaped msort mfrom mto mvalue mbad mm mkept mwas mother mfound mwarm mdrip mtape mbits msize mnumber)) (ik_Q none D (wz_X7 cI cS h0 h1 h2 h3 h4 h5 h6 h7 h8 h9 h10 h11 misKept mtaped msort mfrom mto mvalue mbad mm_r mkept mwas mother mfound mwarm mdrip mtape mbits msize mnumber) (wz_X7 cI cS h0 h1 h2 h3 h4 h5 h6 h7 h8 h9 h10 h11 misKept mtaped msort mfrom mto mvalue mbad mm mkept mwas mother mfound mwarm mdrip mtape mbits msize mnumber)) 0 0 (ik_in (wz_X7 cI cS h0 h1 h2 h3 h4 h5 h6 h7 h8 h9 h10 h11 misKept mtaped msort mfrom mto mvalue mbad mm mkept mwas mother mfound mwarm mdrip mtape mbits msize mnumber)) := by
  refine ik_metW RX7 rfl (by decide) (Nat.le_of_ble_eq_true rfl) [(0, .ref h0), (1, .int x1)] rfl ?_
  intro p e s m below meth c C hr hlk
  unfold f_X7_lights at hf
  refine ik_iconst (v := (0 : Int32)) C (by decide) dX7_lights_0 ?_
  refine ik_istore_n C [(2, .int (0 : Int32)), (0, .ref h0), (1, .int x1)] rfl (by decide) rfl dX7_lights_1 ?_
  have hL_2 : ∀ (n_2 : Nat) (mm_2 : Nat → Int32) (x2_2 : Int32), ik_lp2 (b_X7_lights_2 x1) n_2 mm_2 x2_2 = some (mm_r) → ik_G p l e ({ frames := 0, cells := 0, slots := 0, locals := 0 } : Room) s m ([.ref h0, .int x1] : List Value).toArray below meth c D (ik_in (wz_X7 cI cS h0 h1 h2 h3 h4 h5 h6 h7 h8 h9 h10 h11 misKept mtaped msort mfrom mto mvalue mbad mm mkept mwas mother mfound mwarm mdrip mtape mbits msize mnumber)) (ik_in (wz_X7 cI cS h0 h1 h2 h3 h4 h5 h6 h7 h8 h9 h10 h11 misKept mtaped msort mfrom mto mvalue mbad mm mkept mwas mother mfound mwarm mdrip mtape mbits msize mnumber)) 3 0 0 (MQ below (ik_Q none D (wz_X7 cI cS h0 h1 h2 h3 h4 h5 h6 h7 h8 h9 h10 h11 misKept mtaped msort mfrom mto mvalue mbad mm_r mkept mwas mother mfound mwarm mdrip mtape mbits msize mnumber) (wz_X7 cI cS h0 h1 h2 h3 h4 h5 h6 h7 h8 h9 h10 h11 misKept mtaped msort mfrom mto mvalue mbad mm mkept mwas mother mfound mwarm mdrip mtape mbits msize mnumber)) ([.ref h0, .int x1] : List Value).toArray s 0 0 (ik_in (wz_X7 cI cS h0 h1 h2 h3 h4 h5 h6 h7 h8 h9 h10 h11 misKept mtaped msort mfrom mto mvalue mbad mm mkept mwas mother mfound mwarm mdrip mtape mbits msize mnumber))) 2 [(2, .int x2_2), (0, .ref h0), (1, .int x1)] [] (wz_X7 cI cS h0 h1 h2 h3 h4 h5 h6 h7 h8 h9 h10 h11 misKept mtaped msort mfrom mto mvalue mbad mm_2 mkept mwas mother mfound mwarm mdrip mtape mbits msize mnumber) := by
    intro n_2
    induction n_2 with
    | zero => intro _ _ hf; exact nomatch hf
    | succ n_2 ih_2 =>
      intro mm_2 x2_2 hf
      replace hf : b_X7_lights_2 x1 (ik_lp2 (b_X7_lights_2 x1) n_2) mm_2 x2_2 = some (mm_r) := hf
      unfold b_X7_lights_2 at hf
      refine ik_iload_n C 0 rfl rfl dX7_lights_2 ?_
      refine ik_bipush (v := (6 : Int32)) C (by decide) dX7_lights_3 ?_
      refine ik_icmp_ge C 32 dX7_lights_5 (by decide) (fun hc => ?_) (fun hc => ?_)
      · have hf := ik_pos hc hf
        obtain rfl := Option.some.inj hf
        exact ik_vretW C hr hlk dX7_lights_32
      · have hf := ik_neg hc hf
        refine ik_aload_n C 1 rfl rfl dX7_lights_8 ?_
        refine ik_get C inlX7 0 rfl rfl 0 (by decide) wl_4_12 rfl (v := .ref h1) rfl dX7_lights_9 ?_
        refine ik_bipush (v := (6 : Int32)) C (by decide) dX7_lights_12 ?_
        refine ik_iconst (v := (3 : Int32)) C (by decide) dX7_lights_14 ?_
        refine ik_iload_n C 0 rfl rfl dX7_lights_15 ?_
        refine ik_imul C dX7_lights_16 ?_
        refine ik_iadd C dX7_lights_17 ?_
        refine ik_iconst (v := (2 : Int32)) C (by decide) dX7_lights_18 ?_
        refine ik_iadd C dX7_lights_19 ?_
        refine ik_iload_n C 2 rfl rfl dX7_lights_20 ?_
        refine ik_iload_n C 0 rfl rfl dX7_lights_21 ?_
        refine ik_ishr C dX7_lights_22 ?_
        refine ik_iconst (v := (1 : Int32)) C (by decide) dX7_lights_23 ?_
        refine ik_iand C dX7_lights_24 ?_
        have hg := ik_gdi hf
        have hf := ik_gdk hf
        refine ik_iast C 1 rfl hg (wz_X7 cI cS h0 h1 h2 h3 h4 h5 h6 h7 h8 h9 h10 h11 misKept mtaped msort mfrom mto mvalue mbad (upd mm_2 ((((6 : Int32) + ((3 : Int32) * x2_2)) + (2 : Int32))).toNatClampNeg ((x1 >>> (x2_2 &&& 31)) &&& (1 : Int32))) mkept mwas mother mfound mwarm mdrip mtape mbits msize mnumber) rfl dX7_lights_25 ?_
        refine ik_iinc C [(2, .int (x2_2 + (1 : Int32))), (0, .ref h0), (1, .int x1)] 0 rfl rfl (by decide) rfl dX7_lights_26 ?_
        refine ik_goto C 2 dX7_lights_29 (by decide) ?_
        exact ik_sub [0, 1, 2] [(2, .int (x2_2 + (1 : Int32))), (0, .ref h0), (1, .int x1)] rfl (ih_2 (upd mm_2 ((((6 : Int32) + ((3 : Int32) * x2_2)) + (2 : Int32))).toNatClampNeg ((x1 >>> (x2_2 &&& 31)) &&& (1 : Int32))) (x2_2 + (1 : Int32)) hf)
  exact hL_2 ik_fu mm (0 : Int32) hf
theorem mv_X7_deal : ik_V yX7_deal RX7 cX7_deal 5 (some .int) 1 := ⟨wl_27_0, wl_27_1, wl_1_5, wl_27_2, by decide +kernel⟩
set_option maxHeartbeats 4000000 in
set_option maxRecDepth 100000 in
theorem c_X7_deal (l : Launch) (D : va_G) (cI cS : ClassId) (h0 h1 h2 h3 h4 h5 h6 h7 h8 h9 h10 h11 : Nat) (misKept : Int32) (mtaped : Int32) (msort : Int32) (mfrom : Int32) (mto : Int32) (mvalue : Int32) (mbad : Int32) (mm : Nat → Int32) (mkept : Nat → Int32) (mwas : Nat → Int32) (mother : Nat → Int32) (mfound : Nat → Int32) (mwarm : Nat → Int32) (mdrip : Nat → Int32) (mtape : Nat → Int32) (mbits : Nat → Int32) (msize : Nat → Int32) (mnumber : Nat → Int32) (x1 : Int32) (R : Int32) (mm_r : Nat → Int32) (mwas_r : Nat → Int32) (mother_r : Nat → Int32) (mfound_r : Nat → Int32) (mwarm_r : Nat → Int32) (mdrip_r : Nat → Int32) (hf : f_X7_deal mm mwas mother mfound mwarm mdrip x1 = some (R, mm_r, mwas_r, mother_r, mfound_r, mwarm_r, mdrip_r)) : Met l yX7_deal (ik_ws yX7_deal cX7_deal 5 (some .int)) ({ frames := 9, cells := 0, slots := 0, locals := 204 } : Room) (ik_P D cI cS [.ref h0, .int x1] (wz_X7 cI cS h0 h1 h2 h3 h4 h5 h6 h7 h8 h9 h10 h11 misKept mtaped msort mfrom mto mvalue mbad mm mkept mwas mother mfound mwarm mdrip mtape mbits msize mnumber)) (ik_Q (some (.int R)) D (wz_X7 cI cS h0 h1 h2 h3 h4 h5 h6 h7 h8 h9 h10 h11 misKept mtaped msort mfrom mto mvalue mbad mm_r mkept mwas_r mother_r mfound_r mwarm_r mdrip_r mtape mbits msize mnumber) (wz_X7 cI cS h0 h1 h2 h3 h4 h5 h6 h7 h8 h9 h10 h11 misKept mtaped msort mfrom mto mvalue mbad mm mkept mwas mother mfound mwarm mdrip mtape mbits msize mnumber)) 0 0 (ik_in (wz_X7 cI cS h0 h1 h2 h3 h4 h5 h6 h7 h8 h9 h10 h11 misKept mtaped msort mfrom mto mvalue mbad mm mkept mwas mother mfound mwarm mdrip mtape mbits msize mnumber)) := by
  refine ik_metW RX7 rfl (by decide) (Nat.le_of_ble_eq_true rfl) [(0, .ref h0), (1, .int x1)] rfl ?_
  intro p e s m below meth c C hr hlk
  unfold f_X7_deal at hf
  refine ik_iload_n C 1 rfl rfl dX7_deal_0 ?_
  refine ik_i2l C dX7_deal_1 ?_
  refine ik_lconst (v := (1 : Int64)) C (by decide) dX7_deal_2 ?_
  refine ik_ldc2 C wl_20_13 dX7_deal_3 ?_
  obtain ⟨r1, hc1, hf⟩ := ik_b1s hf
  have hM := (c_X7_in l D cI cS (x1).toInt64 (1 : Int64) (48 : Int64) r1 hc1)
  refine ik_goR (ik_runS (st := []) (As := [.long (x1).toInt64, .long (1 : Int64), .long (48 : Int64)]) C hM ms_X7_in wl_6_21 ⟨rfl, rfl, Nat.le_of_ble_eq_true rfl, Nat.le_of_ble_eq_true rfl⟩ [] rfl (by decide +kernel) rfl rfl (Nat.le_of_ble_eq_true rfl) dX7_deal_6 ⟨Nat.zero_le _, Nat.zero_le _⟩) rfl ?_
  refine ik_if_ne C 19 dX7_deal_9 (by decide) (fun hc => ?_) (fun hc => ?_)
  · have hf := ik_neg hc hf
    refine ik_aload_n C 0 rfl rfl dX7_deal_19 ?_
    refine ik_iload_n C 1 rfl rfl dX7_deal_20 ?_
    obtain ⟨r2, hc2, hf⟩ := ik_b1s hf
    have hM := (c_X7_isFarOn l D cI cS h0 h1 h2 h3 h4 h5 h6 h7 h8 h9 h10 h11 misKept mtaped msort mfrom mto mvalue mbad mm mkept mwas mother mfound mwarm mdrip mtape mbits msize mnumber x1 r2 hc2)
    refine ik_goR (ik_runV (st := []) (As := [.int x1]) C hM mv_X7_isFarOn wl_25_19 ⟨rfl, rfl, Nat.le_of_ble_eq_true rfl, Nat.le_of_ble_eq_true rfl⟩ [0, 1, 2, 3, 4, 5, 6, 7, 8, 9, 10, 11] rfl (by decide +kernel) 0 rfl rfl rfl rfl (Nat.le_of_ble_eq_true rfl) dX7_deal_21 ⟨Nat.zero_le _, Nat.zero_le _⟩) rfl ?_
    refine ik_if_eq C 34 dX7_deal_24 (by decide) (fun hc => ?_) (fun hc => ?_)
    · have hf := ik_pos hc hf
      refine ik_aload_n C 0 rfl rfl dX7_deal_34 ?_
      refine ik_get C inlX7 0 rfl rfl 0 (by decide) wl_4_12 rfl (v := .ref h1) rfl dX7_deal_35 ?_
      refine ik_aload_n C 0 rfl rfl dX7_deal_38 ?_
      refine ik_get C inlX7 0 rfl rfl 3 (by decide) wl_4_15 rfl (v := .ref h4) rfl dX7_deal_39 ?_
      obtain ⟨g3, hc3, hf⟩ := ik_b1s hf
      have hM := (c_X7_row l D cI cS h1 h4 mm mother g3 hc3)
      refine ik_goW (v := none) (wc := (wz_row cI cS h1 h4 mm mother)) (w1 := (wz_row cI cS h1 h4 mm g3)) [1, 4] [0, 2, 3, 5, 6, 7, 8, 9, 10, 11] 12 rfl rfl (wz_X7 cI cS h0 h1 h2 h3 h4 h5 h6 h7 h8 h9 h10 h11 misKept mtaped msort mfrom mto mvalue mbad mm mkept mwas g3 mfound mwarm mdrip mtape mbits msize mnumber) rfl [(h0, .inr (7, [.ref h1, .ref h2, .ref h3, .ref h4, .int misKept, .ref h5, .ref h6, .ref h7, .ref h8, .int mtaped, .int msort, .int mfrom, .int mto, .int mvalue, .int mbad, .ref h9, .ref h10, .ref h11])), (h2, .inl (cI, 82, .inl mkept)), (h3, .inl (cI, 82, .inl mwas)), (h5, .inl (cI, 7, .inl mfound)), (h6, .inl (cI, 16, .inl mwarm)), (h7, .inl (cI, 8, .inl mdrip)), (h8, .inl (cI, 120, .inl mtape)), (h9, .inl (cI, 4, .inl mbits)), (h10, .inl (cI, 4, .inl msize)), (h11, .inl (cI, 160, .inl mnumber))] rfl rfl rfl (by decide +kernel) (ik_runS (st := []) (As := [.ref h1, .ref h4]) C hM ms_X7_row wl_24_22 ⟨rfl, rfl, Nat.le_of_ble_eq_true rfl, Nat.le_of_ble_eq_true rfl⟩ [1, 4] rfl (by decide +kernel) rfl rfl (Nat.le_of_ble_eq_true rfl) dX7_deal_42 ⟨Nat.zero_le _, Nat.zero_le _⟩) rfl ?_
      refine ik_iconst (v := (-1 : Int32)) C (by decide) dX7_deal_45 ?_
      refine ik_istore_n C [(2, .int (-1 : Int32)), (0, .ref h0), (1, .int x1)] rfl (by decide) rfl dX7_deal_46 ?_
      refine ik_iconst (v := (0 : Int32)) C (by decide) dX7_deal_47 ?_
      refine ik_istore_n C [(3, .int (0 : Int32)), (2, .int (-1 : Int32)), (0, .ref h0), (1, .int x1)] rfl (by decide) rfl dX7_deal_48 ?_
      refine ik_iconst (v := (0 : Int32)) C (by decide) dX7_deal_49 ?_
      refine ik_istore C [(4, .int (0 : Int32)), (3, .int (0 : Int32)), (2, .int (-1 : Int32)), (0, .ref h0), (1, .int x1)] (by decide) rfl dX7_deal_50 ?_
      have hL_52 : ∀ (n_52 : Nat) (mm_52 : Nat → Int32) (mwas_52 : Nat → Int32) (mwarm_52 : Nat → Int32) (mdrip_52 : Nat → Int32) (x2_52 : Int32) (x3_52 : Int32) (x4_52 : Int32), ik_lp7 (b_X7_deal_52 mfound x1 g3) n_52 mm_52 mwas_52 mwarm_52 mdrip_52 x2_52 x3_52 x4_52 = some (R, mm_r, mwas_r, mother_r, mfound_r, mwarm_r, mdrip_r) → ik_G p l e ({ frames := 9, cells := 0, slots := 0, locals := 204 } : Room) s m ([.ref h0, .int x1] : List Value).toArray below meth c D (ik_in (wz_X7 cI cS h0 h1 h2 h3 h4 h5 h6 h7 h8 h9 h10 h11 misKept mtaped msort mfrom mto mvalue mbad mm mkept mwas mother mfound mwarm mdrip mtape mbits msize mnumber)) (ik_in (wz_X7 cI cS h0 h1 h2 h3 h4 h5 h6 h7 h8 h9 h10 h11 misKept mtaped msort mfrom mto mvalue mbad mm mkept mwas mother mfound mwarm mdrip mtape mbits msize mnumber)) 5 0 0 (MQ below (ik_Q (some (.int R)) D (wz_X7 cI cS h0 h1 h2 h3 h4 h5 h6 h7 h8 h9 h10 h11 misKept mtaped msort mfrom mto mvalue mbad mm_r mkept mwas_r mother_r mfound_r mwarm_r mdrip_r mtape mbits msize mnumber) (wz_X7 cI cS h0 h1 h2 h3 h4 h5 h6 h7 h8 h9 h10 h11 misKept mtaped msort mfrom mto mvalue mbad mm mkept mwas mother mfound mwarm mdrip mtape mbits msize mnumber)) ([.ref h0, .int x1] : List Value).toArray s 0 0 (ik_in (wz_X7 cI cS h0 h1 h2 h3 h4 h5 h6 h7 h8 h9 h10 h11 misKept mtaped msort mfrom mto mvalue mbad mm mkept mwas mother mfound mwarm mdrip mtape mbits msize mnumber))) 52 [(4, .int x4_52), (3, .int x3_52), (2, .int x2_52), (0, .ref h0), (1, .int x1)] [] (wz_X7 cI cS h0 h1 h2 h3 h4 h5 h6 h7 h8 h9 h10 h11 misKept mtaped msort mfrom mto mvalue mbad mm_52 mkept mwas_52 g3 mfound mwarm_52 mdrip_52 mtape mbits msize mnumber) := by
        intro n_52
        induction n_52 with
        | zero => intro _ _ _ _ _ _ _ hf; exact nomatch hf
        | succ n_52 ih_52 =>
          intro mm_52 mwas_52 mwarm_52 mdrip_52 x2_52 x3_52 x4_52 hf
          replace hf : b_X7_deal_52 mfound x1 g3 (ik_lp7 (b_X7_deal_52 mfound x1 g3) n_52) mm_52 mwas_52 mwarm_52 mdrip_52 x2_52 x3_52 x4_52 = some (R, mm_r, mwas_r, mother_r, mfound_r, mwarm_r, mdrip_r) := hf
          unfold b_X7_deal_52 at hf
          refine ik_iload C 0 rfl dX7_deal_52 ?_
          refine ik_bipush (v := (64 : Int32)) C (by decide) dX7_deal_54 ?_
          refine ik_icmp_ge C 103 dX7_deal_56 (by decide) (fun hc => ?_) (fun hc => ?_)
          · have hf := ik_pos hc hf
            refine ik_aload_n C 3 rfl rfl dX7_deal_103 ?_
            refine ik_get C inlX7 0 rfl rfl 3 (by decide) wl_4_15 rfl (v := .ref h4) rfl dX7_deal_104 ?_
            refine ik_aload_n C 3 rfl rfl dX7_deal_107 ?_
            refine ik_get C inlX7 0 rfl rfl 0 (by decide) wl_4_12 rfl (v := .ref h1) rfl dX7_deal_108 ?_
            obtain ⟨g4, hc4, hf⟩ := ik_b1s hf
            have hM := (c_X7_row l D cI cS h4 h1 g3 mm_52 g4 hc4)
            refine ik_goW (v := none) (wc := (wz_row cI cS h4 h1 g3 mm_52)) (w1 := (wz_row cI cS h4 h1 g3 g4)) [4, 1] [0, 2, 3, 5, 6, 7, 8, 9, 10, 11] 12 rfl rfl (wz_X7 cI cS h0 h1 h2 h3 h4 h5 h6 h7 h8 h9 h10 h11 misKept mtaped msort mfrom mto mvalue mbad g4 mkept mwas_52 g3 mfound mwarm_52 mdrip_52 mtape mbits msize mnumber) rfl [(h0, .inr (7, [.ref h1, .ref h2, .ref h3, .ref h4, .int misKept, .ref h5, .ref h6, .ref h7, .ref h8, .int mtaped, .int msort, .int mfrom, .int mto, .int mvalue, .int mbad, .ref h9, .ref h10, .ref h11])), (h2, .inl (cI, 82, .inl mkept)), (h3, .inl (cI, 82, .inl mwas_52)), (h5, .inl (cI, 7, .inl mfound)), (h6, .inl (cI, 16, .inl mwarm_52)), (h7, .inl (cI, 8, .inl mdrip_52)), (h8, .inl (cI, 120, .inl mtape)), (h9, .inl (cI, 4, .inl mbits)), (h10, .inl (cI, 4, .inl msize)), (h11, .inl (cI, 160, .inl mnumber))] rfl rfl rfl (by decide +kernel) (ik_runS (st := []) (As := [.ref h4, .ref h1]) C hM ms_X7_row wl_24_22 ⟨rfl, rfl, Nat.le_of_ble_eq_true rfl, Nat.le_of_ble_eq_true rfl⟩ [4, 1] rfl (by decide +kernel) rfl rfl (Nat.le_of_ble_eq_true rfl) dX7_deal_111 ⟨Nat.zero_le _, Nat.zero_le _⟩) rfl ?_
            refine ik_aload_n C 3 rfl rfl dX7_deal_114 ?_
            refine ik_iload_n C 2 rfl rfl dX7_deal_115 ?_
            obtain ⟨r5, g6, hc6, hf⟩ := ik_b2s hf
            have hM := (c_X7_orNone l D cI cS h0 h1 h2 h3 h4 h5 h6 h7 h8 h9 h10 h11 misKept mtaped msort mfrom mto mvalue mbad g4 mkept mwas_52 g3 mfound mwarm_52 mdrip_52 mtape mbits msize mnumber x2_52 r5 g6 hc6)
            refine ik_goW (v := (some (.int r5))) (wc := (wz_X7 cI cS h0 h1 h2 h3 h4 h5 h6 h7 h8 h9 h10 h11 misKept mtaped msort mfrom mto mvalue mbad g4 mkept mwas_52 g3 mfound mwarm_52 mdrip_52 mtape mbits msize mnumber)) (w1 := (wz_X7 cI cS h0 h1 h2 h3 h4 h5 h6 h7 h8 h9 h10 h11 misKept mtaped msort mfrom mto mvalue mbad g4 mkept mwas_52 g3 g6 mwarm_52 mdrip_52 mtape mbits msize mnumber)) [0, 1, 2, 3, 4, 5, 6, 7, 8, 9, 10, 11] [] 12 rfl rfl (wz_X7 cI cS h0 h1 h2 h3 h4 h5 h6 h7 h8 h9 h10 h11 misKept mtaped msort mfrom mto mvalue mbad g4 mkept mwas_52 g3 g6 mwarm_52 mdrip_52 mtape mbits msize mnumber) rfl [] rfl rfl rfl (by decide +kernel) (ik_runV (st := []) (As := [.int x2_52]) C hM mv_X7_orNone wl_27_8 ⟨rfl, rfl, Nat.le_of_ble_eq_true rfl, Nat.le_of_ble_eq_true rfl⟩ [0, 1, 2, 3, 4, 5, 6, 7, 8, 9, 10, 11] rfl (by decide +kernel) 0 rfl rfl rfl rfl (Nat.le_of_ble_eq_true rfl) dX7_deal_116 ⟨Nat.zero_le _, Nat.zero_le _⟩) rfl ?_
            obtain ⟨rfl, rfl, rfl, rfl, rfl, rfl, rfl⟩ := ik_e7 hf
            exact ik_iretW C hr hlk dX7_deal_119
          · have hf := ik_neg hc hf
            refine ik_aload_n C 3 rfl rfl dX7_deal_59 ?_
            refine ik_iload C 0 rfl dX7_deal_60 ?_
            obtain ⟨g4, hc4, hf⟩ := ik_b1s hf
            have hM := (c_X7_lights l D cI cS h0 h1 h2 h3 h4 h5 h6 h7 h8 h9 h10 h11 misKept mtaped msort mfrom mto mvalue mbad mm_52 mkept mwas_52 g3 mfound mwarm_52 mdrip_52 mtape mbits msize mnumber x4_52 g4 hc4)
            refine ik_goW (v := none) (wc := (wz_X7 cI cS h0 h1 h2 h3 h4 h5 h6 h7 h8 h9 h10 h11 misKept mtaped msort mfrom mto mvalue mbad mm_52 mkept mwas_52 g3 mfound mwarm_52 mdrip_52 mtape mbits msize mnumber)) (w1 := (wz_X7 cI cS h0 h1 h2 h3 h4 h5 h6 h7 h8 h9 h10 h11 misKept mtaped msort mfrom mto mvalue mbad g4 mkept mwas_52 g3 mfound mwarm_52 mdrip_52 mtape mbits msize mnumber)) [0, 1, 2, 3, 4, 5, 6, 7, 8, 9, 10, 11] [] 12 rfl rfl (wz_X7 cI cS h0 h1 h2 h3 h4 h5 h6 h7 h8 h9 h10 h11 misKept mtaped msort mfrom mto mvalue mbad g4 mkept mwas_52 g3 mfound mwarm_52 mdrip_52 mtape mbits msize mnumber) rfl [] rfl rfl rfl (by decide +kernel) (ik_runV (st := []) (As := [.int x4_52]) C hM mv_X7_lights wl_27_3 ⟨rfl, rfl, Nat.le_of_ble_eq_true rfl, Nat.le_of_ble_eq_true rfl⟩ [0, 1, 2, 3, 4, 5, 6, 7, 8, 9, 10, 11] rfl (by decide +kernel) 0 rfl rfl rfl rfl (Nat.le_of_ble_eq_true rfl) dX7_deal_62 ⟨Nat.zero_le _, Nat.zero_le _⟩) rfl ?_
            refine ik_iload_n C 2 rfl rfl dX7_deal_65 ?_
            refine ik_if_lt C 77 dX7_deal_66 (by decide) (fun hc => ?_) (fun hc => ?_)
            · have hf := ik_pos hc hf
              refine ik_aload_n C 3 rfl rfl dX7_deal_77 ?_
              refine ik_iload_n C 4 rfl rfl dX7_deal_78 ?_
              obtain ⟨r5, g6, g7, g8, g9, hc9, hf⟩ := ik_b5s hf
              have hM := (c_X7_held l D cI cS h0 h1 h2 h3 h4 h5 h6 h7 h8 h9 h10 h11 misKept mtaped msort mfrom mto mvalue mbad g4 mkept mwas_52 g3 mfound mwarm_52 mdrip_52 mtape mbits msize mnumber x1 r5 g6 g7 g8 g9 hc9)
              refine ik_goW (v := (some (.int r5))) (wc := (wz_X7 cI cS h0 h1 h2 h3 h4 h5 h6 h7 h8 h9 h10 h11 misKept mtaped msort mfrom mto mvalue mbad g4 mkept mwas_52 g3 mfound mwarm_52 mdrip_52 mtape mbits msize mnumber)) (w1 := (wz_X7 cI cS h0 h1 h2 h3 h4 h5 h6 h7 h8 h9 h10 h11 misKept mtaped msort mfrom mto mvalue mbad g6 mkept g7 g3 mfound g8 g9 mtape mbits msize mnumber)) [0, 1, 2, 3, 4, 5, 6, 7, 8, 9, 10, 11] [] 12 rfl rfl (wz_X7 cI cS h0 h1 h2 h3 h4 h5 h6 h7 h8 h9 h10 h11 misKept mtaped msort mfrom mto mvalue mbad g6 mkept g7 g3 mfound g8 g9 mtape mbits msize mnumber) rfl [] rfl rfl rfl (by decide +kernel) (ik_runV (st := []) (As := [.int x1]) C hM mv_X7_held wl_26_15 ⟨rfl, rfl, Nat.le_of_ble_eq_true rfl, Nat.le_of_ble_eq_true rfl⟩ [0, 1, 2, 3, 4, 5, 6, 7, 8, 9, 10, 11] rfl (by decide +kernel) 0 rfl rfl rfl rfl (Nat.le_of_ble_eq_true rfl) dX7_deal_79 ⟨Nat.zero_le _, Nat.zero_le _⟩) rfl ?_
              refine ik_iload_n C 4 rfl rfl dX7_deal_82 ?_
              refine ik_icmp_ge C 89 dX7_deal_83 (by decide) (fun hc => ?_) (fun hc => ?_)
              · have hf := ik_pos hc hf
                refine ik_iload C 0 rfl dX7_deal_89 ?_
                refine ik_istore_n C [(2, .int x4_52), (4, .int x4_52), (3, .int x3_52), (0, .ref h0), (1, .int x1)] rfl (by decide) rfl dX7_deal_91 ?_
                refine ik_aload_n C 3 rfl rfl dX7_deal_92 ?_
                obtain ⟨r10, hc10, hf⟩ := ik_b1s hf
                have hM := (c_X7_light l D cI cS h0 h1 h2 h3 h4 h5 h6 h7 h8 h9 h10 h11 misKept mtaped msort mfrom mto mvalue mbad g6 mkept g7 g3 mfound g8 g9 mtape mbits msize mnumber r10 hc10)
                refine ik_goR (ik_runV (st := []) (As := []) C hM mv_X7_light wl_27_7 ⟨rfl, rfl, Nat.le_of_ble_eq_true rfl, Nat.le_of_ble_eq_true rfl⟩ [0, 1, 2, 3, 4, 5, 6, 7, 8, 9, 10, 11] rfl (by decide +kernel) 0 rfl rfl rfl rfl (Nat.le_of_ble_eq_true rfl) dX7_deal_93 ⟨Nat.zero_le _, Nat.zero_le _⟩) rfl ?_
                refine ik_istore_n C [(3, .int r10), (2, .int x4_52), (4, .int x4_52), (0, .ref h0), (1, .int x1)] rfl (by decide) rfl dX7_deal_96 ?_
                refine ik_iinc C [(4, .int (x4_52 + (1 : Int32))), (3, .int r10), (2, .int x4_52), (0, .ref h0), (1, .int x1)] 2 rfl rfl (by decide) rfl dX7_deal_97 ?_
                refine ik_goto C 52 dX7_deal_100 (by decide) ?_
                exact ik_sub [0, 1, 2, 3, 4] [(4, .int (x4_52 + (1 : Int32))), (3, .int r10), (2, .int x4_52), (0, .ref h0), (1, .int x1)] rfl (ih_52 g6 g7 g8 g9 x4_52 r10 (x4_52 + (1 : Int32)) hf)
              · have hf := ik_neg hc hf
                refine ik_goto C 97 dX7_deal_86 (by decide) ?_
                refine ik_iinc C [(4, .int (x4_52 + (1 : Int32))), (3, .int x3_52), (2, .int x2_52), (0, .ref h0), (1, .int x1)] 0 rfl rfl (by decide) rfl dX7_deal_97 ?_
                refine ik_goto C 52 dX7_deal_100 (by decide) ?_
                exact ik_sub [0, 1, 2, 3, 4] [(4, .int (x4_52 + (1 : Int32))), (3, .int x3_52), (2, .int x2_52), (0, .ref h0), (1, .int x1)] rfl (ih_52 g6 g7 g8 g9 x2_52 x3_52 (x4_52 + (1 : Int32)) hf)
            · have hf := ik_neg hc hf
              refine ik_aload_n C 3 rfl rfl dX7_deal_69 ?_
              obtain ⟨r5, hc5, hf⟩ := ik_b1s hf
              have hM := (c_X7_light l D cI cS h0 h1 h2 h3 h4 h5 h6 h7 h8 h9 h10 h11 misKept mtaped msort mfrom mto mvalue mbad g4 mkept mwas_52 g3 mfound mwarm_52 mdrip_52 mtape mbits msize mnumber r5 hc5)
              refine ik_goR (ik_runV (st := []) (As := []) C hM mv_X7_light wl_27_7 ⟨rfl, rfl, Nat.le_of_ble_eq_true rfl, Nat.le_of_ble_eq_true rfl⟩ [0, 1, 2, 3, 4, 5, 6, 7, 8, 9, 10, 11] rfl (by decide +kernel) 0 rfl rfl rfl rfl (Nat.le_of_ble_eq_true rfl) dX7_deal_70 ⟨Nat.zero_le _, Nat.zero_le _⟩) rfl ?_
              refine ik_iload_n C 1 rfl rfl dX7_deal_73 ?_
              refine ik_icmp_le C 97 dX7_deal_74 (by decide) (fun hc => ?_) (fun hc => ?_)
              · have hf := ik_pos hc hf
                refine ik_iinc C [(4, .int (x4_52 + (1 : Int32))), (3, .int x3_52), (2, .int x2_52), (0, .ref h0), (1, .int x1)] 0 rfl rfl (by decide) rfl dX7_deal_97 ?_
                refine ik_goto C 52 dX7_deal_100 (by decide) ?_
                exact ik_sub [0, 1, 2, 3, 4] [(4, .int (x4_52 + (1 : Int32))), (3, .int x3_52), (2, .int x2_52), (0, .ref h0), (1, .int x1)] rfl (ih_52 g4 mwas_52 mwarm_52 mdrip_52 x2_52 x3_52 (x4_52 + (1 : Int32)) hf)
              · have hf := ik_neg hc hf
                refine ik_aload_n C 3 rfl rfl dX7_deal_77 ?_
                refine ik_iload_n C 4 rfl rfl dX7_deal_78 ?_
                obtain ⟨r6, g7, g8, g9, g10, hc10, hf⟩ := ik_b5s hf
                have hM := (c_X7_held l D cI cS h0 h1 h2 h3 h4 h5 h6 h7 h8 h9 h10 h11 misKept mtaped msort mfrom mto mvalue mbad g4 mkept mwas_52 g3 mfound mwarm_52 mdrip_52 mtape mbits msize mnumber x1 r6 g7 g8 g9 g10 hc10)
                refine ik_goW (v := (some (.int r6))) (wc := (wz_X7 cI cS h0 h1 h2 h3 h4 h5 h6 h7 h8 h9 h10 h11 misKept mtaped msort mfrom mto mvalue mbad g4 mkept mwas_52 g3 mfound mwarm_52 mdrip_52 mtape mbits msize mnumber)) (w1 := (wz_X7 cI cS h0 h1 h2 h3 h4 h5 h6 h7 h8 h9 h10 h11 misKept mtaped msort mfrom mto mvalue mbad g7 mkept g8 g3 mfound g9 g10 mtape mbits msize mnumber)) [0, 1, 2, 3, 4, 5, 6, 7, 8, 9, 10, 11] [] 12 rfl rfl (wz_X7 cI cS h0 h1 h2 h3 h4 h5 h6 h7 h8 h9 h10 h11 misKept mtaped msort mfrom mto mvalue mbad g7 mkept g8 g3 mfound g9 g10 mtape mbits msize mnumber) rfl [] rfl rfl rfl (by decide +kernel) (ik_runV (st := []) (As := [.int x1]) C hM mv_X7_held wl_26_15 ⟨rfl, rfl, Nat.le_of_ble_eq_true rfl, Nat.le_of_ble_eq_true rfl⟩ [0, 1, 2, 3, 4, 5, 6, 7, 8, 9, 10, 11] rfl (by decide +kernel) 0 rfl rfl rfl rfl (Nat.le_of_ble_eq_true rfl) dX7_deal_79 ⟨Nat.zero_le _, Nat.zero_le _⟩) rfl ?_
                refine ik_iload_n C 4 rfl rfl dX7_deal_82 ?_
                refine ik_icmp_ge C 89 dX7_deal_83 (by decide) (fun hc => ?_) (fun hc => ?_)
                · have hf := ik_pos hc hf
                  refine ik_iload C 0 rfl dX7_deal_89 ?_
                  refine ik_istore_n C [(2, .int x4_52), (4, .int x4_52), (3, .int x3_52), (0, .ref h0), (1, .int x1)] rfl (by decide) rfl dX7_deal_91 ?_
                  refine ik_aload_n C 3 rfl rfl dX7_deal_92 ?_
                  obtain ⟨r11, hc11, hf⟩ := ik_b1s hf
                  have hM := (c_X7_light l D cI cS h0 h1 h2 h3 h4 h5 h6 h7 h8 h9 h10 h11 misKept mtaped msort mfrom mto mvalue mbad g7 mkept g8 g3 mfound g9 g10 mtape mbits msize mnumber r11 hc11)
                  refine ik_goR (ik_runV (st := []) (As := []) C hM mv_X7_light wl_27_7 ⟨rfl, rfl, Nat.le_of_ble_eq_true rfl, Nat.le_of_ble_eq_true rfl⟩ [0, 1, 2, 3, 4, 5, 6, 7, 8, 9, 10, 11] rfl (by decide +kernel) 0 rfl rfl rfl rfl (Nat.le_of_ble_eq_true rfl) dX7_deal_93 ⟨Nat.zero_le _, Nat.zero_le _⟩) rfl ?_
                  refine ik_istore_n C [(3, .int r11), (2, .int x4_52), (4, .int x4_52), (0, .ref h0), (1, .int x1)] rfl (by decide) rfl dX7_deal_96 ?_
                  refine ik_iinc C [(4, .int (x4_52 + (1 : Int32))), (3, .int r11), (2, .int x4_52), (0, .ref h0), (1, .int x1)] 2 rfl rfl (by decide) rfl dX7_deal_97 ?_
                  refine ik_goto C 52 dX7_deal_100 (by decide) ?_
                  exact ik_sub [0, 1, 2, 3, 4] [(4, .int (x4_52 + (1 : Int32))), (3, .int r11), (2, .int x4_52), (0, .ref h0), (1, .int x1)] rfl (ih_52 g7 g8 g9 g10 x4_52 r11 (x4_52 + (1 : Int32)) hf)
                · have hf := ik_neg hc hf
                  refine ik_goto C 97 dX7_deal_86 (by decide) ?_
                  refine ik_iinc C [(4, .int (x4_52 + (1 : Int32))), (3, .int x3_52), (2, .int x2_52), (0, .ref h0), (1, .int x1)] 0 rfl rfl (by decide) rfl dX7_deal_97 ?_
                  refine ik_goto C 52 dX7_deal_100 (by decide) ?_
                  exact ik_sub [0, 1, 2, 3, 4] [(4, .int (x4_52 + (1 : Int32))), (3, .int x3_52), (2, .int x2_52), (0, .ref h0), (1, .int x1)] rfl (ih_52 g7 g8 g9 g10 x2_52 x3_52 (x4_52 + (1 : Int32)) hf)
      exact hL_52 ik_fu mm mwas mwarm mdrip (-1 : Int32) (0 : Int32) (0 : Int32) hf
    · have hf := ik_neg hc hf
      refine ik_aload_n C 0 rfl rfl dX7_deal_27 ?_
      refine ik_ldc C wl_6_16 dX7_deal_28 ?_
      obtain ⟨r3, g4, hc4, hf⟩ := ik_b2s hf
      have hM := (c_X7_finds l D cI cS h0 h1 h2 h3 h4 h5 h6 h7 h8 h9 h10 h11 misKept mtaped msort mfrom mto mvalue mbad mm mkept mwas mother mfound mwarm mdrip mtape mbits msize mnumber (-1000005 : Int32) r3 g4 hc4)
      refine ik_goW (v := (some (.int r3))) (wc := (wz_X7 cI cS h0 h1 h2 h3 h4 h5 h6 h7 h8 h9 h10 h11 misKept mtaped msort mfrom mto mvalue mbad mm mkept mwas mother mfound mwarm mdrip mtape mbits msize mnumber)) (w1 := (wz_X7 cI cS h0 h1 h2 h3 h4 h5 h6 h7 h8 h9 h10 h11 misKept mtaped msort mfrom mto mvalue mbad mm mkept mwas mother g4 mwarm mdrip mtape mbits msize mnumber)) [0, 1, 2, 3, 4, 5, 6, 7, 8, 9, 10, 11] [] 12 rfl rfl (wz_X7 cI cS h0 h1 h2 h3 h4 h5 h6 h7 h8 h9 h10 h11 misKept mtaped msort mfrom mto mvalue mbad mm mkept mwas mother g4 mwarm mdrip mtape mbits msize mnumber) rfl [] rfl rfl rfl (by decide +kernel) (ik_runV (st := []) (As := [.int (-1000005 : Int32)]) C hM mv_X7_finds wl_7_8 ⟨rfl, rfl, Nat.le_of_ble_eq_true rfl, Nat.le_of_ble_eq_true rfl⟩ [0, 1, 2, 3, 4, 5, 6, 7, 8, 9, 10, 11] rfl (by decide +kernel) 0 rfl rfl rfl rfl (Nat.le_of_ble_eq_true rfl) dX7_deal_30 ⟨Nat.zero_le _, Nat.zero_le _⟩) rfl ?_
      obtain ⟨rfl, rfl, rfl, rfl, rfl, rfl, rfl⟩ := ik_e7 hf
      exact ik_iretW C hr hlk dX7_deal_33
  · have hf := ik_pos hc hf
    refine ik_aload_n C 0 rfl rfl dX7_deal_12 ?_
    refine ik_ldc C wl_6_14 dX7_deal_13 ?_
    obtain ⟨r2, g3, hc3, hf⟩ := ik_b2s hf
    have hM := (c_X7_finds l D cI cS h0 h1 h2 h3 h4 h5 h6 h7 h8 h9 h10 h11 misKept mtaped msort mfrom mto mvalue mbad mm mkept mwas mother mfound mwarm mdrip mtape mbits msize mnumber (-1000001 : Int32) r2 g3 hc3)
    refine ik_goW (v := (some (.int r2))) (wc := (wz_X7 cI cS h0 h1 h2 h3 h4 h5 h6 h7 h8 h9 h10 h11 misKept mtaped msort mfrom mto mvalue mbad mm mkept mwas mother mfound mwarm mdrip mtape mbits msize mnumber)) (w1 := (wz_X7 cI cS h0 h1 h2 h3 h4 h5 h6 h7 h8 h9 h10 h11 misKept mtaped msort mfrom mto mvalue mbad mm mkept mwas mother g3 mwarm mdrip mtape mbits msize mnumber)) [0, 1, 2, 3, 4, 5, 6, 7, 8, 9, 10, 11] [] 12 rfl rfl (wz_X7 cI cS h0 h1 h2 h3 h4 h5 h6 h7 h8 h9 h10 h11 misKept mtaped msort mfrom mto mvalue mbad mm mkept mwas mother g3 mwarm mdrip mtape mbits msize mnumber) rfl [] rfl rfl rfl (by decide +kernel) (ik_runV (st := []) (As := [.int (-1000001 : Int32)]) C hM mv_X7_finds wl_7_8 ⟨rfl, rfl, Nat.le_of_ble_eq_true rfl, Nat.le_of_ble_eq_true rfl⟩ [0, 1, 2, 3, 4, 5, 6, 7, 8, 9, 10, 11] rfl (by decide +kernel) 0 rfl rfl rfl rfl (Nat.le_of_ble_eq_true rfl) dX7_deal_15 ⟨Nat.zero_le _, Nat.zero_le _⟩) rfl ?_
    obtain ⟨rfl, rfl, rfl, rfl, rfl, rfl, rfl⟩ := ik_e7 hf
    exact ik_iretW C hr hlk dX7_deal_18
theorem mv_X7_bears : ik_V yX7_bears RX7 cX7_bears 5 (some .int) 1 := ⟨wl_27_17, wl_27_18, wl_1_5, wl_27_19, by decide +kernel⟩
set_option maxHeartbeats 4000000 in
set_option maxRecDepth 100000 in
theorem c_X7_bears (l : Launch) (D : va_G) (cI cS : ClassId) (h0 h1 h2 h3 h4 h5 h6 h7 h8 h9 h10 h11 : Nat) (misKept : Int32) (mtaped : Int32) (msort : Int32) (mfrom : Int32) (mto : Int32) (mvalue : Int32) (mbad : Int32) (mm : Nat → Int32) (mkept : Nat → Int32) (mwas : Nat → Int32) (mother : Nat → Int32) (mfound : Nat → Int32) (mwarm : Nat → Int32) (mdrip : Nat → Int32) (mtape : Nat → Int32) (mbits : Nat → Int32) (msize : Nat → Int32) (mnumber : Nat → Int32) (x1 : Int32) (R : Int32) (mm_r : Nat → Int32) (mwas_r : Nat → Int32) (mfound_r : Nat → Int32) (mwarm_r : Nat → Int32) (mdrip_r : Nat → Int32) (hf : f_X7_bears mm mwas mfound mwarm mdrip x1 = some (R, mm_r, mwas_r, mfound_r, mwarm_r, mdrip_r)) : Met l yX7_bears (ik_ws yX7_bears cX7_bears 5 (some .int)) ({ frames := 9, cells := 0, slots := 0, locals := 204 } : Room) (ik_P D cI cS [.ref h0, .int x1] (wz_X7 cI cS h0 h1 h2 h3 h4 h5 h6 h7 h8 h9 h10 h11 misKept mtaped msort mfrom mto mvalue mbad mm mkept mwas mother mfound mwarm mdrip mtape mbits msize mnumber)) (ik_Q (some (.int R)) D (wz_X7 cI cS h0 h1 h2 h3 h4 h5 h6 h7 h8 h9 h10 h11 misKept mtaped msort mfrom mto mvalue mbad mm_r mkept mwas_r mother mfound_r mwarm_r mdrip_r mtape mbits msize mnumber) (wz_X7 cI cS h0 h1 h2 h3 h4 h5 h6 h7 h8 h9 h10 h11 misKept mtaped msort mfrom mto mvalue mbad mm mkept mwas mother mfound mwarm mdrip mtape mbits msize mnumber)) 0 0 (ik_in (wz_X7 cI cS h0 h1 h2 h3 h4 h5 h6 h7 h8 h9 h10 h11 misKept mtaped msort mfrom mto mvalue mbad mm mkept mwas mother mfound mwarm mdrip mtape mbits msize mnumber)) := by
  refine ik_metW RX7 rfl (by decide) (Nat.le_of_ble_eq_true rfl) [(0, .ref h0), (1, .int x1)] rfl ?_
  intro p e s m below meth c C hr hlk
  unfold f_X7_bears at hf
  refine ik_iload_n C 1 rfl rfl dX7_bears_0 ?_
  refine ik_i2l C dX7_bears_1 ?_
  refine ik_lconst (v := (1 : Int64)) C (by decide) dX7_bears_2 ?_
  refine ik_ldc2 C wl_20_13 dX7_bears_3 ?_
  obtain ⟨r1, hc1, hf⟩ := ik_b1s hf
  have hM := (c_X7_in l D cI cS (x1).toInt64 (1 : Int64) (48 : Int64) r1 hc1)
  refine ik_goR (ik_runS (st := []) (As := [.long (x1).toInt64, .long (1 : Int64), .long (48 : Int64)]) C hM ms_X7_in wl_6_21 ⟨rfl, rfl, Nat.le_of_ble_eq_true rfl, Nat.le_of_ble_eq_true rfl⟩ [] rfl (by decide +kernel) rfl rfl (Nat.le_of_ble_eq_true rfl) dX7_bears_6 ⟨Nat.zero_le _, Nat.zero_le _⟩) rfl ?_
  refine ik_if_ne C 19 dX7_bears_9 (by decide) (fun hc => ?_) (fun hc => ?_)
  · have hf := ik_neg hc hf
    refine ik_aload_n C 0 rfl rfl dX7_bears_19 ?_
    refine ik_iload_n C 1 rfl rfl dX7_bears_20 ?_
    obtain ⟨r2, hc2, hf⟩ := ik_b1s hf
    have hM := (c_X7_isFarOn l D cI cS h0 h1 h2 h3 h4 h5 h6 h7 h8 h9 h10 h11 misKept mtaped msort mfrom mto mvalue mbad mm mkept mwas mother mfound mwarm mdrip mtape mbits msize mnumber x1 r2 hc2)
    refine ik_goR (ik_runV (st := []) (As := [.int x1]) C hM mv_X7_isFarOn wl_25_19 ⟨rfl, rfl, Nat.le_of_ble_eq_true rfl, Nat.le_of_ble_eq_true rfl⟩ [0, 1, 2, 3, 4, 5, 6, 7, 8, 9, 10, 11] rfl (by decide +kernel) 0 rfl rfl rfl rfl (Nat.le_of_ble_eq_true rfl) dX7_bears_21 ⟨Nat.zero_le _, Nat.zero_le _⟩) rfl ?_
    refine ik_if_eq C 34 dX7_bears_24 (by decide) (fun hc => ?_) (fun hc => ?_)
    · have hf := ik_pos hc hf
      refine ik_aload_n C 0 rfl rfl dX7_bears_34 ?_
      refine ik_get C inlX7 0 rfl rfl 0 (by decide) wl_4_12 rfl (v := .ref h1) rfl dX7_bears_35 ?_
      refine ik_iconst (v := (1 : Int32)) C (by decide) dX7_bears_38 ?_
      refine ik_iald C 1 rfl (ik_vin (by decide)) dX7_bears_39 ?_
      refine ik_istore_n C [(2, .int (mm ((1 : Int32)).toNatClampNeg)), (0, .ref h0), (1, .int x1)] rfl (by decide) rfl dX7_bears_40 ?_
      refine ik_bipush (v := (20 : Int32)) C (by decide) dX7_bears_41 ?_
      refine ik_istore_n C [(3, .int (20 : Int32)), (2, .int (mm ((1 : Int32)).toNatClampNeg)), (0, .ref h0), (1, .int x1)] rfl (by decide) rfl dX7_bears_43 ?_
      refine ik_iconst (v := (0 : Int32)) C (by decide) dX7_bears_44 ?_
      refine ik_istore C [(4, .int (0 : Int32)), (3, .int (20 : Int32)), (2, .int (mm ((1 : Int32)).toNatClampNeg)), (0, .ref h0), (1, .int x1)] (by decide) rfl dX7_bears_45 ?_
      have hL_47 : ∀ (n_47 : Nat) (mm_47 : Nat → Int32) (mwas_47 : Nat → Int32) (mwarm_47 : Nat → Int32) (mdrip_47 : Nat → Int32) (x3_47 : Int32) (x4_47 : Int32), ik_lp6 (b_X7_bears_47 mm mfound x1) n_47 mm_47 mwas_47 mwarm_47 mdrip_47 x3_47 x4_47 = some (R, mm_r, mwas_r, mfound_r, mwarm_r, mdrip_r) → ik_G p l e ({ frames := 9, cells := 0, slots := 0, locals := 204 } : Room) s m ([.ref h0, .int x1] : List Value).toArray below meth c D (ik_in (wz_X7 cI cS h0 h1 h2 h3 h4 h5 h6 h7 h8 h9 h10 h11 misKept mtaped msort mfrom mto mvalue mbad mm mkept mwas mother mfound mwarm mdrip mtape mbits msize mnumber)) (ik_in (wz_X7 cI cS h0 h1 h2 h3 h4 h5 h6 h7 h8 h9 h10 h11 misKept mtaped msort mfrom mto mvalue mbad mm mkept mwas mother mfound mwarm mdrip mtape mbits msize mnumber)) 5 0 0 (MQ below (ik_Q (some (.int R)) D (wz_X7 cI cS h0 h1 h2 h3 h4 h5 h6 h7 h8 h9 h10 h11 misKept mtaped msort mfrom mto mvalue mbad mm_r mkept mwas_r mother mfound_r mwarm_r mdrip_r mtape mbits msize mnumber) (wz_X7 cI cS h0 h1 h2 h3 h4 h5 h6 h7 h8 h9 h10 h11 misKept mtaped msort mfrom mto mvalue mbad mm mkept mwas mother mfound mwarm mdrip mtape mbits msize mnumber)) ([.ref h0, .int x1] : List Value).toArray s 0 0 (ik_in (wz_X7 cI cS h0 h1 h2 h3 h4 h5 h6 h7 h8 h9 h10 h11 misKept mtaped msort mfrom mto mvalue mbad mm mkept mwas mother mfound mwarm mdrip mtape mbits msize mnumber))) 47 [(4, .int x4_47), (3, .int x3_47), (2, .int (mm ((1 : Int32)).toNatClampNeg)), (0, .ref h0), (1, .int x1)] [] (wz_X7 cI cS h0 h1 h2 h3 h4 h5 h6 h7 h8 h9 h10 h11 misKept mtaped msort mfrom mto mvalue mbad mm_47 mkept mwas_47 mother mfound mwarm_47 mdrip_47 mtape mbits msize mnumber) := by
        intro n_47
        induction n_47 with
        | zero => intro _ _ _ _ _ _ hf; exact nomatch hf
        | succ n_47 ih_47 =>
          intro mm_47 mwas_47 mwarm_47 mdrip_47 x3_47 x4_47 hf
          replace hf : b_X7_bears_47 mm mfound x1 (ik_lp6 (b_X7_bears_47 mm mfound x1) n_47) mm_47 mwas_47 mwarm_47 mdrip_47 x3_47 x4_47 = some (R, mm_r, mwas_r, mfound_r, mwarm_r, mdrip_r) := hf
          unfold b_X7_bears_47 at hf
          refine ik_iload_n C 1 rfl rfl dX7_bears_47 ?_
          refine ik_bipush (v := (-20 : Int32)) C (by decide) dX7_bears_48 ?_
          refine ik_icmp_lt C 97 dX7_bears_50 (by decide) (fun hc => ?_) (fun hc => ?_)
          · have hf := ik_pos hc hf
            refine ik_aload_n C 3 rfl rfl dX7_bears_97 ?_
            refine ik_get C inlX7 0 rfl rfl 0 (by decide) wl_4_12 rfl (v := .ref h1) rfl dX7_bears_98 ?_
            refine ik_iconst (v := (1 : Int32)) C (by decide) dX7_bears_101 ?_
            refine ik_iload_n C 2 rfl rfl dX7_bears_102 ?_
            refine ik_iast C 1 rfl (ik_vin (by decide)) (wz_X7 cI cS h0 h1 h2 h3 h4 h5 h6 h7 h8 h9 h10 h11 misKept mtaped msort mfrom mto mvalue mbad (upd mm_47 ((1 : Int32)).toNatClampNeg (mm ((1 : Int32)).toNatClampNeg)) mkept mwas_47 mother mfound mwarm_47 mdrip_47 mtape mbits msize mnumber) rfl dX7_bears_103 ?_
            refine ik_iload C 0 rfl dX7_bears_104 ?_
            refine ik_if_eq C 113 dX7_bears_106 (by decide) (fun hc => ?_) (fun hc => ?_)
            · have hf := ik_pos hc hf
              refine ik_aload_n C 3 rfl rfl dX7_bears_113 ?_
              refine ik_ldc C wl_25_18 dX7_bears_114 ?_
              obtain ⟨r3, g4, hc4, hf⟩ := ik_b2s hf
              have hM := (c_X7_finds l D cI cS h0 h1 h2 h3 h4 h5 h6 h7 h8 h9 h10 h11 misKept mtaped msort mfrom mto mvalue mbad (upd mm_47 ((1 : Int32)).toNatClampNeg (mm ((1 : Int32)).toNatClampNeg)) mkept mwas_47 mother mfound mwarm_47 mdrip_47 mtape mbits msize mnumber (-1000004 : Int32) r3 g4 hc4)
              refine ik_goW (v := (some (.int r3))) (wc := (wz_X7 cI cS h0 h1 h2 h3 h4 h5 h6 h7 h8 h9 h10 h11 misKept mtaped msort mfrom mto mvalue mbad (upd mm_47 ((1 : Int32)).toNatClampNeg (mm ((1 : Int32)).toNatClampNeg)) mkept mwas_47 mother mfound mwarm_47 mdrip_47 mtape mbits msize mnumber)) (w1 := (wz_X7 cI cS h0 h1 h2 h3 h4 h5 h6 h7 h8 h9 h10 h11 misKept mtaped msort mfrom mto mvalue mbad (upd mm_47 ((1 : Int32)).toNatClampNeg (mm ((1 : Int32)).toNatClampNeg)) mkept mwas_47 mother g4 mwarm_47 mdrip_47 mtape mbits msize mnumber)) [0, 1, 2, 3, 4, 5, 6, 7, 8, 9, 10, 11] [] 12 rfl rfl (wz_X7 cI cS h0 h1 h2 h3 h4 h5 h6 h7 h8 h9 h10 h11 misKept mtaped msort mfrom mto mvalue mbad (upd mm_47 ((1 : Int32)).toNatClampNeg (mm ((1 : Int32)).toNatClampNeg)) mkept mwas_47 mother g4 mwarm_47 mdrip_47 mtape mbits msize mnumber) rfl [] rfl rfl rfl (by decide +kernel) (ik_runV (st := []) (As := [.int (-1000004 : Int32)]) C hM mv_X7_finds wl_7_8 ⟨rfl, rfl, Nat.le_of_ble_eq_true rfl, Nat.le_of_ble_eq_true rfl⟩ [0, 1, 2, 3, 4, 5, 6, 7, 8, 9, 10, 11] rfl (by decide +kernel) 0 rfl rfl rfl rfl (Nat.le_of_ble_eq_true rfl) dX7_bears_116 ⟨Nat.zero_le _, Nat.zero_le _⟩) rfl ?_
              obtain ⟨rfl, rfl, rfl, rfl, rfl, rfl⟩ := ik_e6 hf
              exact ik_iretW C hr hlk dX7_bears_119
            · have hf := ik_neg hc hf
              refine ik_iload_n C 1 rfl rfl dX7_bears_109 ?_
              refine ik_goto C 119 dX7_bears_110 (by decide) ?_
              obtain ⟨rfl, rfl, rfl, rfl, rfl, rfl⟩ := ik_e6 hf
              exact ik_iretW C hr hlk dX7_bears_119
          · have hf := ik_neg hc hf
            refine ik_iload C 0 rfl dX7_bears_53 ?_
            refine ik_if_ne C 97 dX7_bears_55 (by decide) (fun hc => ?_) (fun hc => ?_)
            · have hf := ik_neg hc hf
              refine ik_aload_n C 3 rfl rfl dX7_bears_97 ?_
              refine ik_get C inlX7 0 rfl rfl 0 (by decide) wl_4_12 rfl (v := .ref h1) rfl dX7_bears_98 ?_
              refine ik_iconst (v := (1 : Int32)) C (by decide) dX7_bears_101 ?_
              refine ik_iload_n C 2 rfl rfl dX7_bears_102 ?_
              refine ik_iast C 1 rfl (ik_vin (by decide)) (wz_X7 cI cS h0 h1 h2 h3 h4 h5 h6 h7 h8 h9 h10 h11 misKept mtaped msort mfrom mto mvalue mbad (upd mm_47 ((1 : Int32)).toNatClampNeg (mm ((1 : Int32)).toNatClampNeg)) mkept mwas_47 mother mfound mwarm_47 mdrip_47 mtape mbits msize mnumber) rfl dX7_bears_103 ?_
              refine ik_iload C 0 rfl dX7_bears_104 ?_
              refine ik_if_eq C 113 dX7_bears_106 (by decide) (fun hc => ?_) (fun hc => ?_)
              · have hf := ik_pos hc hf
                refine ik_aload_n C 3 rfl rfl dX7_bears_113 ?_
                refine ik_ldc C wl_25_18 dX7_bears_114 ?_
                obtain ⟨r3, g4, hc4, hf⟩ := ik_b2s hf
                have hM := (c_X7_finds l D cI cS h0 h1 h2 h3 h4 h5 h6 h7 h8 h9 h10 h11 misKept mtaped msort mfrom mto mvalue mbad (upd mm_47 ((1 : Int32)).toNatClampNeg (mm ((1 : Int32)).toNatClampNeg)) mkept mwas_47 mother mfound mwarm_47 mdrip_47 mtape mbits msize mnumber (-1000004 : Int32) r3 g4 hc4)
                refine ik_goW (v := (some (.int r3))) (wc := (wz_X7 cI cS h0 h1 h2 h3 h4 h5 h6 h7 h8 h9 h10 h11 misKept mtaped msort mfrom mto mvalue mbad (upd mm_47 ((1 : Int32)).toNatClampNeg (mm ((1 : Int32)).toNatClampNeg)) mkept mwas_47 mother mfound mwarm_47 mdrip_47 mtape mbits msize mnumber)) (w1 := (wz_X7 cI cS h0 h1 h2 h3 h4 h5 h6 h7 h8 h9 h10 h11 misKept mtaped msort mfrom mto mvalue mbad (upd mm_47 ((1 : Int32)).toNatClampNeg (mm ((1 : Int32)).toNatClampNeg)) mkept mwas_47 mother g4 mwarm_47 mdrip_47 mtape mbits msize mnumber)) [0, 1, 2, 3, 4, 5, 6, 7, 8, 9, 10, 11] [] 12 rfl rfl (wz_X7 cI cS h0 h1 h2 h3 h4 h5 h6 h7 h8 h9 h10 h11 misKept mtaped msort mfrom mto mvalue mbad (upd mm_47 ((1 : Int32)).toNatClampNeg (mm ((1 : Int32)).toNatClampNeg)) mkept mwas_47 mother g4 mwarm_47 mdrip_47 mtape mbits msize mnumber) rfl [] rfl rfl rfl (by decide +kernel) (ik_runV (st := []) (As := [.int (-1000004 : Int32)]) C hM mv_X7_finds wl_7_8 ⟨rfl, rfl, Nat.le_of_ble_eq_true rfl, Nat.le_of_ble_eq_true rfl⟩ [0, 1, 2, 3, 4, 5, 6, 7, 8, 9, 10, 11] rfl (by decide +kernel) 0 rfl rfl rfl rfl (Nat.le_of_ble_eq_true rfl) dX7_bears_116 ⟨Nat.zero_le _, Nat.zero_le _⟩) rfl ?_
                obtain ⟨rfl, rfl, rfl, rfl, rfl, rfl⟩ := ik_e6 hf
                exact ik_iretW C hr hlk dX7_bears_119
              · have hf := ik_neg hc hf
                refine ik_iload_n C 1 rfl rfl dX7_bears_109 ?_
                refine ik_goto C 119 dX7_bears_110 (by decide) ?_
                obtain ⟨rfl, rfl, rfl, rfl, rfl, rfl⟩ := ik_e6 hf
                exact ik_iretW C hr hlk dX7_bears_119
            · have hf := ik_pos hc hf
              refine ik_aload_n C 3 rfl rfl dX7_bears_58 ?_
              refine ik_get C inlX7 0 rfl rfl 0 (by decide) wl_4_12 rfl (v := .ref h1) rfl dX7_bears_59 ?_
              refine ik_iconst (v := (1 : Int32)) C (by decide) dX7_bears_62 ?_
              refine ik_iload_n C 1 rfl rfl dX7_bears_63 ?_
              refine ik_iast C 1 rfl (ik_vin (by decide)) (wz_X7 cI cS h0 h1 h2 h3 h4 h5 h6 h7 h8 h9 h10 h11 misKept mtaped msort mfrom mto mvalue mbad (upd mm_47 ((1 : Int32)).toNatClampNeg x3_47) mkept mwas_47 mother mfound mwarm_47 mdrip_47 mtape mbits msize mnumber) rfl dX7_bears_64 ?_
              refine ik_aload_n C 3 rfl rfl dX7_bears_65 ?_
              refine ik_iload_n C 4 rfl rfl dX7_bears_66 ?_
              obtain ⟨r3, g4, g5, g6, g7, hc7, hf⟩ := ik_b5s hf
              have hM := (c_X7_held l D cI cS h0 h1 h2 h3 h4 h5 h6 h7 h8 h9 h10 h11 misKept mtaped msort mfrom mto mvalue mbad (upd mm_47 ((1 : Int32)).toNatClampNeg x3_47) mkept mwas_47 mother mfound mwarm_47 mdrip_47 mtape mbits msize mnumber x1 r3 g4 g5 g6 g7 hc7)
              refine ik_goW (v := (some (.int r3))) (wc := (wz_X7 cI cS h0 h1 h2 h3 h4 h5 h6 h7 h8 h9 h10 h11 misKept mtaped msort mfrom mto mvalue mbad (upd mm_47 ((1 : Int32)).toNatClampNeg x3_47) mkept mwas_47 mother mfound mwarm_47 mdrip_47 mtape mbits msize mnumber)) (w1 := (wz_X7 cI cS h0 h1 h2 h3 h4 h5 h6 h7 h8 h9 h10 h11 misKept mtaped msort mfrom mto mvalue mbad g4 mkept g5 mother mfound g6 g7 mtape mbits msize mnumber)) [0, 1, 2, 3, 4, 5, 6, 7, 8, 9, 10, 11] [] 12 rfl rfl (wz_X7 cI cS h0 h1 h2 h3 h4 h5 h6 h7 h8 h9 h10 h11 misKept mtaped msort mfrom mto mvalue mbad g4 mkept g5 mother mfound g6 g7 mtape mbits msize mnumber) rfl [] rfl rfl rfl (by decide +kernel) (ik_runV (st := []) (As := [.int x1]) C hM mv_X7_held wl_26_15 ⟨rfl, rfl, Nat.le_of_ble_eq_true rfl, Nat.le_of_ble_eq_true rfl⟩ [0, 1, 2, 3, 4, 5, 6, 7, 8, 9, 10, 11] rfl (by decide +kernel) 0 rfl rfl rfl rfl (Nat.le_of_ble_eq_true rfl) dX7_bears_67 ⟨Nat.zero_le _, Nat.zero_le _⟩) rfl ?_
              refine ik_iload_n C 4 rfl rfl dX7_bears_70 ?_
              refine ik_icmp_ne C 78 dX7_bears_71 (by decide) (fun hc => ?_) (fun hc => ?_)
              · have hf := ik_neg hc hf
                refine ik_iconst (v := (0 : Int32)) C (by decide) dX7_bears_78 ?_
                refine ik_istore C [(4, .int (0 : Int32)), (3, .int x3_47), (2, .int (mm ((1 : Int32)).toNatClampNeg)), (0, .ref h0), (1, .int x1)] (by decide) rfl dX7_bears_79 ?_
                refine ik_iload_n C 1 rfl rfl dX7_bears_81 ?_
                refine ik_iload C 0 rfl dX7_bears_82 ?_
                refine ik_if_eq C 91 dX7_bears_84 (by decide) (fun hc => ?_) (fun hc => ?_)
                · have hf := ik_pos hc hf
                  refine ik_iconst (v := (1 : Int32)) C (by decide) dX7_bears_91 ?_
                  refine ik_isub C dX7_bears_92 ?_
                  refine ik_istore_n C [(3, .int (x3_47 - (1 : Int32))), (4, .int (0 : Int32)), (2, .int (mm ((1 : Int32)).toNatClampNeg)), (0, .ref h0), (1, .int x1)] rfl (by decide) rfl dX7_bears_93 ?_
                  refine ik_goto C 47 dX7_bears_94 (by decide) ?_
                  exact ik_sub [1, 0, 2, 3, 4] [(4, .int (0 : Int32)), (3, .int (x3_47 - (1 : Int32))), (2, .int (mm ((1 : Int32)).toNatClampNeg)), (0, .ref h0), (1, .int x1)] rfl (ih_47 g4 g5 g6 g7 (x3_47 - (1 : Int32)) (0 : Int32) hf)
                · have hf := ik_neg hc hf
                  refine ik_iconst (v := (0 : Int32)) C (by decide) dX7_bears_87 ?_
                  refine ik_goto C 92 dX7_bears_88 (by decide) ?_
                  refine ik_isub C dX7_bears_92 ?_
                  refine ik_istore_n C [(3, .int (x3_47 - (0 : Int32))), (4, .int (0 : Int32)), (2, .int (mm ((1 : Int32)).toNatClampNeg)), (0, .ref h0), (1, .int x1)] rfl (by decide) rfl dX7_bears_93 ?_
                  refine ik_goto C 47 dX7_bears_94 (by decide) ?_
                  exact ik_sub [1, 0, 2, 3, 4] [(4, .int (0 : Int32)), (3, .int (x3_47 - (0 : Int32))), (2, .int (mm ((1 : Int32)).toNatClampNeg)), (0, .ref h0), (1, .int x1)] rfl (ih_47 g4 g5 g6 g7 (x3_47 - (0 : Int32)) (0 : Int32) hf)
              · have hf := ik_pos hc hf
                refine ik_iconst (v := (1 : Int32)) C (by decide) dX7_bears_74 ?_
                refine ik_goto C 79 dX7_bears_75 (by decide) ?_
                refine ik_istore C [(4, .int (1 : Int32)), (3, .int x3_47), (2, .int (mm ((1 : Int32)).toNatClampNeg)), (0, .ref h0), (1, .int x1)] (by decide) rfl dX7_bears_79 ?_
                refine ik_iload_n C 1 rfl rfl dX7_bears_81 ?_
                refine ik_iload C 0 rfl dX7_bears_82 ?_
                refine ik_if_eq C 91 dX7_bears_84 (by decide) (fun hc => ?_) (fun hc => ?_)
                · have hf := ik_pos hc hf
                  refine ik_iconst (v := (1 : Int32)) C (by decide) dX7_bears_91 ?_
                  refine ik_isub C dX7_bears_92 ?_
                  refine ik_istore_n C [(3, .int (x3_47 - (1 : Int32))), (4, .int (1 : Int32)), (2, .int (mm ((1 : Int32)).toNatClampNeg)), (0, .ref h0), (1, .int x1)] rfl (by decide) rfl dX7_bears_93 ?_
                  refine ik_goto C 47 dX7_bears_94 (by decide) ?_
                  exact ik_sub [1, 0, 2, 3, 4] [(4, .int (1 : Int32)), (3, .int (x3_47 - (1 : Int32))), (2, .int (mm ((1 : Int32)).toNatClampNeg)), (0, .ref h0), (1, .int x1)] rfl (ih_47 g4 g5 g6 g7 (x3_47 - (1 : Int32)) (1 : Int32) hf)
                · have hf := ik_neg hc hf
                  refine ik_iconst (v := (0 : Int32)) C (by decide) dX7_bears_87 ?_
                  refine ik_goto C 92 dX7_bears_88 (by decide) ?_
                  refine ik_isub C dX7_bears_92 ?_
                  refine ik_istore_n C [(3, .int (x3_47 - (0 : Int32))), (4, .int (1 : Int32)), (2, .int (mm ((1 : Int32)).toNatClampNeg)), (0, .ref h0), (1, .int x1)] rfl (by decide) rfl dX7_bears_93 ?_
                  refine ik_goto C 47 dX7_bears_94 (by decide) ?_
                  exact ik_sub [1, 0, 2, 3, 4] [(4, .int (1 : Int32)), (3, .int (x3_47 - (0 : Int32))), (2, .int (mm ((1 : Int32)).toNatClampNeg)), (0, .ref h0), (1, .int x1)] rfl (ih_47 g4 g5 g6 g7 (x3_47 - (0 : Int32)) (1 : Int32) hf)
      exact hL_47 ik_fu mm mwas mwarm mdrip (20 : Int32) (0 : Int32) hf
    · have hf := ik_neg hc hf
      refine ik_aload_n C 0 rfl rfl dX7_bears_27 ?_
      refine ik_ldc C wl_6_16 dX7_bears_28 ?_
      obtain ⟨r3, g4, hc4, hf⟩ := ik_b2s hf
      have hM := (c_X7_finds l D cI cS h0 h1 h2 h3 h4 h5 h6 h7 h8 h9 h10 h11 misKept mtaped msort mfrom mto mvalue mbad mm mkept mwas mother mfound mwarm mdrip mtape mbits msize mnumber (-1000005 : Int32) r3 g4 hc4)
      refine ik_goW (v := (some (.int r3))) (wc := (wz_X7 cI cS h0 h1 h2 h3 h4 h5 h6 h7 h8 h9 h10 h11 misKept mtaped msort mfrom mto mvalue mbad mm mkept mwas mother mfound mwarm mdrip mtape mbits msize mnumber)) (w1 := (wz_X7 cI cS h0 h1 h2 h3 h4 h5 h6 h7 h8 h9 h10 h11 misKept mtaped msort mfrom mto mvalue mbad mm mkept mwas mother g4 mwarm mdrip mtape mbits msize mnumber)) [0, 1, 2, 3, 4, 5, 6, 7, 8, 9, 10, 11] [] 12 rfl rfl (wz_X7 cI cS h0 h1 h2 h3 h4 h5 h6 h7 h8 h9 h10 h11 misKept mtaped msort mfrom mto mvalue mbad mm mkept mwas mother g4 mwarm mdrip mtape mbits msize mnumber) rfl [] rfl rfl rfl (by decide +kernel) (ik_runV (st := []) (As := [.int (-1000005 : Int32)]) C hM mv_X7_finds wl_7_8 ⟨rfl, rfl, Nat.le_of_ble_eq_true rfl, Nat.le_of_ble_eq_true rfl⟩ [0, 1, 2, 3, 4, 5, 6, 7, 8, 9, 10, 11] rfl (by decide +kernel) 0 rfl rfl rfl rfl (Nat.le_of_ble_eq_true rfl) dX7_bears_30 ⟨Nat.zero_le _, Nat.zero_le _⟩) rfl ?_
      obtain ⟨rfl, rfl, rfl, rfl, rfl, rfl⟩ := ik_e6 hf
      exact ik_iretW C hr hlk dX7_bears_33
  · have hf := ik_pos hc hf
    refine ik_aload_n C 0 rfl rfl dX7_bears_12 ?_
    refine ik_ldc C wl_6_14 dX7_bears_13 ?_
    obtain ⟨r2, g3, hc3, hf⟩ := ik_b2s hf
    have hM := (c_X7_finds l D cI cS h0 h1 h2 h3 h4 h5 h6 h7 h8 h9 h10 h11 misKept mtaped msort mfrom mto mvalue mbad mm mkept mwas mother mfound mwarm mdrip mtape mbits msize mnumber (-1000001 : Int32) r2 g3 hc3)
    refine ik_goW (v := (some (.int r2))) (wc := (wz_X7 cI cS h0 h1 h2 h3 h4 h5 h6 h7 h8 h9 h10 h11 misKept mtaped msort mfrom mto mvalue mbad mm mkept mwas mother mfound mwarm mdrip mtape mbits msize mnumber)) (w1 := (wz_X7 cI cS h0 h1 h2 h3 h4 h5 h6 h7 h8 h9 h10 h11 misKept mtaped msort mfrom mto mvalue mbad mm mkept mwas mother g3 mwarm mdrip mtape mbits msize mnumber)) [0, 1, 2, 3, 4, 5, 6, 7, 8, 9, 10, 11] [] 12 rfl rfl (wz_X7 cI cS h0 h1 h2 h3 h4 h5 h6 h7 h8 h9 h10 h11 misKept mtaped msort mfrom mto mvalue mbad mm mkept mwas mother g3 mwarm mdrip mtape mbits msize mnumber) rfl [] rfl rfl rfl (by decide +kernel) (ik_runV (st := []) (As := [.int (-1000001 : Int32)]) C hM mv_X7_finds wl_7_8 ⟨rfl, rfl, Nat.le_of_ble_eq_true rfl, Nat.le_of_ble_eq_true rfl⟩ [0, 1, 2, 3, 4, 5, 6, 7, 8, 9, 10, 11] rfl (by decide +kernel) 0 rfl rfl rfl rfl (Nat.le_of_ble_eq_true rfl) dX7_bears_15 ⟨Nat.zero_le _, Nat.zero_le _⟩) rfl ?_
    obtain ⟨rfl, rfl, rfl, rfl, rfl, rfl⟩ := ik_e6 hf
    exact ik_iretW C hr hlk dX7_bears_18
theorem mv_X7_wrongFor : ik_V yX7_wrongFor RX7 cX7_wrongFor 4 (some .int) 3 := ⟨wl_28_5, wl_28_6, wl_1_5, wl_28_7, by decide +kernel⟩
set_option maxHeartbeats 4000000 in
set_option maxRecDepth 100000 in
theorem c_X7_wrongFor (l : Launch) (D : va_G) (cI cS : ClassId) (h0 h1 h2 h3 h4 h5 h6 h7 h8 h9 h10 h11 : Nat) (misKept : Int32) (mtaped : Int32) (msort : Int32) (mfrom : Int32) (mto : Int32) (mvalue : Int32) (mbad : Int32) (mm : Nat → Int32) (mkept : Nat → Int32) (mwas : Nat → Int32) (mother : Nat → Int32) (mfound : Nat → Int32) (mwarm : Nat → Int32) (mdrip : Nat → Int32) (mtape : Nat → Int32) (mbits : Nat → Int32) (msize : Nat → Int32) (mnumber : Nat → Int32) (x1 : Int32) (x2 : Int32) (x3 : Int32) (R : Int32) (hf : f_X7_wrongFor mm x1 x2 x3 = some (R)) : Met l yX7_wrongFor (ik_ws yX7_wrongFor cX7_wrongFor 4 (some .int)) ({ frames := 2, cells := 0, slots := 0, locals := 46 } : Room) (ik_P D cI cS [.ref h0, .int x1, .int x2, .int x3] (wz_X7 cI cS h0 h1 h2 h3 h4 h5 h6 h7 h8 h9 h10 h11 misKept mtaped msort mfrom mto mvalue mbad mm mkept mwas mother mfound mwarm mdrip mtape mbits msize mnumber)) (ik_R (some (.int R))) 0 0 ik_no := by
  refine ik_metR RX7 rfl (by decide) (Nat.le_of_ble_eq_true rfl) [(0, .ref h0), (1, .int x1), (2, .int x2), (3, .int x3)] rfl ?_
  intro p e s m below meth c C hr hlk
  unfold f_X7_wrongFor at hf
  refine ik_aload_n C 0 rfl rfl dX7_wrongFor_0 ?_
  refine ik_iload_n C 1 rfl rfl dX7_wrongFor_1 ?_
  obtain ⟨r1, hc1, hf⟩ := ik_b1s hf
  have hM := (c_X7_isBlock l D cI cS h0 h1 h2 h3 h4 h5 h6 h7 h8 h9 h10 h11 misKept mtaped msort mfrom mto mvalue mbad mm mkept mwas mother mfound mwarm mdrip mtape mbits msize mnumber x1 r1 hc1)
  refine ik_goR (ik_runV (st := []) (As := [.int x1]) C hM mv_X7_isBlock wl_9_17 ⟨rfl, rfl, Nat.le_of_ble_eq_true rfl, Nat.le_of_ble_eq_true rfl⟩ [0, 1, 2, 3, 4, 5, 6, 7, 8, 9, 10, 11] rfl (by decide +kernel) 0 rfl rfl rfl rfl (Nat.le_of_ble_eq_true rfl) dX7_wrongFor_2 ⟨Nat.zero_le _, Nat.zero_le _⟩) rfl ?_
  refine ik_if_eq C 12 dX7_wrongFor_5 (by decide) (fun hc => ?_) (fun hc => ?_)
  · have hf := ik_pos hc hf
    refine ik_ldc C wl_6_14 dX7_wrongFor_12 ?_
    refine ik_goto C 39 dX7_wrongFor_14 (by decide) ?_
    obtain rfl := Option.some.inj hf
    exact ik_iretR C hr hlk dX7_wrongFor_39
  · have hf := ik_neg hc hf
    refine ik_iload_n C 3 rfl rfl dX7_wrongFor_8 ?_
    refine ik_if_ne C 17 dX7_wrongFor_9 (by decide) (fun hc => ?_) (fun hc => ?_)
    · have hf := ik_neg hc hf
      refine ik_aload_n C 0 rfl rfl dX7_wrongFor_17 ?_
      refine ik_iload_n C 1 rfl rfl dX7_wrongFor_18 ?_
      obtain ⟨r2, hc2, hf⟩ := ik_b1s hf
      have hM := (c_X7_isGone l D cI cS h0 h1 h2 h3 h4 h5 h6 h7 h8 h9 h10 h11 misKept mtaped msort mfrom mto mvalue mbad mm mkept mwas mother mfound mwarm mdrip mtape mbits msize mnumber x1 r2 hc2)
      refine ik_goR (ik_runV (st := []) (As := [.int x1]) C hM mv_X7_isGone wl_10_5 ⟨rfl, rfl, Nat.le_of_ble_eq_true rfl, Nat.le_of_ble_eq_true rfl⟩ [0, 1, 2, 3, 4, 5, 6, 7, 8, 9, 10, 11] rfl (by decide +kernel) 0 rfl rfl rfl rfl (Nat.le_of_ble_eq_true rfl) dX7_wrongFor_19 ⟨Nat.zero_le _, Nat.zero_le _⟩) rfl ?_
      refine ik_if_ne C 33 dX7_wrongFor_22 (by decide) (fun hc => ?_) (fun hc => ?_)
      · have hf := ik_neg hc hf
        refine ik_ldc C wl_6_16 dX7_wrongFor_33 ?_
        refine ik_goto C 39 dX7_wrongFor_35 (by decide) ?_
        obtain rfl := Option.some.inj hf
        exact ik_iretR C hr hlk dX7_wrongFor_39
      · have hf := ik_pos hc hf
        refine ik_aload_n C 0 rfl rfl dX7_wrongFor_25 ?_
        refine ik_iload_n C 2 rfl rfl dX7_wrongFor_26 ?_
        obtain ⟨r3, hc3, hf⟩ := ik_b1s hf
        have hM := (c_X7_isFarOn l D cI cS h0 h1 h2 h3 h4 h5 h6 h7 h8 h9 h10 h11 misKept mtaped msort mfrom mto mvalue mbad mm mkept mwas mother mfound mwarm mdrip mtape mbits msize mnumber x2 r3 hc3)
        refine ik_goR (ik_runV (st := []) (As := [.int x2]) C hM mv_X7_isFarOn wl_25_19 ⟨rfl, rfl, Nat.le_of_ble_eq_true rfl, Nat.le_of_ble_eq_true rfl⟩ [0, 1, 2, 3, 4, 5, 6, 7, 8, 9, 10, 11] rfl (by decide +kernel) 0 rfl rfl rfl rfl (Nat.le_of_ble_eq_true rfl) dX7_wrongFor_27 ⟨Nat.zero_le _, Nat.zero_le _⟩) rfl ?_
        refine ik_if_eq C 38 dX7_wrongFor_30 (by decide) (fun hc => ?_) (fun hc => ?_)
        · have hf := ik_pos hc hf
          refine ik_iconst (v := (0 : Int32)) C (by decide) dX7_wrongFor_38 ?_
          obtain rfl := Option.some.inj hf
          exact ik_iretR C hr hlk dX7_wrongFor_39
        · have hf := ik_neg hc hf
          refine ik_ldc C wl_6_16 dX7_wrongFor_33 ?_
          refine ik_goto C 39 dX7_wrongFor_35 (by decide) ?_
          obtain rfl := Option.some.inj hf
          exact ik_iretR C hr hlk dX7_wrongFor_39
    · have hf := ik_pos hc hf
      refine ik_ldc C wl_6_14 dX7_wrongFor_12 ?_
      refine ik_goto C 39 dX7_wrongFor_14 (by decide) ?_
      obtain rfl := Option.some.inj hf
      exact ik_iretR C hr hlk dX7_wrongFor_39
theorem ms_X7_capped : ik_S yX7_capped RX7 cX7_capped 1 (some .int) 1 := ⟨wl_28_9, wl_1_5, wl_28_10, by decide +kernel⟩
set_option maxHeartbeats 4000000 in
set_option maxRecDepth 100000 in
theorem c_X7_capped (l : Launch) (D : va_G) (cI cS : ClassId) (x0 : Int32) (R : Int32) (hf : f_X7_capped x0 = some (R)) : Met l yX7_capped (ik_ws yX7_capped cX7_capped 1 (some .int)) ({ frames := 0, cells := 0, slots := 0, locals := 0 } : Room) (ik_P D cI cS [.int x0] (wz_none cI cS)) (ik_R (some (.int R))) 0 0 ik_no := by
  refine ik_metR RX7 rfl (by decide) (Nat.le_of_ble_eq_true rfl) [(0, .int x0)] rfl ?_
  intro p e s m below meth c C hr hlk
  unfold f_X7_capped at hf
  refine ik_iload_n C 0 rfl rfl dX7_capped_0 ?_
  refine ik_bipush (v := (99 : Int32)) C (by decide) dX7_capped_1 ?_
  refine ik_icmp_le C 11 dX7_capped_3 (by decide) (fun hc => ?_) (fun hc => ?_)
  · have hf := ik_pos hc hf
    refine ik_iload_n C 0 rfl rfl dX7_capped_11 ?_
    obtain rfl := Option.some.inj hf
    exact ik_iretR C hr hlk dX7_capped_12
  · have hf := ik_neg hc hf
    refine ik_bipush (v := (99 : Int32)) C (by decide) dX7_capped_6 ?_
    refine ik_goto C 12 dX7_capped_8 (by decide) ?_
    obtain rfl := Option.some.inj hf
    exact ik_iretR C hr hlk dX7_capped_12
theorem mv_X7_needs : ik_V yX7_needs RX7 cX7_needs 7 (some .int) 2 := ⟨wl_28_1, wl_28_2, wl_1_5, wl_28_3, by decide +kernel⟩
set_option maxHeartbeats 4000000 in
set_option maxRecDepth 100000 in
theorem c_X7_needs (l : Launch) (D : va_G) (cI cS : ClassId) (h0 h1 h2 h3 h4 h5 h6 h7 h8 h9 h10 h11 : Nat) (misKept : Int32) (mtaped : Int32) (msort : Int32) (mfrom : Int32) (mto : Int32) (mvalue : Int32) (mbad : Int32) (mm : Nat → Int32) (mkept : Nat → Int32) (mwas : Nat → Int32) (mother : Nat → Int32) (mfound : Nat → Int32) (mwarm : Nat → Int32) (mdrip : Nat → Int32) (mtape : Nat → Int32) (mbits : Nat → Int32) (msize : Nat → Int32) (mnumber : Nat → Int32) (x1 : Int32) (x2 : Int32) (R : Int32) (mm_r : Nat → Int32) (mwas_r : Nat → Int32) (mfound_r : Nat → Int32) (mwarm_r : Nat → Int32) (mdrip_r : Nat → Int32) (hf : f_X7_needs mm mwas mfound mwarm mdrip x1 x2 = some (R, mm_r, mwas_r, mfound_r, mwarm_r, mdrip_r)) : Met l yX7_needs (ik_ws yX7_needs cX7_needs 7 (some .int)) ({ frames := 9, cells := 0, slots := 0, locals := 204 } : Room) (ik_P D cI cS [.ref h0, .int x1, .int x2] (wz_X7 cI cS h0 h1 h2 h3 h4 h5 h6 h7 h8 h9 h10 h11 misKept mtaped msort mfrom mto mvalue mbad mm mkept mwas mother mfound mwarm mdrip mtape mbits msize mnumber)) (ik_Q (some (.int R)) D (wz_X7 cI cS h0 h1 h2 h3 h4 h5 h6 h7 h8 h9 h10 h11 misKept mtaped msort mfrom mto mvalue mbad mm_r mkept mwas_r mother mfound_r mwarm_r mdrip_r mtape mbits msize mnumber) (wz_X7 cI cS h0 h1 h2 h3 h4 h5 h6 h7 h8 h9 h10 h11 misKept mtaped msort mfrom mto mvalue mbad mm mkept mwas mother mfound mwarm mdrip mtape mbits msize mnumber)) 0 0 (ik_in (wz_X7 cI cS h0 h1 h2 h3 h4 h5 h6 h7 h8 h9 h10 h11 misKept mtaped msort mfrom mto mvalue mbad mm mkept mwas mother mfound mwarm mdrip mtape mbits msize mnumber)) := by
  refine ik_metW RX7 rfl (by decide) (Nat.le_of_ble_eq_true rfl) [(0, .ref h0), (1, .int x1), (2, .int x2)] rfl ?_
  intro p e s m below meth c C hr hlk
  unfold f_X7_needs at hf
  refine ik_aload_n C 0 rfl rfl dX7_needs_0 ?_
  refine ik_iload_n C 1 rfl rfl dX7_needs_1 ?_
  refine ik_iload_n C 2 rfl rfl dX7_needs_2 ?_
  refine ik_iload_n C 2 rfl rfl dX7_needs_3 ?_
  refine ik_i2l C dX7_needs_4 ?_
  refine ik_lconst (v := (1 : Int64)) C (by decide) dX7_needs_5 ?_
  refine ik_ldc2 C wl_20_13 dX7_needs_6 ?_
  obtain ⟨r1, hc1, hf⟩ := ik_b1s hf
  have hM := (c_X7_in l D cI cS (x2).toInt64 (1 : Int64) (48 : Int64) r1 hc1)
  refine ik_goR (ik_runS (st := [.int x2, .int x1, .ref h0]) (As := [.long (x2).toInt64, .long (1 : Int64), .long (48 : Int64)]) C hM ms_X7_in wl_6_21 ⟨rfl, rfl, Nat.le_of_ble_eq_true rfl, Nat.le_of_ble_eq_true rfl⟩ [] rfl (by decide +kernel) rfl rfl (Nat.le_of_ble_eq_true rfl) dX7_needs_9 ⟨Nat.zero_le _, Nat.zero_le _⟩) rfl ?_
  obtain ⟨r2, hc2, hf⟩ := ik_b1s hf
  have hM := (c_X7_wrongFor l D cI cS h0 h1 h2 h3 h4 h5 h6 h7 h8 h9 h10 h11 misKept mtaped msort mfrom mto mvalue mbad mm mkept mwas mother mfound mwarm mdrip mtape mbits msize mnumber x1 x2 r1 r2 hc2)
  refine ik_goR (ik_runV (st := []) (As := [.int x1, .int x2, .int r1]) C hM mv_X7_wrongFor wl_28_4 ⟨rfl, rfl, Nat.le_of_ble_eq_true rfl, Nat.le_of_ble_eq_true rfl⟩ [0, 1, 2, 3, 4, 5, 6, 7, 8, 9, 10, 11] rfl (by decide +kernel) 0 rfl rfl rfl rfl (Nat.le_of_ble_eq_true rfl) dX7_needs_12 ⟨Nat.zero_le _, Nat.zero_le _⟩) rfl ?_
  refine ik_istore_n C [(3, .int r2), (0, .ref h0), (1, .int x1), (2, .int x2)] rfl (by decide) rfl dX7_needs_15 ?_
  refine ik_iload_n C 0 rfl rfl dX7_needs_16 ?_
  refine ik_if_ge C 26 dX7_needs_17 (by decide) (fun hc => ?_) (fun hc => ?_)
  · have hf := ik_pos hc hf
    refine ik_aload_n C 1 rfl rfl dX7_needs_26 ?_
    refine ik_iload_n C 2 rfl rfl dX7_needs_27 ?_
    obtain ⟨r3, hc3, hf⟩ := ik_b1s hf
    have hM := (c_X7_grains l D cI cS h0 h1 h2 h3 h4 h5 h6 h7 h8 h9 h10 h11 misKept mtaped msort mfrom mto mvalue mbad mm mkept mwas mother mfound mwarm mdrip mtape mbits msize mnumber x1 r3 hc3)
    refine ik_goR (ik_runV (st := []) (As := [.int x1]) C hM mv_X7_grains wl_10_1 ⟨rfl, rfl, Nat.le_of_ble_eq_true rfl, Nat.le_of_ble_eq_true rfl⟩ [0, 1, 2, 3, 4, 5, 6, 7, 8, 9, 10, 11] rfl (by decide +kernel) 0 rfl rfl rfl rfl (Nat.le_of_ble_eq_true rfl) dX7_needs_28 ⟨Nat.zero_le _, Nat.zero_le _⟩) rfl ?_
    refine ik_istore C [(4, .int r3), (3, .int r2), (0, .ref h0), (1, .int x1), (2, .int x2)] (by decide) rfl dX7_needs_31 ?_
    refine ik_iconst (v := (-1 : Int32)) C (by decide) dX7_needs_33 ?_
    refine ik_istore C [(5, .int (-1 : Int32)), (4, .int r3), (3, .int r2), (0, .ref h0), (1, .int x1), (2, .int x2)] (by decide) rfl dX7_needs_34 ?_
    refine ik_iconst (v := (0 : Int32)) C (by decide) dX7_needs_36 ?_
    refine ik_istore C [(6, .int (0 : Int32)), (5, .int (-1 : Int32)), (4, .int r3), (3, .int r2), (0, .ref h0), (1, .int x1), (2, .int x2)] (by decide) rfl dX7_needs_37 ?_
    have hL_39 : ∀ (n_39 : Nat) (mm_39 : Nat → Int32) (mwas_39 : Nat → Int32) (mwarm_39 : Nat → Int32) (mdrip_39 : Nat → Int32) (x5_39 : Int32) (x6_39 : Int32), ik_lp6 (b_X7_needs_39 mfound x1 x2 r3) n_39 mm_39 mwas_39 mwarm_39 mdrip_39 x5_39 x6_39 = some (R, mm_r, mwas_r, mfound_r, mwarm_r, mdrip_r) → ik_G p l e ({ frames := 9, cells := 0, slots := 0, locals := 204 } : Room) s m ([.ref h0, .int x1, .int x2] : List Value).toArray below meth c D (ik_in (wz_X7 cI cS h0 h1 h2 h3 h4 h5 h6 h7 h8 h9 h10 h11 misKept mtaped msort mfrom mto mvalue mbad mm mkept mwas mother mfound mwarm mdrip mtape mbits msize mnumber)) (ik_in (wz_X7 cI cS h0 h1 h2 h3 h4 h5 h6 h7 h8 h9 h10 h11 misKept mtaped msort mfrom mto mvalue mbad mm mkept mwas mother mfound mwarm mdrip mtape mbits msize mnumber)) 7 0 0 (MQ below (ik_Q (some (.int R)) D (wz_X7 cI cS h0 h1 h2 h3 h4 h5 h6 h7 h8 h9 h10 h11 misKept mtaped msort mfrom mto mvalue mbad mm_r mkept mwas_r mother mfound_r mwarm_r mdrip_r mtape mbits msize mnumber) (wz_X7 cI cS h0 h1 h2 h3 h4 h5 h6 h7 h8 h9 h10 h11 misKept mtaped msort mfrom mto mvalue mbad mm mkept mwas mother mfound mwarm mdrip mtape mbits msize mnumber)) ([.ref h0, .int x1, .int x2] : List Value).toArray s 0 0 (ik_in (wz_X7 cI cS h0 h1 h2 h3 h4 h5 h6 h7 h8 h9 h10 h11 misKept mtaped msort mfrom mto mvalue mbad mm mkept mwas mother mfound mwarm mdrip mtape mbits msize mnumber))) 39 [(6, .int x6_39), (5, .int x5_39), (4, .int r3), (3, .int r2), (0, .ref h0), (1, .int x1), (2, .int x2)] [] (wz_X7 cI cS h0 h1 h2 h3 h4 h5 h6 h7 h8 h9 h10 h11 misKept mtaped msort mfrom mto mvalue mbad mm_39 mkept mwas_39 mother mfound mwarm_39 mdrip_39 mtape mbits msize mnumber) := by
      intro n_39
      induction n_39 with
      | zero => intro _ _ _ _ _ _ hf; exact nomatch hf
      | succ n_39 ih_39 =>
        intro mm_39 mwas_39 mwarm_39 mdrip_39 x5_39 x6_39 hf
        replace hf : b_X7_needs_39 mfound x1 x2 r3 (ik_lp6 (b_X7_needs_39 mfound x1 x2 r3) n_39) mm_39 mwas_39 mwarm_39 mdrip_39 x5_39 x6_39 = some (R, mm_r, mwas_r, mfound_r, mwarm_r, mdrip_r) := hf
        unfold b_X7_needs_39 at hf
        refine ik_iload C 0 rfl dX7_needs_39 ?_
        refine ik_bipush (v := (99 : Int32)) C (by decide) dX7_needs_41 ?_
        refine ik_icmp_gt C 87 dX7_needs_43 (by decide) (fun hc => ?_) (fun hc => ?_)
        · have hf := ik_pos hc hf
          refine ik_aload_n C 4 rfl rfl dX7_needs_87 ?_
          refine ik_iload_n C 5 rfl rfl dX7_needs_88 ?_
          refine ik_iload C 2 rfl dX7_needs_89 ?_
          obtain ⟨g4, hc4, hf⟩ := ik_b1s hf
          have hM := (c_X7_makes l D cI cS h0 h1 h2 h3 h4 h5 h6 h7 h8 h9 h10 h11 misKept mtaped msort mfrom mto mvalue mbad mm_39 mkept mwas_39 mother mfound mwarm_39 mdrip_39 mtape mbits msize mnumber x1 r3 g4 hc4)
          refine ik_goW (v := none) (wc := (wz_X7 cI cS h0 h1 h2 h3 h4 h5 h6 h7 h8 h9 h10 h11 misKept mtaped msort mfrom mto mvalue mbad mm_39 mkept mwas_39 mother mfound mwarm_39 mdrip_39 mtape mbits msize mnumber)) (w1 := (wz_X7 cI cS h0 h1 h2 h3 h4 h5 h6 h7 h8 h9 h10 h11 misKept mtaped msort mfrom mto mvalue mbad g4 mkept mwas_39 mother mfound mwarm_39 mdrip_39 mtape mbits msize mnumber)) [0, 1, 2, 3, 4, 5, 6, 7, 8, 9, 10, 11] [] 12 rfl rfl (wz_X7 cI cS h0 h1 h2 h3 h4 h5 h6 h7 h8 h9 h10 h11 misKept mtaped msort mfrom mto mvalue mbad g4 mkept mwas_39 mother mfound mwarm_39 mdrip_39 mtape mbits msize mnumber) rfl [] rfl rfl rfl (by decide +kernel) (ik_runV (st := []) (As := [.int x1, .int r3]) C hM mv_X7_makes wl_14_23 ⟨rfl, rfl, Nat.le_of_ble_eq_true rfl, Nat.le_of_ble_eq_true rfl⟩ [0, 1, 2, 3, 4, 5, 6, 7, 8, 9, 10, 11] rfl (by decide +kernel) 0 rfl rfl rfl rfl (Nat.le_of_ble_eq_true rfl) dX7_needs_91 ⟨Nat.zero_le _, Nat.zero_le _⟩) rfl ?_
          refine ik_aload_n C 4 rfl rfl dX7_needs_94 ?_
          refine ik_iload C 1 rfl dX7_needs_95 ?_
          obtain ⟨r5, g6, hc6, hf⟩ := ik_b2s hf
          have hM := (c_X7_orNone l D cI cS h0 h1 h2 h3 h4 h5 h6 h7 h8 h9 h10 h11 misKept mtaped msort mfrom mto mvalue mbad g4 mkept mwas_39 mother mfound mwarm_39 mdrip_39 mtape mbits msize mnumber x5_39 r5 g6 hc6)
          refine ik_goW (v := (some (.int r5))) (wc := (wz_X7 cI cS h0 h1 h2 h3 h4 h5 h6 h7 h8 h9 h10 h11 misKept mtaped msort mfrom mto mvalue mbad g4 mkept mwas_39 mother mfound mwarm_39 mdrip_39 mtape mbits msize mnumber)) (w1 := (wz_X7 cI cS h0 h1 h2 h3 h4 h5 h6 h7 h8 h9 h10 h11 misKept mtaped msort mfrom mto mvalue mbad g4 mkept mwas_39 mother g6 mwarm_39 mdrip_39 mtape mbits msize mnumber)) [0, 1, 2, 3, 4, 5, 6, 7, 8, 9, 10, 11] [] 12 rfl rfl (wz_X7 cI cS h0 h1 h2 h3 h4 h5 h6 h7 h8 h9 h10 h11 misKept mtaped msort mfrom mto mvalue mbad g4 mkept mwas_39 mother g6 mwarm_39 mdrip_39 mtape mbits msize mnumber) rfl [] rfl rfl rfl (by decide +kernel) (ik_runV (st := []) (As := [.int x5_39]) C hM mv_X7_orNone wl_27_8 ⟨rfl, rfl, Nat.le_of_ble_eq_true rfl, Nat.le_of_ble_eq_true rfl⟩ [0, 1, 2, 3, 4, 5, 6, 7, 8, 9, 10, 11] rfl (by decide +kernel) 0 rfl rfl rfl rfl (Nat.le_of_ble_eq_true rfl) dX7_needs_97 ⟨Nat.zero_le _, Nat.zero_le _⟩) rfl ?_
          obtain ⟨rfl, rfl, rfl, rfl, rfl, rfl⟩ := ik_e6 hf
          exact ik_iretW C hr hlk dX7_needs_100
        · have hf := ik_neg hc hf
          refine ik_iload C 1 rfl dX7_needs_46 ?_
          refine ik_if_ge C 87 dX7_needs_48 (by decide) (fun hc => ?_) (fun hc => ?_)
          · have hf := ik_pos hc hf
            refine ik_aload_n C 4 rfl rfl dX7_needs_87 ?_
            refine ik_iload_n C 5 rfl rfl dX7_needs_88 ?_
            refine ik_iload C 2 rfl dX7_needs_89 ?_
            obtain ⟨g4, hc4, hf⟩ := ik_b1s hf
            have hM := (c_X7_makes l D cI cS h0 h1 h2 h3 h4 h5 h6 h7 h8 h9 h10 h11 misKept mtaped msort mfrom mto mvalue mbad mm_39 mkept mwas_39 mother mfound mwarm_39 mdrip_39 mtape mbits msize mnumber x1 r3 g4 hc4)
            refine ik_goW (v := none) (wc := (wz_X7 cI cS h0 h1 h2 h3 h4 h5 h6 h7 h8 h9 h10 h11 misKept mtaped msort mfrom mto mvalue mbad mm_39 mkept mwas_39 mother mfound mwarm_39 mdrip_39 mtape mbits msize mnumber)) (w1 := (wz_X7 cI cS h0 h1 h2 h3 h4 h5 h6 h7 h8 h9 h10 h11 misKept mtaped msort mfrom mto mvalue mbad g4 mkept mwas_39 mother mfound mwarm_39 mdrip_39 mtape mbits msize mnumber)) [0, 1, 2, 3, 4, 5, 6, 7, 8, 9, 10, 11] [] 12 rfl rfl (wz_X7 cI cS h0 h1 h2 h3 h4 h5 h6 h7 h8 h9 h10 h11 misKept mtaped msort mfrom mto mvalue mbad g4 mkept mwas_39 mother mfound mwarm_39 mdrip_39 mtape mbits msize mnumber) rfl [] rfl rfl rfl (by decide +kernel) (ik_runV (st := []) (As := [.int x1, .int r3]) C hM mv_X7_makes wl_14_23 ⟨rfl, rfl, Nat.le_of_ble_eq_true rfl, Nat.le_of_ble_eq_true rfl⟩ [0, 1, 2, 3, 4, 5, 6, 7, 8, 9, 10, 11] rfl (by decide +kernel) 0 rfl rfl rfl rfl (Nat.le_of_ble_eq_true rfl) dX7_needs_91 ⟨Nat.zero_le _, Nat.zero_le _⟩) rfl ?_
            refine ik_aload_n C 4 rfl rfl dX7_needs_94 ?_
            refine ik_iload C 1 rfl dX7_needs_95 ?_
            obtain ⟨r5, g6, hc6, hf⟩ := ik_b2s hf
            have hM := (c_X7_orNone l D cI cS h0 h1 h2 h3 h4 h5 h6 h7 h8 h9 h10 h11 misKept mtaped msort mfrom mto mvalue mbad g4 mkept mwas_39 mother mfound mwarm_39 mdrip_39 mtape mbits msize mnumber x5_39 r5 g6 hc6)
            refine ik_goW (v := (some (.int r5))) (wc := (wz_X7 cI cS h0 h1 h2 h3 h4 h5 h6 h7 h8 h9 h10 h11 misKept mtaped msort mfrom mto mvalue mbad g4 mkept mwas_39 mother mfound mwarm_39 mdrip_39 mtape mbits msize mnumber)) (w1 := (wz_X7 cI cS h0 h1 h2 h3 h4 h5 h6 h7 h8 h9 h10 h11 misKept mtaped msort mfrom mto mvalue mbad g4 mkept mwas_39 mother g6 mwarm_39 mdrip_39 mtape mbits msize mnumber)) [0, 1, 2, 3, 4, 5, 6, 7, 8, 9, 10, 11] [] 12 rfl rfl (wz_X7 cI cS h0 h1 h2 h3 h4 h5 h6 h7 h8 h9 h10 h11 misKept mtaped msort mfrom mto mvalue mbad g4 mkept mwas_39 mother g6 mwarm_39 mdrip_39 mtape mbits msize mnumber) rfl [] rfl rfl rfl (by decide +kernel) (ik_runV (st := []) (As := [.int x5_39]) C hM mv_X7_orNone wl_27_8 ⟨rfl, rfl, Nat.le_of_ble_eq_true rfl, Nat.le_of_ble_eq_true rfl⟩ [0, 1, 2, 3, 4, 5, 6, 7, 8, 9, 10, 11] rfl (by decide +kernel) 0 rfl rfl rfl rfl (Nat.le_of_ble_eq_true rfl) dX7_needs_97 ⟨Nat.zero_le _, Nat.zero_le _⟩) rfl ?_
            obtain ⟨rfl, rfl, rfl, rfl, rfl, rfl⟩ := ik_e6 hf
            exact ik_iretW C hr hlk dX7_needs_100
          · have hf := ik_neg hc hf
            refine ik_aload_n C 4 rfl rfl dX7_needs_51 ?_
            refine ik_iload_n C 5 rfl rfl dX7_needs_52 ?_
            refine ik_iload C 2 rfl dX7_needs_53 ?_
            refine ik_iload C 0 rfl dX7_needs_55 ?_
            refine ik_iadd C dX7_needs_57 ?_
            obtain ⟨r4, hc4, hf⟩ := ik_b1s hf
            have hM := (c_X7_capped l D cI cS (r3 + x6_39) r4 hc4)
            refine ik_goR (ik_runS (st := [.int x1, .ref h0]) (As := [.int (r3 + x6_39)]) C hM ms_X7_capped wl_28_8 ⟨rfl, rfl, Nat.le_of_ble_eq_true rfl, Nat.le_of_ble_eq_true rfl⟩ [] rfl (by decide +kernel) rfl rfl (Nat.le_of_ble_eq_true rfl) dX7_needs_58 ⟨Nat.zero_le _, Nat.zero_le _⟩) rfl ?_
            obtain ⟨g5, hc5, hf⟩ := ik_b1s hf
            have hM := (c_X7_makes l D cI cS h0 h1 h2 h3 h4 h5 h6 h7 h8 h9 h10 h11 misKept mtaped msort mfrom mto mvalue mbad mm_39 mkept mwas_39 mother mfound mwarm_39 mdrip_39 mtape mbits msize mnumber x1 r4 g5 hc5)
            refine ik_goW (v := none) (wc := (wz_X7 cI cS h0 h1 h2 h3 h4 h5 h6 h7 h8 h9 h10 h11 misKept mtaped msort mfrom mto mvalue mbad mm_39 mkept mwas_39 mother mfound mwarm_39 mdrip_39 mtape mbits msize mnumber)) (w1 := (wz_X7 cI cS h0 h1 h2 h3 h4 h5 h6 h7 h8 h9 h10 h11 misKept mtaped msort mfrom mto mvalue mbad g5 mkept mwas_39 mother mfound mwarm_39 mdrip_39 mtape mbits msize mnumber)) [0, 1, 2, 3, 4, 5, 6, 7, 8, 9, 10, 11] [] 12 rfl rfl (wz_X7 cI cS h0 h1 h2 h3 h4 h5 h6 h7 h8 h9 h10 h11 misKept mtaped msort mfrom mto mvalue mbad g5 mkept mwas_39 mother mfound mwarm_39 mdrip_39 mtape mbits msize mnumber) rfl [] rfl rfl rfl (by decide +kernel) (ik_runV (st := []) (As := [.int x1, .int r4]) C hM mv_X7_makes wl_14_23 ⟨rfl, rfl, Nat.le_of_ble_eq_true rfl, Nat.le_of_ble_eq_true rfl⟩ [0, 1, 2, 3, 4, 5, 6, 7, 8, 9, 10, 11] rfl (by decide +kernel) 0 rfl rfl rfl rfl (Nat.le_of_ble_eq_true rfl) dX7_needs_61 ⟨Nat.zero_le _, Nat.zero_le _⟩) rfl ?_
            refine ik_aload_n C 4 rfl rfl dX7_needs_64 ?_
            refine ik_iload_n C 6 rfl rfl dX7_needs_65 ?_
            obtain ⟨r6, g7, g8, g9, g10, hc10, hf⟩ := ik_b5s hf
            have hM := (c_X7_held l D cI cS h0 h1 h2 h3 h4 h5 h6 h7 h8 h9 h10 h11 misKept mtaped msort mfrom mto mvalue mbad g5 mkept mwas_39 mother mfound mwarm_39 mdrip_39 mtape mbits msize mnumber x2 r6 g7 g8 g9 g10 hc10)
            refine ik_goW (v := (some (.int r6))) (wc := (wz_X7 cI cS h0 h1 h2 h3 h4 h5 h6 h7 h8 h9 h10 h11 misKept mtaped msort mfrom mto mvalue mbad g5 mkept mwas_39 mother mfound mwarm_39 mdrip_39 mtape mbits msize mnumber)) (w1 := (wz_X7 cI cS h0 h1 h2 h3 h4 h5 h6 h7 h8 h9 h10 h11 misKept mtaped msort mfrom mto mvalue mbad g7 mkept g8 mother mfound g9 g10 mtape mbits msize mnumber)) [0, 1, 2, 3, 4, 5, 6, 7, 8, 9, 10, 11] [] 12 rfl rfl (wz_X7 cI cS h0 h1 h2 h3 h4 h5 h6 h7 h8 h9 h10 h11 misKept mtaped msort mfrom mto mvalue mbad g7 mkept g8 mother mfound g9 g10 mtape mbits msize mnumber) rfl [] rfl rfl rfl (by decide +kernel) (ik_runV (st := []) (As := [.int x2]) C hM mv_X7_held wl_26_15 ⟨rfl, rfl, Nat.le_of_ble_eq_true rfl, Nat.le_of_ble_eq_true rfl⟩ [0, 1, 2, 3, 4, 5, 6, 7, 8, 9, 10, 11] rfl (by decide +kernel) 0 rfl rfl rfl rfl (Nat.le_of_ble_eq_true rfl) dX7_needs_66 ⟨Nat.zero_le _, Nat.zero_le _⟩) rfl ?_
            refine ik_iload_n C 6 rfl rfl dX7_needs_69 ?_
            refine ik_icmp_ne C 78 dX7_needs_70 (by decide) (fun hc => ?_) (fun hc => ?_)
            · have hf := ik_neg hc hf
              refine ik_iconst (v := (-1 : Int32)) C (by decide) dX7_needs_78 ?_
              refine ik_istore C [(5, .int (-1 : Int32)), (6, .int x6_39), (4, .int r3), (3, .int r2), (0, .ref h0), (1, .int x1), (2, .int x2)] (by decide) rfl dX7_needs_79 ?_
              refine ik_iinc C [(6, .int (x6_39 + (1 : Int32))), (5, .int (-1 : Int32)), (4, .int r3), (3, .int r2), (0, .ref h0), (1, .int x1), (2, .int x2)] 1 rfl rfl (by decide) rfl dX7_needs_81 ?_
              refine ik_goto C 39 dX7_needs_84 (by decide) ?_
              exact ik_sub [0, 1, 2, 3, 4, 5, 6] [(6, .int (x6_39 + (1 : Int32))), (5, .int (-1 : Int32)), (4, .int r3), (3, .int r2), (0, .ref h0), (1, .int x1), (2, .int x2)] rfl (ih_39 g7 g8 g9 g10 (-1 : Int32) (x6_39 + (1 : Int32)) hf)
            · have hf := ik_pos hc hf
              refine ik_iload C 0 rfl dX7_needs_73 ?_
              refine ik_goto C 79 dX7_needs_75 (by decide) ?_
              refine ik_istore C [(5, .int x6_39), (6, .int x6_39), (4, .int r3), (3, .int r2), (0, .ref h0), (1, .int x1), (2, .int x2)] (by decide) rfl dX7_needs_79 ?_
              refine ik_iinc C [(6, .int (x6_39 + (1 : Int32))), (5, .int x6_39), (4, .int r3), (3, .int r2), (0, .ref h0), (1, .int x1), (2, .int x2)] 1 rfl rfl (by decide) rfl dX7_needs_81 ?_
              refine ik_goto C 39 dX7_needs_84 (by decide) ?_
              exact ik_sub [0, 1, 2, 3, 4, 5, 6] [(6, .int (x6_39 + (1 : Int32))), (5, .int x6_39), (4, .int r3), (3, .int r2), (0, .ref h0), (1, .int x1), (2, .int x2)] rfl (ih_39 g7 g8 g9 g10 x6_39 (x6_39 + (1 : Int32)) hf)
    exact hL_39 ik_fu mm mwas mwarm mdrip (-1 : Int32) (0 : Int32) hf
  · have hf := ik_neg hc hf
    refine ik_aload_n C 1 rfl rfl dX7_needs_20 ?_
    refine ik_iload_n C 0 rfl rfl dX7_needs_21 ?_
    obtain ⟨r3, g4, hc4, hf⟩ := ik_b2s hf
    have hM := (c_X7_finds l D cI cS h0 h1 h2 h3 h4 h5 h6 h7 h8 h9 h10 h11 misKept mtaped msort mfrom mto mvalue mbad mm mkept mwas mother mfound mwarm mdrip mtape mbits msize mnumber r2 r3 g4 hc4)
    refine ik_goW (v := (some (.int r3))) (wc := (wz_X7 cI cS h0 h1 h2 h3 h4 h5 h6 h7 h8 h9 h10 h11 misKept mtaped msort mfrom mto mvalue mbad mm mkept mwas mother mfound mwarm mdrip mtape mbits msize mnumber)) (w1 := (wz_X7 cI cS h0 h1 h2 h3 h4 h5 h6 h7 h8 h9 h10 h11 misKept mtaped msort mfrom mto mvalue mbad mm mkept mwas mother g4 mwarm mdrip mtape mbits msize mnumber)) [0, 1, 2, 3, 4, 5, 6, 7, 8, 9, 10, 11] [] 12 rfl rfl (wz_X7 cI cS h0 h1 h2 h3 h4 h5 h6 h7 h8 h9 h10 h11 misKept mtaped msort mfrom mto mvalue mbad mm mkept mwas mother g4 mwarm mdrip mtape mbits msize mnumber) rfl [] rfl rfl rfl (by decide +kernel) (ik_runV (st := []) (As := [.int r2]) C hM mv_X7_finds wl_7_8 ⟨rfl, rfl, Nat.le_of_ble_eq_true rfl, Nat.le_of_ble_eq_true rfl⟩ [0, 1, 2, 3, 4, 5, 6, 7, 8, 9, 10, 11] rfl (by decide +kernel) 0 rfl rfl rfl rfl (Nat.le_of_ble_eq_true rfl) dX7_needs_22 ⟨Nat.zero_le _, Nat.zero_le _⟩) rfl ?_
    obtain ⟨rfl, rfl, rfl, rfl, rfl, rfl⟩ := ik_e6 hf
    exact ik_iretW C hr hlk dX7_needs_25
theorem mv_X7_mend : ik_V yX7_mend RX7 cX7_mend 7 (some .int) 1 := ⟨wl_28_17, wl_28_18, wl_1_5, wl_28_19, by decide +kernel⟩
set_option maxHeartbeats 4000000 in
set_option maxRecDepth 100000 in
theorem c_X7_mend (l : Launch) (D : va_G) (cI cS : ClassId) (h0 h1 h2 h3 h4 h5 h6 h7 h8 h9 h10 h11 : Nat) (misKept : Int32) (mtaped : Int32) (msort : Int32) (mfrom : Int32) (mto : Int32) (mvalue : Int32) (mbad : Int32) (mm : Nat → Int32) (mkept : Nat → Int32) (mwas : Nat → Int32) (mother : Nat → Int32) (mfound : Nat → Int32) (mwarm : Nat → Int32) (mdrip : Nat → Int32) (mtape : Nat → Int32) (mbits : Nat → Int32) (msize : Nat → Int32) (mnumber : Nat → Int32) (x1 : Int32) (R : Int32) (mm_r : Nat → Int32) (mwas_r : Nat → Int32) (mfound_r : Nat → Int32) (mwarm_r : Nat → Int32) (mdrip_r : Nat → Int32) (hf : f_X7_mend mm mwas mfound mwarm mdrip x1 = some (R, mm_r, mwas_r, mfound_r, mwarm_r, mdrip_r)) : Met l yX7_mend (ik_ws yX7_mend cX7_mend 7 (some .int)) ({ frames := 9, cells := 0, slots := 0, locals := 204 } : Room) (ik_P D cI cS [.ref h0, .int x1] (wz_X7 cI cS h0 h1 h2 h3 h4 h5 h6 h7 h8 h9 h10 h11 misKept mtaped msort mfrom mto mvalue mbad mm mkept mwas mother mfound mwarm mdrip mtape mbits msize mnumber)) (ik_Q (some (.int R)) D (wz_X7 cI cS h0 h1 h2 h3 h4 h5 h6 h7 h8 h9 h10 h11 misKept mtaped msort mfrom mto mvalue mbad mm_r mkept mwas_r mother mfound_r mwarm_r mdrip_r mtape mbits msize mnumber) (wz_X7 cI cS h0 h1 h2 h3 h4 h5 h6 h7 h8 h9 h10 h11 misKept mtaped msort mfrom mto mvalue mbad mm mkept mwas mother mfound mwarm mdrip mtape mbits msize mnumber)) 0 0 (ik_in (wz_X7 cI cS h0 h1 h2 h3 h4 h5 h6 h7 h8 h9 h10 h11 misKept mtaped msort mfrom mto mvalue mbad mm mkept mwas mother mfound mwarm mdrip mtape mbits msize mnumber)) := by
  refine ik_metW RX7 rfl (by decide) (Nat.le_of_ble_eq_true rfl) [(0, .ref h0), (1, .int x1)] rfl ?_
  intro p e s m below meth c C hr hlk
  unfold f_X7_mend at hf
  refine ik_iload_n C 1 rfl rfl dX7_mend_0 ?_
  refine ik_i2l C dX7_mend_1 ?_
  refine ik_lconst (v := (1 : Int64)) C (by decide) dX7_mend_2 ?_
  refine ik_ldc2 C wl_28_20 dX7_mend_3 ?_
  obtain ⟨r1, hc1, hf⟩ := ik_b1s hf
  have hM := (c_X7_in l D cI cS (x1).toInt64 (1 : Int64) (98 : Int64) r1 hc1)
  refine ik_goR (ik_runS (st := []) (As := [.long (x1).toInt64, .long (1 : Int64), .long (98 : Int64)]) C hM ms_X7_in wl_6_21 ⟨rfl, rfl, Nat.le_of_ble_eq_true rfl, Nat.le_of_ble_eq_true rfl⟩ [] rfl (by decide +kernel) rfl rfl (Nat.le_of_ble_eq_true rfl) dX7_mend_6 ⟨Nat.zero_le _, Nat.zero_le _⟩) rfl ?_
  refine ik_if_ne C 19 dX7_mend_9 (by decide) (fun hc => ?_) (fun hc => ?_)
  · have hf := ik_neg hc hf
    refine ik_aload_n C 0 rfl rfl dX7_mend_19 ?_
    refine ik_bipush (v := (96 : Int32)) C (by decide) dX7_mend_20 ?_
    obtain ⟨r2, hc2, hf⟩ := ik_b1s hf
    have hM := (c_X7_isFarOn l D cI cS h0 h1 h2 h3 h4 h5 h6 h7 h8 h9 h10 h11 misKept mtaped msort mfrom mto mvalue mbad mm mkept mwas mother mfound mwarm mdrip mtape mbits msize mnumber (96 : Int32) r2 hc2)
    refine ik_goR (ik_runV (st := []) (As := [.int (96 : Int32)]) C hM mv_X7_isFarOn wl_25_19 ⟨rfl, rfl, Nat.le_of_ble_eq_true rfl, Nat.le_of_ble_eq_true rfl⟩ [0, 1, 2, 3, 4, 5, 6, 7, 8, 9, 10, 11] rfl (by decide +kernel) 0 rfl rfl rfl rfl (Nat.le_of_ble_eq_true rfl) dX7_mend_22 ⟨Nat.zero_le _, Nat.zero_le _⟩) rfl ?_
    refine ik_if_eq C 35 dX7_mend_25 (by decide) (fun hc => ?_) (fun hc => ?_)
    · have hf := ik_pos hc hf
      refine ik_iconst (v := (-1 : Int32)) C (by decide) dX7_mend_35 ?_
      refine ik_istore_n C [(2, .int (-1 : Int32)), (0, .ref h0), (1, .int x1)] rfl (by decide) rfl dX7_mend_36 ?_
      refine ik_iconst (v := (0 : Int32)) C (by decide) dX7_mend_37 ?_
      refine ik_istore_n C [(3, .int (0 : Int32)), (2, .int (-1 : Int32)), (0, .ref h0), (1, .int x1)] rfl (by decide) rfl dX7_mend_38 ?_
      refine ik_iconst (v := (0 : Int32)) C (by decide) dX7_mend_39 ?_
      refine ik_istore C [(4, .int (0 : Int32)), (3, .int (0 : Int32)), (2, .int (-1 : Int32)), (0, .ref h0), (1, .int x1)] (by decide) rfl dX7_mend_40 ?_
      have hL_42 : ∀ (n_42 : Nat) (mm_42 : Nat → Int32) (mwas_42 : Nat → Int32) (mwarm_42 : Nat → Int32) (mdrip_42 : Nat → Int32) (x2_42 : Int32) (x3_42 : Int32) (x4_42 : Int32), ik_lp7 (b_X7_mend_42 mfound x1) n_42 mm_42 mwas_42 mwarm_42 mdrip_42 x2_42 x3_42 x4_42 = some (R, mm_r, mwas_r, mfound_r, mwarm_r, mdrip_r) → ik_G p l e ({ frames := 9, cells := 0, slots := 0, locals := 204 } : Room) s m ([.ref h0, .int x1] : List Value).toArray below meth c D (ik_in (wz_X7 cI cS h0 h1 h2 h3 h4 h5 h6 h7 h8 h9 h10 h11 misKept mtaped msort mfrom mto mvalue mbad mm mkept mwas mother mfound mwarm mdrip mtape mbits msize mnumber)) (ik_in (wz_X7 cI cS h0 h1 h2 h3 h4 h5 h6 h7 h8 h9 h10 h11 misKept mtaped msort mfrom mto mvalue mbad mm mkept mwas mother mfound mwarm mdrip mtape mbits msize mnumber)) 7 0 0 (MQ below (ik_Q (some (.int R)) D (wz_X7 cI cS h0 h1 h2 h3 h4 h5 h6 h7 h8 h9 h10 h11 misKept mtaped msort mfrom mto mvalue mbad mm_r mkept mwas_r mother mfound_r mwarm_r mdrip_r mtape mbits msize mnumber) (wz_X7 cI cS h0 h1 h2 h3 h4 h5 h6 h7 h8 h9 h10 h11 misKept mtaped msort mfrom mto mvalue mbad mm mkept mwas mother mfound mwarm mdrip mtape mbits msize mnumber)) ([.ref h0, .int x1] : List Value).toArray s 0 0 (ik_in (wz_X7 cI cS h0 h1 h2 h3 h4 h5 h6 h7 h8 h9 h10 h11 misKept mtaped msort mfrom mto mvalue mbad mm mkept mwas mother mfound mwarm mdrip mtape mbits msize mnumber))) 42 [(4, .int x4_42), (3, .int x3_42), (2, .int x2_42), (0, .ref h0), (1, .int x1)] [] (wz_X7 cI cS h0 h1 h2 h3 h4 h5 h6 h7 h8 h9 h10 h11 misKept mtaped msort mfrom mto mvalue mbad mm_42 mkept mwas_42 mother mfound mwarm_42 mdrip_42 mtape mbits msize mnumber) := by
        intro n_42
        induction n_42 with
        | zero => intro _ _ _ _ _ _ _ hf; exact nomatch hf
        | succ n_42 ih_42 =>
          intro mm_42 mwas_42 mwarm_42 mdrip_42 x2_42 x3_42 x4_42 hf
          replace hf : b_X7_mend_42 mfound x1 (ik_lp7 (b_X7_mend_42 mfound x1) n_42) mm_42 mwas_42 mwarm_42 mdrip_42 x2_42 x3_42 x4_42 = some (R, mm_r, mwas_r, mfound_r, mwarm_r, mdrip_r) := hf
          unfold b_X7_mend_42 at hf
          refine ik_iload C 0 rfl dX7_mend_42 ?_
          refine ik_aload_n C 3 rfl rfl dX7_mend_44 ?_
          refine ik_get C inlX7 0 rfl rfl 0 (by decide) wl_4_12 rfl (v := .ref h1) rfl dX7_mend_45 ?_
          refine ik_iconst (v := (5 : Int32)) C (by decide) dX7_mend_48 ?_
          refine ik_iald C 1 rfl (ik_vin (by decide)) dX7_mend_49 ?_
          refine ik_icmp_ge C 127 dX7_mend_50 (by decide) (fun hc => ?_) (fun hc => ?_)
          · have hf := ik_pos hc hf
            refine ik_aload_n C 3 rfl rfl dX7_mend_127 ?_
            refine ik_iload_n C 2 rfl rfl dX7_mend_128 ?_
            obtain ⟨r3, g4, hc4, hf⟩ := ik_b2s hf
            have hM := (c_X7_orNone l D cI cS h0 h1 h2 h3 h4 h5 h6 h7 h8 h9 h10 h11 misKept mtaped msort mfrom mto mvalue mbad mm_42 mkept mwas_42 mother mfound mwarm_42 mdrip_42 mtape mbits msize mnumber x2_42 r3 g4 hc4)
            refine ik_goW (v := (some (.int r3))) (wc := (wz_X7 cI cS h0 h1 h2 h3 h4 h5 h6 h7 h8 h9 h10 h11 misKept mtaped msort mfrom mto mvalue mbad mm_42 mkept mwas_42 mother mfound mwarm_42 mdrip_42 mtape mbits msize mnumber)) (w1 := (wz_X7 cI cS h0 h1 h2 h3 h4 h5 h6 h7 h8 h9 h10 h11 misKept mtaped msort mfrom mto mvalue mbad mm_42 mkept mwas_42 mother g4 mwarm_42 mdrip_42 mtape mbits msize mnumber)) [0, 1, 2, 3, 4, 5, 6, 7, 8, 9, 10, 11] [] 12 rfl rfl (wz_X7 cI cS h0 h1 h2 h3 h4 h5 h6 h7 h8 h9 h10 h11 misKept mtaped msort mfrom mto mvalue mbad mm_42 mkept mwas_42 mother g4 mwarm_42 mdrip_42 mtape mbits msize mnumber) rfl [] rfl rfl rfl (by decide +kernel) (ik_runV (st := []) (As := [.int x2_42]) C hM mv_X7_orNone wl_27_8 ⟨rfl, rfl, Nat.le_of_ble_eq_true rfl, Nat.le_of_ble_eq_true rfl⟩ [0, 1, 2, 3, 4, 5, 6, 7, 8, 9, 10, 11] rfl (by decide +kernel) 0 rfl rfl rfl rfl (Nat.le_of_ble_eq_true rfl) dX7_mend_129 ⟨Nat.zero_le _, Nat.zero_le _⟩) rfl ?_
            obtain ⟨rfl, rfl, rfl, rfl, rfl, rfl⟩ := ik_e6 hf
            exact ik_iretW C hr hlk dX7_mend_132
          · have hf := ik_neg hc hf
            refine ik_aload_n C 3 rfl rfl dX7_mend_53 ?_
            refine ik_iload C 0 rfl dX7_mend_54 ?_
            obtain ⟨r3, hc3, hf⟩ := ik_b1s hf
            have hM := (c_X7_isGone l D cI cS h0 h1 h2 h3 h4 h5 h6 h7 h8 h9 h10 h11 misKept mtaped msort mfrom mto mvalue mbad mm_42 mkept mwas_42 mother mfound mwarm_42 mdrip_42 mtape mbits msize mnumber x4_42 r3 hc3)
            refine ik_goR (ik_runV (st := []) (As := [.int x4_42]) C hM mv_X7_isGone wl_10_5 ⟨rfl, rfl, Nat.le_of_ble_eq_true rfl, Nat.le_of_ble_eq_true rfl⟩ [0, 1, 2, 3, 4, 5, 6, 7, 8, 9, 10, 11] rfl (by decide +kernel) 0 rfl rfl rfl rfl (Nat.le_of_ble_eq_true rfl) dX7_mend_56 ⟨Nat.zero_le _, Nat.zero_le _⟩) rfl ?_
            refine ik_if_eq C 65 dX7_mend_59 (by decide) (fun hc => ?_) (fun hc => ?_)
            · have hf := ik_pos hc hf
              refine ik_aload_n C 3 rfl rfl dX7_mend_65 ?_
              refine ik_iload C 0 rfl dX7_mend_66 ?_
              obtain ⟨r4, hc4, hf⟩ := ik_b1s hf
              have hM := (c_X7_grains l D cI cS h0 h1 h2 h3 h4 h5 h6 h7 h8 h9 h10 h11 misKept mtaped msort mfrom mto mvalue mbad mm_42 mkept mwas_42 mother mfound mwarm_42 mdrip_42 mtape mbits msize mnumber x4_42 r4 hc4)
              refine ik_goR (ik_runV (st := []) (As := [.int x4_42]) C hM mv_X7_grains wl_10_1 ⟨rfl, rfl, Nat.le_of_ble_eq_true rfl, Nat.le_of_ble_eq_true rfl⟩ [0, 1, 2, 3, 4, 5, 6, 7, 8, 9, 10, 11] rfl (by decide +kernel) 0 rfl rfl rfl rfl (Nat.le_of_ble_eq_true rfl) dX7_mend_68 ⟨Nat.zero_le _, Nat.zero_le _⟩) rfl ?_
              refine ik_istore C [(5, .int r4), (4, .int x4_42), (3, .int x3_42), (2, .int x2_42), (0, .ref h0), (1, .int x1)] (by decide) rfl dX7_mend_71 ?_
              refine ik_aload_n C 4 rfl rfl dX7_mend_73 ?_
              refine ik_iload C 1 rfl dX7_mend_74 ?_
              refine ik_iload C 0 rfl dX7_mend_76 ?_
              refine ik_iload_n C 5 rfl rfl dX7_mend_78 ?_
              refine ik_iadd C dX7_mend_79 ?_
              obtain ⟨r5, hc5, hf⟩ := ik_b1s hf
              have hM := (c_X7_capped l D cI cS (r4 + x1) r5 hc5)
              refine ik_goR (ik_runS (st := [.int x4_42, .ref h0]) (As := [.int (r4 + x1)]) C hM ms_X7_capped wl_28_8 ⟨rfl, rfl, Nat.le_of_ble_eq_true rfl, Nat.le_of_ble_eq_true rfl⟩ [] rfl (by decide +kernel) rfl rfl (Nat.le_of_ble_eq_true rfl) dX7_mend_80 ⟨Nat.zero_le _, Nat.zero_le _⟩) rfl ?_
              obtain ⟨g6, hc6, hf⟩ := ik_b1s hf
              have hM := (c_X7_makes l D cI cS h0 h1 h2 h3 h4 h5 h6 h7 h8 h9 h10 h11 misKept mtaped msort mfrom mto mvalue mbad mm_42 mkept mwas_42 mother mfound mwarm_42 mdrip_42 mtape mbits msize mnumber x4_42 r5 g6 hc6)
              refine ik_goW (v := none) (wc := (wz_X7 cI cS h0 h1 h2 h3 h4 h5 h6 h7 h8 h9 h10 h11 misKept mtaped msort mfrom mto mvalue mbad mm_42 mkept mwas_42 mother mfound mwarm_42 mdrip_42 mtape mbits msize mnumber)) (w1 := (wz_X7 cI cS h0 h1 h2 h3 h4 h5 h6 h7 h8 h9 h10 h11 misKept mtaped msort mfrom mto mvalue mbad g6 mkept mwas_42 mother mfound mwarm_42 mdrip_42 mtape mbits msize mnumber)) [0, 1, 2, 3, 4, 5, 6, 7, 8, 9, 10, 11] [] 12 rfl rfl (wz_X7 cI cS h0 h1 h2 h3 h4 h5 h6 h7 h8 h9 h10 h11 misKept mtaped msort mfrom mto mvalue mbad g6 mkept mwas_42 mother mfound mwarm_42 mdrip_42 mtape mbits msize mnumber) rfl [] rfl rfl rfl (by decide +kernel) (ik_runV (st := []) (As := [.int x4_42, .int r5]) C hM mv_X7_makes wl_14_23 ⟨rfl, rfl, Nat.le_of_ble_eq_true rfl, Nat.le_of_ble_eq_true rfl⟩ [0, 1, 2, 3, 4, 5, 6, 7, 8, 9, 10, 11] rfl (by decide +kernel) 0 rfl rfl rfl rfl (Nat.le_of_ble_eq_true rfl) dX7_mend_83 ⟨Nat.zero_le _, Nat.zero_le _⟩) rfl ?_
              refine ik_aload_n C 4 rfl rfl dX7_mend_86 ?_
              refine ik_bipush (v := (96 : Int32)) C (by decide) dX7_mend_87 ?_
              obtain ⟨r7, g8, g9, g10, g11, hc11, hf⟩ := ik_b5s hf
              have hM := (c_X7_held l D cI cS h0 h1 h2 h3 h4 h5 h6 h7 h8 h9 h10 h11 misKept mtaped msort mfrom mto mvalue mbad g6 mkept mwas_42 mother mfound mwarm_42 mdrip_42 mtape mbits msize mnumber (96 : Int32) r7 g8 g9 g10 g11 hc11)
              refine ik_goW (v := (some (.int r7))) (wc := (wz_X7 cI cS h0 h1 h2 h3 h4 h5 h6 h7 h8 h9 h10 h11 misKept mtaped msort mfrom mto mvalue mbad g6 mkept mwas_42 mother mfound mwarm_42 mdrip_42 mtape mbits msize mnumber)) (w1 := (wz_X7 cI cS h0 h1 h2 h3 h4 h5 h6 h7 h8 h9 h10 h11 misKept mtaped msort mfrom mto mvalue mbad g8 mkept g9 mother mfound g10 g11 mtape mbits msize mnumber)) [0, 1, 2, 3, 4, 5, 6, 7, 8, 9, 10, 11] [] 12 rfl rfl (wz_X7 cI cS h0 h1 h2 h3 h4 h5 h6 h7 h8 h9 h10 h11 misKept mtaped msort mfrom mto mvalue mbad g8 mkept g9 mother mfound g10 g11 mtape mbits msize mnumber) rfl [] rfl rfl rfl (by decide +kernel) (ik_runV (st := []) (As := [.int (96 : Int32)]) C hM mv_X7_held wl_26_15 ⟨rfl, rfl, Nat.le_of_ble_eq_true rfl, Nat.le_of_ble_eq_true rfl⟩ [0, 1, 2, 3, 4, 5, 6, 7, 8, 9, 10, 11] rfl (by decide +kernel) 0 rfl rfl rfl rfl (Nat.le_of_ble_eq_true rfl) dX7_mend_89 ⟨Nat.zero_le _, Nat.zero_le _⟩) rfl ?_
              refine ik_istore C [(6, .int r7), (5, .int r4), (4, .int x4_42), (3, .int x3_42), (2, .int x2_42), (0, .ref h0), (1, .int x1)] (by decide) rfl dX7_mend_92 ?_
              refine ik_aload_n C 5 rfl rfl dX7_mend_94 ?_
              refine ik_iload C 2 rfl dX7_mend_95 ?_
              refine ik_iload C 1 rfl dX7_mend_97 ?_
              obtain ⟨g12, hc12, hf⟩ := ik_b1s hf
              have hM := (c_X7_makes l D cI cS h0 h1 h2 h3 h4 h5 h6 h7 h8 h9 h10 h11 misKept mtaped msort mfrom mto mvalue mbad g8 mkept g9 mother mfound g10 g11 mtape mbits msize mnumber x4_42 r4 g12 hc12)
              refine ik_goW (v := none) (wc := (wz_X7 cI cS h0 h1 h2 h3 h4 h5 h6 h7 h8 h9 h10 h11 misKept mtaped msort mfrom mto mvalue mbad g8 mkept g9 mother mfound g10 g11 mtape mbits msize mnumber)) (w1 := (wz_X7 cI cS h0 h1 h2 h3 h4 h5 h6 h7 h8 h9 h10 h11 misKept mtaped msort mfrom mto mvalue mbad g12 mkept g9 mother mfound g10 g11 mtape mbits msize mnumber)) [0, 1, 2, 3, 4, 5, 6, 7, 8, 9, 10, 11] [] 12 rfl rfl (wz_X7 cI cS h0 h1 h2 h3 h4 h5 h6 h7 h8 h9 h10 h11 misKept mtaped msort mfrom mto mvalue mbad g12 mkept g9 mother mfound g10 g11 mtape mbits msize mnumber) rfl [] rfl rfl rfl (by decide +kernel) (ik_runV (st := []) (As := [.int x4_42, .int r4]) C hM mv_X7_makes wl_14_23 ⟨rfl, rfl, Nat.le_of_ble_eq_true rfl, Nat.le_of_ble_eq_true rfl⟩ [0, 1, 2, 3, 4, 5, 6, 7, 8, 9, 10, 11] rfl (by decide +kernel) 0 rfl rfl rfl rfl (Nat.le_of_ble_eq_true rfl) dX7_mend_99 ⟨Nat.zero_le _, Nat.zero_le _⟩) rfl ?_
              refine ik_iload_n C 4 rfl rfl dX7_mend_102 ?_
              refine ik_if_lt C 115 dX7_mend_103 (by decide) (fun hc => ?_) (fun hc => ?_)
              · have hf := ik_pos hc hf
                refine ik_iload C 2 rfl dX7_mend_115 ?_
                refine ik_istore_n C [(2, .int x4_42), (6, .int r7), (5, .int r4), (4, .int x4_42), (3, .int x3_42), (0, .ref h0), (1, .int x1)] rfl (by decide) rfl dX7_mend_117 ?_
                refine ik_iload C 1 rfl dX7_mend_118 ?_
                refine ik_istore_n C [(3, .int r7), (2, .int x4_42), (6, .int r7), (5, .int r4), (4, .int x4_42), (0, .ref h0), (1, .int x1)] rfl (by decide) rfl dX7_mend_120 ?_
                refine ik_iinc C [(4, .int (x4_42 + (1 : Int32))), (3, .int r7), (2, .int x4_42), (6, .int r7), (5, .int r4), (0, .ref h0), (1, .int x1)] 4 rfl rfl (by decide) rfl dX7_mend_121 ?_
                refine ik_goto C 42 dX7_mend_124 (by decide) ?_
                exact ik_sub [0, 1, 2, 5, 6] [(4, .int (x4_42 + (1 : Int32))), (3, .int r7), (2, .int x4_42), (0, .ref h0), (1, .int x1)] rfl (ih_42 g12 g9 g10 g11 x4_42 r7 (x4_42 + (1 : Int32)) hf)
              · have hf := ik_neg hc hf
                refine ik_iload C 0 rfl dX7_mend_106 ?_
                refine ik_iload_n C 3 rfl rfl dX7_mend_108 ?_
                refine ik_icmp_gt C 115 dX7_mend_109 (by decide) (fun hc => ?_) (fun hc => ?_)
                · have hf := ik_pos hc hf
                  refine ik_iload C 2 rfl dX7_mend_115 ?_
                  refine ik_istore_n C [(2, .int x4_42), (6, .int r7), (5, .int r4), (4, .int x4_42), (3, .int x3_42), (0, .ref h0), (1, .int x1)] rfl (by decide) rfl dX7_mend_117 ?_
                  refine ik_iload C 1 rfl dX7_mend_118 ?_
                  refine ik_istore_n C [(3, .int r7), (2, .int x4_42), (6, .int r7), (5, .int r4), (4, .int x4_42), (0, .ref h0), (1, .int x1)] rfl (by decide) rfl dX7_mend_120 ?_
                  refine ik_iinc C [(4, .int (x4_42 + (1 : Int32))), (3, .int r7), (2, .int x4_42), (6, .int r7), (5, .int r4), (0, .ref h0), (1, .int x1)] 4 rfl rfl (by decide) rfl dX7_mend_121 ?_
                  refine ik_goto C 42 dX7_mend_124 (by decide) ?_
                  exact ik_sub [0, 1, 2, 5, 6] [(4, .int (x4_42 + (1 : Int32))), (3, .int r7), (2, .int x4_42), (0, .ref h0), (1, .int x1)] rfl (ih_42 g12 g9 g10 g11 x4_42 r7 (x4_42 + (1 : Int32)) hf)
                · have hf := ik_neg hc hf
                  refine ik_goto C 121 dX7_mend_112 (by decide) ?_
                  refine ik_iinc C [(4, .int (x4_42 + (1 : Int32))), (6, .int r7), (5, .int r4), (3, .int x3_42), (2, .int x2_42), (0, .ref h0), (1, .int x1)] 2 rfl rfl (by decide) rfl dX7_mend_121 ?_
                  refine ik_goto C 42 dX7_mend_124 (by decide) ?_
                  exact ik_sub [0, 3, 4, 5, 6] [(4, .int (x4_42 + (1 : Int32))), (3, .int x3_42), (2, .int x2_42), (0, .ref h0), (1, .int x1)] rfl (ih_42 g12 g9 g10 g11 x2_42 x3_42 (x4_42 + (1 : Int32)) hf)
            · have hf := ik_neg hc hf
              refine ik_goto C 121 dX7_mend_62 (by decide) ?_
              refine ik_iinc C [(4, .int (x4_42 + (1 : Int32))), (3, .int x3_42), (2, .int x2_42), (0, .ref h0), (1, .int x1)] 0 rfl rfl (by decide) rfl dX7_mend_121 ?_
              refine ik_goto C 42 dX7_mend_124 (by decide) ?_
              exact ik_sub [0, 1, 2, 3, 4] [(4, .int (x4_42 + (1 : Int32))), (3, .int x3_42), (2, .int x2_42), (0, .ref h0), (1, .int x1)] rfl (ih_42 mm_42 mwas_42 mwarm_42 mdrip_42 x2_42 x3_42 (x4_42 + (1 : Int32)) hf)
      exact hL_42 ik_fu mm mwas mwarm mdrip (-1 : Int32) (0 : Int32) (0 : Int32) hf
    · have hf := ik_neg hc hf
      refine ik_aload_n C 0 rfl rfl dX7_mend_28 ?_
      refine ik_ldc C wl_6_16 dX7_mend_29 ?_
      obtain ⟨r3, g4, hc4, hf⟩ := ik_b2s hf
      have hM := (c_X7_finds l D cI cS h0 h1 h2 h3 h4 h5 h6 h7 h8 h9 h10 h11 misKept mtaped msort mfrom mto mvalue mbad mm mkept mwas mother mfound mwarm mdrip mtape mbits msize mnumber (-1000005 : Int32) r3 g4 hc4)
      refine ik_goW (v := (some (.int r3))) (wc := (wz_X7 cI cS h0 h1 h2 h3 h4 h5 h6 h7 h8 h9 h10 h11 misKept mtaped msort mfrom mto mvalue mbad mm mkept mwas mother mfound mwarm mdrip mtape mbits msize mnumber)) (w1 := (wz_X7 cI cS h0 h1 h2 h3 h4 h5 h6 h7 h8 h9 h10 h11 misKept mtaped msort mfrom mto mvalue mbad mm mkept mwas mother g4 mwarm mdrip mtape mbits msize mnumber)) [0, 1, 2, 3, 4, 5, 6, 7, 8, 9, 10, 11] [] 12 rfl rfl (wz_X7 cI cS h0 h1 h2 h3 h4 h5 h6 h7 h8 h9 h10 h11 misKept mtaped msort mfrom mto mvalue mbad mm mkept mwas mother g4 mwarm mdrip mtape mbits msize mnumber) rfl [] rfl rfl rfl (by decide +kernel) (ik_runV (st := []) (As := [.int (-1000005 : Int32)]) C hM mv_X7_finds wl_7_8 ⟨rfl, rfl, Nat.le_of_ble_eq_true rfl, Nat.le_of_ble_eq_true rfl⟩ [0, 1, 2, 3, 4, 5, 6, 7, 8, 9, 10, 11] rfl (by decide +kernel) 0 rfl rfl rfl rfl (Nat.le_of_ble_eq_true rfl) dX7_mend_31 ⟨Nat.zero_le _, Nat.zero_le _⟩) rfl ?_
      obtain ⟨rfl, rfl, rfl, rfl, rfl, rfl⟩ := ik_e6 hf
      exact ik_iretW C hr hlk dX7_mend_34
  · have hf := ik_pos hc hf
    refine ik_aload_n C 0 rfl rfl dX7_mend_12 ?_
    refine ik_ldc C wl_6_14 dX7_mend_13 ?_
    obtain ⟨r2, g3, hc3, hf⟩ := ik_b2s hf
    have hM := (c_X7_finds l D cI cS h0 h1 h2 h3 h4 h5 h6 h7 h8 h9 h10 h11 misKept mtaped msort mfrom mto mvalue mbad mm mkept mwas mother mfound mwarm mdrip mtape mbits msize mnumber (-1000001 : Int32) r2 g3 hc3)
    refine ik_goW (v := (some (.int r2))) (wc := (wz_X7 cI cS h0 h1 h2 h3 h4 h5 h6 h7 h8 h9 h10 h11 misKept mtaped msort mfrom mto mvalue mbad mm mkept mwas mother mfound mwarm mdrip mtape mbits msize mnumber)) (w1 := (wz_X7 cI cS h0 h1 h2 h3 h4 h5 h6 h7 h8 h9 h10 h11 misKept mtaped msort mfrom mto mvalue mbad mm mkept mwas mother g3 mwarm mdrip mtape mbits msize mnumber)) [0, 1, 2, 3, 4, 5, 6, 7, 8, 9, 10, 11] [] 12 rfl rfl (wz_X7 cI cS h0 h1 h2 h3 h4 h5 h6 h7 h8 h9 h10 h11 misKept mtaped msort mfrom mto mvalue mbad mm mkept mwas mother g3 mwarm mdrip mtape mbits msize mnumber) rfl [] rfl rfl rfl (by decide +kernel) (ik_runV (st := []) (As := [.int (-1000001 : Int32)]) C hM mv_X7_finds wl_7_8 ⟨rfl, rfl, Nat.le_of_ble_eq_true rfl, Nat.le_of_ble_eq_true rfl⟩ [0, 1, 2, 3, 4, 5, 6, 7, 8, 9, 10, 11] rfl (by decide +kernel) 0 rfl rfl rfl rfl (Nat.le_of_ble_eq_true rfl) dX7_mend_15 ⟨Nat.zero_le _, Nat.zero_le _⟩) rfl ?_
    obtain ⟨rfl, rfl, rfl, rfl, rfl, rfl⟩ := ik_e6 hf
    exact ik_iretW C hr hlk dX7_mend_18
theorem mv_X7_whose : ik_V yX7_whose RX7 cX7_whose 7 (some .int) 1 := ⟨wl_29_2, wl_29_3, wl_1_5, wl_29_4, by decide +kernel⟩
set_option maxHeartbeats 4000000 in
set_option maxRecDepth 100000 in
theorem c_X7_whose (l : Launch) (D : va_G) (cI cS : ClassId) (h0 h1 h2 h3 h4 h5 h6 h7 h8 h9 h10 h11 : Nat) (misKept : Int32) (mtaped : Int32) (msort : Int32) (mfrom : Int32) (mto : Int32) (mvalue : Int32) (mbad : Int32) (mm : Nat → Int32) (mkept : Nat → Int32) (mwas : Nat → Int32) (mother : Nat → Int32) (mfound : Nat → Int32) (mwarm : Nat → Int32) (mdrip : Nat → Int32) (mtape : Nat → Int32) (mbits : Nat → Int32) (msize : Nat → Int32) (mnumber : Nat → Int32) (x1 : Int32) (R : Int32) (mm_r : Nat → Int32) (mwas_r : Nat → Int32) (mfound_r : Nat → Int32) (mwarm_r : Nat → Int32) (mdrip_r : Nat → Int32) (hf : f_X7_whose mm mwas mfound mwarm mdrip x1 = some (R, mm_r, mwas_r, mfound_r, mwarm_r, mdrip_r)) : Met l yX7_whose (ik_ws yX7_whose cX7_whose 7 (some .int)) ({ frames := 9, cells := 0, slots := 0, locals := 203 } : Room) (ik_P D cI cS [.ref h0, .int x1] (wz_X7 cI cS h0 h1 h2 h3 h4 h5 h6 h7 h8 h9 h10 h11 misKept mtaped msort mfrom mto mvalue mbad mm mkept mwas mother mfound mwarm mdrip mtape mbits msize mnumber)) (ik_Q (some (.int R)) D (wz_X7 cI cS h0 h1 h2 h3 h4 h5 h6 h7 h8 h9 h10 h11 misKept mtaped msort mfrom mto mvalue mbad mm_r mkept mwas_r mother mfound_r mwarm_r mdrip_r mtape mbits msize mnumber) (wz_X7 cI cS h0 h1 h2 h3 h4 h5 h6 h7 h8 h9 h10 h11 misKept mtaped msort mfrom mto mvalue mbad mm mkept mwas mother mfound mwarm mdrip mtape mbits msize mnumber)) 0 0 (ik_in (wz_X7 cI cS h0 h1 h2 h3 h4 h5 h6 h7 h8 h9 h10 h11 misKept mtaped msort mfrom mto mvalue mbad mm mkept mwas mother mfound mwarm mdrip mtape mbits msize mnumber)) := by
  refine ik_metW RX7 rfl (by decide) (Nat.le_of_ble_eq_true rfl) [(0, .ref h0), (1, .int x1)] rfl ?_
  intro p e s m below meth c C hr hlk
  unfold f_X7_whose at hf
  refine ik_aload_n C 0 rfl rfl dX7_whose_0 ?_
  refine ik_iload_n C 1 rfl rfl dX7_whose_1 ?_
  refine ik_bipush (v := (96 : Int32)) C (by decide) dX7_whose_2 ?_
  refine ik_iconst (v := (1 : Int32)) C (by decide) dX7_whose_4 ?_
  obtain ⟨r1, hc1, hf⟩ := ik_b1s hf
  have hM := (c_X7_wrongFor l D cI cS h0 h1 h2 h3 h4 h5 h6 h7 h8 h9 h10 h11 misKept mtaped msort mfrom mto mvalue mbad mm mkept mwas mother mfound mwarm mdrip mtape mbits msize mnumber x1 (96 : Int32) (1 : Int32) r1 hc1)
  refine ik_goR (ik_runV (st := []) (As := [.int x1, .int (96 : Int32), .int (1 : Int32)]) C hM mv_X7_wrongFor wl_28_4 ⟨rfl, rfl, Nat.le_of_ble_eq_true rfl, Nat.le_of_ble_eq_true rfl⟩ [0, 1, 2, 3, 4, 5, 6, 7, 8, 9, 10, 11] rfl (by decide +kernel) 0 rfl rfl rfl rfl (Nat.le_of_ble_eq_true rfl) dX7_whose_5 ⟨Nat.zero_le _, Nat.zero_le _⟩) rfl ?_
  refine ik_istore_n C [(2, .int r1), (0, .ref h0), (1, .int x1)] rfl (by decide) rfl dX7_whose_8 ?_
  refine ik_iload_n C 0 rfl rfl dX7_whose_9 ?_
  refine ik_if_ge C 19 dX7_whose_10 (by decide) (fun hc => ?_) (fun hc => ?_)
  · have hf := ik_pos hc hf
    refine ik_iconst (v := (-1 : Int32)) C (by decide) dX7_whose_19 ?_
    refine ik_istore_n C [(3, .int (-1 : Int32)), (2, .int r1), (0, .ref h0), (1, .int x1)] rfl (by decide) rfl dX7_whose_20 ?_
    refine ik_iconst (v := (0 : Int32)) C (by decide) dX7_whose_21 ?_
    refine ik_istore C [(4, .int (0 : Int32)), (3, .int (-1 : Int32)), (2, .int r1), (0, .ref h0), (1, .int x1)] (by decide) rfl dX7_whose_22 ?_
    refine ik_iconst (v := (0 : Int32)) C (by decide) dX7_whose_24 ?_
    refine ik_istore C [(5, .int (0 : Int32)), (4, .int (0 : Int32)), (3, .int (-1 : Int32)), (2, .int r1), (0, .ref h0), (1, .int x1)] (by decide) rfl dX7_whose_25 ?_
    have hL_27 : ∀ (n_27 : Nat) (mm_27 : Nat → Int32) (mwas_27 : Nat → Int32) (mwarm_27 : Nat → Int32) (mdrip_27 : Nat → Int32) (x3_27 : Int32) (x4_27 : Int32) (x5_27 : Int32), ik_lp7 (b_X7_whose_27 mfound x1) n_27 mm_27 mwas_27 mwarm_27 mdrip_27 x3_27 x4_27 x5_27 = some (R, mm_r, mwas_r, mfound_r, mwarm_r, mdrip_r) → ik_G p l e ({ frames := 9, cells := 0, slots := 0, locals := 203 } : Room) s m ([.ref h0, .int x1] : List Value).toArray below meth c D (ik_in (wz_X7 cI cS h0 h1 h2 h3 h4 h5 h6 h7 h8 h9 h10 h11 misKept mtaped msort mfrom mto mvalue mbad mm mkept mwas mother mfound mwarm mdrip mtape mbits msize mnumber)) (ik_in (wz_X7 cI cS h0 h1 h2 h3 h4 h5 h6 h7 h8 h9 h10 h11 misKept mtaped msort mfrom mto mvalue mbad mm mkept mwas mother mfound mwarm mdrip mtape mbits msize mnumber)) 7 0 0 (MQ below (ik_Q (some (.int R)) D (wz_X7 cI cS h0 h1 h2 h3 h4 h5 h6 h7 h8 h9 h10 h11 misKept mtaped msort mfrom mto mvalue mbad mm_r mkept mwas_r mother mfound_r mwarm_r mdrip_r mtape mbits msize mnumber) (wz_X7 cI cS h0 h1 h2 h3 h4 h5 h6 h7 h8 h9 h10 h11 misKept mtaped msort mfrom mto mvalue mbad mm mkept mwas mother mfound mwarm mdrip mtape mbits msize mnumber)) ([.ref h0, .int x1] : List Value).toArray s 0 0 (ik_in (wz_X7 cI cS h0 h1 h2 h3 h4 h5 h6 h7 h8 h9 h10 h11 misKept mtaped msort mfrom mto mvalue mbad mm mkept mwas mother mfound mwarm mdrip mtape mbits msize mnumber))) 27 [(5, .int x5_27), (4, .int x4_27), (3, .int x3_27), (2, .int r1), (0, .ref h0), (1, .int x1)] [] (wz_X7 cI cS h0 h1 h2 h3 h4 h5 h6 h7 h8 h9 h10 h11 misKept mtaped msort mfrom mto mvalue mbad mm_27 mkept mwas_27 mother mfound mwarm_27 mdrip_27 mtape mbits msize mnumber) := by
      intro n_27
      induction n_27 with
      | zero => intro _ _ _ _ _ _ _ hf; exact nomatch hf
      | succ n_27 ih_27 =>
        intro mm_27 mwas_27 mwarm_27 mdrip_27 x3_27 x4_27 x5_27 hf
        replace hf : b_X7_whose_27 mfound x1 (ik_lp7 (b_X7_whose_27 mfound x1) n_27) mm_27 mwas_27 mwarm_27 mdrip_27 x3_27 x4_27 x5_27 = some (R, mm_r, mwas_r, mfound_r, mwarm_r, mdrip_r) := hf
        unfold b_X7_whose_27 at hf
        refine ik_iload C 0 rfl dX7_whose_27 ?_
        refine ik_bipush (v := (6 : Int32)) C (by decide) dX7_whose_29 ?_
        refine ik_icmp_ge C 112 dX7_whose_31 (by decide) (fun hc => ?_) (fun hc => ?_)
        · have hf := ik_pos hc hf
          refine ik_aload_n C 4 rfl rfl dX7_whose_112 ?_
          refine ik_iload_n C 2 rfl rfl dX7_whose_113 ?_
          obtain ⟨r2, g3, hc3, hf⟩ := ik_b2s hf
          have hM := (c_X7_orNone l D cI cS h0 h1 h2 h3 h4 h5 h6 h7 h8 h9 h10 h11 misKept mtaped msort mfrom mto mvalue mbad mm_27 mkept mwas_27 mother mfound mwarm_27 mdrip_27 mtape mbits msize mnumber x3_27 r2 g3 hc3)
          refine ik_goW (v := (some (.int r2))) (wc := (wz_X7 cI cS h0 h1 h2 h3 h4 h5 h6 h7 h8 h9 h10 h11 misKept mtaped msort mfrom mto mvalue mbad mm_27 mkept mwas_27 mother mfound mwarm_27 mdrip_27 mtape mbits msize mnumber)) (w1 := (wz_X7 cI cS h0 h1 h2 h3 h4 h5 h6 h7 h8 h9 h10 h11 misKept mtaped msort mfrom mto mvalue mbad mm_27 mkept mwas_27 mother g3 mwarm_27 mdrip_27 mtape mbits msize mnumber)) [0, 1, 2, 3, 4, 5, 6, 7, 8, 9, 10, 11] [] 12 rfl rfl (wz_X7 cI cS h0 h1 h2 h3 h4 h5 h6 h7 h8 h9 h10 h11 misKept mtaped msort mfrom mto mvalue mbad mm_27 mkept mwas_27 mother g3 mwarm_27 mdrip_27 mtape mbits msize mnumber) rfl [] rfl rfl rfl (by decide +kernel) (ik_runV (st := []) (As := [.int x3_27]) C hM mv_X7_orNone wl_27_8 ⟨rfl, rfl, Nat.le_of_ble_eq_true rfl, Nat.le_of_ble_eq_true rfl⟩ [0, 1, 2, 3, 4, 5, 6, 7, 8, 9, 10, 11] rfl (by decide +kernel) 0 rfl rfl rfl rfl (Nat.le_of_ble_eq_true rfl) dX7_whose_114 ⟨Nat.zero_le _, Nat.zero_le _⟩) rfl ?_
          obtain ⟨rfl, rfl, rfl, rfl, rfl, rfl⟩ := ik_e6 hf
          exact ik_iretW C hr hlk dX7_whose_117
        · have hf := ik_neg hc hf
          refine ik_aload_n C 4 rfl rfl dX7_whose_34 ?_
          refine ik_iload C 0 rfl dX7_whose_35 ?_
          obtain ⟨r2, hc2, hf⟩ := ik_b1s hf
          have hM := (c_X7_isLit l D cI cS h0 h1 h2 h3 h4 h5 h6 h7 h8 h9 h10 h11 misKept mtaped msort mfrom mto mvalue mbad mm_27 mkept mwas_27 mother mfound mwarm_27 mdrip_27 mtape mbits msize mnumber x5_27 r2 hc2)
          refine ik_goR (ik_runV (st := []) (As := [.int x5_27]) C hM mv_X7_isLit wl_14_16 ⟨rfl, rfl, Nat.le_of_ble_eq_true rfl, Nat.le_of_ble_eq_true rfl⟩ [0, 1, 2, 3, 4, 5, 6, 7, 8, 9, 10, 11] rfl (by decide +kernel) 0 rfl rfl rfl rfl (Nat.le_of_ble_eq_true rfl) dX7_whose_37 ⟨Nat.zero_le _, Nat.zero_le _⟩) rfl ?_
          refine ik_if_ne C 46 dX7_whose_40 (by decide) (fun hc => ?_) (fun hc => ?_)
          · have hf := ik_neg hc hf
            refine ik_aload_n C 4 rfl rfl dX7_whose_46 ?_
            refine ik_get C inlX7 0 rfl rfl 0 (by decide) wl_4_12 rfl (v := .ref h1) rfl dX7_whose_47 ?_
            refine ik_bipush (v := (6 : Int32)) C (by decide) dX7_whose_50 ?_
            refine ik_iconst (v := (3 : Int32)) C (by decide) dX7_whose_52 ?_
            refine ik_iload C 0 rfl dX7_whose_53 ?_
            refine ik_imul C dX7_whose_55 ?_
            refine ik_iadd C dX7_whose_56 ?_
            refine ik_iconst (v := (2 : Int32)) C (by decide) dX7_whose_57 ?_
            refine ik_iadd C dX7_whose_58 ?_
            refine ik_iconst (v := (0 : Int32)) C (by decide) dX7_whose_59 ?_
            have hg := ik_gdi hf
            have hf := ik_gdk hf
            refine ik_iast C 1 rfl hg (wz_X7 cI cS h0 h1 h2 h3 h4 h5 h6 h7 h8 h9 h10 h11 misKept mtaped msort mfrom mto mvalue mbad (upd mm_27 ((((6 : Int32) + ((3 : Int32) * x5_27)) + (2 : Int32))).toNatClampNeg (0 : Int32)) mkept mwas_27 mother mfound mwarm_27 mdrip_27 mtape mbits msize mnumber) rfl dX7_whose_60 ?_
            refine ik_aload_n C 4 rfl rfl dX7_whose_61 ?_
            refine ik_iload_n C 5 rfl rfl dX7_whose_62 ?_
            refine ik_bipush (v := (96 : Int32)) C (by decide) dX7_whose_63 ?_
            obtain ⟨r3, g4, g5, g6, g7, hc7, hf⟩ := ik_b5s hf
            have hM := (c_X7_goneIn l D cI cS h0 h1 h2 h3 h4 h5 h6 h7 h8 h9 h10 h11 misKept mtaped msort mfrom mto mvalue mbad (upd mm_27 ((((6 : Int32) + ((3 : Int32) * x5_27)) + (2 : Int32))).toNatClampNeg (0 : Int32)) mkept mwas_27 mother mfound mwarm_27 mdrip_27 mtape mbits msize mnumber x1 (96 : Int32) r3 g4 g5 g6 g7 hc7)
            refine ik_goW (v := (some (.int r3))) (wc := (wz_X7 cI cS h0 h1 h2 h3 h4 h5 h6 h7 h8 h9 h10 h11 misKept mtaped msort mfrom mto mvalue mbad (upd mm_27 ((((6 : Int32) + ((3 : Int32) * x5_27)) + (2 : Int32))).toNatClampNeg (0 : Int32)) mkept mwas_27 mother mfound mwarm_27 mdrip_27 mtape mbits msize mnumber)) (w1 := (wz_X7 cI cS h0 h1 h2 h3 h4 h5 h6 h7 h8 h9 h10 h11 misKept mtaped msort mfrom mto mvalue mbad g4 mkept g5 mother mfound g6 g7 mtape mbits msize mnumber)) [0, 1, 2, 3, 4, 5, 6, 7, 8, 9, 10, 11] [] 12 rfl rfl (wz_X7 cI cS h0 h1 h2 h3 h4 h5 h6 h7 h8 h9 h10 h11 misKept mtaped msort mfrom mto mvalue mbad g4 mkept g5 mother mfound g6 g7 mtape mbits msize mnumber) rfl [] rfl rfl rfl (by decide +kernel) (ik_runV (st := []) (As := [.int x1, .int (96 : Int32)]) C hM mv_X7_goneIn wl_25_23 ⟨rfl, rfl, Nat.le_of_ble_eq_true rfl, Nat.le_of_ble_eq_true rfl⟩ [0, 1, 2, 3, 4, 5, 6, 7, 8, 9, 10, 11] rfl (by decide +kernel) 0 rfl rfl rfl rfl (Nat.le_of_ble_eq_true rfl) dX7_whose_65 ⟨Nat.zero_le _, Nat.zero_le _⟩) rfl ?_
            refine ik_istore C [(6, .int r3), (5, .int x5_27), (4, .int x4_27), (3, .int x3_27), (2, .int r1), (0, .ref h0), (1, .int x1)] (by decide) rfl dX7_whose_68 ?_
            refine ik_aload_n C 5 rfl rfl dX7_whose_70 ?_
            refine ik_get C inlX7 0 rfl rfl 0 (by decide) wl_4_12 rfl (v := .ref h1) rfl dX7_whose_71 ?_
            refine ik_bipush (v := (6 : Int32)) C (by decide) dX7_whose_74 ?_
            refine ik_iconst (v := (3 : Int32)) C (by decide) dX7_whose_76 ?_
            refine ik_iload C 1 rfl dX7_whose_77 ?_
            refine ik_imul C dX7_whose_79 ?_
            refine ik_iadd C dX7_whose_80 ?_
            refine ik_iconst (v := (2 : Int32)) C (by decide) dX7_whose_81 ?_
            refine ik_iadd C dX7_whose_82 ?_
            refine ik_iconst (v := (1 : Int32)) C (by decide) dX7_whose_83 ?_
            have hg := ik_gdi hf
            have hf := ik_gdk hf
            refine ik_iast C 1 rfl hg (wz_X7 cI cS h0 h1 h2 h3 h4 h5 h6 h7 h8 h9 h10 h11 misKept mtaped msort mfrom mto mvalue mbad (upd g4 ((((6 : Int32) + ((3 : Int32) * x5_27)) + (2 : Int32))).toNatClampNeg (1 : Int32)) mkept g5 mother mfound g6 g7 mtape mbits msize mnumber) rfl dX7_whose_84 ?_
            refine ik_iload_n C 3 rfl rfl dX7_whose_85 ?_
            refine ik_if_lt C 99 dX7_whose_86 (by decide) (fun hc => ?_) (fun hc => ?_)
            · have hf := ik_pos hc hf
              refine ik_iload C 1 rfl dX7_whose_99 ?_
              refine ik_istore_n C [(3, .int x5_27), (6, .int r3), (5, .int x5_27), (4, .int x4_27), (2, .int r1), (0, .ref h0), (1, .int x1)] rfl (by decide) rfl dX7_whose_101 ?_
              refine ik_iload C 1 rfl dX7_whose_102 ?_
              refine ik_istore C [(4, .int r3), (3, .int x5_27), (6, .int r3), (5, .int x5_27), (2, .int r1), (0, .ref h0), (1, .int x1)] (by decide) rfl dX7_whose_104 ?_
              refine ik_iinc C [(5, .int (x5_27 + (1 : Int32))), (4, .int r3), (3, .int x5_27), (6, .int r3), (2, .int r1), (0, .ref h0), (1, .int x1)] 3 rfl rfl (by decide) rfl dX7_whose_106 ?_
              refine ik_goto C 27 dX7_whose_109 (by decide) ?_
              exact ik_sub [0, 1, 2, 4, 5, 6] [(5, .int (x5_27 + (1 : Int32))), (4, .int r3), (3, .int x5_27), (2, .int r1), (0, .ref h0), (1, .int x1)] rfl (ih_27 (upd g4 ((((6 : Int32) + ((3 : Int32) * x5_27)) + (2 : Int32))).toNatClampNeg (1 : Int32)) g5 g6 g7 x5_27 r3 (x5_27 + (1 : Int32)) hf)
            · have hf := ik_neg hc hf
              refine ik_iload C 0 rfl dX7_whose_89 ?_
              refine ik_iload C 2 rfl dX7_whose_91 ?_
              refine ik_icmp_gt C 99 dX7_whose_93 (by decide) (fun hc => ?_) (fun hc => ?_)
              · have hf := ik_pos hc hf
                refine ik_iload C 1 rfl dX7_whose_99 ?_
                refine ik_istore_n C [(3, .int x5_27), (6, .int r3), (5, .int x5_27), (4, .int x4_27), (2, .int r1), (0, .ref h0), (1, .int x1)] rfl (by decide) rfl dX7_whose_101 ?_
                refine ik_iload C 1 rfl dX7_whose_102 ?_
                refine ik_istore C [(4, .int r3), (3, .int x5_27), (6, .int r3), (5, .int x5_27), (2, .int r1), (0, .ref h0), (1, .int x1)] (by decide) rfl dX7_whose_104 ?_
                refine ik_iinc C [(5, .int (x5_27 + (1 : Int32))), (4, .int r3), (3, .int x5_27), (6, .int r3), (2, .int r1), (0, .ref h0), (1, .int x1)] 3 rfl rfl (by decide) rfl dX7_whose_106 ?_
                refine ik_goto C 27 dX7_whose_109 (by decide) ?_
                exact ik_sub [0, 1, 2, 4, 5, 6] [(5, .int (x5_27 + (1 : Int32))), (4, .int r3), (3, .int x5_27), (2, .int r1), (0, .ref h0), (1, .int x1)] rfl (ih_27 (upd g4 ((((6 : Int32) + ((3 : Int32) * x5_27)) + (2 : Int32))).toNatClampNeg (1 : Int32)) g5 g6 g7 x5_27 r3 (x5_27 + (1 : Int32)) hf)
              · have hf := ik_neg hc hf
                refine ik_goto C 106 dX7_whose_96 (by decide) ?_
                refine ik_iinc C [(5, .int (x5_27 + (1 : Int32))), (6, .int r3), (4, .int x4_27), (3, .int x3_27), (2, .int r1), (0, .ref h0), (1, .int x1)] 1 rfl rfl (by decide) rfl dX7_whose_106 ?_
                refine ik_goto C 27 dX7_whose_109 (by decide) ?_
                exact ik_sub [0, 2, 3, 4, 5, 6] [(5, .int (x5_27 + (1 : Int32))), (4, .int x4_27), (3, .int x3_27), (2, .int r1), (0, .ref h0), (1, .int x1)] rfl (ih_27 (upd g4 ((((6 : Int32) + ((3 : Int32) * x5_27)) + (2 : Int32))).toNatClampNeg (1 : Int32)) g5 g6 g7 x3_27 x4_27 (x5_27 + (1 : Int32)) hf)
          · have hf := ik_pos hc hf
            refine ik_goto C 106 dX7_whose_43 (by decide) ?_
            refine ik_iinc C [(5, .int (x5_27 + (1 : Int32))), (4, .int x4_27), (3, .int x3_27), (2, .int r1), (0, .ref h0), (1, .int x1)] 0 rfl rfl (by decide) rfl dX7_whose_106 ?_
            refine ik_goto C 27 dX7_whose_109 (by decide) ?_
            exact ik_sub [0, 1, 2, 3, 4, 5] [(5, .int (x5_27 + (1 : Int32))), (4, .int x4_27), (3, .int x3_27), (2, .int r1), (0, .ref h0), (1, .int x1)] rfl (ih_27 mm_27 mwas_27 mwarm_27 mdrip_27 x3_27 x4_27 (x5_27 + (1 : Int32)) hf)
    exact hL_27 ik_fu mm mwas mwarm mdrip (-1 : Int32) (0 : Int32) (0 : Int32) hf
  · have hf := ik_neg hc hf
    refine ik_aload_n C 1 rfl rfl dX7_whose_13 ?_
    refine ik_iload_n C 0 rfl rfl dX7_whose_14 ?_
    obtain ⟨r2, g3, hc3, hf⟩ := ik_b2s hf
    have hM := (c_X7_finds l D cI cS h0 h1 h2 h3 h4 h5 h6 h7 h8 h9 h10 h11 misKept mtaped msort mfrom mto mvalue mbad mm mkept mwas mother mfound mwarm mdrip mtape mbits msize mnumber r1 r2 g3 hc3)
    refine ik_goW (v := (some (.int r2))) (wc := (wz_X7 cI cS h0 h1 h2 h3 h4 h5 h6 h7 h8 h9 h10 h11 misKept mtaped msort mfrom mto mvalue mbad mm mkept mwas mother mfound mwarm mdrip mtape mbits msize mnumber)) (w1 := (wz_X7 cI cS h0 h1 h2 h3 h4 h5 h6 h7 h8 h9 h10 h11 misKept mtaped msort mfrom mto mvalue mbad mm mkept mwas mother g3 mwarm mdrip mtape mbits msize mnumber)) [0, 1, 2, 3, 4, 5, 6, 7, 8, 9, 10, 11] [] 12 rfl rfl (wz_X7 cI cS h0 h1 h2 h3 h4 h5 h6 h7 h8 h9 h10 h11 misKept mtaped msort mfrom mto mvalue mbad mm mkept mwas mother g3 mwarm mdrip mtape mbits msize mnumber) rfl [] rfl rfl rfl (by decide +kernel) (ik_runV (st := []) (As := [.int r1]) C hM mv_X7_finds wl_7_8 ⟨rfl, rfl, Nat.le_of_ble_eq_true rfl, Nat.le_of_ble_eq_true rfl⟩ [0, 1, 2, 3, 4, 5, 6, 7, 8, 9, 10, 11] rfl (by decide +kernel) 0 rfl rfl rfl rfl (Nat.le_of_ble_eq_true rfl) dX7_whose_15 ⟨Nat.zero_le _, Nat.zero_le _⟩) rfl ?_
    obtain ⟨rfl, rfl, rfl, rfl, rfl, rfl⟩ := ik_e6 hf
    exact ik_iretW C hr hlk dX7_whose_18
