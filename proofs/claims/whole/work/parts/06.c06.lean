theorem mv_X7_grainsBehind : ik_V yX7_grainsBehind RX7 cX7_grainsBehind 4 (some .int) 2 := ⟨wl_29_15, wl_29_16, wl_1_5, wl_29_17, by decide +kernel⟩
set_option maxHeartbeats 4000000 in
set_option maxRecDepth 100000 in
theorem c_X7_grainsBehind (l : Launch) (D : va_G) (cI cS : ClassId) (h0 h1 h2 h3 h4 h5 h6 h7 h8 h9 h10 h11 : Nat) (misKept : Int32) (mtaped : Int32) (msort : Int32) (mfrom : Int32) (mto : Int32) (mvalue : Int32) (mbad : Int32) (mm : Nat → Int32) (mkept : Nat → Int32) (mwas : Nat → Int32) (mother : Nat → Int32) (mfound : Nat → Int32) (mwarm : Nat → Int32) (mdrip : Nat → Int32) (mtape : Nat → Int32) (mbits : Nat → Int32) (msize : Nat → Int32) (mnumber : Nat → Int32) (x1 : Int32) (x2 : Int32) (R : Int32) (mm_r : Nat → Int32) (mwas_r : Nat → Int32) (mwarm_r : Nat → Int32) (mdrip_r : Nat → Int32) (hf : f_X7_grainsBehind mm mwas mwarm mdrip x1 x2 = some (R, mm_r, mwas_r, mwarm_r, mdrip_r)) : Met l yX7_grainsBehind (ik_ws yX7_grainsBehind cX7_grainsBehind 4 (some .int)) ({ frames := 8, cells := 0, slots := 0, locals := 180 } : Room) (ik_P D cI cS [.ref h0, .int x1, .int x2] (wz_X7 cI cS h0 h1 h2 h3 h4 h5 h6 h7 h8 h9 h10 h11 misKept mtaped msort mfrom mto mvalue mbad mm mkept mwas mother mfound mwarm mdrip mtape mbits msize mnumber)) (ik_Q (some (.int R)) D (wz_X7 cI cS h0 h1 h2 h3 h4 h5 h6 h7 h8 h9 h10 h11 misKept mtaped msort mfrom mto mvalue mbad mm_r mkept mwas_r mother mfound mwarm_r mdrip_r mtape mbits msize mnumber) (wz_X7 cI cS h0 h1 h2 h3 h4 h5 h6 h7 h8 h9 h10 h11 misKept mtaped msort mfrom mto mvalue mbad mm mkept mwas mother mfound mwarm mdrip mtape mbits msize mnumber)) 0 0 (ik_in (wz_X7 cI cS h0 h1 h2 h3 h4 h5 h6 h7 h8 h9 h10 h11 misKept mtaped msort mfrom mto mvalue mbad mm mkept mwas mother mfound mwarm mdrip mtape mbits msize mnumber)) := by
  refine ik_metW RX7 rfl (by decide) (Nat.le_of_ble_eq_true rfl) [(0, .ref h0), (1, .int x1), (2, .int x2)] rfl ?_
  intro p e s m below meth c C hr hlk
  unfold f_X7_grainsBehind at hf
  refine ik_aload_n C 0 rfl rfl dX7_grainsBehind_0 ?_
  refine ik_get C inlX7 0 rfl rfl 0 (by decide) wl_4_12 rfl (v := .ref h1) rfl dX7_grainsBehind_1 ?_
  refine ik_aload_n C 0 rfl rfl dX7_grainsBehind_4 ?_
  refine ik_get C inlX7 0 rfl rfl 2 (by decide) wl_4_14 rfl (v := .ref h3) rfl dX7_grainsBehind_5 ?_
  obtain ⟨g1, hc1, hf⟩ := ik_b1s hf
  have hM := (c_X7_row l D cI cS h1 h3 mm mwas g1 hc1)
  refine ik_goW (v := none) (wc := (wz_row cI cS h1 h3 mm mwas)) (w1 := (wz_row cI cS h1 h3 mm g1)) [1, 3] [0, 2, 4, 5, 6, 7, 8, 9, 10, 11] 12 rfl rfl (wz_X7 cI cS h0 h1 h2 h3 h4 h5 h6 h7 h8 h9 h10 h11 misKept mtaped msort mfrom mto mvalue mbad mm mkept g1 mother mfound mwarm mdrip mtape mbits msize mnumber) rfl [(h0, .inr (7, [.ref h1, .ref h2, .ref h3, .ref h4, .int misKept, .ref h5, .ref h6, .ref h7, .ref h8, .int mtaped, .int msort, .int mfrom, .int mto, .int mvalue, .int mbad, .ref h9, .ref h10, .ref h11])), (h2, .inl (cI, 82, .inl mkept)), (h4, .inl (cI, 82, .inl mother)), (h5, .inl (cI, 7, .inl mfound)), (h6, .inl (cI, 16, .inl mwarm)), (h7, .inl (cI, 8, .inl mdrip)), (h8, .inl (cI, 120, .inl mtape)), (h9, .inl (cI, 4, .inl mbits)), (h10, .inl (cI, 4, .inl msize)), (h11, .inl (cI, 160, .inl mnumber))] rfl rfl rfl (by decide +kernel) (ik_runS (st := []) (As := [.ref h1, .ref h3]) C hM ms_X7_row wl_24_22 ⟨rfl, rfl, Nat.le_of_ble_eq_true rfl, Nat.le_of_ble_eq_true rfl⟩ [1, 3] rfl (by decide +kernel) rfl rfl (Nat.le_of_ble_eq_true rfl) dX7_grainsBehind_8 ⟨Nat.zero_le _, Nat.zero_le _⟩) rfl ?_
  refine ik_iconst (v := (0 : Int32)) C (by decide) dX7_grainsBehind_11 ?_
  refine ik_istore_n C [(3, .int (0 : Int32)), (0, .ref h0), (1, .int x1), (2, .int x2)] rfl (by decide) rfl dX7_grainsBehind_12 ?_
  have hL_13 : ∀ (n_13 : Nat) (mm_13 : Nat → Int32) (mwarm_13 : Nat → Int32) (mdrip_13 : Nat → Int32) (x3_13 : Int32), ik_lp4 (b_X7_grainsBehind_13 x1 x2 g1) n_13 mm_13 mwarm_13 mdrip_13 x3_13 = some (R, mm_r, mwas_r, mwarm_r, mdrip_r) → ik_G p l e ({ frames := 8, cells := 0, slots := 0, locals := 180 } : Room) s m ([.ref h0, .int x1, .int x2] : List Value).toArray below meth c D (ik_in (wz_X7 cI cS h0 h1 h2 h3 h4 h5 h6 h7 h8 h9 h10 h11 misKept mtaped msort mfrom mto mvalue mbad mm mkept mwas mother mfound mwarm mdrip mtape mbits msize mnumber)) (ik_in (wz_X7 cI cS h0 h1 h2 h3 h4 h5 h6 h7 h8 h9 h10 h11 misKept mtaped msort mfrom mto mvalue mbad mm mkept mwas mother mfound mwarm mdrip mtape mbits msize mnumber)) 4 0 0 (MQ below (ik_Q (some (.int R)) D (wz_X7 cI cS h0 h1 h2 h3 h4 h5 h6 h7 h8 h9 h10 h11 misKept mtaped msort mfrom mto mvalue mbad mm_r mkept mwas_r mother mfound mwarm_r mdrip_r mtape mbits msize mnumber) (wz_X7 cI cS h0 h1 h2 h3 h4 h5 h6 h7 h8 h9 h10 h11 misKept mtaped msort mfrom mto mvalue mbad mm mkept mwas mother mfound mwarm mdrip mtape mbits msize mnumber)) ([.ref h0, .int x1, .int x2] : List Value).toArray s 0 0 (ik_in (wz_X7 cI cS h0 h1 h2 h3 h4 h5 h6 h7 h8 h9 h10 h11 misKept mtaped msort mfrom mto mvalue mbad mm mkept mwas mother mfound mwarm mdrip mtape mbits msize mnumber))) 13 [(3, .int x3_13), (0, .ref h0), (1, .int x1), (2, .int x2)] [] (wz_X7 cI cS h0 h1 h2 h3 h4 h5 h6 h7 h8 h9 h10 h11 misKept mtaped msort mfrom mto mvalue mbad mm_13 mkept g1 mother mfound mwarm_13 mdrip_13 mtape mbits msize mnumber) := by
    intro n_13
    induction n_13 with
    | zero => intro _ _ _ _ hf; exact nomatch hf
    | succ n_13 ih_13 =>
      intro mm_13 mwarm_13 mdrip_13 x3_13 hf
      replace hf : b_X7_grainsBehind_13 x1 x2 g1 (ik_lp4 (b_X7_grainsBehind_13 x1 x2 g1) n_13) mm_13 mwarm_13 mdrip_13 x3_13 = some (R, mm_r, mwas_r, mwarm_r, mdrip_r) := hf
      unfold b_X7_grainsBehind_13 at hf
      refine ik_iload_n C 0 rfl rfl dX7_grainsBehind_13 ?_
      refine ik_iload_n C 3 rfl rfl dX7_grainsBehind_14 ?_
      refine ik_icmp_ge C 28 dX7_grainsBehind_15 (by decide) (fun hc => ?_) (fun hc => ?_)
      · have hf := ik_pos hc hf
        refine ik_aload_n C 1 rfl rfl dX7_grainsBehind_28 ?_
        refine ik_iload_n C 2 rfl rfl dX7_grainsBehind_29 ?_
        obtain ⟨r2, hc2, hf⟩ := ik_b1s hf
        have hM := (c_X7_grains l D cI cS h0 h1 h2 h3 h4 h5 h6 h7 h8 h9 h10 h11 misKept mtaped msort mfrom mto mvalue mbad mm_13 mkept g1 mother mfound mwarm_13 mdrip_13 mtape mbits msize mnumber x1 r2 hc2)
        refine ik_goR (ik_runV (st := []) (As := [.int x1]) C hM mv_X7_grains wl_10_1 ⟨rfl, rfl, Nat.le_of_ble_eq_true rfl, Nat.le_of_ble_eq_true rfl⟩ [0, 1, 2, 3, 4, 5, 6, 7, 8, 9, 10, 11] rfl (by decide +kernel) 0 rfl rfl rfl rfl (Nat.le_of_ble_eq_true rfl) dX7_grainsBehind_30 ⟨Nat.zero_le _, Nat.zero_le _⟩) rfl ?_
        refine ik_istore_n C [(3, .int r2), (0, .ref h0), (1, .int x1), (2, .int x2)] rfl (by decide) rfl dX7_grainsBehind_33 ?_
        refine ik_aload_n C 1 rfl rfl dX7_grainsBehind_34 ?_
        refine ik_get C inlX7 0 rfl rfl 2 (by decide) wl_4_14 rfl (v := .ref h3) rfl dX7_grainsBehind_35 ?_
        refine ik_aload_n C 1 rfl rfl dX7_grainsBehind_38 ?_
        refine ik_get C inlX7 0 rfl rfl 0 (by decide) wl_4_12 rfl (v := .ref h1) rfl dX7_grainsBehind_39 ?_
        obtain ⟨g3, hc3, hf⟩ := ik_b1s hf
        have hM := (c_X7_row l D cI cS h3 h1 g1 mm_13 g3 hc3)
        refine ik_goW (v := none) (wc := (wz_row cI cS h3 h1 g1 mm_13)) (w1 := (wz_row cI cS h3 h1 g1 g3)) [3, 1] [0, 2, 4, 5, 6, 7, 8, 9, 10, 11] 12 rfl rfl (wz_X7 cI cS h0 h1 h2 h3 h4 h5 h6 h7 h8 h9 h10 h11 misKept mtaped msort mfrom mto mvalue mbad g3 mkept g1 mother mfound mwarm_13 mdrip_13 mtape mbits msize mnumber) rfl [(h0, .inr (7, [.ref h1, .ref h2, .ref h3, .ref h4, .int misKept, .ref h5, .ref h6, .ref h7, .ref h8, .int mtaped, .int msort, .int mfrom, .int mto, .int mvalue, .int mbad, .ref h9, .ref h10, .ref h11])), (h2, .inl (cI, 82, .inl mkept)), (h4, .inl (cI, 82, .inl mother)), (h5, .inl (cI, 7, .inl mfound)), (h6, .inl (cI, 16, .inl mwarm_13)), (h7, .inl (cI, 8, .inl mdrip_13)), (h8, .inl (cI, 120, .inl mtape)), (h9, .inl (cI, 4, .inl mbits)), (h10, .inl (cI, 4, .inl msize)), (h11, .inl (cI, 160, .inl mnumber))] rfl rfl rfl (by decide +kernel) (ik_runS (st := []) (As := [.ref h3, .ref h1]) C hM ms_X7_row wl_24_22 ⟨rfl, rfl, Nat.le_of_ble_eq_true rfl, Nat.le_of_ble_eq_true rfl⟩ [3, 1] rfl (by decide +kernel) rfl rfl (Nat.le_of_ble_eq_true rfl) dX7_grainsBehind_42 ⟨Nat.zero_le _, Nat.zero_le _⟩) rfl ?_
        refine ik_iload_n C 0 rfl rfl dX7_grainsBehind_45 ?_
        obtain ⟨rfl, rfl, rfl, rfl, rfl⟩ := ik_e5 hf
        exact ik_iretW C hr hlk dX7_grainsBehind_46
      · have hf := ik_neg hc hf
        refine ik_aload_n C 1 rfl rfl dX7_grainsBehind_18 ?_
        obtain ⟨g2, g3, g4, hc4, hf⟩ := ik_b3s hf
        have hM := (c_X7_hour l D cI cS h0 h1 h2 h3 h4 h5 h6 h7 h8 h9 h10 h11 misKept mtaped msort mfrom mto mvalue mbad mm_13 mkept g1 mother mfound mwarm_13 mdrip_13 mtape mbits msize mnumber g2 g3 g4 hc4)
        refine ik_goW (v := none) (wc := (wz_X7 cI cS h0 h1 h2 h3 h4 h5 h6 h7 h8 h9 h10 h11 misKept mtaped msort mfrom mto mvalue mbad mm_13 mkept g1 mother mfound mwarm_13 mdrip_13 mtape mbits msize mnumber)) (w1 := (wz_X7 cI cS h0 h1 h2 h3 h4 h5 h6 h7 h8 h9 h10 h11 misKept mtaped msort mfrom mto mvalue mbad g2 mkept g1 mother mfound g3 g4 mtape mbits msize mnumber)) [0, 1, 2, 3, 4, 5, 6, 7, 8, 9, 10, 11] [] 12 rfl rfl (wz_X7 cI cS h0 h1 h2 h3 h4 h5 h6 h7 h8 h9 h10 h11 misKept mtaped msort mfrom mto mvalue mbad g2 mkept g1 mother mfound g3 g4 mtape mbits msize mnumber) rfl [] rfl rfl rfl (by decide +kernel) (ik_runV (st := []) (As := []) C hM mv_X7_hour wl_20_18 ⟨rfl, rfl, Nat.le_of_ble_eq_true rfl, Nat.le_of_ble_eq_true rfl⟩ [0, 1, 2, 3, 4, 5, 6, 7, 8, 9, 10, 11] rfl (by decide +kernel) 0 rfl rfl rfl rfl (Nat.le_of_ble_eq_true rfl) dX7_grainsBehind_19 ⟨Nat.zero_le _, Nat.zero_le _⟩) rfl ?_
        refine ik_iinc C [(3, .int (x3_13 + (1 : Int32))), (0, .ref h0), (1, .int x1), (2, .int x2)] 0 rfl rfl (by decide) rfl dX7_grainsBehind_22 ?_
        refine ik_goto C 13 dX7_grainsBehind_25 (by decide) ?_
        exact ik_sub [0, 1, 2, 3] [(3, .int (x3_13 + (1 : Int32))), (0, .ref h0), (1, .int x1), (2, .int x2)] rfl (ih_13 g2 g3 g4 (x3_13 + (1 : Int32)) hf)
  exact hL_13 ik_fu mm mwarm mdrip (0 : Int32) hf
theorem mv_X7_drawing : ik_V yX7_drawing RX7 cX7_drawing 9 (some .int) 3 := ⟨wl_29_10, wl_29_11, wl_1_5, wl_29_12, by decide +kernel⟩
set_option maxHeartbeats 4000000 in
set_option maxRecDepth 100000 in
theorem c_X7_drawing (l : Launch) (D : va_G) (cI cS : ClassId) (h0 h1 h2 h3 h4 h5 h6 h7 h8 h9 h10 h11 : Nat) (misKept : Int32) (mtaped : Int32) (msort : Int32) (mfrom : Int32) (mto : Int32) (mvalue : Int32) (mbad : Int32) (mm : Nat → Int32) (mkept : Nat → Int32) (mwas : Nat → Int32) (mother : Nat → Int32) (mfound : Nat → Int32) (mwarm : Nat → Int32) (mdrip : Nat → Int32) (mtape : Nat → Int32) (mbits : Nat → Int32) (msize : Nat → Int32) (mnumber : Nat → Int32) (x1 : Int32) (x2 : Int32) (x3 : Int32) (R : Int32) (mm_r : Nat → Int32) (mwas_r : Nat → Int32) (mfound_r : Nat → Int32) (mwarm_r : Nat → Int32) (mdrip_r : Nat → Int32) (hf : f_X7_drawing mm mwas mfound mwarm mdrip x1 x2 x3 = some (R, mm_r, mwas_r, mfound_r, mwarm_r, mdrip_r)) : Met l yX7_drawing (ik_ws yX7_drawing cX7_drawing 9 (some .int)) ({ frames := 9, cells := 0, slots := 0, locals := 203 } : Room) (ik_P D cI cS [.ref h0, .int x1, .int x2, .int x3] (wz_X7 cI cS h0 h1 h2 h3 h4 h5 h6 h7 h8 h9 h10 h11 misKept mtaped msort mfrom mto mvalue mbad mm mkept mwas mother mfound mwarm mdrip mtape mbits msize mnumber)) (ik_Q (some (.int R)) D (wz_X7 cI cS h0 h1 h2 h3 h4 h5 h6 h7 h8 h9 h10 h11 misKept mtaped msort mfrom mto mvalue mbad mm_r mkept mwas_r mother mfound_r mwarm_r mdrip_r mtape mbits msize mnumber) (wz_X7 cI cS h0 h1 h2 h3 h4 h5 h6 h7 h8 h9 h10 h11 misKept mtaped msort mfrom mto mvalue mbad mm mkept mwas mother mfound mwarm mdrip mtape mbits msize mnumber)) 0 0 (ik_in (wz_X7 cI cS h0 h1 h2 h3 h4 h5 h6 h7 h8 h9 h10 h11 misKept mtaped msort mfrom mto mvalue mbad mm mkept mwas mother mfound mwarm mdrip mtape mbits msize mnumber)) := by
  refine ik_metW RX7 rfl (by decide) (Nat.le_of_ble_eq_true rfl) [(0, .ref h0), (1, .int x1), (2, .int x2), (3, .int x3)] rfl ?_
  intro p e s m below meth c C hr hlk
  unfold f_X7_drawing at hf
  refine ik_aload_n C 0 rfl rfl dX7_drawing_0 ?_
  refine ik_iload_n C 1 rfl rfl dX7_drawing_1 ?_
  refine ik_iload_n C 2 rfl rfl dX7_drawing_2 ?_
  have hJ_32 : ∀ (v0_32 : Int32), j_X7_drawing_32 mm mwas mfound mwarm mdrip x1 x2 x3 v0_32 = some (R, mm_r, mwas_r, mfound_r, mwarm_r, mdrip_r) → ik_G p l e ({ frames := 9, cells := 0, slots := 0, locals := 203 } : Room) s m ([.ref h0, .int x1, .int x2, .int x3] : List Value).toArray below meth c D (ik_in (wz_X7 cI cS h0 h1 h2 h3 h4 h5 h6 h7 h8 h9 h10 h11 misKept mtaped msort mfrom mto mvalue mbad mm mkept mwas mother mfound mwarm mdrip mtape mbits msize mnumber)) (ik_in (wz_X7 cI cS h0 h1 h2 h3 h4 h5 h6 h7 h8 h9 h10 h11 misKept mtaped msort mfrom mto mvalue mbad mm mkept mwas mother mfound mwarm mdrip mtape mbits msize mnumber)) 9 0 0 (MQ below (ik_Q (some (.int R)) D (wz_X7 cI cS h0 h1 h2 h3 h4 h5 h6 h7 h8 h9 h10 h11 misKept mtaped msort mfrom mto mvalue mbad mm_r mkept mwas_r mother mfound_r mwarm_r mdrip_r mtape mbits msize mnumber) (wz_X7 cI cS h0 h1 h2 h3 h4 h5 h6 h7 h8 h9 h10 h11 misKept mtaped msort mfrom mto mvalue mbad mm mkept mwas mother mfound mwarm mdrip mtape mbits msize mnumber)) ([.ref h0, .int x1, .int x2, .int x3] : List Value).toArray s 0 0 (ik_in (wz_X7 cI cS h0 h1 h2 h3 h4 h5 h6 h7 h8 h9 h10 h11 misKept mtaped msort mfrom mto mvalue mbad mm mkept mwas mother mfound mwarm mdrip mtape mbits msize mnumber))) 32 [(0, .ref h0), (1, .int x1), (2, .int x2), (3, .int x3)] [.int v0_32, .int x2, .int x1, .ref h0] (wz_X7 cI cS h0 h1 h2 h3 h4 h5 h6 h7 h8 h9 h10 h11 misKept mtaped msort mfrom mto mvalue mbad mm mkept mwas mother mfound mwarm mdrip mtape mbits msize mnumber) := by
    intro v0_32 hf
    unfold j_X7_drawing_32 at hf
    obtain ⟨r1, hc1, hf⟩ := ik_b1s hf
    have hM := (c_X7_wrongFor l D cI cS h0 h1 h2 h3 h4 h5 h6 h7 h8 h9 h10 h11 misKept mtaped msort mfrom mto mvalue mbad mm mkept mwas mother mfound mwarm mdrip mtape mbits msize mnumber x1 x2 v0_32 r1 hc1)
    refine ik_goR (ik_runV (st := []) (As := [.int x1, .int x2, .int v0_32]) C hM mv_X7_wrongFor wl_28_4 ⟨rfl, rfl, Nat.le_of_ble_eq_true rfl, Nat.le_of_ble_eq_true rfl⟩ [0, 1, 2, 3, 4, 5, 6, 7, 8, 9, 10, 11] rfl (by decide +kernel) 0 rfl rfl rfl rfl (Nat.le_of_ble_eq_true rfl) dX7_drawing_32 ⟨Nat.zero_le _, Nat.zero_le _⟩) rfl ?_
    refine ik_istore C [(4, .int r1), (0, .ref h0), (1, .int x1), (2, .int x2), (3, .int x3)] (by decide) rfl dX7_drawing_35 ?_
    refine ik_iload C 0 rfl dX7_drawing_37 ?_
    refine ik_if_ge C 49 dX7_drawing_39 (by decide) (fun hc => ?_) (fun hc => ?_)
    · have hf := ik_pos hc hf
      refine ik_aload_n C 1 rfl rfl dX7_drawing_49 ?_
      refine ik_get C inlX7 0 rfl rfl 0 (by decide) wl_4_12 rfl (v := .ref h1) rfl dX7_drawing_50 ?_
      refine ik_iconst (v := (1 : Int32)) C (by decide) dX7_drawing_53 ?_
      refine ik_iald C 1 rfl (ik_vin (by decide)) dX7_drawing_54 ?_
      refine ik_istore C [(5, .int (mm ((1 : Int32)).toNatClampNeg)), (4, .int r1), (0, .ref h0), (1, .int x1), (2, .int x2), (3, .int x3)] (by decide) rfl dX7_drawing_55 ?_
      refine ik_iconst (v := (0 : Int32)) C (by decide) dX7_drawing_57 ?_
      refine ik_istore C [(6, .int (0 : Int32)), (5, .int (mm ((1 : Int32)).toNatClampNeg)), (4, .int r1), (0, .ref h0), (1, .int x1), (2, .int x2), (3, .int x3)] (by decide) rfl dX7_drawing_58 ?_
      refine ik_iconst (v := (0 : Int32)) C (by decide) dX7_drawing_60 ?_
      refine ik_istore C [(7, .int (0 : Int32)), (6, .int (0 : Int32)), (5, .int (mm ((1 : Int32)).toNatClampNeg)), (4, .int r1), (0, .ref h0), (1, .int x1), (2, .int x2), (3, .int x3)] (by decide) rfl dX7_drawing_61 ?_
      refine ik_bipush (v := (20 : Int32)) C (by decide) dX7_drawing_63 ?_
      refine ik_istore C [(8, .int (20 : Int32)), (7, .int (0 : Int32)), (6, .int (0 : Int32)), (5, .int (mm ((1 : Int32)).toNatClampNeg)), (4, .int r1), (0, .ref h0), (1, .int x1), (2, .int x2), (3, .int x3)] (by decide) rfl dX7_drawing_65 ?_
      have hL_67 : ∀ (n_67 : Nat) (mm_67 : Nat → Int32) (mwas_67 : Nat → Int32) (mwarm_67 : Nat → Int32) (mdrip_67 : Nat → Int32) (x6_67 : Int32) (x7_67 : Int32) (x8_67 : Int32), ik_lp7 (b_X7_drawing_67 mm mfound x1 x2 x3) n_67 mm_67 mwas_67 mwarm_67 mdrip_67 x6_67 x7_67 x8_67 = some (R, mm_r, mwas_r, mfound_r, mwarm_r, mdrip_r) → ik_G p l e ({ frames := 9, cells := 0, slots := 0, locals := 203 } : Room) s m ([.ref h0, .int x1, .int x2, .int x3] : List Value).toArray below meth c D (ik_in (wz_X7 cI cS h0 h1 h2 h3 h4 h5 h6 h7 h8 h9 h10 h11 misKept mtaped msort mfrom mto mvalue mbad mm mkept mwas mother mfound mwarm mdrip mtape mbits msize mnumber)) (ik_in (wz_X7 cI cS h0 h1 h2 h3 h4 h5 h6 h7 h8 h9 h10 h11 misKept mtaped msort mfrom mto mvalue mbad mm mkept mwas mother mfound mwarm mdrip mtape mbits msize mnumber)) 9 0 0 (MQ below (ik_Q (some (.int R)) D (wz_X7 cI cS h0 h1 h2 h3 h4 h5 h6 h7 h8 h9 h10 h11 misKept mtaped msort mfrom mto mvalue mbad mm_r mkept mwas_r mother mfound_r mwarm_r mdrip_r mtape mbits msize mnumber) (wz_X7 cI cS h0 h1 h2 h3 h4 h5 h6 h7 h8 h9 h10 h11 misKept mtaped msort mfrom mto mvalue mbad mm mkept mwas mother mfound mwarm mdrip mtape mbits msize mnumber)) ([.ref h0, .int x1, .int x2, .int x3] : List Value).toArray s 0 0 (ik_in (wz_X7 cI cS h0 h1 h2 h3 h4 h5 h6 h7 h8 h9 h10 h11 misKept mtaped msort mfrom mto mvalue mbad mm mkept mwas mother mfound mwarm mdrip mtape mbits msize mnumber))) 67 [(8, .int x8_67), (7, .int x7_67), (6, .int x6_67), (5, .int (mm ((1 : Int32)).toNatClampNeg)), (4, .int r1), (0, .ref h0), (1, .int x1), (2, .int x2), (3, .int x3)] [] (wz_X7 cI cS h0 h1 h2 h3 h4 h5 h6 h7 h8 h9 h10 h11 misKept mtaped msort mfrom mto mvalue mbad mm_67 mkept mwas_67 mother mfound mwarm_67 mdrip_67 mtape mbits msize mnumber) := by
        intro n_67
        induction n_67 with
        | zero => intro _ _ _ _ _ _ _ hf; exact nomatch hf
        | succ n_67 ih_67 =>
          intro mm_67 mwas_67 mwarm_67 mdrip_67 x6_67 x7_67 x8_67 hf
          replace hf : b_X7_drawing_67 mm mfound x1 x2 x3 (ik_lp7 (b_X7_drawing_67 mm mfound x1 x2 x3) n_67) mm_67 mwas_67 mwarm_67 mdrip_67 x6_67 x7_67 x8_67 = some (R, mm_r, mwas_r, mfound_r, mwarm_r, mdrip_r) := hf
          unfold b_X7_drawing_67 at hf
          refine ik_iload C 0 rfl dX7_drawing_67 ?_
          refine ik_bipush (v := (-20 : Int32)) C (by decide) dX7_drawing_69 ?_
          refine ik_icmp_lt C 108 dX7_drawing_71 (by decide) (fun hc => ?_) (fun hc => ?_)
          · have hf := ik_pos hc hf
            refine ik_aload_n C 5 rfl rfl dX7_drawing_108 ?_
            refine ik_get C inlX7 0 rfl rfl 0 (by decide) wl_4_12 rfl (v := .ref h1) rfl dX7_drawing_109 ?_
            refine ik_iconst (v := (1 : Int32)) C (by decide) dX7_drawing_112 ?_
            refine ik_iload C 3 rfl dX7_drawing_113 ?_
            refine ik_iast C 1 rfl (ik_vin (by decide)) (wz_X7 cI cS h0 h1 h2 h3 h4 h5 h6 h7 h8 h9 h10 h11 misKept mtaped msort mfrom mto mvalue mbad (upd mm_67 ((1 : Int32)).toNatClampNeg (mm ((1 : Int32)).toNatClampNeg)) mkept mwas_67 mother mfound mwarm_67 mdrip_67 mtape mbits msize mnumber) rfl dX7_drawing_115 ?_
            refine ik_iload C 2 rfl dX7_drawing_116 ?_
            refine ik_if_ne C 130 dX7_drawing_118 (by decide) (fun hc => ?_) (fun hc => ?_)
            · have hf := ik_neg hc hf
              refine ik_bipush (v := (100 : Int32)) C (by decide) dX7_drawing_130 ?_
              refine ik_iload C 2 rfl dX7_drawing_132 ?_
              refine ik_imul C dX7_drawing_134 ?_
              refine ik_bipush (v := (20 : Int32)) C (by decide) dX7_drawing_135 ?_
              refine ik_iadd C dX7_drawing_137 ?_
              refine ik_iload C 1 rfl dX7_drawing_138 ?_
              refine ik_iadd C dX7_drawing_140 ?_
              obtain ⟨rfl, rfl, rfl, rfl, rfl, rfl⟩ := ik_e6 hf
              exact ik_iretW C hr hlk dX7_drawing_141
            · have hf := ik_pos hc hf
              refine ik_aload_n C 5 rfl rfl dX7_drawing_121 ?_
              refine ik_ldc C wl_25_18 dX7_drawing_122 ?_
              obtain ⟨r2, g3, hc3, hf⟩ := ik_b2s hf
              have hM := (c_X7_finds l D cI cS h0 h1 h2 h3 h4 h5 h6 h7 h8 h9 h10 h11 misKept mtaped msort mfrom mto mvalue mbad (upd mm_67 ((1 : Int32)).toNatClampNeg (mm ((1 : Int32)).toNatClampNeg)) mkept mwas_67 mother mfound mwarm_67 mdrip_67 mtape mbits msize mnumber (-1000004 : Int32) r2 g3 hc3)
              refine ik_goW (v := (some (.int r2))) (wc := (wz_X7 cI cS h0 h1 h2 h3 h4 h5 h6 h7 h8 h9 h10 h11 misKept mtaped msort mfrom mto mvalue mbad (upd mm_67 ((1 : Int32)).toNatClampNeg (mm ((1 : Int32)).toNatClampNeg)) mkept mwas_67 mother mfound mwarm_67 mdrip_67 mtape mbits msize mnumber)) (w1 := (wz_X7 cI cS h0 h1 h2 h3 h4 h5 h6 h7 h8 h9 h10 h11 misKept mtaped msort mfrom mto mvalue mbad (upd mm_67 ((1 : Int32)).toNatClampNeg (mm ((1 : Int32)).toNatClampNeg)) mkept mwas_67 mother g3 mwarm_67 mdrip_67 mtape mbits msize mnumber)) [0, 1, 2, 3, 4, 5, 6, 7, 8, 9, 10, 11] [] 12 rfl rfl (wz_X7 cI cS h0 h1 h2 h3 h4 h5 h6 h7 h8 h9 h10 h11 misKept mtaped msort mfrom mto mvalue mbad (upd mm_67 ((1 : Int32)).toNatClampNeg (mm ((1 : Int32)).toNatClampNeg)) mkept mwas_67 mother g3 mwarm_67 mdrip_67 mtape mbits msize mnumber) rfl [] rfl rfl rfl (by decide +kernel) (ik_runV (st := []) (As := [.int (-1000004 : Int32)]) C hM mv_X7_finds wl_7_8 ⟨rfl, rfl, Nat.le_of_ble_eq_true rfl, Nat.le_of_ble_eq_true rfl⟩ [0, 1, 2, 3, 4, 5, 6, 7, 8, 9, 10, 11] rfl (by decide +kernel) 0 rfl rfl rfl rfl (Nat.le_of_ble_eq_true rfl) dX7_drawing_124 ⟨Nat.zero_le _, Nat.zero_le _⟩) rfl ?_
              refine ik_goto C 141 dX7_drawing_127 (by decide) ?_
              obtain ⟨rfl, rfl, rfl, rfl, rfl, rfl⟩ := ik_e6 hf
              exact ik_iretW C hr hlk dX7_drawing_141
          · have hf := ik_neg hc hf
            refine ik_aload_n C 5 rfl rfl dX7_drawing_74 ?_
            refine ik_get C inlX7 0 rfl rfl 0 (by decide) wl_4_12 rfl (v := .ref h1) rfl dX7_drawing_75 ?_
            refine ik_iconst (v := (1 : Int32)) C (by decide) dX7_drawing_78 ?_
            refine ik_iload C 0 rfl dX7_drawing_79 ?_
            refine ik_iast C 1 rfl (ik_vin (by decide)) (wz_X7 cI cS h0 h1 h2 h3 h4 h5 h6 h7 h8 h9 h10 h11 misKept mtaped msort mfrom mto mvalue mbad (upd mm_67 ((1 : Int32)).toNatClampNeg x8_67) mkept mwas_67 mother mfound mwarm_67 mdrip_67 mtape mbits msize mnumber) rfl dX7_drawing_81 ?_
            refine ik_aload_n C 5 rfl rfl dX7_drawing_82 ?_
            refine ik_iload_n C 6 rfl rfl dX7_drawing_83 ?_
            refine ik_iload_n C 7 rfl rfl dX7_drawing_84 ?_
            obtain ⟨r2, g3, g4, g5, g6, hc6, hf⟩ := ik_b5s hf
            have hM := (c_X7_grainsBehind l D cI cS h0 h1 h2 h3 h4 h5 h6 h7 h8 h9 h10 h11 misKept mtaped msort mfrom mto mvalue mbad (upd mm_67 ((1 : Int32)).toNatClampNeg x8_67) mkept mwas_67 mother mfound mwarm_67 mdrip_67 mtape mbits msize mnumber x1 x2 r2 g3 g4 g5 g6 hc6)
            refine ik_goW (v := (some (.int r2))) (wc := (wz_X7 cI cS h0 h1 h2 h3 h4 h5 h6 h7 h8 h9 h10 h11 misKept mtaped msort mfrom mto mvalue mbad (upd mm_67 ((1 : Int32)).toNatClampNeg x8_67) mkept mwas_67 mother mfound mwarm_67 mdrip_67 mtape mbits msize mnumber)) (w1 := (wz_X7 cI cS h0 h1 h2 h3 h4 h5 h6 h7 h8 h9 h10 h11 misKept mtaped msort mfrom mto mvalue mbad g3 mkept g4 mother mfound g5 g6 mtape mbits msize mnumber)) [0, 1, 2, 3, 4, 5, 6, 7, 8, 9, 10, 11] [] 12 rfl rfl (wz_X7 cI cS h0 h1 h2 h3 h4 h5 h6 h7 h8 h9 h10 h11 misKept mtaped msort mfrom mto mvalue mbad g3 mkept g4 mother mfound g5 g6 mtape mbits msize mnumber) rfl [] rfl rfl rfl (by decide +kernel) (ik_runV (st := []) (As := [.int x1, .int x2]) C hM mv_X7_grainsBehind wl_29_14 ⟨rfl, rfl, Nat.le_of_ble_eq_true rfl, Nat.le_of_ble_eq_true rfl⟩ [0, 1, 2, 3, 4, 5, 6, 7, 8, 9, 10, 11] rfl (by decide +kernel) 0 rfl rfl rfl rfl (Nat.le_of_ble_eq_true rfl) dX7_drawing_85 ⟨Nat.zero_le _, Nat.zero_le _⟩) rfl ?_
            refine ik_iload_n C 8 rfl rfl dX7_drawing_88 ?_
            refine ik_icmp_eq C 95 dX7_drawing_89 (by decide) (fun hc => ?_) (fun hc => ?_)
            · have hf := ik_pos hc hf
              refine ik_iinc C [(6, .int (x6_67 + (1 : Int32))), (8, .int x8_67), (7, .int x7_67), (5, .int (mm ((1 : Int32)).toNatClampNeg)), (4, .int r1), (0, .ref h0), (1, .int x1), (2, .int x2), (3, .int x3)] 2 rfl rfl (by decide) rfl dX7_drawing_95 ?_
              refine ik_iload C 1 rfl dX7_drawing_98 ?_
              refine ik_istore C [(7, .int x8_67), (6, .int (x6_67 + (1 : Int32))), (8, .int x8_67), (5, .int (mm ((1 : Int32)).toNatClampNeg)), (4, .int r1), (0, .ref h0), (1, .int x1), (2, .int x2), (3, .int x3)] (by decide) rfl dX7_drawing_100 ?_
              refine ik_iinc C [(8, .int (x8_67 + (-1 : Int32))), (7, .int x8_67), (6, .int (x6_67 + (1 : Int32))), (5, .int (mm ((1 : Int32)).toNatClampNeg)), (4, .int r1), (0, .ref h0), (1, .int x1), (2, .int x2), (3, .int x3)] 2 rfl (congrArg (fun t => x8_67 + t) (show Int32.ofInt (-1) = (-1 : Int32) by decide)) (by decide) rfl dX7_drawing_102 ?_
              refine ik_goto C 67 dX7_drawing_105 (by decide) ?_
              exact ik_sub [0, 1, 2, 3, 4, 5, 6, 7, 8] [(8, .int (x8_67 + (-1 : Int32))), (7, .int x8_67), (6, .int (x6_67 + (1 : Int32))), (5, .int (mm ((1 : Int32)).toNatClampNeg)), (4, .int r1), (0, .ref h0), (1, .int x1), (2, .int x2), (3, .int x3)] rfl (ih_67 g3 g4 g5 g6 (x6_67 + (1 : Int32)) x8_67 (x8_67 + (-1 : Int32)) hf)
            · have hf := ik_neg hc hf
              refine ik_goto C 102 dX7_drawing_92 (by decide) ?_
              refine ik_iinc C [(8, .int (x8_67 + (-1 : Int32))), (7, .int x7_67), (6, .int x6_67), (5, .int (mm ((1 : Int32)).toNatClampNeg)), (4, .int r1), (0, .ref h0), (1, .int x1), (2, .int x2), (3, .int x3)] 0 rfl (congrArg (fun t => x8_67 + t) (show Int32.ofInt (-1) = (-1 : Int32) by decide)) (by decide) rfl dX7_drawing_102 ?_
              refine ik_goto C 67 dX7_drawing_105 (by decide) ?_
              exact ik_sub [0, 1, 2, 3, 4, 5, 6, 7, 8] [(8, .int (x8_67 + (-1 : Int32))), (7, .int x7_67), (6, .int x6_67), (5, .int (mm ((1 : Int32)).toNatClampNeg)), (4, .int r1), (0, .ref h0), (1, .int x1), (2, .int x2), (3, .int x3)] rfl (ih_67 g3 g4 g5 g6 x6_67 x7_67 (x8_67 + (-1 : Int32)) hf)
      exact hL_67 ik_fu mm mwas mwarm mdrip (0 : Int32) (0 : Int32) (20 : Int32) hf
    · have hf := ik_neg hc hf
      refine ik_aload_n C 1 rfl rfl dX7_drawing_42 ?_
      refine ik_iload C 0 rfl dX7_drawing_43 ?_
      obtain ⟨r2, g3, hc3, hf⟩ := ik_b2s hf
      have hM := (c_X7_finds l D cI cS h0 h1 h2 h3 h4 h5 h6 h7 h8 h9 h10 h11 misKept mtaped msort mfrom mto mvalue mbad mm mkept mwas mother mfound mwarm mdrip mtape mbits msize mnumber r1 r2 g3 hc3)
      refine ik_goW (v := (some (.int r2))) (wc := (wz_X7 cI cS h0 h1 h2 h3 h4 h5 h6 h7 h8 h9 h10 h11 misKept mtaped msort mfrom mto mvalue mbad mm mkept mwas mother mfound mwarm mdrip mtape mbits msize mnumber)) (w1 := (wz_X7 cI cS h0 h1 h2 h3 h4 h5 h6 h7 h8 h9 h10 h11 misKept mtaped msort mfrom mto mvalue mbad mm mkept mwas mother g3 mwarm mdrip mtape mbits msize mnumber)) [0, 1, 2, 3, 4, 5, 6, 7, 8, 9, 10, 11] [] 12 rfl rfl (wz_X7 cI cS h0 h1 h2 h3 h4 h5 h6 h7 h8 h9 h10 h11 misKept mtaped msort mfrom mto mvalue mbad mm mkept mwas mother g3 mwarm mdrip mtape mbits msize mnumber) rfl [] rfl rfl rfl (by decide +kernel) (ik_runV (st := []) (As := [.int r1]) C hM mv_X7_finds wl_7_8 ⟨rfl, rfl, Nat.le_of_ble_eq_true rfl, Nat.le_of_ble_eq_true rfl⟩ [0, 1, 2, 3, 4, 5, 6, 7, 8, 9, 10, 11] rfl (by decide +kernel) 0 rfl rfl rfl rfl (Nat.le_of_ble_eq_true rfl) dX7_drawing_45 ⟨Nat.zero_le _, Nat.zero_le _⟩) rfl ?_
      obtain ⟨rfl, rfl, rfl, rfl, rfl, rfl⟩ := ik_e6 hf
      exact ik_iretW C hr hlk dX7_drawing_48
  refine ik_iload_n C 2 rfl rfl dX7_drawing_3 ?_
  refine ik_i2l C dX7_drawing_4 ?_
  refine ik_lconst (v := (1 : Int64)) C (by decide) dX7_drawing_5 ?_
  refine ik_ldc2 C wl_29_13 dX7_drawing_6 ?_
  obtain ⟨r1, hc1, hf⟩ := ik_b1s hf
  have hM := (c_X7_in l D cI cS (x2).toInt64 (1 : Int64) (24 : Int64) r1 hc1)
  refine ik_goR (ik_runS (st := [.int x2, .int x1, .ref h0]) (As := [.long (x2).toInt64, .long (1 : Int64), .long (24 : Int64)]) C hM ms_X7_in wl_6_21 ⟨rfl, rfl, Nat.le_of_ble_eq_true rfl, Nat.le_of_ble_eq_true rfl⟩ [] rfl (by decide +kernel) rfl rfl (Nat.le_of_ble_eq_true rfl) dX7_drawing_9 ⟨Nat.zero_le _, Nat.zero_le _⟩) rfl ?_
  refine ik_if_eq C 31 dX7_drawing_12 (by decide) (fun hc => ?_) (fun hc => ?_)
  · have hf := ik_pos hc hf
    refine ik_iconst (v := (0 : Int32)) C (by decide) dX7_drawing_31 ?_
    exact ik_sub [0, 1, 2, 3] [(0, .ref h0), (1, .int x1), (2, .int x2), (3, .int x3)] rfl (hJ_32 (0 : Int32) hf)
  · have hf := ik_neg hc hf
    refine ik_iload_n C 3 rfl rfl dX7_drawing_15 ?_
    refine ik_i2l C dX7_drawing_16 ?_
    refine ik_lconst (v := (0 : Int64)) C (by decide) dX7_drawing_17 ?_
    refine ik_ldc2 C wl_7_7 dX7_drawing_18 ?_
    obtain ⟨r2, hc2, hf⟩ := ik_b1s hf
    have hM := (c_X7_in l D cI cS (x3).toInt64 (0 : Int64) (99 : Int64) r2 hc2)
    refine ik_goR (ik_runS (st := [.int x2, .int x1, .ref h0]) (As := [.long (x3).toInt64, .long (0 : Int64), .long (99 : Int64)]) C hM ms_X7_in wl_6_21 ⟨rfl, rfl, Nat.le_of_ble_eq_true rfl, Nat.le_of_ble_eq_true rfl⟩ [] rfl (by decide +kernel) rfl rfl (Nat.le_of_ble_eq_true rfl) dX7_drawing_21 ⟨Nat.zero_le _, Nat.zero_le _⟩) rfl ?_
    refine ik_if_eq C 31 dX7_drawing_24 (by decide) (fun hc => ?_) (fun hc => ?_)
    · have hf := ik_pos hc hf
      refine ik_iconst (v := (0 : Int32)) C (by decide) dX7_drawing_31 ?_
      exact ik_sub [0, 1, 2, 3] [(0, .ref h0), (1, .int x1), (2, .int x2), (3, .int x3)] rfl (hJ_32 (0 : Int32) hf)
    · have hf := ik_neg hc hf
      refine ik_iconst (v := (1 : Int32)) C (by decide) dX7_drawing_27 ?_
      refine ik_goto C 32 dX7_drawing_28 (by decide) ?_
      exact ik_sub [0, 1, 2, 3] [(0, .ref h0), (1, .int x1), (2, .int x2), (3, .int x3)] rfl (hJ_32 (1 : Int32) hf)
theorem mv_X7_there : ik_V yX7_there RX7 cX7_there 1 (some .int) 0 := ⟨wl_30_16, wl_30_17, wl_1_5, wl_30_18, by decide +kernel⟩
set_option maxHeartbeats 4000000 in
set_option maxRecDepth 100000 in
theorem c_X7_there (l : Launch) (D : va_G) (cI cS : ClassId) (h0 h1 h2 h3 h4 h5 h6 h7 h8 h9 h10 h11 : Nat) (misKept : Int32) (mtaped : Int32) (msort : Int32) (mfrom : Int32) (mto : Int32) (mvalue : Int32) (mbad : Int32) (mm : Nat → Int32) (mkept : Nat → Int32) (mwas : Nat → Int32) (mother : Nat → Int32) (mfound : Nat → Int32) (mwarm : Nat → Int32) (mdrip : Nat → Int32) (mtape : Nat → Int32) (mbits : Nat → Int32) (msize : Nat → Int32) (mnumber : Nat → Int32) (R : Int32) (hf : f_X7_there mm = some (R)) : Met l yX7_there (ik_ws yX7_there cX7_there 1 (some .int)) ({ frames := 3, cells := 0, slots := 0, locals := 64 } : Room) (ik_P D cI cS [.ref h0] (wz_X7 cI cS h0 h1 h2 h3 h4 h5 h6 h7 h8 h9 h10 h11 misKept mtaped msort mfrom mto mvalue mbad mm mkept mwas mother mfound mwarm mdrip mtape mbits msize mnumber)) (ik_R (some (.int R))) 0 0 ik_no := by
  refine ik_metR RX7 rfl (by decide) (Nat.le_of_ble_eq_true rfl) [(0, .ref h0)] rfl ?_
  intro p e s m below meth c C hr hlk
  unfold f_X7_there at hf
  refine ik_aload_n C 0 rfl rfl dX7_there_0 ?_
  obtain ⟨r1, hc1, hf⟩ := ik_b1s hf
  have hM := (c_X7_goneNow l D cI cS h0 h1 h2 h3 h4 h5 h6 h7 h8 h9 h10 h11 misKept mtaped msort mfrom mto mvalue mbad mm mkept mwas mother mfound mwarm mdrip mtape mbits msize mnumber r1 hc1)
  refine ik_goR (ik_runV (st := []) (As := []) C hM mv_X7_goneNow wl_20_14 ⟨rfl, rfl, Nat.le_of_ble_eq_true rfl, Nat.le_of_ble_eq_true rfl⟩ [0, 1, 2, 3, 4, 5, 6, 7, 8, 9, 10, 11] rfl (by decide +kernel) 0 rfl rfl rfl rfl (Nat.le_of_ble_eq_true rfl) dX7_there_1 ⟨Nat.zero_le _, Nat.zero_le _⟩) rfl ?_
  refine ik_iconst (v := (-1 : Int32)) C (by decide) dX7_there_4 ?_
  refine ik_ixor C dX7_there_5 ?_
  refine ik_iconst (v := (1 : Int32)) C (by decide) dX7_there_6 ?_
  refine ik_aload_n C 0 rfl rfl dX7_there_7 ?_
  refine ik_get C inlX7 0 rfl rfl 0 (by decide) wl_4_12 rfl (v := .ref h1) rfl dX7_there_8 ?_
  refine ik_iconst (v := (5 : Int32)) C (by decide) dX7_there_11 ?_
  refine ik_iald C 1 rfl (ik_vin (by decide)) dX7_there_12 ?_
  refine ik_ishl C dX7_there_13 ?_
  refine ik_iconst (v := (1 : Int32)) C (by decide) dX7_there_14 ?_
  refine ik_isub C dX7_there_15 ?_
  refine ik_iand C dX7_there_16 ?_
  obtain rfl := Option.some.inj hf
  exact ik_iretR C hr hlk dX7_there_17
theorem mv_X7_order : ik_V yX7_order RX7 cX7_order 7 (some .int) 1 := ⟨wl_30_11, wl_30_12, wl_1_5, wl_30_13, by decide +kernel⟩
set_option maxHeartbeats 4000000 in
set_option maxRecDepth 100000 in
theorem c_X7_order (l : Launch) (D : va_G) (cI cS : ClassId) (h0 h1 h2 h3 h4 h5 h6 h7 h8 h9 h10 h11 : Nat) (misKept : Int32) (mtaped : Int32) (msort : Int32) (mfrom : Int32) (mto : Int32) (mvalue : Int32) (mbad : Int32) (mm : Nat → Int32) (mkept : Nat → Int32) (mwas : Nat → Int32) (mother : Nat → Int32) (mfound : Nat → Int32) (mwarm : Nat → Int32) (mdrip : Nat → Int32) (mtape : Nat → Int32) (mbits : Nat → Int32) (msize : Nat → Int32) (mnumber : Nat → Int32) (x1 : Int32) (R : Int32) (mfound_r : Nat → Int32) (hf : f_X7_order mm mfound x1 = some (R, mfound_r)) : Met l yX7_order (ik_ws yX7_order cX7_order 7 (some .int)) ({ frames := 4, cells := 0, slots := 0, locals := 91 } : Room) (ik_P D cI cS [.ref h0, .int x1] (wz_X7 cI cS h0 h1 h2 h3 h4 h5 h6 h7 h8 h9 h10 h11 misKept mtaped msort mfrom mto mvalue mbad mm mkept mwas mother mfound mwarm mdrip mtape mbits msize mnumber)) (ik_Q (some (.int R)) D (wz_X7 cI cS h0 h1 h2 h3 h4 h5 h6 h7 h8 h9 h10 h11 misKept mtaped msort mfrom mto mvalue mbad mm mkept mwas mother mfound_r mwarm mdrip mtape mbits msize mnumber) (wz_X7 cI cS h0 h1 h2 h3 h4 h5 h6 h7 h8 h9 h10 h11 misKept mtaped msort mfrom mto mvalue mbad mm mkept mwas mother mfound mwarm mdrip mtape mbits msize mnumber)) 0 0 (ik_in (wz_X7 cI cS h0 h1 h2 h3 h4 h5 h6 h7 h8 h9 h10 h11 misKept mtaped msort mfrom mto mvalue mbad mm mkept mwas mother mfound mwarm mdrip mtape mbits msize mnumber)) := by
  refine ik_metW RX7 rfl (by decide) (Nat.le_of_ble_eq_true rfl) [(0, .ref h0), (1, .int x1)] rfl ?_
  intro p e s m below meth c C hr hlk
  unfold f_X7_order at hf
  refine ik_iload_n C 1 rfl rfl dX7_order_0 ?_
  refine ik_i2l C dX7_order_1 ?_
  refine ik_lconst (v := (0 : Int64)) C (by decide) dX7_order_2 ?_
  refine ik_ldc2 C wl_30_14 dX7_order_3 ?_
  obtain ⟨r1, hc1, hf⟩ := ik_b1s hf
  have hM := (c_X7_in l D cI cS (x1).toInt64 (0 : Int64) (15 : Int64) r1 hc1)
  refine ik_goR (ik_runS (st := []) (As := [.long (x1).toInt64, .long (0 : Int64), .long (15 : Int64)]) C hM ms_X7_in wl_6_21 ⟨rfl, rfl, Nat.le_of_ble_eq_true rfl, Nat.le_of_ble_eq_true rfl⟩ [] rfl (by decide +kernel) rfl rfl (Nat.le_of_ble_eq_true rfl) dX7_order_6 ⟨Nat.zero_le _, Nat.zero_le _⟩) rfl ?_
  refine ik_if_ne C 19 dX7_order_9 (by decide) (fun hc => ?_) (fun hc => ?_)
  · have hf := ik_neg hc hf
    refine ik_iconst (v := (0 : Int32)) C (by decide) dX7_order_19 ?_
    refine ik_istore_n C [(2, .int (0 : Int32)), (0, .ref h0), (1, .int x1)] rfl (by decide) rfl dX7_order_20 ?_
    refine ik_iconst (v := (-1 : Int32)) C (by decide) dX7_order_21 ?_
    refine ik_istore_n C [(3, .int (-1 : Int32)), (2, .int (0 : Int32)), (0, .ref h0), (1, .int x1)] rfl (by decide) rfl dX7_order_22 ?_
    refine ik_iconst (v := (0 : Int32)) C (by decide) dX7_order_23 ?_
    refine ik_istore C [(4, .int (0 : Int32)), (3, .int (-1 : Int32)), (2, .int (0 : Int32)), (0, .ref h0), (1, .int x1)] (by decide) rfl dX7_order_24 ?_
    have hL_26 : ∀ (n_26 : Nat) (x2_26 : Int32) (x3_26 : Int32) (x4_26 : Int32), ik_lp3 (b_X7_order_26 mm mfound x1) n_26 x2_26 x3_26 x4_26 = some (R, mfound_r) → ik_G p l e ({ frames := 4, cells := 0, slots := 0, locals := 91 } : Room) s m ([.ref h0, .int x1] : List Value).toArray below meth c D (ik_in (wz_X7 cI cS h0 h1 h2 h3 h4 h5 h6 h7 h8 h9 h10 h11 misKept mtaped msort mfrom mto mvalue mbad mm mkept mwas mother mfound mwarm mdrip mtape mbits msize mnumber)) (ik_in (wz_X7 cI cS h0 h1 h2 h3 h4 h5 h6 h7 h8 h9 h10 h11 misKept mtaped msort mfrom mto mvalue mbad mm mkept mwas mother mfound mwarm mdrip mtape mbits msize mnumber)) 7 0 0 (MQ below (ik_Q (some (.int R)) D (wz_X7 cI cS h0 h1 h2 h3 h4 h5 h6 h7 h8 h9 h10 h11 misKept mtaped msort mfrom mto mvalue mbad mm mkept mwas mother mfound_r mwarm mdrip mtape mbits msize mnumber) (wz_X7 cI cS h0 h1 h2 h3 h4 h5 h6 h7 h8 h9 h10 h11 misKept mtaped msort mfrom mto mvalue mbad mm mkept mwas mother mfound mwarm mdrip mtape mbits msize mnumber)) ([.ref h0, .int x1] : List Value).toArray s 0 0 (ik_in (wz_X7 cI cS h0 h1 h2 h3 h4 h5 h6 h7 h8 h9 h10 h11 misKept mtaped msort mfrom mto mvalue mbad mm mkept mwas mother mfound mwarm mdrip mtape mbits msize mnumber))) 26 [(4, .int x4_26), (3, .int x3_26), (2, .int x2_26), (0, .ref h0), (1, .int x1)] [] (wz_X7 cI cS h0 h1 h2 h3 h4 h5 h6 h7 h8 h9 h10 h11 misKept mtaped msort mfrom mto mvalue mbad mm mkept mwas mother mfound mwarm mdrip mtape mbits msize mnumber) := by
      intro n_26
      induction n_26 with
      | zero => intro _ _ _ hf; exact nomatch hf
      | succ n_26 ih_26 =>
        intro x2_26 x3_26 x4_26 hf
        replace hf : b_X7_order_26 mm mfound x1 (ik_lp3 (b_X7_order_26 mm mfound x1) n_26) x2_26 x3_26 x4_26 = some (R, mfound_r) := hf
        unfold b_X7_order_26 at hf
        refine ik_iload C 0 rfl dX7_order_26 ?_
        refine ik_aload_n C 3 rfl rfl dX7_order_28 ?_
        refine ik_get C inlX7 0 rfl rfl 0 (by decide) wl_4_12 rfl (v := .ref h1) rfl dX7_order_29 ?_
        refine ik_iconst (v := (5 : Int32)) C (by decide) dX7_order_32 ?_
        refine ik_iald C 1 rfl (ik_vin (by decide)) dX7_order_33 ?_
        refine ik_icmp_ge C 130 dX7_order_34 (by decide) (fun hc => ?_) (fun hc => ?_)
        · have hf := ik_pos hc hf
          refine ik_iload_n C 2 rfl rfl dX7_order_130 ?_
          refine ik_aload_n C 3 rfl rfl dX7_order_131 ?_
          obtain ⟨r2, hc2, hf⟩ := ik_b1s hf
          have hM := (c_X7_there l D cI cS h0 h1 h2 h3 h4 h5 h6 h7 h8 h9 h10 h11 misKept mtaped msort mfrom mto mvalue mbad mm mkept mwas mother mfound mwarm mdrip mtape mbits msize mnumber r2 hc2)
          refine ik_goR (ik_runV (st := [.int x2_26]) (As := []) C hM mv_X7_there wl_30_15 ⟨rfl, rfl, Nat.le_of_ble_eq_true rfl, Nat.le_of_ble_eq_true rfl⟩ [0, 1, 2, 3, 4, 5, 6, 7, 8, 9, 10, 11] rfl (by decide +kernel) 0 rfl rfl rfl rfl (Nat.le_of_ble_eq_true rfl) dX7_order_132 ⟨Nat.zero_le _, Nat.zero_le _⟩) rfl ?_
          refine ik_icmp_ne C 146 dX7_order_135 (by decide) (fun hc => ?_) (fun hc => ?_)
          · have hf := ik_neg hc hf
            refine ik_aload_n C 3 rfl rfl dX7_order_146 ?_
            refine ik_ldc C wl_25_18 dX7_order_147 ?_
            obtain ⟨r3, g4, hc4, hf⟩ := ik_b2s hf
            have hM := (c_X7_finds l D cI cS h0 h1 h2 h3 h4 h5 h6 h7 h8 h9 h10 h11 misKept mtaped msort mfrom mto mvalue mbad mm mkept mwas mother mfound mwarm mdrip mtape mbits msize mnumber (-1000004 : Int32) r3 g4 hc4)
            refine ik_goW (v := (some (.int r3))) (wc := (wz_X7 cI cS h0 h1 h2 h3 h4 h5 h6 h7 h8 h9 h10 h11 misKept mtaped msort mfrom mto mvalue mbad mm mkept mwas mother mfound mwarm mdrip mtape mbits msize mnumber)) (w1 := (wz_X7 cI cS h0 h1 h2 h3 h4 h5 h6 h7 h8 h9 h10 h11 misKept mtaped msort mfrom mto mvalue mbad mm mkept mwas mother g4 mwarm mdrip mtape mbits msize mnumber)) [0, 1, 2, 3, 4, 5, 6, 7, 8, 9, 10, 11] [] 12 rfl rfl (wz_X7 cI cS h0 h1 h2 h3 h4 h5 h6 h7 h8 h9 h10 h11 misKept mtaped msort mfrom mto mvalue mbad mm mkept mwas mother g4 mwarm mdrip mtape mbits msize mnumber) rfl [] rfl rfl rfl (by decide +kernel) (ik_runV (st := []) (As := [.int (-1000004 : Int32)]) C hM mv_X7_finds wl_7_8 ⟨rfl, rfl, Nat.le_of_ble_eq_true rfl, Nat.le_of_ble_eq_true rfl⟩ [0, 1, 2, 3, 4, 5, 6, 7, 8, 9, 10, 11] rfl (by decide +kernel) 0 rfl rfl rfl rfl (Nat.le_of_ble_eq_true rfl) dX7_order_149 ⟨Nat.zero_le _, Nat.zero_le _⟩) rfl ?_
            obtain ⟨rfl, rfl⟩ := ik_e2 hf
            exact ik_iretW C hr hlk dX7_order_152
          · have hf := ik_pos hc hf
            refine ik_aload_n C 3 rfl rfl dX7_order_138 ?_
            refine ik_iload_n C 1 rfl rfl dX7_order_139 ?_
            obtain ⟨r3, g4, hc4, hf⟩ := ik_b2s hf
            have hM := (c_X7_orNone l D cI cS h0 h1 h2 h3 h4 h5 h6 h7 h8 h9 h10 h11 misKept mtaped msort mfrom mto mvalue mbad mm mkept mwas mother mfound mwarm mdrip mtape mbits msize mnumber x3_26 r3 g4 hc4)
            refine ik_goW (v := (some (.int r3))) (wc := (wz_X7 cI cS h0 h1 h2 h3 h4 h5 h6 h7 h8 h9 h10 h11 misKept mtaped msort mfrom mto mvalue mbad mm mkept mwas mother mfound mwarm mdrip mtape mbits msize mnumber)) (w1 := (wz_X7 cI cS h0 h1 h2 h3 h4 h5 h6 h7 h8 h9 h10 h11 misKept mtaped msort mfrom mto mvalue mbad mm mkept mwas mother g4 mwarm mdrip mtape mbits msize mnumber)) [0, 1, 2, 3, 4, 5, 6, 7, 8, 9, 10, 11] [] 12 rfl rfl (wz_X7 cI cS h0 h1 h2 h3 h4 h5 h6 h7 h8 h9 h10 h11 misKept mtaped msort mfrom mto mvalue mbad mm mkept mwas mother g4 mwarm mdrip mtape mbits msize mnumber) rfl [] rfl rfl rfl (by decide +kernel) (ik_runV (st := []) (As := [.int x3_26]) C hM mv_X7_orNone wl_27_8 ⟨rfl, rfl, Nat.le_of_ble_eq_true rfl, Nat.le_of_ble_eq_true rfl⟩ [0, 1, 2, 3, 4, 5, 6, 7, 8, 9, 10, 11] rfl (by decide +kernel) 0 rfl rfl rfl rfl (Nat.le_of_ble_eq_true rfl) dX7_order_140 ⟨Nat.zero_le _, Nat.zero_le _⟩) rfl ?_
            refine ik_goto C 152 dX7_order_143 (by decide) ?_
            obtain ⟨rfl, rfl⟩ := ik_e2 hf
            exact ik_iretW C hr hlk dX7_order_152
        · have hf := ik_neg hc hf
          refine ik_iconst (v := (-1 : Int32)) C (by decide) dX7_order_37 ?_
          refine ik_istore C [(5, .int (-1 : Int32)), (4, .int x4_26), (3, .int x3_26), (2, .int x2_26), (0, .ref h0), (1, .int x1)] (by decide) rfl dX7_order_38 ?_
          refine ik_aload_n C 4 rfl rfl dX7_order_40 ?_
          refine ik_get C inlX7 0 rfl rfl 0 (by decide) wl_4_12 rfl (v := .ref h1) rfl dX7_order_41 ?_
          refine ik_iconst (v := (5 : Int32)) C (by decide) dX7_order_44 ?_
          refine ik_iald C 1 rfl (ik_vin (by decide)) dX7_order_45 ?_
          refine ik_iconst (v := (1 : Int32)) C (by decide) dX7_order_46 ?_
          refine ik_isub C dX7_order_47 ?_
          refine ik_istore C [(6, .int ((mm ((5 : Int32)).toNatClampNeg) - (1 : Int32))), (5, .int (-1 : Int32)), (4, .int x4_26), (3, .int x3_26), (2, .int x2_26), (0, .ref h0), (1, .int x1)] (by decide) rfl dX7_order_48 ?_
          have hL_50 : ∀ (n_50 : Nat) (x5_50 : Int32) (x6_50 : Int32), ik_lp2 (b_X7_order_50 mm mfound x1 x2_26 x3_26 x4_26 (ik_lp3 (b_X7_order_26 mm mfound x1) n_26)) n_50 x5_50 x6_50 = some (R, mfound_r) → ik_G p l e ({ frames := 4, cells := 0, slots := 0, locals := 91 } : Room) s m ([.ref h0, .int x1] : List Value).toArray below meth c D (ik_in (wz_X7 cI cS h0 h1 h2 h3 h4 h5 h6 h7 h8 h9 h10 h11 misKept mtaped msort mfrom mto mvalue mbad mm mkept mwas mother mfound mwarm mdrip mtape mbits msize mnumber)) (ik_in (wz_X7 cI cS h0 h1 h2 h3 h4 h5 h6 h7 h8 h9 h10 h11 misKept mtaped msort mfrom mto mvalue mbad mm mkept mwas mother mfound mwarm mdrip mtape mbits msize mnumber)) 7 0 0 (MQ below (ik_Q (some (.int R)) D (wz_X7 cI cS h0 h1 h2 h3 h4 h5 h6 h7 h8 h9 h10 h11 misKept mtaped msort mfrom mto mvalue mbad mm mkept mwas mother mfound_r mwarm mdrip mtape mbits msize mnumber) (wz_X7 cI cS h0 h1 h2 h3 h4 h5 h6 h7 h8 h9 h10 h11 misKept mtaped msort mfrom mto mvalue mbad mm mkept mwas mother mfound mwarm mdrip mtape mbits msize mnumber)) ([.ref h0, .int x1] : List Value).toArray s 0 0 (ik_in (wz_X7 cI cS h0 h1 h2 h3 h4 h5 h6 h7 h8 h9 h10 h11 misKept mtaped msort mfrom mto mvalue mbad mm mkept mwas mother mfound mwarm mdrip mtape mbits msize mnumber))) 50 [(6, .int x6_50), (5, .int x5_50), (4, .int x4_26), (3, .int x3_26), (2, .int x2_26), (0, .ref h0), (1, .int x1)] [] (wz_X7 cI cS h0 h1 h2 h3 h4 h5 h6 h7 h8 h9 h10 h11 misKept mtaped msort mfrom mto mvalue mbad mm mkept mwas mother mfound mwarm mdrip mtape mbits msize mnumber) := by
            intro n_50
            induction n_50 with
            | zero => intro _ _ hf; exact nomatch hf
            | succ n_50 ih_50 =>
              intro x5_50 x6_50 hf
              replace hf : b_X7_order_50 mm mfound x1 x2_26 x3_26 x4_26 (ik_lp3 (b_X7_order_26 mm mfound x1) n_26) (ik_lp2 (b_X7_order_50 mm mfound x1 x2_26 x3_26 x4_26 (ik_lp3 (b_X7_order_26 mm mfound x1) n_26)) n_50) x5_50 x6_50 = some (R, mfound_r) := hf
              unfold b_X7_order_50 at hf
              refine ik_iload C 0 rfl dX7_order_50 ?_
              refine ik_if_lt C 96 dX7_order_52 (by decide) (fun hc => ?_) (fun hc => ?_)
              · have hf := ik_pos hc hf
                refine ik_iload C 1 rfl dX7_order_96 ?_
                refine ik_if_ge C 104 dX7_order_98 (by decide) (fun hc => ?_) (fun hc => ?_)
                · have hf := ik_pos hc hf
                  refine ik_iload_n C 4 rfl rfl dX7_order_104 ?_
                  refine ik_iconst (v := (1 : Int32)) C (by decide) dX7_order_105 ?_
                  refine ik_iload C 1 rfl dX7_order_106 ?_
                  refine ik_ishl C dX7_order_108 ?_
                  refine ik_ior C dX7_order_109 ?_
                  refine ik_istore_n C [(2, .int (x2_26 ||| ((1 : Int32) <<< (x5_50 &&& 31)))), (6, .int x6_50), (5, .int x5_50), (4, .int x4_26), (3, .int x3_26), (0, .ref h0), (1, .int x1)] rfl (by decide) rfl dX7_order_110 ?_
                  refine ik_iload C 3 rfl dX7_order_111 ?_
                  refine ik_iload_n C 6 rfl rfl dX7_order_113 ?_
                  refine ik_icmp_ne C 122 dX7_order_114 (by decide) (fun hc => ?_) (fun hc => ?_)
                  · have hf := ik_neg hc hf
                    refine ik_iload_n C 4 rfl rfl dX7_order_122 ?_
                    refine ik_istore_n C [(3, .int x3_26), (2, .int (x2_26 ||| ((1 : Int32) <<< (x5_50 &&& 31)))), (6, .int x6_50), (5, .int x5_50), (4, .int x4_26), (0, .ref h0), (1, .int x1)] rfl (by decide) rfl dX7_order_123 ?_
                    refine ik_iinc C [(4, .int (x4_26 + (1 : Int32))), (3, .int x3_26), (2, .int (x2_26 ||| ((1 : Int32) <<< (x5_50 &&& 31)))), (6, .int x6_50), (5, .int x5_50), (0, .ref h0), (1, .int x1)] 4 rfl rfl (by decide) rfl dX7_order_124 ?_
                    refine ik_goto C 26 dX7_order_127 (by decide) ?_
                    exact ik_sub [0, 1, 2, 5, 6] [(4, .int (x4_26 + (1 : Int32))), (3, .int x3_26), (2, .int (x2_26 ||| ((1 : Int32) <<< (x5_50 &&& 31)))), (0, .ref h0), (1, .int x1)] rfl (ih_26 (x2_26 ||| ((1 : Int32) <<< (x5_50 &&& 31))) x3_26 (x4_26 + (1 : Int32)) hf)
                  · have hf := ik_pos hc hf
                    refine ik_iload C 2 rfl dX7_order_117 ?_
                    refine ik_goto C 123 dX7_order_119 (by decide) ?_
                    refine ik_istore_n C [(3, .int x5_50), (2, .int (x2_26 ||| ((1 : Int32) <<< (x5_50 &&& 31)))), (6, .int x6_50), (5, .int x5_50), (4, .int x4_26), (0, .ref h0), (1, .int x1)] rfl (by decide) rfl dX7_order_123 ?_
                    refine ik_iinc C [(4, .int (x4_26 + (1 : Int32))), (3, .int x5_50), (2, .int (x2_26 ||| ((1 : Int32) <<< (x5_50 &&& 31)))), (6, .int x6_50), (5, .int x5_50), (0, .ref h0), (1, .int x1)] 4 rfl rfl (by decide) rfl dX7_order_124 ?_
                    refine ik_goto C 26 dX7_order_127 (by decide) ?_
                    exact ik_sub [0, 1, 2, 5, 6] [(4, .int (x4_26 + (1 : Int32))), (3, .int x5_50), (2, .int (x2_26 ||| ((1 : Int32) <<< (x5_50 &&& 31)))), (0, .ref h0), (1, .int x1)] rfl (ih_26 (x2_26 ||| ((1 : Int32) <<< (x5_50 &&& 31))) x5_50 (x4_26 + (1 : Int32)) hf)
                · have hf := ik_neg hc hf
                  refine ik_goto C 130 dX7_order_101 (by decide) ?_
                  refine ik_iload_n C 4 rfl rfl dX7_order_130 ?_
                  refine ik_aload_n C 5 rfl rfl dX7_order_131 ?_
                  obtain ⟨r2, hc2, hf⟩ := ik_b1s hf
                  have hM := (c_X7_there l D cI cS h0 h1 h2 h3 h4 h5 h6 h7 h8 h9 h10 h11 misKept mtaped msort mfrom mto mvalue mbad mm mkept mwas mother mfound mwarm mdrip mtape mbits msize mnumber r2 hc2)
                  refine ik_goR (ik_runV (st := [.int x2_26]) (As := []) C hM mv_X7_there wl_30_15 ⟨rfl, rfl, Nat.le_of_ble_eq_true rfl, Nat.le_of_ble_eq_true rfl⟩ [0, 1, 2, 3, 4, 5, 6, 7, 8, 9, 10, 11] rfl (by decide +kernel) 0 rfl rfl rfl rfl (Nat.le_of_ble_eq_true rfl) dX7_order_132 ⟨Nat.zero_le _, Nat.zero_le _⟩) rfl ?_
                  refine ik_icmp_ne C 146 dX7_order_135 (by decide) (fun hc => ?_) (fun hc => ?_)
                  · have hf := ik_neg hc hf
                    refine ik_aload_n C 5 rfl rfl dX7_order_146 ?_
                    refine ik_ldc C wl_25_18 dX7_order_147 ?_
                    obtain ⟨r3, g4, hc4, hf⟩ := ik_b2s hf
                    have hM := (c_X7_finds l D cI cS h0 h1 h2 h3 h4 h5 h6 h7 h8 h9 h10 h11 misKept mtaped msort mfrom mto mvalue mbad mm mkept mwas mother mfound mwarm mdrip mtape mbits msize mnumber (-1000004 : Int32) r3 g4 hc4)
                    refine ik_goW (v := (some (.int r3))) (wc := (wz_X7 cI cS h0 h1 h2 h3 h4 h5 h6 h7 h8 h9 h10 h11 misKept mtaped msort mfrom mto mvalue mbad mm mkept mwas mother mfound mwarm mdrip mtape mbits msize mnumber)) (w1 := (wz_X7 cI cS h0 h1 h2 h3 h4 h5 h6 h7 h8 h9 h10 h11 misKept mtaped msort mfrom mto mvalue mbad mm mkept mwas mother g4 mwarm mdrip mtape mbits msize mnumber)) [0, 1, 2, 3, 4, 5, 6, 7, 8, 9, 10, 11] [] 12 rfl rfl (wz_X7 cI cS h0 h1 h2 h3 h4 h5 h6 h7 h8 h9 h10 h11 misKept mtaped msort mfrom mto mvalue mbad mm mkept mwas mother g4 mwarm mdrip mtape mbits msize mnumber) rfl [] rfl rfl rfl (by decide +kernel) (ik_runV (st := []) (As := [.int (-1000004 : Int32)]) C hM mv_X7_finds wl_7_8 ⟨rfl, rfl, Nat.le_of_ble_eq_true rfl, Nat.le_of_ble_eq_true rfl⟩ [0, 1, 2, 3, 4, 5, 6, 7, 8, 9, 10, 11] rfl (by decide +kernel) 0 rfl rfl rfl rfl (Nat.le_of_ble_eq_true rfl) dX7_order_149 ⟨Nat.zero_le _, Nat.zero_le _⟩) rfl ?_
                    obtain ⟨rfl, rfl⟩ := ik_e2 hf
                    exact ik_iretW C hr hlk dX7_order_152
                  · have hf := ik_pos hc hf
                    refine ik_aload_n C 5 rfl rfl dX7_order_138 ?_
                    refine ik_iload_n C 3 rfl rfl dX7_order_139 ?_
                    obtain ⟨r3, g4, hc4, hf⟩ := ik_b2s hf
                    have hM := (c_X7_orNone l D cI cS h0 h1 h2 h3 h4 h5 h6 h7 h8 h9 h10 h11 misKept mtaped msort mfrom mto mvalue mbad mm mkept mwas mother mfound mwarm mdrip mtape mbits msize mnumber x3_26 r3 g4 hc4)
                    refine ik_goW (v := (some (.int r3))) (wc := (wz_X7 cI cS h0 h1 h2 h3 h4 h5 h6 h7 h8 h9 h10 h11 misKept mtaped msort mfrom mto mvalue mbad mm mkept mwas mother mfound mwarm mdrip mtape mbits msize mnumber)) (w1 := (wz_X7 cI cS h0 h1 h2 h3 h4 h5 h6 h7 h8 h9 h10 h11 misKept mtaped msort mfrom mto mvalue mbad mm mkept mwas mother g4 mwarm mdrip mtape mbits msize mnumber)) [0, 1, 2, 3, 4, 5, 6, 7, 8, 9, 10, 11] [] 12 rfl rfl (wz_X7 cI cS h0 h1 h2 h3 h4 h5 h6 h7 h8 h9 h10 h11 misKept mtaped msort mfrom mto mvalue mbad mm mkept mwas mother g4 mwarm mdrip mtape mbits msize mnumber) rfl [] rfl rfl rfl (by decide +kernel) (ik_runV (st := []) (As := [.int x3_26]) C hM mv_X7_orNone wl_27_8 ⟨rfl, rfl, Nat.le_of_ble_eq_true rfl, Nat.le_of_ble_eq_true rfl⟩ [0, 1, 2, 3, 4, 5, 6, 7, 8, 9, 10, 11] rfl (by decide +kernel) 0 rfl rfl rfl rfl (Nat.le_of_ble_eq_true rfl) dX7_order_140 ⟨Nat.zero_le _, Nat.zero_le _⟩) rfl ?_
                    refine ik_goto C 152 dX7_order_143 (by decide) ?_
                    obtain ⟨rfl, rfl⟩ := ik_e2 hf
                    exact ik_iretW C hr hlk dX7_order_152
              · have hf := ik_neg hc hf
                refine ik_aload_n C 5 rfl rfl dX7_order_55 ?_
                obtain ⟨r2, hc2, hf⟩ := ik_b1s hf
                have hM := (c_X7_there l D cI cS h0 h1 h2 h3 h4 h5 h6 h7 h8 h9 h10 h11 misKept mtaped msort mfrom mto mvalue mbad mm mkept mwas mother mfound mwarm mdrip mtape mbits msize mnumber r2 hc2)
                refine ik_goR (ik_runV (st := []) (As := []) C hM mv_X7_there wl_30_15 ⟨rfl, rfl, Nat.le_of_ble_eq_true rfl, Nat.le_of_ble_eq_true rfl⟩ [0, 1, 2, 3, 4, 5, 6, 7, 8, 9, 10, 11] rfl (by decide +kernel) 0 rfl rfl rfl rfl (Nat.le_of_ble_eq_true rfl) dX7_order_56 ⟨Nat.zero_le _, Nat.zero_le _⟩) rfl ?_
                refine ik_iload_n C 4 rfl rfl dX7_order_59 ?_
                refine ik_iconst (v := (-1 : Int32)) C (by decide) dX7_order_60 ?_
                refine ik_ixor C dX7_order_61 ?_
                refine ik_iand C dX7_order_62 ?_
                refine ik_iload C 0 rfl dX7_order_63 ?_
                obtain ⟨r3, hc3, hf⟩ := ik_b1s hf
                have hM := (c_X7_has l D cI cS (r2 &&& (x2_26 ^^^ (-1 : Int32))) x6_50 r3 hc3)
                refine ik_goR (ik_runS (st := []) (As := [.int (r2 &&& (x2_26 ^^^ (-1 : Int32))), .int x6_50]) C hM ms_X7_has wl_11_0 ⟨rfl, rfl, Nat.le_of_ble_eq_true rfl, Nat.le_of_ble_eq_true rfl⟩ [] rfl (by decide +kernel) rfl rfl (Nat.le_of_ble_eq_true rfl) dX7_order_65 ⟨Nat.zero_le _, Nat.zero_le _⟩) rfl ?_
                refine ik_if_eq C 86 dX7_order_68 (by decide) (fun hc => ?_) (fun hc => ?_)
                · have hf := ik_pos hc hf
                  refine ik_iload C 1 rfl dX7_order_86 ?_
                  refine ik_istore C [(5, .int x5_50), (6, .int x6_50), (4, .int x4_26), (3, .int x3_26), (2, .int x2_26), (0, .ref h0), (1, .int x1)] (by decide) rfl dX7_order_88 ?_
                  refine ik_iinc C [(6, .int (x6_50 + (-1 : Int32))), (5, .int x5_50), (4, .int x4_26), (3, .int x3_26), (2, .int x2_26), (0, .ref h0), (1, .int x1)] 1 rfl (congrArg (fun t => x6_50 + t) (show Int32.ofInt (-1) = (-1 : Int32) by decide)) (by decide) rfl dX7_order_90 ?_
                  refine ik_goto C 50 dX7_order_93 (by decide) ?_
                  exact ik_sub [0, 1, 2, 3, 4, 5, 6] [(6, .int (x6_50 + (-1 : Int32))), (5, .int x5_50), (4, .int x4_26), (3, .int x3_26), (2, .int x2_26), (0, .ref h0), (1, .int x1)] rfl (ih_50 x5_50 (x6_50 + (-1 : Int32)) hf)
                · have hf := ik_neg hc hf
                  refine ik_aload_n C 5 rfl rfl dX7_order_71 ?_
                  refine ik_iload C 0 rfl dX7_order_72 ?_
                  refine ik_iload_n C 4 rfl rfl dX7_order_74 ?_
                  obtain ⟨r4, hc4, hf⟩ := ik_b1s hf
                  have hM := (c_X7_standsBy l D cI cS h0 h1 h2 h3 h4 h5 h6 h7 h8 h9 h10 h11 misKept mtaped msort mfrom mto mvalue mbad mm mkept mwas mother mfound mwarm mdrip mtape mbits msize mnumber x6_50 x2_26 r4 hc4)
                  refine ik_goR (ik_runV (st := []) (As := [.int x6_50, .int x2_26]) C hM mv_X7_standsBy wl_10_13 ⟨rfl, rfl, Nat.le_of_ble_eq_true rfl, Nat.le_of_ble_eq_true rfl⟩ [0, 1, 2, 3, 4, 5, 6, 7, 8, 9, 10, 11] rfl (by decide +kernel) 0 rfl rfl rfl rfl (Nat.le_of_ble_eq_true rfl) dX7_order_75 ⟨Nat.zero_le _, Nat.zero_le _⟩) rfl ?_
                  refine ik_if_eq C 86 dX7_order_78 (by decide) (fun hc => ?_) (fun hc => ?_)
                  · have hf := ik_pos hc hf
                    refine ik_iload C 1 rfl dX7_order_86 ?_
                    refine ik_istore C [(5, .int x5_50), (6, .int x6_50), (4, .int x4_26), (3, .int x3_26), (2, .int x2_26), (0, .ref h0), (1, .int x1)] (by decide) rfl dX7_order_88 ?_
                    refine ik_iinc C [(6, .int (x6_50 + (-1 : Int32))), (5, .int x5_50), (4, .int x4_26), (3, .int x3_26), (2, .int x2_26), (0, .ref h0), (1, .int x1)] 1 rfl (congrArg (fun t => x6_50 + t) (show Int32.ofInt (-1) = (-1 : Int32) by decide)) (by decide) rfl dX7_order_90 ?_
                    refine ik_goto C 50 dX7_order_93 (by decide) ?_
                    exact ik_sub [0, 1, 2, 3, 4, 5, 6] [(6, .int (x6_50 + (-1 : Int32))), (5, .int x5_50), (4, .int x4_26), (3, .int x3_26), (2, .int x2_26), (0, .ref h0), (1, .int x1)] rfl (ih_50 x5_50 (x6_50 + (-1 : Int32)) hf)
                  · have hf := ik_neg hc hf
                    refine ik_iload C 0 rfl dX7_order_81 ?_
                    refine ik_goto C 88 dX7_order_83 (by decide) ?_
                    refine ik_istore C [(5, .int x6_50), (6, .int x6_50), (4, .int x4_26), (3, .int x3_26), (2, .int x2_26), (0, .ref h0), (1, .int x1)] (by decide) rfl dX7_order_88 ?_
                    refine ik_iinc C [(6, .int (x6_50 + (-1 : Int32))), (5, .int x6_50), (4, .int x4_26), (3, .int x3_26), (2, .int x2_26), (0, .ref h0), (1, .int x1)] 1 rfl (congrArg (fun t => x6_50 + t) (show Int32.ofInt (-1) = (-1 : Int32) by decide)) (by decide) rfl dX7_order_90 ?_
                    refine ik_goto C 50 dX7_order_93 (by decide) ?_
                    exact ik_sub [0, 1, 2, 3, 4, 5, 6] [(6, .int (x6_50 + (-1 : Int32))), (5, .int x6_50), (4, .int x4_26), (3, .int x3_26), (2, .int x2_26), (0, .ref h0), (1, .int x1)] rfl (ih_50 x6_50 (x6_50 + (-1 : Int32)) hf)
          exact hL_50 ik_fu (-1 : Int32) ((mm ((5 : Int32)).toNatClampNeg) - (1 : Int32)) hf
    exact hL_26 ik_fu (0 : Int32) (-1 : Int32) (0 : Int32) hf
  · have hf := ik_pos hc hf
    refine ik_aload_n C 0 rfl rfl dX7_order_12 ?_
    refine ik_ldc C wl_6_14 dX7_order_13 ?_
    obtain ⟨r2, g3, hc3, hf⟩ := ik_b2s hf
    have hM := (c_X7_finds l D cI cS h0 h1 h2 h3 h4 h5 h6 h7 h8 h9 h10 h11 misKept mtaped msort mfrom mto mvalue mbad mm mkept mwas mother mfound mwarm mdrip mtape mbits msize mnumber (-1000001 : Int32) r2 g3 hc3)
    refine ik_goW (v := (some (.int r2))) (wc := (wz_X7 cI cS h0 h1 h2 h3 h4 h5 h6 h7 h8 h9 h10 h11 misKept mtaped msort mfrom mto mvalue mbad mm mkept mwas mother mfound mwarm mdrip mtape mbits msize mnumber)) (w1 := (wz_X7 cI cS h0 h1 h2 h3 h4 h5 h6 h7 h8 h9 h10 h11 misKept mtaped msort mfrom mto mvalue mbad mm mkept mwas mother g3 mwarm mdrip mtape mbits msize mnumber)) [0, 1, 2, 3, 4, 5, 6, 7, 8, 9, 10, 11] [] 12 rfl rfl (wz_X7 cI cS h0 h1 h2 h3 h4 h5 h6 h7 h8 h9 h10 h11 misKept mtaped msort mfrom mto mvalue mbad mm mkept mwas mother g3 mwarm mdrip mtape mbits msize mnumber) rfl [] rfl rfl rfl (by decide +kernel) (ik_runV (st := []) (As := [.int (-1000001 : Int32)]) C hM mv_X7_finds wl_7_8 ⟨rfl, rfl, Nat.le_of_ble_eq_true rfl, Nat.le_of_ble_eq_true rfl⟩ [0, 1, 2, 3, 4, 5, 6, 7, 8, 9, 10, 11] rfl (by decide +kernel) 0 rfl rfl rfl rfl (Nat.le_of_ble_eq_true rfl) dX7_order_15 ⟨Nat.zero_le _, Nat.zero_le _⟩) rfl ?_
    obtain ⟨rfl, rfl⟩ := ik_e2 hf
    exact ik_iretW C hr hlk dX7_order_18
theorem mv_X7_steps : ik_V yX7_steps RX7 cX7_steps 6 (some .int) 1 := ⟨wl_31_5, wl_31_6, wl_1_5, wl_31_7, by decide +kernel⟩
set_option maxHeartbeats 4000000 in
set_option maxRecDepth 100000 in
theorem c_X7_steps (l : Launch) (D : va_G) (cI cS : ClassId) (h0 h1 h2 h3 h4 h5 h6 h7 h8 h9 h10 h11 : Nat) (misKept : Int32) (mtaped : Int32) (msort : Int32) (mfrom : Int32) (mto : Int32) (mvalue : Int32) (mbad : Int32) (mm : Nat → Int32) (mkept : Nat → Int32) (mwas : Nat → Int32) (mother : Nat → Int32) (mfound : Nat → Int32) (mwarm : Nat → Int32) (mdrip : Nat → Int32) (mtape : Nat → Int32) (mbits : Nat → Int32) (msize : Nat → Int32) (mnumber : Nat → Int32) (x1 : Int32) (R : Int32) (mfound_r : Nat → Int32) (hf : f_X7_steps mm mfound x1 = some (R, mfound_r)) : Met l yX7_steps (ik_ws yX7_steps cX7_steps 6 (some .int)) ({ frames := 4, cells := 0, slots := 0, locals := 91 } : Room) (ik_P D cI cS [.ref h0, .int x1] (wz_X7 cI cS h0 h1 h2 h3 h4 h5 h6 h7 h8 h9 h10 h11 misKept mtaped msort mfrom mto mvalue mbad mm mkept mwas mother mfound mwarm mdrip mtape mbits msize mnumber)) (ik_Q (some (.int R)) D (wz_X7 cI cS h0 h1 h2 h3 h4 h5 h6 h7 h8 h9 h10 h11 misKept mtaped msort mfrom mto mvalue mbad mm mkept mwas mother mfound_r mwarm mdrip mtape mbits msize mnumber) (wz_X7 cI cS h0 h1 h2 h3 h4 h5 h6 h7 h8 h9 h10 h11 misKept mtaped msort mfrom mto mvalue mbad mm mkept mwas mother mfound mwarm mdrip mtape mbits msize mnumber)) 0 0 (ik_in (wz_X7 cI cS h0 h1 h2 h3 h4 h5 h6 h7 h8 h9 h10 h11 misKept mtaped msort mfrom mto mvalue mbad mm mkept mwas mother mfound mwarm mdrip mtape mbits msize mnumber)) := by
  refine ik_metW RX7 rfl (by decide) (Nat.le_of_ble_eq_true rfl) [(0, .ref h0), (1, .int x1)] rfl ?_
  intro p e s m below meth c C hr hlk
  unfold f_X7_steps at hf
  refine ik_iload_n C 1 rfl rfl dX7_steps_0 ?_
  refine ik_i2l C dX7_steps_1 ?_
  refine ik_lconst (v := (1 : Int64)) C (by decide) dX7_steps_2 ?_
  refine ik_ldc2 C wl_31_8 dX7_steps_3 ?_
  obtain ⟨r1, hc1, hf⟩ := ik_b1s hf
  have hM := (c_X7_in l D cI cS (x1).toInt64 (1 : Int64) (8 : Int64) r1 hc1)
  refine ik_goR (ik_runS (st := []) (As := [.long (x1).toInt64, .long (1 : Int64), .long (8 : Int64)]) C hM ms_X7_in wl_6_21 ⟨rfl, rfl, Nat.le_of_ble_eq_true rfl, Nat.le_of_ble_eq_true rfl⟩ [] rfl (by decide +kernel) rfl rfl (Nat.le_of_ble_eq_true rfl) dX7_steps_6 ⟨Nat.zero_le _, Nat.zero_le _⟩) rfl ?_
  refine ik_if_ne C 19 dX7_steps_9 (by decide) (fun hc => ?_) (fun hc => ?_)
  · have hf := ik_neg hc hf
    refine ik_iconst (v := (0 : Int32)) C (by decide) dX7_steps_19 ?_
    refine ik_istore_n C [(2, .int (0 : Int32)), (0, .ref h0), (1, .int x1)] rfl (by decide) rfl dX7_steps_20 ?_
    refine ik_iconst (v := (0 : Int32)) C (by decide) dX7_steps_21 ?_
    refine ik_istore_n C [(3, .int (0 : Int32)), (2, .int (0 : Int32)), (0, .ref h0), (1, .int x1)] rfl (by decide) rfl dX7_steps_22 ?_
    have hL_23 : ∀ (n_23 : Nat) (mfound_23 : Nat → Int32) (x2_23 : Int32) (x3_23 : Int32), ik_lp3 (b_X7_steps_23 mm x1) n_23 mfound_23 x2_23 x3_23 = some (R, mfound_r) → ik_G p l e ({ frames := 4, cells := 0, slots := 0, locals := 91 } : Room) s m ([.ref h0, .int x1] : List Value).toArray below meth c D (ik_in (wz_X7 cI cS h0 h1 h2 h3 h4 h5 h6 h7 h8 h9 h10 h11 misKept mtaped msort mfrom mto mvalue mbad mm mkept mwas mother mfound mwarm mdrip mtape mbits msize mnumber)) (ik_in (wz_X7 cI cS h0 h1 h2 h3 h4 h5 h6 h7 h8 h9 h10 h11 misKept mtaped msort mfrom mto mvalue mbad mm mkept mwas mother mfound mwarm mdrip mtape mbits msize mnumber)) 6 0 0 (MQ below (ik_Q (some (.int R)) D (wz_X7 cI cS h0 h1 h2 h3 h4 h5 h6 h7 h8 h9 h10 h11 misKept mtaped msort mfrom mto mvalue mbad mm mkept mwas mother mfound_r mwarm mdrip mtape mbits msize mnumber) (wz_X7 cI cS h0 h1 h2 h3 h4 h5 h6 h7 h8 h9 h10 h11 misKept mtaped msort mfrom mto mvalue mbad mm mkept mwas mother mfound mwarm mdrip mtape mbits msize mnumber)) ([.ref h0, .int x1] : List Value).toArray s 0 0 (ik_in (wz_X7 cI cS h0 h1 h2 h3 h4 h5 h6 h7 h8 h9 h10 h11 misKept mtaped msort mfrom mto mvalue mbad mm mkept mwas mother mfound mwarm mdrip mtape mbits msize mnumber))) 23 [(3, .int x3_23), (2, .int x2_23), (0, .ref h0), (1, .int x1)] [] (wz_X7 cI cS h0 h1 h2 h3 h4 h5 h6 h7 h8 h9 h10 h11 misKept mtaped msort mfrom mto mvalue mbad mm mkept mwas mother mfound_23 mwarm mdrip mtape mbits msize mnumber) := by
      intro n_23
      induction n_23 with
      | zero => intro _ _ _ hf; exact nomatch hf
      | succ n_23 ih_23 =>
        intro mfound_23 x2_23 x3_23 hf
        replace hf : b_X7_steps_23 mm x1 (ik_lp3 (b_X7_steps_23 mm x1) n_23) mfound_23 x2_23 x3_23 = some (R, mfound_r) := hf
        unfold b_X7_steps_23 at hf
        refine ik_iload_n C 1 rfl rfl dX7_steps_23 ?_
        refine ik_aload_n C 2 rfl rfl dX7_steps_24 ?_
        obtain ⟨r2, hc2, hf⟩ := ik_b1s hf
        have hM := (c_X7_there l D cI cS h0 h1 h2 h3 h4 h5 h6 h7 h8 h9 h10 h11 misKept mtaped msort mfrom mto mvalue mbad mm mkept mwas mother mfound_23 mwarm mdrip mtape mbits msize mnumber r2 hc2)
        refine ik_goR (ik_runV (st := [.int x2_23]) (As := []) C hM mv_X7_there wl_30_15 ⟨rfl, rfl, Nat.le_of_ble_eq_true rfl, Nat.le_of_ble_eq_true rfl⟩ [0, 1, 2, 3, 4, 5, 6, 7, 8, 9, 10, 11] rfl (by decide +kernel) 0 rfl rfl rfl rfl (Nat.le_of_ble_eq_true rfl) dX7_steps_25 ⟨Nat.zero_le _, Nat.zero_le _⟩) rfl ?_
        refine ik_icmp_eq C 125 dX7_steps_28 (by decide) (fun hc => ?_) (fun hc => ?_)
        · have hf := ik_pos hc hf
          refine ik_iload_n C 0 rfl rfl dX7_steps_125 ?_
          obtain ⟨rfl, rfl⟩ := ik_e2 hf
          exact ik_iretW C hr hlk dX7_steps_126
        · have hf := ik_neg hc hf
          refine ik_iconst (v := (0 : Int32)) C (by decide) dX7_steps_31 ?_
          refine ik_istore C [(4, .int (0 : Int32)), (3, .int x3_23), (2, .int x2_23), (0, .ref h0), (1, .int x1)] (by decide) rfl dX7_steps_32 ?_
          refine ik_iconst (v := (0 : Int32)) C (by decide) dX7_steps_34 ?_
          refine ik_istore C [(5, .int (0 : Int32)), (4, .int (0 : Int32)), (3, .int x3_23), (2, .int x2_23), (0, .ref h0), (1, .int x1)] (by decide) rfl dX7_steps_35 ?_
          have hL_37 : ∀ (n_37 : Nat) (x4_37 : Int32) (x5_37 : Int32), ik_lp2 (b_X7_steps_37 mm x1 mfound_23 x2_23 x3_23 (ik_lp3 (b_X7_steps_23 mm x1) n_23)) n_37 x4_37 x5_37 = some (R, mfound_r) → ik_G p l e ({ frames := 4, cells := 0, slots := 0, locals := 91 } : Room) s m ([.ref h0, .int x1] : List Value).toArray below meth c D (ik_in (wz_X7 cI cS h0 h1 h2 h3 h4 h5 h6 h7 h8 h9 h10 h11 misKept mtaped msort mfrom mto mvalue mbad mm mkept mwas mother mfound mwarm mdrip mtape mbits msize mnumber)) (ik_in (wz_X7 cI cS h0 h1 h2 h3 h4 h5 h6 h7 h8 h9 h10 h11 misKept mtaped msort mfrom mto mvalue mbad mm mkept mwas mother mfound mwarm mdrip mtape mbits msize mnumber)) 6 0 0 (MQ below (ik_Q (some (.int R)) D (wz_X7 cI cS h0 h1 h2 h3 h4 h5 h6 h7 h8 h9 h10 h11 misKept mtaped msort mfrom mto mvalue mbad mm mkept mwas mother mfound_r mwarm mdrip mtape mbits msize mnumber) (wz_X7 cI cS h0 h1 h2 h3 h4 h5 h6 h7 h8 h9 h10 h11 misKept mtaped msort mfrom mto mvalue mbad mm mkept mwas mother mfound mwarm mdrip mtape mbits msize mnumber)) ([.ref h0, .int x1] : List Value).toArray s 0 0 (ik_in (wz_X7 cI cS h0 h1 h2 h3 h4 h5 h6 h7 h8 h9 h10 h11 misKept mtaped msort mfrom mto mvalue mbad mm mkept mwas mother mfound mwarm mdrip mtape mbits msize mnumber))) 37 [(5, .int x5_37), (4, .int x4_37), (3, .int x3_23), (2, .int x2_23), (0, .ref h0), (1, .int x1)] [] (wz_X7 cI cS h0 h1 h2 h3 h4 h5 h6 h7 h8 h9 h10 h11 misKept mtaped msort mfrom mto mvalue mbad mm mkept mwas mother mfound_23 mwarm mdrip mtape mbits msize mnumber) := by
            intro n_37
            induction n_37 with
            | zero => intro _ _ hf; exact nomatch hf
            | succ n_37 ih_37 =>
              intro x4_37 x5_37 hf
              replace hf : b_X7_steps_37 mm x1 mfound_23 x2_23 x3_23 (ik_lp3 (b_X7_steps_23 mm x1) n_23) (ik_lp2 (b_X7_steps_37 mm x1 mfound_23 x2_23 x3_23 (ik_lp3 (b_X7_steps_23 mm x1) n_23)) n_37) x4_37 x5_37 = some (R, mfound_r) := hf
              unfold b_X7_steps_37 at hf
              refine ik_iload C 0 rfl dX7_steps_37 ?_
              refine ik_aload_n C 4 rfl rfl dX7_steps_39 ?_
              refine ik_get C inlX7 0 rfl rfl 0 (by decide) wl_4_12 rfl (v := .ref h1) rfl dX7_steps_40 ?_
              refine ik_iconst (v := (5 : Int32)) C (by decide) dX7_steps_43 ?_
              refine ik_iald C 1 rfl (ik_vin (by decide)) dX7_steps_44 ?_
              refine ik_icmp_ge C 102 dX7_steps_45 (by decide) (fun hc => ?_) (fun hc => ?_)
              · have hf := ik_pos hc hf
                refine ik_iload C 1 rfl dX7_steps_102 ?_
                refine ik_if_ne C 114 dX7_steps_104 (by decide) (fun hc => ?_) (fun hc => ?_)
                · have hf := ik_neg hc hf
                  refine ik_iload_n C 3 rfl rfl dX7_steps_114 ?_
                  refine ik_iload C 1 rfl dX7_steps_115 ?_
                  refine ik_ior C dX7_steps_117 ?_
                  refine ik_istore_n C [(2, .int (x2_23 ||| x4_37)), (5, .int x5_37), (4, .int x4_37), (3, .int x3_23), (0, .ref h0), (1, .int x1)] rfl (by decide) rfl dX7_steps_118 ?_
                  refine ik_iinc C [(3, .int (x3_23 + (1 : Int32))), (2, .int (x2_23 ||| x4_37)), (5, .int x5_37), (4, .int x4_37), (0, .ref h0), (1, .int x1)] 3 rfl rfl (by decide) rfl dX7_steps_119 ?_
                  refine ik_goto C 23 dX7_steps_122 (by decide) ?_
                  exact ik_sub [0, 1, 4, 5] [(3, .int (x3_23 + (1 : Int32))), (2, .int (x2_23 ||| x4_37)), (0, .ref h0), (1, .int x1)] rfl (ih_23 mfound_23 (x2_23 ||| x4_37) (x3_23 + (1 : Int32)) hf)
                · have hf := ik_pos hc hf
                  refine ik_aload_n C 4 rfl rfl dX7_steps_107 ?_
                  refine ik_ldc C wl_25_18 dX7_steps_108 ?_
                  obtain ⟨r3, g4, hc4, hf⟩ := ik_b2s hf
                  have hM := (c_X7_finds l D cI cS h0 h1 h2 h3 h4 h5 h6 h7 h8 h9 h10 h11 misKept mtaped msort mfrom mto mvalue mbad mm mkept mwas mother mfound_23 mwarm mdrip mtape mbits msize mnumber (-1000004 : Int32) r3 g4 hc4)
                  refine ik_goW (v := (some (.int r3))) (wc := (wz_X7 cI cS h0 h1 h2 h3 h4 h5 h6 h7 h8 h9 h10 h11 misKept mtaped msort mfrom mto mvalue mbad mm mkept mwas mother mfound_23 mwarm mdrip mtape mbits msize mnumber)) (w1 := (wz_X7 cI cS h0 h1 h2 h3 h4 h5 h6 h7 h8 h9 h10 h11 misKept mtaped msort mfrom mto mvalue mbad mm mkept mwas mother g4 mwarm mdrip mtape mbits msize mnumber)) [0, 1, 2, 3, 4, 5, 6, 7, 8, 9, 10, 11] [] 12 rfl rfl (wz_X7 cI cS h0 h1 h2 h3 h4 h5 h6 h7 h8 h9 h10 h11 misKept mtaped msort mfrom mto mvalue mbad mm mkept mwas mother g4 mwarm mdrip mtape mbits msize mnumber) rfl [] rfl rfl rfl (by decide +kernel) (ik_runV (st := []) (As := [.int (-1000004 : Int32)]) C hM mv_X7_finds wl_7_8 ⟨rfl, rfl, Nat.le_of_ble_eq_true rfl, Nat.le_of_ble_eq_true rfl⟩ [0, 1, 2, 3, 4, 5, 6, 7, 8, 9, 10, 11] rfl (by decide +kernel) 0 rfl rfl rfl rfl (Nat.le_of_ble_eq_true rfl) dX7_steps_110 ⟨Nat.zero_le _, Nat.zero_le _⟩) rfl ?_
                  obtain ⟨rfl, rfl⟩ := ik_e2 hf
                  exact ik_iretW C hr hlk dX7_steps_113
              · have hf := ik_neg hc hf
                refine ik_iload C 1 rfl dX7_steps_48 ?_
                refine ik_aload_n C 4 rfl rfl dX7_steps_50 ?_
                obtain ⟨r3, hc3, hf⟩ := ik_b1s hf
                have hM := (c_X7_there l D cI cS h0 h1 h2 h3 h4 h5 h6 h7 h8 h9 h10 h11 misKept mtaped msort mfrom mto mvalue mbad mm mkept mwas mother mfound_23 mwarm mdrip mtape mbits msize mnumber r3 hc3)
                refine ik_goR (ik_runV (st := [.int x4_37]) (As := []) C hM mv_X7_there wl_30_15 ⟨rfl, rfl, Nat.le_of_ble_eq_true rfl, Nat.le_of_ble_eq_true rfl⟩ [0, 1, 2, 3, 4, 5, 6, 7, 8, 9, 10, 11] rfl (by decide +kernel) 0 rfl rfl rfl rfl (Nat.le_of_ble_eq_true rfl) dX7_steps_51 ⟨Nat.zero_le _, Nat.zero_le _⟩) rfl ?_
                refine ik_iload_n C 3 rfl rfl dX7_steps_54 ?_
                refine ik_iconst (v := (-1 : Int32)) C (by decide) dX7_steps_55 ?_
                refine ik_ixor C dX7_steps_56 ?_
                refine ik_iand C dX7_steps_57 ?_
                refine ik_iload C 0 rfl dX7_steps_58 ?_
                obtain ⟨r4, hc4, hf⟩ := ik_b1s hf
                have hM := (c_X7_has l D cI cS (r3 &&& (x2_23 ^^^ (-1 : Int32))) x5_37 r4 hc4)
                refine ik_goR (ik_runS (st := [.int x4_37]) (As := [.int (r3 &&& (x2_23 ^^^ (-1 : Int32))), .int x5_37]) C hM ms_X7_has wl_11_0 ⟨rfl, rfl, Nat.le_of_ble_eq_true rfl, Nat.le_of_ble_eq_true rfl⟩ [] rfl (by decide +kernel) rfl rfl (Nat.le_of_ble_eq_true rfl) dX7_steps_60 ⟨Nat.zero_le _, Nat.zero_le _⟩) rfl ?_
                refine ik_if_eq C 92 dX7_steps_63 (by decide) (fun hc => ?_) (fun hc => ?_)
                · have hf := ik_pos hc hf
                  refine ik_iconst (v := (0 : Int32)) C (by decide) dX7_steps_92 ?_
                  refine ik_ior C dX7_steps_93 ?_
                  refine ik_istore C [(4, .int (x4_37 ||| (0 : Int32))), (5, .int x5_37), (3, .int x3_23), (2, .int x2_23), (0, .ref h0), (1, .int x1)] (by decide) rfl dX7_steps_94 ?_
                  refine ik_iinc C [(5, .int (x5_37 + (1 : Int32))), (4, .int (x4_37 ||| (0 : Int32))), (3, .int x3_23), (2, .int x2_23), (0, .ref h0), (1, .int x1)] 1 rfl rfl (by decide) rfl dX7_steps_96 ?_
                  refine ik_goto C 37 dX7_steps_99 (by decide) ?_
                  exact ik_sub [0, 1, 2, 3, 4, 5] [(5, .int (x5_37 + (1 : Int32))), (4, .int (x4_37 ||| (0 : Int32))), (3, .int x3_23), (2, .int x2_23), (0, .ref h0), (1, .int x1)] rfl (ih_37 (x4_37 ||| (0 : Int32)) (x5_37 + (1 : Int32)) hf)
                · have hf := ik_neg hc hf
                  refine ik_iload C 1 rfl dX7_steps_66 ?_
                  obtain ⟨r5, hc5, hf⟩ := ik_b1s hf
                  have hM := (c_X7_many l D cI cS x4_37 r5 hc5)
                  refine ik_goR (ik_runS (st := [.int x4_37]) (As := [.int x4_37]) C hM ms_X7_many wl_21_22 ⟨rfl, rfl, Nat.le_of_ble_eq_true rfl, Nat.le_of_ble_eq_true rfl⟩ [] rfl (by decide +kernel) rfl rfl (Nat.le_of_ble_eq_true rfl) dX7_steps_68 ⟨Nat.zero_le _, Nat.zero_le _⟩) rfl ?_
                  refine ik_iload_n C 5 rfl rfl dX7_steps_71 ?_
                  refine ik_icmp_ge C 92 dX7_steps_72 (by decide) (fun hc => ?_) (fun hc => ?_)
                  · have hf := ik_pos hc hf
                    refine ik_iconst (v := (0 : Int32)) C (by decide) dX7_steps_92 ?_
                    refine ik_ior C dX7_steps_93 ?_
                    refine ik_istore C [(4, .int (x4_37 ||| (0 : Int32))), (5, .int x5_37), (3, .int x3_23), (2, .int x2_23), (0, .ref h0), (1, .int x1)] (by decide) rfl dX7_steps_94 ?_
                    refine ik_iinc C [(5, .int (x5_37 + (1 : Int32))), (4, .int (x4_37 ||| (0 : Int32))), (3, .int x3_23), (2, .int x2_23), (0, .ref h0), (1, .int x1)] 1 rfl rfl (by decide) rfl dX7_steps_96 ?_
                    refine ik_goto C 37 dX7_steps_99 (by decide) ?_
                    exact ik_sub [0, 1, 2, 3, 4, 5] [(5, .int (x5_37 + (1 : Int32))), (4, .int (x4_37 ||| (0 : Int32))), (3, .int x3_23), (2, .int x2_23), (0, .ref h0), (1, .int x1)] rfl (ih_37 (x4_37 ||| (0 : Int32)) (x5_37 + (1 : Int32)) hf)
                  · have hf := ik_neg hc hf
                    refine ik_aload_n C 4 rfl rfl dX7_steps_75 ?_
                    refine ik_iload C 0 rfl dX7_steps_76 ?_
                    refine ik_iload_n C 3 rfl rfl dX7_steps_78 ?_
                    obtain ⟨r6, hc6, hf⟩ := ik_b1s hf
                    have hM := (c_X7_standsBy l D cI cS h0 h1 h2 h3 h4 h5 h6 h7 h8 h9 h10 h11 misKept mtaped msort mfrom mto mvalue mbad mm mkept mwas mother mfound_23 mwarm mdrip mtape mbits msize mnumber x5_37 x2_23 r6 hc6)
                    refine ik_goR (ik_runV (st := [.int x4_37]) (As := [.int x5_37, .int x2_23]) C hM mv_X7_standsBy wl_10_13 ⟨rfl, rfl, Nat.le_of_ble_eq_true rfl, Nat.le_of_ble_eq_true rfl⟩ [0, 1, 2, 3, 4, 5, 6, 7, 8, 9, 10, 11] rfl (by decide +kernel) 0 rfl rfl rfl rfl (Nat.le_of_ble_eq_true rfl) dX7_steps_79 ⟨Nat.zero_le _, Nat.zero_le _⟩) rfl ?_
                    refine ik_if_eq C 92 dX7_steps_82 (by decide) (fun hc => ?_) (fun hc => ?_)
                    · have hf := ik_pos hc hf
                      refine ik_iconst (v := (0 : Int32)) C (by decide) dX7_steps_92 ?_
                      refine ik_ior C dX7_steps_93 ?_
                      refine ik_istore C [(4, .int (x4_37 ||| (0 : Int32))), (5, .int x5_37), (3, .int x3_23), (2, .int x2_23), (0, .ref h0), (1, .int x1)] (by decide) rfl dX7_steps_94 ?_
                      refine ik_iinc C [(5, .int (x5_37 + (1 : Int32))), (4, .int (x4_37 ||| (0 : Int32))), (3, .int x3_23), (2, .int x2_23), (0, .ref h0), (1, .int x1)] 1 rfl rfl (by decide) rfl dX7_steps_96 ?_
                      refine ik_goto C 37 dX7_steps_99 (by decide) ?_
                      exact ik_sub [0, 1, 2, 3, 4, 5] [(5, .int (x5_37 + (1 : Int32))), (4, .int (x4_37 ||| (0 : Int32))), (3, .int x3_23), (2, .int x2_23), (0, .ref h0), (1, .int x1)] rfl (ih_37 (x4_37 ||| (0 : Int32)) (x5_37 + (1 : Int32)) hf)
                    · have hf := ik_neg hc hf
                      refine ik_iconst (v := (1 : Int32)) C (by decide) dX7_steps_85 ?_
                      refine ik_iload C 0 rfl dX7_steps_86 ?_
                      refine ik_ishl C dX7_steps_88 ?_
                      refine ik_goto C 93 dX7_steps_89 (by decide) ?_
                      refine ik_ior C dX7_steps_93 ?_
                      refine ik_istore C [(4, .int (x4_37 ||| ((1 : Int32) <<< (x5_37 &&& 31)))), (5, .int x5_37), (3, .int x3_23), (2, .int x2_23), (0, .ref h0), (1, .int x1)] (by decide) rfl dX7_steps_94 ?_
                      refine ik_iinc C [(5, .int (x5_37 + (1 : Int32))), (4, .int (x4_37 ||| ((1 : Int32) <<< (x5_37 &&& 31)))), (3, .int x3_23), (2, .int x2_23), (0, .ref h0), (1, .int x1)] 1 rfl rfl (by decide) rfl dX7_steps_96 ?_
                      refine ik_goto C 37 dX7_steps_99 (by decide) ?_
                      exact ik_sub [0, 1, 2, 3, 4, 5] [(5, .int (x5_37 + (1 : Int32))), (4, .int (x4_37 ||| ((1 : Int32) <<< (x5_37 &&& 31)))), (3, .int x3_23), (2, .int x2_23), (0, .ref h0), (1, .int x1)] rfl (ih_37 (x4_37 ||| ((1 : Int32) <<< (x5_37 &&& 31))) (x5_37 + (1 : Int32)) hf)
          exact hL_37 ik_fu (0 : Int32) (0 : Int32) hf
    exact hL_23 ik_fu mfound (0 : Int32) (0 : Int32) hf
  · have hf := ik_pos hc hf
    refine ik_aload_n C 0 rfl rfl dX7_steps_12 ?_
    refine ik_ldc C wl_6_14 dX7_steps_13 ?_
    obtain ⟨r2, g3, hc3, hf⟩ := ik_b2s hf
    have hM := (c_X7_finds l D cI cS h0 h1 h2 h3 h4 h5 h6 h7 h8 h9 h10 h11 misKept mtaped msort mfrom mto mvalue mbad mm mkept mwas mother mfound mwarm mdrip mtape mbits msize mnumber (-1000001 : Int32) r2 g3 hc3)
    refine ik_goW (v := (some (.int r2))) (wc := (wz_X7 cI cS h0 h1 h2 h3 h4 h5 h6 h7 h8 h9 h10 h11 misKept mtaped msort mfrom mto mvalue mbad mm mkept mwas mother mfound mwarm mdrip mtape mbits msize mnumber)) (w1 := (wz_X7 cI cS h0 h1 h2 h3 h4 h5 h6 h7 h8 h9 h10 h11 misKept mtaped msort mfrom mto mvalue mbad mm mkept mwas mother g3 mwarm mdrip mtape mbits msize mnumber)) [0, 1, 2, 3, 4, 5, 6, 7, 8, 9, 10, 11] [] 12 rfl rfl (wz_X7 cI cS h0 h1 h2 h3 h4 h5 h6 h7 h8 h9 h10 h11 misKept mtaped msort mfrom mto mvalue mbad mm mkept mwas mother g3 mwarm mdrip mtape mbits msize mnumber) rfl [] rfl rfl rfl (by decide +kernel) (ik_runV (st := []) (As := [.int (-1000001 : Int32)]) C hM mv_X7_finds wl_7_8 ⟨rfl, rfl, Nat.le_of_ble_eq_true rfl, Nat.le_of_ble_eq_true rfl⟩ [0, 1, 2, 3, 4, 5, 6, 7, 8, 9, 10, 11] rfl (by decide +kernel) 0 rfl rfl rfl rfl (Nat.le_of_ble_eq_true rfl) dX7_steps_15 ⟨Nat.zero_le _, Nat.zero_le _⟩) rfl ?_
    obtain ⟨rfl, rfl⟩ := ik_e2 hf
    exact ik_iretW C hr hlk dX7_steps_18
theorem mv_X7_shaken : ik_V yX7_shaken RX7 cX7_shaken 4 (some .int) 1 := ⟨wl_32_6, wl_32_7, wl_1_5, wl_32_8, by decide +kernel⟩
set_option maxHeartbeats 4000000 in
set_option maxRecDepth 100000 in
theorem c_X7_shaken (l : Launch) (D : va_G) (cI cS : ClassId) (h0 h1 h2 h3 h4 h5 h6 h7 h8 h9 h10 h11 : Nat) (misKept : Int32) (mtaped : Int32) (msort : Int32) (mfrom : Int32) (mto : Int32) (mvalue : Int32) (mbad : Int32) (mm : Nat → Int32) (mkept : Nat → Int32) (mwas : Nat → Int32) (mother : Nat → Int32) (mfound : Nat → Int32) (mwarm : Nat → Int32) (mdrip : Nat → Int32) (mtape : Nat → Int32) (mbits : Nat → Int32) (msize : Nat → Int32) (mnumber : Nat → Int32) (x1 : Int32) (R : Int32) (hf : f_X7_shaken mm x1 = some (R)) : Met l yX7_shaken (ik_ws yX7_shaken cX7_shaken 4 (some .int)) ({ frames := 2, cells := 0, slots := 0, locals := 42 } : Room) (ik_P D cI cS [.ref h0, .int x1] (wz_X7 cI cS h0 h1 h2 h3 h4 h5 h6 h7 h8 h9 h10 h11 misKept mtaped msort mfrom mto mvalue mbad mm mkept mwas mother mfound mwarm mdrip mtape mbits msize mnumber)) (ik_R (some (.int R))) 0 0 ik_no := by
  refine ik_metR RX7 rfl (by decide) (Nat.le_of_ble_eq_true rfl) [(0, .ref h0), (1, .int x1)] rfl ?_
  intro p e s m below meth c C hr hlk
  unfold f_X7_shaken at hf
  refine ik_iconst (v := (0 : Int32)) C (by decide) dX7_shaken_0 ?_
  refine ik_istore_n C [(2, .int (0 : Int32)), (0, .ref h0), (1, .int x1)] rfl (by decide) rfl dX7_shaken_1 ?_
  refine ik_iconst (v := (0 : Int32)) C (by decide) dX7_shaken_2 ?_
  refine ik_istore_n C [(3, .int (0 : Int32)), (2, .int (0 : Int32)), (0, .ref h0), (1, .int x1)] rfl (by decide) rfl dX7_shaken_3 ?_
  have hL_4 : ∀ (n_4 : Nat) (x2_4 : Int32) (x3_4 : Int32), ik_lp2 (b_X7_shaken_4 mm x1) n_4 x2_4 x3_4 = some (R) → ik_G p l e ({ frames := 2, cells := 0, slots := 0, locals := 42 } : Room) s m ([.ref h0, .int x1] : List Value).toArray below meth c D ik_no (fun _ => True) 4 0 0 (MQ below (ik_R (some (.int R))) ([.ref h0, .int x1] : List Value).toArray s 0 0 ik_no) 4 [(3, .int x3_4), (2, .int x2_4), (0, .ref h0), (1, .int x1)] [] (wz_X7 cI cS h0 h1 h2 h3 h4 h5 h6 h7 h8 h9 h10 h11 misKept mtaped msort mfrom mto mvalue mbad mm mkept mwas mother mfound mwarm mdrip mtape mbits msize mnumber) := by
    intro n_4
    induction n_4 with
    | zero => intro _ _ hf; exact nomatch hf
    | succ n_4 ih_4 =>
      intro x2_4 x3_4 hf
      replace hf : b_X7_shaken_4 mm x1 (ik_lp2 (b_X7_shaken_4 mm x1) n_4) x2_4 x3_4 = some (R) := hf
      unfold b_X7_shaken_4 at hf
      refine ik_iload_n C 0 rfl rfl dX7_shaken_4 ?_
      refine ik_aload_n C 2 rfl rfl dX7_shaken_5 ?_
      refine ik_get C inlX7 0 rfl rfl 0 (by decide) wl_4_12 rfl (v := .ref h1) rfl dX7_shaken_6 ?_
      refine ik_iconst (v := (5 : Int32)) C (by decide) dX7_shaken_9 ?_
      refine ik_iald C 1 rfl (ik_vin (by decide)) dX7_shaken_10 ?_
      refine ik_icmp_ge C 48 dX7_shaken_11 (by decide) (fun hc => ?_) (fun hc => ?_)
      · have hf := ik_pos hc hf
        refine ik_iload_n C 1 rfl rfl dX7_shaken_48 ?_
        obtain rfl := Option.some.inj hf
        exact ik_iretR C hr hlk dX7_shaken_49
      · have hf := ik_neg hc hf
        refine ik_iload_n C 1 rfl rfl dX7_shaken_14 ?_
        refine ik_aload_n C 2 rfl rfl dX7_shaken_15 ?_
        refine ik_iload_n C 0 rfl rfl dX7_shaken_16 ?_
        obtain ⟨r1, hc1, hf⟩ := ik_b1s hf
        have hM := (c_X7_isGone l D cI cS h0 h1 h2 h3 h4 h5 h6 h7 h8 h9 h10 h11 misKept mtaped msort mfrom mto mvalue mbad mm mkept mwas mother mfound mwarm mdrip mtape mbits msize mnumber x3_4 r1 hc1)
        refine ik_goR (ik_runV (st := [.int x2_4]) (As := [.int x3_4]) C hM mv_X7_isGone wl_10_5 ⟨rfl, rfl, Nat.le_of_ble_eq_true rfl, Nat.le_of_ble_eq_true rfl⟩ [0, 1, 2, 3, 4, 5, 6, 7, 8, 9, 10, 11] rfl (by decide +kernel) 0 rfl rfl rfl rfl (Nat.le_of_ble_eq_true rfl) dX7_shaken_17 ⟨Nat.zero_le _, Nat.zero_le _⟩) rfl ?_
        refine ik_if_ne C 39 dX7_shaken_20 (by decide) (fun hc => ?_) (fun hc => ?_)
        · have hf := ik_neg hc hf
          refine ik_iconst (v := (0 : Int32)) C (by decide) dX7_shaken_39 ?_
          refine ik_ior C dX7_shaken_40 ?_
          refine ik_istore_n C [(2, .int (x2_4 ||| (0 : Int32))), (3, .int x3_4), (0, .ref h0), (1, .int x1)] rfl (by decide) rfl dX7_shaken_41 ?_
          refine ik_iinc C [(3, .int (x3_4 + (1 : Int32))), (2, .int (x2_4 ||| (0 : Int32))), (0, .ref h0), (1, .int x1)] 1 rfl rfl (by decide) rfl dX7_shaken_42 ?_
          refine ik_goto C 4 dX7_shaken_45 (by decide) ?_
          exact ik_sub [0, 1, 2, 3] [(3, .int (x3_4 + (1 : Int32))), (2, .int (x2_4 ||| (0 : Int32))), (0, .ref h0), (1, .int x1)] rfl (ih_4 (x2_4 ||| (0 : Int32)) (x3_4 + (1 : Int32)) hf)
        · have hf := ik_pos hc hf
          refine ik_aload_n C 2 rfl rfl dX7_shaken_23 ?_
          refine ik_iload_n C 0 rfl rfl dX7_shaken_24 ?_
          obtain ⟨r2, hc2, hf⟩ := ik_b1s hf
          have hM := (c_X7_grains l D cI cS h0 h1 h2 h3 h4 h5 h6 h7 h8 h9 h10 h11 misKept mtaped msort mfrom mto mvalue mbad mm mkept mwas mother mfound mwarm mdrip mtape mbits msize mnumber x3_4 r2 hc2)
          refine ik_goR (ik_runV (st := [.int x2_4]) (As := [.int x3_4]) C hM mv_X7_grains wl_10_1 ⟨rfl, rfl, Nat.le_of_ble_eq_true rfl, Nat.le_of_ble_eq_true rfl⟩ [0, 1, 2, 3, 4, 5, 6, 7, 8, 9, 10, 11] rfl (by decide +kernel) 0 rfl rfl rfl rfl (Nat.le_of_ble_eq_true rfl) dX7_shaken_25 ⟨Nat.zero_le _, Nat.zero_le _⟩) rfl ?_
          refine ik_iload_n C 3 rfl rfl dX7_shaken_28 ?_
          have hg := ik_gni hf
          have hf := ik_gnk hf
          refine ik_irem C hg dX7_shaken_29 ?_
          refine ik_if_ne C 39 dX7_shaken_30 (by decide) (fun hc => ?_) (fun hc => ?_)
          · have hf := ik_neg hc hf
            refine ik_iconst (v := (0 : Int32)) C (by decide) dX7_shaken_39 ?_
            refine ik_ior C dX7_shaken_40 ?_
            refine ik_istore_n C [(2, .int (x2_4 ||| (0 : Int32))), (3, .int x3_4), (0, .ref h0), (1, .int x1)] rfl (by decide) rfl dX7_shaken_41 ?_
            refine ik_iinc C [(3, .int (x3_4 + (1 : Int32))), (2, .int (x2_4 ||| (0 : Int32))), (0, .ref h0), (1, .int x1)] 1 rfl rfl (by decide) rfl dX7_shaken_42 ?_
            refine ik_goto C 4 dX7_shaken_45 (by decide) ?_
            exact ik_sub [0, 1, 2, 3] [(3, .int (x3_4 + (1 : Int32))), (2, .int (x2_4 ||| (0 : Int32))), (0, .ref h0), (1, .int x1)] rfl (ih_4 (x2_4 ||| (0 : Int32)) (x3_4 + (1 : Int32)) hf)
          · have hf := ik_pos hc hf
            refine ik_iconst (v := (1 : Int32)) C (by decide) dX7_shaken_33 ?_
            refine ik_iload_n C 0 rfl rfl dX7_shaken_34 ?_
            refine ik_ishl C dX7_shaken_35 ?_
            refine ik_goto C 40 dX7_shaken_36 (by decide) ?_
            refine ik_ior C dX7_shaken_40 ?_
            refine ik_istore_n C [(2, .int (x2_4 ||| ((1 : Int32) <<< (x3_4 &&& 31)))), (3, .int x3_4), (0, .ref h0), (1, .int x1)] rfl (by decide) rfl dX7_shaken_41 ?_
            refine ik_iinc C [(3, .int (x3_4 + (1 : Int32))), (2, .int (x2_4 ||| ((1 : Int32) <<< (x3_4 &&& 31)))), (0, .ref h0), (1, .int x1)] 1 rfl rfl (by decide) rfl dX7_shaken_42 ?_
            refine ik_goto C 4 dX7_shaken_45 (by decide) ?_
            exact ik_sub [0, 1, 2, 3] [(3, .int (x3_4 + (1 : Int32))), (2, .int (x2_4 ||| ((1 : Int32) <<< (x3_4 &&& 31)))), (0, .ref h0), (1, .int x1)] rfl (ih_4 (x2_4 ||| ((1 : Int32) <<< (x3_4 &&& 31))) (x3_4 + (1 : Int32)) hf)
  exact hL_4 ik_fu (0 : Int32) (0 : Int32) hf
theorem ms_X7_isTune : ik_S yX7_isTune RX7 cX7_isTune 1 (some .boolean) 1 := ⟨wl_32_1, wl_1_5, wl_32_2, by decide +kernel⟩
set_option maxHeartbeats 4000000 in
set_option maxRecDepth 100000 in
theorem c_X7_isTune (l : Launch) (D : va_G) (cI cS : ClassId) (x0 : Int32) (R : Int32) (hf : f_X7_isTune x0 = some (R)) : Met l yX7_isTune (ik_ws yX7_isTune cX7_isTune 1 (some .boolean)) ({ frames := 1, cells := 0, slots := 0, locals := 25 } : Room) (ik_P D cI cS [.int x0] (wz_none cI cS)) (ik_R (some (.int R))) 0 0 ik_no := by
  refine ik_metR RX7 rfl (by decide) (Nat.le_of_ble_eq_true rfl) [(0, .int x0)] rfl ?_
  intro p e s m below meth c C hr hlk
  unfold f_X7_isTune at hf
  refine ik_iload_n C 0 rfl rfl dX7_isTune_0 ?_
  refine ik_i2l C dX7_isTune_1 ?_
  refine ik_ldc2 C wl_32_3 dX7_isTune_2 ?_
  refine ik_ldc2 C wl_32_4 dX7_isTune_5 ?_
  obtain ⟨r1, hc1, hf⟩ := ik_b1s hf
  have hM := (c_X7_in l D cI cS (x0).toInt64 (2 : Int64) (9 : Int64) r1 hc1)
  refine ik_goR (ik_runS (st := []) (As := [.long (x0).toInt64, .long (2 : Int64), .long (9 : Int64)]) C hM ms_X7_in wl_6_21 ⟨rfl, rfl, Nat.le_of_ble_eq_true rfl, Nat.le_of_ble_eq_true rfl⟩ [] rfl (by decide +kernel) rfl rfl (Nat.le_of_ble_eq_true rfl) dX7_isTune_8 ⟨Nat.zero_le _, Nat.zero_le _⟩) rfl ?_
  have hz := ik_gzi hf
  have hf := ik_gzk hf
  obtain rfl := Option.some.inj hf
  exact ik_zretR C hr hz.1 hlk dX7_isTune_11
theorem mv_X7_shakes : ik_V yX7_shakes RX7 cX7_shakes 2 (some .int) 1 := ⟨wl_31_21, wl_31_22, wl_1_5, wl_31_23, by decide +kernel⟩
set_option maxHeartbeats 4000000 in
set_option maxRecDepth 100000 in
theorem c_X7_shakes (l : Launch) (D : va_G) (cI cS : ClassId) (h0 h1 h2 h3 h4 h5 h6 h7 h8 h9 h10 h11 : Nat) (misKept : Int32) (mtaped : Int32) (msort : Int32) (mfrom : Int32) (mto : Int32) (mvalue : Int32) (mbad : Int32) (mm : Nat → Int32) (mkept : Nat → Int32) (mwas : Nat → Int32) (mother : Nat → Int32) (mfound : Nat → Int32) (mwarm : Nat → Int32) (mdrip : Nat → Int32) (mtape : Nat → Int32) (mbits : Nat → Int32) (msize : Nat → Int32) (mnumber : Nat → Int32) (x1 : Int32) (R : Int32) (mfound_r : Nat → Int32) (hf : f_X7_shakes mm mfound x1 = some (R, mfound_r)) : Met l yX7_shakes (ik_ws yX7_shakes cX7_shakes 2 (some .int)) ({ frames := 3, cells := 0, slots := 0, locals := 65 } : Room) (ik_P D cI cS [.ref h0, .int x1] (wz_X7 cI cS h0 h1 h2 h3 h4 h5 h6 h7 h8 h9 h10 h11 misKept mtaped msort mfrom mto mvalue mbad mm mkept mwas mother mfound mwarm mdrip mtape mbits msize mnumber)) (ik_Q (some (.int R)) D (wz_X7 cI cS h0 h1 h2 h3 h4 h5 h6 h7 h8 h9 h10 h11 misKept mtaped msort mfrom mto mvalue mbad mm mkept mwas mother mfound_r mwarm mdrip mtape mbits msize mnumber) (wz_X7 cI cS h0 h1 h2 h3 h4 h5 h6 h7 h8 h9 h10 h11 misKept mtaped msort mfrom mto mvalue mbad mm mkept mwas mother mfound mwarm mdrip mtape mbits msize mnumber)) 0 0 (ik_in (wz_X7 cI cS h0 h1 h2 h3 h4 h5 h6 h7 h8 h9 h10 h11 misKept mtaped msort mfrom mto mvalue mbad mm mkept mwas mother mfound mwarm mdrip mtape mbits msize mnumber)) := by
  refine ik_metW RX7 rfl (by decide) (Nat.le_of_ble_eq_true rfl) [(0, .ref h0), (1, .int x1)] rfl ?_
  intro p e s m below meth c C hr hlk
  unfold f_X7_shakes at hf
  refine ik_iload_n C 1 rfl rfl dX7_shakes_0 ?_
  obtain ⟨r1, hc1, hf⟩ := ik_b1s hf
  have hM := (c_X7_isTune l D cI cS x1 r1 hc1)
  refine ik_goR (ik_runS (st := []) (As := [.int x1]) C hM ms_X7_isTune wl_32_0 ⟨rfl, rfl, Nat.le_of_ble_eq_true rfl, Nat.le_of_ble_eq_true rfl⟩ [] rfl (by decide +kernel) rfl rfl (Nat.le_of_ble_eq_true rfl) dX7_shakes_1 ⟨Nat.zero_le _, Nat.zero_le _⟩) rfl ?_
  refine ik_if_eq C 15 dX7_shakes_4 (by decide) (fun hc => ?_) (fun hc => ?_)
  · have hf := ik_pos hc hf
    refine ik_aload_n C 0 rfl rfl dX7_shakes_15 ?_
    refine ik_ldc C wl_6_14 dX7_shakes_16 ?_
    obtain ⟨r2, g3, hc3, hf⟩ := ik_b2s hf
    have hM := (c_X7_finds l D cI cS h0 h1 h2 h3 h4 h5 h6 h7 h8 h9 h10 h11 misKept mtaped msort mfrom mto mvalue mbad mm mkept mwas mother mfound mwarm mdrip mtape mbits msize mnumber (-1000001 : Int32) r2 g3 hc3)
    refine ik_goW (v := (some (.int r2))) (wc := (wz_X7 cI cS h0 h1 h2 h3 h4 h5 h6 h7 h8 h9 h10 h11 misKept mtaped msort mfrom mto mvalue mbad mm mkept mwas mother mfound mwarm mdrip mtape mbits msize mnumber)) (w1 := (wz_X7 cI cS h0 h1 h2 h3 h4 h5 h6 h7 h8 h9 h10 h11 misKept mtaped msort mfrom mto mvalue mbad mm mkept mwas mother g3 mwarm mdrip mtape mbits msize mnumber)) [0, 1, 2, 3, 4, 5, 6, 7, 8, 9, 10, 11] [] 12 rfl rfl (wz_X7 cI cS h0 h1 h2 h3 h4 h5 h6 h7 h8 h9 h10 h11 misKept mtaped msort mfrom mto mvalue mbad mm mkept mwas mother g3 mwarm mdrip mtape mbits msize mnumber) rfl [] rfl rfl rfl (by decide +kernel) (ik_runV (st := []) (As := [.int (-1000001 : Int32)]) C hM mv_X7_finds wl_7_8 ⟨rfl, rfl, Nat.le_of_ble_eq_true rfl, Nat.le_of_ble_eq_true rfl⟩ [0, 1, 2, 3, 4, 5, 6, 7, 8, 9, 10, 11] rfl (by decide +kernel) 0 rfl rfl rfl rfl (Nat.le_of_ble_eq_true rfl) dX7_shakes_18 ⟨Nat.zero_le _, Nat.zero_le _⟩) rfl ?_
    obtain ⟨rfl, rfl⟩ := ik_e2 hf
    exact ik_iretW C hr hlk dX7_shakes_21
  · have hf := ik_neg hc hf
    refine ik_aload_n C 0 rfl rfl dX7_shakes_7 ?_
    refine ik_iload_n C 1 rfl rfl dX7_shakes_8 ?_
    obtain ⟨r2, hc2, hf⟩ := ik_b1s hf
    have hM := (c_X7_shaken l D cI cS h0 h1 h2 h3 h4 h5 h6 h7 h8 h9 h10 h11 misKept mtaped msort mfrom mto mvalue mbad mm mkept mwas mother mfound mwarm mdrip mtape mbits msize mnumber x1 r2 hc2)
    refine ik_goR (ik_runV (st := []) (As := [.int x1]) C hM mv_X7_shaken wl_32_5 ⟨rfl, rfl, Nat.le_of_ble_eq_true rfl, Nat.le_of_ble_eq_true rfl⟩ [0, 1, 2, 3, 4, 5, 6, 7, 8, 9, 10, 11] rfl (by decide +kernel) 0 rfl rfl rfl rfl (Nat.le_of_ble_eq_true rfl) dX7_shakes_9 ⟨Nat.zero_le _, Nat.zero_le _⟩) rfl ?_
    refine ik_goto C 21 dX7_shakes_12 (by decide) ?_
    obtain ⟨rfl, rfl⟩ := ik_e2 hf
    exact ik_iretW C hr hlk dX7_shakes_21
theorem mv_X7_danced : ik_V yX7_danced RX7 cX7_danced 5 (some .int) 1 := ⟨wl_32_23, wl_33_0, wl_1_5, wl_33_1, by decide +kernel⟩
set_option maxHeartbeats 4000000 in
set_option maxRecDepth 100000 in
theorem c_X7_danced (l : Launch) (D : va_G) (cI cS : ClassId) (h0 h1 h2 h3 h4 h5 h6 h7 h8 h9 h10 h11 : Nat) (misKept : Int32) (mtaped : Int32) (msort : Int32) (mfrom : Int32) (mto : Int32) (mvalue : Int32) (mbad : Int32) (mm : Nat → Int32) (mkept : Nat → Int32) (mwas : Nat → Int32) (mother : Nat → Int32) (mfound : Nat → Int32) (mwarm : Nat → Int32) (mdrip : Nat → Int32) (mtape : Nat → Int32) (mbits : Nat → Int32) (msize : Nat → Int32) (mnumber : Nat → Int32) (x1 : Int32) (R : Int32) (mm_r : Nat → Int32) (hf : f_X7_danced mm x1 = some (R, mm_r)) : Met l yX7_danced (ik_ws yX7_danced cX7_danced 5 (some .int)) ({ frames := 7, cells := 0, slots := 0, locals := 159 } : Room) (ik_P D cI cS [.ref h0, .int x1] (wz_X7 cI cS h0 h1 h2 h3 h4 h5 h6 h7 h8 h9 h10 h11 misKept mtaped msort mfrom mto mvalue mbad mm mkept mwas mother mfound mwarm mdrip mtape mbits msize mnumber)) (ik_Q (some (.int R)) D (wz_X7 cI cS h0 h1 h2 h3 h4 h5 h6 h7 h8 h9 h10 h11 misKept mtaped msort mfrom mto mvalue mbad mm_r mkept mwas mother mfound mwarm mdrip mtape mbits msize mnumber) (wz_X7 cI cS h0 h1 h2 h3 h4 h5 h6 h7 h8 h9 h10 h11 misKept mtaped msort mfrom mto mvalue mbad mm mkept mwas mother mfound mwarm mdrip mtape mbits msize mnumber)) 0 0 (ik_in (wz_X7 cI cS h0 h1 h2 h3 h4 h5 h6 h7 h8 h9 h10 h11 misKept mtaped msort mfrom mto mvalue mbad mm mkept mwas mother mfound mwarm mdrip mtape mbits msize mnumber)) := by
  refine ik_metW RX7 rfl (by decide) (Nat.le_of_ble_eq_true rfl) [(0, .ref h0), (1, .int x1)] rfl ?_
  intro p e s m below meth c C hr hlk
  unfold f_X7_danced at hf
  refine ik_aload_n C 0 rfl rfl dX7_danced_0 ?_
  obtain ⟨r1, hc1, hf⟩ := ik_b1s hf
  have hM := (c_X7_goneNow l D cI cS h0 h1 h2 h3 h4 h5 h6 h7 h8 h9 h10 h11 misKept mtaped msort mfrom mto mvalue mbad mm mkept mwas mother mfound mwarm mdrip mtape mbits msize mnumber r1 hc1)
  refine ik_goR (ik_runV (st := []) (As := []) C hM mv_X7_goneNow wl_20_14 ⟨rfl, rfl, Nat.le_of_ble_eq_true rfl, Nat.le_of_ble_eq_true rfl⟩ [0, 1, 2, 3, 4, 5, 6, 7, 8, 9, 10, 11] rfl (by decide +kernel) 0 rfl rfl rfl rfl (Nat.le_of_ble_eq_true rfl) dX7_danced_1 ⟨Nat.zero_le _, Nat.zero_le _⟩) rfl ?_
  refine ik_istore_n C [(2, .int r1), (0, .ref h0), (1, .int x1)] rfl (by decide) rfl dX7_danced_4 ?_
  refine ik_aload_n C 1 rfl rfl dX7_danced_5 ?_
  refine ik_iload_n C 2 rfl rfl dX7_danced_6 ?_
  obtain ⟨r2, hc2, hf⟩ := ik_b1s hf
  have hM := (c_X7_shaken l D cI cS h0 h1 h2 h3 h4 h5 h6 h7 h8 h9 h10 h11 misKept mtaped msort mfrom mto mvalue mbad mm mkept mwas mother mfound mwarm mdrip mtape mbits msize mnumber x1 r2 hc2)
  refine ik_goR (ik_runV (st := []) (As := [.int x1]) C hM mv_X7_shaken wl_32_5 ⟨rfl, rfl, Nat.le_of_ble_eq_true rfl, Nat.le_of_ble_eq_true rfl⟩ [0, 1, 2, 3, 4, 5, 6, 7, 8, 9, 10, 11] rfl (by decide +kernel) 0 rfl rfl rfl rfl (Nat.le_of_ble_eq_true rfl) dX7_danced_7 ⟨Nat.zero_le _, Nat.zero_le _⟩) rfl ?_
  refine ik_istore_n C [(3, .int r2), (2, .int r1), (0, .ref h0), (1, .int x1)] rfl (by decide) rfl dX7_danced_10 ?_
  refine ik_iconst (v := (0 : Int32)) C (by decide) dX7_danced_11 ?_
  refine ik_istore C [(4, .int (0 : Int32)), (3, .int r2), (2, .int r1), (0, .ref h0), (1, .int x1)] (by decide) rfl dX7_danced_12 ?_
  have hL_14 : ∀ (n_14 : Nat) (mm_14 : Nat → Int32) (x4_14 : Int32), ik_lp2 (b_X7_danced_14 r1 r2) n_14 mm_14 x4_14 = some (R, mm_r) → ik_G p l e ({ frames := 7, cells := 0, slots := 0, locals := 159 } : Room) s m ([.ref h0, .int x1] : List Value).toArray below meth c D (ik_in (wz_X7 cI cS h0 h1 h2 h3 h4 h5 h6 h7 h8 h9 h10 h11 misKept mtaped msort mfrom mto mvalue mbad mm mkept mwas mother mfound mwarm mdrip mtape mbits msize mnumber)) (ik_in (wz_X7 cI cS h0 h1 h2 h3 h4 h5 h6 h7 h8 h9 h10 h11 misKept mtaped msort mfrom mto mvalue mbad mm mkept mwas mother mfound mwarm mdrip mtape mbits msize mnumber)) 5 0 0 (MQ below (ik_Q (some (.int R)) D (wz_X7 cI cS h0 h1 h2 h3 h4 h5 h6 h7 h8 h9 h10 h11 misKept mtaped msort mfrom mto mvalue mbad mm_r mkept mwas mother mfound mwarm mdrip mtape mbits msize mnumber) (wz_X7 cI cS h0 h1 h2 h3 h4 h5 h6 h7 h8 h9 h10 h11 misKept mtaped msort mfrom mto mvalue mbad mm mkept mwas mother mfound mwarm mdrip mtape mbits msize mnumber)) ([.ref h0, .int x1] : List Value).toArray s 0 0 (ik_in (wz_X7 cI cS h0 h1 h2 h3 h4 h5 h6 h7 h8 h9 h10 h11 misKept mtaped msort mfrom mto mvalue mbad mm mkept mwas mother mfound mwarm mdrip mtape mbits msize mnumber))) 14 [(4, .int x4_14), (3, .int r2), (2, .int r1), (0, .ref h0), (1, .int x1)] [] (wz_X7 cI cS h0 h1 h2 h3 h4 h5 h6 h7 h8 h9 h10 h11 misKept mtaped msort mfrom mto mvalue mbad mm_14 mkept mwas mother mfound mwarm mdrip mtape mbits msize mnumber) := by
    intro n_14
    induction n_14 with
    | zero => intro _ _ hf; exact nomatch hf
    | succ n_14 ih_14 =>
      intro mm_14 x4_14 hf
      replace hf : b_X7_danced_14 r1 r2 (ik_lp2 (b_X7_danced_14 r1 r2) n_14) mm_14 x4_14 = some (R, mm_r) := hf
      unfold b_X7_danced_14 at hf
      refine ik_iload C 0 rfl dX7_danced_14 ?_
      refine ik_aload_n C 3 rfl rfl dX7_danced_16 ?_
      refine ik_get C inlX7 0 rfl rfl 0 (by decide) wl_4_12 rfl (v := .ref h1) rfl dX7_danced_17 ?_
      refine ik_iconst (v := (5 : Int32)) C (by decide) dX7_danced_20 ?_
      refine ik_iald C 1 rfl (ik_vin (by decide)) dX7_danced_21 ?_
      refine ik_icmp_ge C 67 dX7_danced_22 (by decide) (fun hc => ?_) (fun hc => ?_)
      · have hf := ik_pos hc hf
        refine ik_aload_n C 3 rfl rfl dX7_danced_67 ?_
        obtain ⟨g3, hc3, hf⟩ := ik_b1s hf
        have hM := (c_X7_emptyGo l D cI cS h0 h1 h2 h3 h4 h5 h6 h7 h8 h9 h10 h11 misKept mtaped msort mfrom mto mvalue mbad mm_14 mkept mwas mother mfound mwarm mdrip mtape mbits msize mnumber g3 hc3)
        refine ik_goW (v := none) (wc := (wz_X7 cI cS h0 h1 h2 h3 h4 h5 h6 h7 h8 h9 h10 h11 misKept mtaped msort mfrom mto mvalue mbad mm_14 mkept mwas mother mfound mwarm mdrip mtape mbits msize mnumber)) (w1 := (wz_X7 cI cS h0 h1 h2 h3 h4 h5 h6 h7 h8 h9 h10 h11 misKept mtaped msort mfrom mto mvalue mbad g3 mkept mwas mother mfound mwarm mdrip mtape mbits msize mnumber)) [0, 1, 2, 3, 4, 5, 6, 7, 8, 9, 10, 11] [] 12 rfl rfl (wz_X7 cI cS h0 h1 h2 h3 h4 h5 h6 h7 h8 h9 h10 h11 misKept mtaped msort mfrom mto mvalue mbad g3 mkept mwas mother mfound mwarm mdrip mtape mbits msize mnumber) rfl [] rfl rfl rfl (by decide +kernel) (ik_runV (st := []) (As := []) C hM mv_X7_emptyGo wl_21_6 ⟨rfl, rfl, Nat.le_of_ble_eq_true rfl, Nat.le_of_ble_eq_true rfl⟩ [0, 1, 2, 3, 4, 5, 6, 7, 8, 9, 10, 11] rfl (by decide +kernel) 0 rfl rfl rfl rfl (Nat.le_of_ble_eq_true rfl) dX7_danced_68 ⟨Nat.zero_le _, Nat.zero_le _⟩) rfl ?_
        refine ik_aload_n C 3 rfl rfl dX7_danced_71 ?_
        obtain ⟨g4, hc4, hf⟩ := ik_b1s hf
        have hM := (c_X7_falls l D cI cS h0 h1 h2 h3 h4 h5 h6 h7 h8 h9 h10 h11 misKept mtaped msort mfrom mto mvalue mbad g3 mkept mwas mother mfound mwarm mdrip mtape mbits msize mnumber g4 hc4)
        refine ik_goW (v := none) (wc := (wz_X7 cI cS h0 h1 h2 h3 h4 h5 h6 h7 h8 h9 h10 h11 misKept mtaped msort mfrom mto mvalue mbad g3 mkept mwas mother mfound mwarm mdrip mtape mbits msize mnumber)) (w1 := (wz_X7 cI cS h0 h1 h2 h3 h4 h5 h6 h7 h8 h9 h10 h11 misKept mtaped msort mfrom mto mvalue mbad g4 mkept mwas mother mfound mwarm mdrip mtape mbits msize mnumber)) [0, 1, 2, 3, 4, 5, 6, 7, 8, 9, 10, 11] [] 12 rfl rfl (wz_X7 cI cS h0 h1 h2 h3 h4 h5 h6 h7 h8 h9 h10 h11 misKept mtaped msort mfrom mto mvalue mbad g4 mkept mwas mother mfound mwarm mdrip mtape mbits msize mnumber) rfl [] rfl rfl rfl (by decide +kernel) (ik_runV (st := []) (As := []) C hM mv_X7_falls wl_21_10 ⟨rfl, rfl, Nat.le_of_ble_eq_true rfl, Nat.le_of_ble_eq_true rfl⟩ [0, 1, 2, 3, 4, 5, 6, 7, 8, 9, 10, 11] rfl (by decide +kernel) 0 rfl rfl rfl rfl (Nat.le_of_ble_eq_true rfl) dX7_danced_72 ⟨Nat.zero_le _, Nat.zero_le _⟩) rfl ?_
        refine ik_aload_n C 3 rfl rfl dX7_danced_75 ?_
        obtain ⟨r5, hc5, hf⟩ := ik_b1s hf
        have hM := (c_X7_goneNow l D cI cS h0 h1 h2 h3 h4 h5 h6 h7 h8 h9 h10 h11 misKept mtaped msort mfrom mto mvalue mbad g4 mkept mwas mother mfound mwarm mdrip mtape mbits msize mnumber r5 hc5)
        refine ik_goR (ik_runV (st := []) (As := []) C hM mv_X7_goneNow wl_20_14 ⟨rfl, rfl, Nat.le_of_ble_eq_true rfl, Nat.le_of_ble_eq_true rfl⟩ [0, 1, 2, 3, 4, 5, 6, 7, 8, 9, 10, 11] rfl (by decide +kernel) 0 rfl rfl rfl rfl (Nat.le_of_ble_eq_true rfl) dX7_danced_76 ⟨Nat.zero_le _, Nat.zero_le _⟩) rfl ?_
        refine ik_iload_n C 2 rfl rfl dX7_danced_79 ?_
        refine ik_iconst (v := (-1 : Int32)) C (by decide) dX7_danced_80 ?_
        refine ik_ixor C dX7_danced_81 ?_
        refine ik_iand C dX7_danced_82 ?_
        obtain ⟨r6, hc6, hf⟩ := ik_b1s hf
        have hM := (c_X7_many l D cI cS (r5 &&& (r1 ^^^ (-1 : Int32))) r6 hc6)
        refine ik_goR (ik_runS (st := []) (As := [.int (r5 &&& (r1 ^^^ (-1 : Int32)))]) C hM ms_X7_many wl_21_22 ⟨rfl, rfl, Nat.le_of_ble_eq_true rfl, Nat.le_of_ble_eq_true rfl⟩ [] rfl (by decide +kernel) rfl rfl (Nat.le_of_ble_eq_true rfl) dX7_danced_83 ⟨Nat.zero_le _, Nat.zero_le _⟩) rfl ?_
        obtain ⟨rfl, rfl⟩ := ik_e2 hf
        exact ik_iretW C hr hlk dX7_danced_86
      · have hf := ik_neg hc hf
        refine ik_iload_n C 1 rfl rfl dX7_danced_25 ?_
        refine ik_iload C 0 rfl dX7_danced_26 ?_
        obtain ⟨r3, hc3, hf⟩ := ik_b1s hf
        have hM := (c_X7_has l D cI cS r2 x4_14 r3 hc3)
        refine ik_goR (ik_runS (st := []) (As := [.int r2, .int x4_14]) C hM ms_X7_has wl_11_0 ⟨rfl, rfl, Nat.le_of_ble_eq_true rfl, Nat.le_of_ble_eq_true rfl⟩ [] rfl (by decide +kernel) rfl rfl (Nat.le_of_ble_eq_true rfl) dX7_danced_28 ⟨Nat.zero_le _, Nat.zero_le _⟩) rfl ?_
        refine ik_if_ne C 37 dX7_danced_31 (by decide) (fun hc => ?_) (fun hc => ?_)
        · have hf := ik_neg hc hf
          refine ik_aload_n C 3 rfl rfl dX7_danced_37 ?_
          refine ik_iload C 0 rfl dX7_danced_38 ?_
          refine ik_aload_n C 3 rfl rfl dX7_danced_40 ?_
          refine ik_iload C 0 rfl dX7_danced_41 ?_
          obtain ⟨r4, hc4, hf⟩ := ik_b1s hf
          have hM := (c_X7_grains l D cI cS h0 h1 h2 h3 h4 h5 h6 h7 h8 h9 h10 h11 misKept mtaped msort mfrom mto mvalue mbad mm_14 mkept mwas mother mfound mwarm mdrip mtape mbits msize mnumber x4_14 r4 hc4)
          refine ik_goR (ik_runV (st := [.int x4_14, .ref h0]) (As := [.int x4_14]) C hM mv_X7_grains wl_10_1 ⟨rfl, rfl, Nat.le_of_ble_eq_true rfl, Nat.le_of_ble_eq_true rfl⟩ [0, 1, 2, 3, 4, 5, 6, 7, 8, 9, 10, 11] rfl (by decide +kernel) 0 rfl rfl rfl rfl (Nat.le_of_ble_eq_true rfl) dX7_danced_43 ⟨Nat.zero_le _, Nat.zero_le _⟩) rfl ?_
          refine ik_iconst (v := (1 : Int32)) C (by decide) dX7_danced_46 ?_
          refine ik_isub C dX7_danced_47 ?_
          obtain ⟨g5, hc5, hf⟩ := ik_b1s hf
          have hM := (c_X7_makes l D cI cS h0 h1 h2 h3 h4 h5 h6 h7 h8 h9 h10 h11 misKept mtaped msort mfrom mto mvalue mbad mm_14 mkept mwas mother mfound mwarm mdrip mtape mbits msize mnumber x4_14 (r4 - (1 : Int32)) g5 hc5)
          refine ik_goW (v := none) (wc := (wz_X7 cI cS h0 h1 h2 h3 h4 h5 h6 h7 h8 h9 h10 h11 misKept mtaped msort mfrom mto mvalue mbad mm_14 mkept mwas mother mfound mwarm mdrip mtape mbits msize mnumber)) (w1 := (wz_X7 cI cS h0 h1 h2 h3 h4 h5 h6 h7 h8 h9 h10 h11 misKept mtaped msort mfrom mto mvalue mbad g5 mkept mwas mother mfound mwarm mdrip mtape mbits msize mnumber)) [0, 1, 2, 3, 4, 5, 6, 7, 8, 9, 10, 11] [] 12 rfl rfl (wz_X7 cI cS h0 h1 h2 h3 h4 h5 h6 h7 h8 h9 h10 h11 misKept mtaped msort mfrom mto mvalue mbad g5 mkept mwas mother mfound mwarm mdrip mtape mbits msize mnumber) rfl [] rfl rfl rfl (by decide +kernel) (ik_runV (st := []) (As := [.int x4_14, .int (r4 - (1 : Int32))]) C hM mv_X7_makes wl_14_23 ⟨rfl, rfl, Nat.le_of_ble_eq_true rfl, Nat.le_of_ble_eq_true rfl⟩ [0, 1, 2, 3, 4, 5, 6, 7, 8, 9, 10, 11] rfl (by decide +kernel) 0 rfl rfl rfl rfl (Nat.le_of_ble_eq_true rfl) dX7_danced_48 ⟨Nat.zero_le _, Nat.zero_le _⟩) rfl ?_
          refine ik_aload_n C 3 rfl rfl dX7_danced_51 ?_
          refine ik_get C inlX7 0 rfl rfl 0 (by decide) wl_4_12 rfl (v := .ref h1) rfl dX7_danced_52 ?_
          refine ik_iconst (v := (2 : Int32)) C (by decide) dX7_danced_55 ?_
          refine ik_dup2 C rfl rfl dX7_danced_56 ?_
          refine ik_iald C 1 rfl (ik_vin (by decide)) dX7_danced_57 ?_
          refine ik_iconst (v := (1 : Int32)) C (by decide) dX7_danced_58 ?_
          refine ik_iadd C dX7_danced_59 ?_
          refine ik_iast C 1 rfl (ik_vin (by decide)) (wz_X7 cI cS h0 h1 h2 h3 h4 h5 h6 h7 h8 h9 h10 h11 misKept mtaped msort mfrom mto mvalue mbad (upd g5 ((2 : Int32)).toNatClampNeg ((g5 ((2 : Int32)).toNatClampNeg) + (1 : Int32))) mkept mwas mother mfound mwarm mdrip mtape mbits msize mnumber) rfl dX7_danced_60 ?_
          refine ik_iinc C [(4, .int (x4_14 + (1 : Int32))), (3, .int r2), (2, .int r1), (0, .ref h0), (1, .int x1)] 0 rfl rfl (by decide) rfl dX7_danced_61 ?_
          refine ik_goto C 14 dX7_danced_64 (by decide) ?_
          exact ik_sub [0, 1, 2, 3, 4] [(4, .int (x4_14 + (1 : Int32))), (3, .int r2), (2, .int r1), (0, .ref h0), (1, .int x1)] rfl (ih_14 (upd g5 ((2 : Int32)).toNatClampNeg ((g5 ((2 : Int32)).toNatClampNeg) + (1 : Int32))) (x4_14 + (1 : Int32)) hf)
        · have hf := ik_pos hc hf
          refine ik_goto C 61 dX7_danced_34 (by decide) ?_
          refine ik_iinc C [(4, .int (x4_14 + (1 : Int32))), (3, .int r2), (2, .int r1), (0, .ref h0), (1, .int x1)] 0 rfl rfl (by decide) rfl dX7_danced_61 ?_
          refine ik_goto C 14 dX7_danced_64 (by decide) ?_
          exact ik_sub [0, 1, 2, 3, 4] [(4, .int (x4_14 + (1 : Int32))), (3, .int r2), (2, .int r1), (0, .ref h0), (1, .int x1)] rfl (ih_14 mm_14 (x4_14 + (1 : Int32)) hf)
  exact hL_14 ik_fu mm (0 : Int32) hf
theorem mv_X7_dance : ik_V yX7_dance RX7 cX7_dance 2 (some .int) 1 := ⟨wl_32_19, wl_32_20, wl_1_5, wl_32_21, by decide +kernel⟩
set_option maxHeartbeats 4000000 in
set_option maxRecDepth 100000 in
theorem c_X7_dance (l : Launch) (D : va_G) (cI cS : ClassId) (h0 h1 h2 h3 h4 h5 h6 h7 h8 h9 h10 h11 : Nat) (misKept : Int32) (mtaped : Int32) (msort : Int32) (mfrom : Int32) (mto : Int32) (mvalue : Int32) (mbad : Int32) (mm : Nat → Int32) (mkept : Nat → Int32) (mwas : Nat → Int32) (mother : Nat → Int32) (mfound : Nat → Int32) (mwarm : Nat → Int32) (mdrip : Nat → Int32) (mtape : Nat → Int32) (mbits : Nat → Int32) (msize : Nat → Int32) (mnumber : Nat → Int32) (x1 : Int32) (R : Int32) (mm_r : Nat → Int32) (mfound_r : Nat → Int32) (hf : f_X7_dance mm mfound x1 = some (R, mm_r, mfound_r)) : Met l yX7_dance (ik_ws yX7_dance cX7_dance 2 (some .int)) ({ frames := 8, cells := 0, slots := 0, locals := 183 } : Room) (ik_P D cI cS [.ref h0, .int x1] (wz_X7 cI cS h0 h1 h2 h3 h4 h5 h6 h7 h8 h9 h10 h11 misKept mtaped msort mfrom mto mvalue mbad mm mkept mwas mother mfound mwarm mdrip mtape mbits msize mnumber)) (ik_Q (some (.int R)) D (wz_X7 cI cS h0 h1 h2 h3 h4 h5 h6 h7 h8 h9 h10 h11 misKept mtaped msort mfrom mto mvalue mbad mm_r mkept mwas mother mfound_r mwarm mdrip mtape mbits msize mnumber) (wz_X7 cI cS h0 h1 h2 h3 h4 h5 h6 h7 h8 h9 h10 h11 misKept mtaped msort mfrom mto mvalue mbad mm mkept mwas mother mfound mwarm mdrip mtape mbits msize mnumber)) 0 0 (ik_in (wz_X7 cI cS h0 h1 h2 h3 h4 h5 h6 h7 h8 h9 h10 h11 misKept mtaped msort mfrom mto mvalue mbad mm mkept mwas mother mfound mwarm mdrip mtape mbits msize mnumber)) := by
  refine ik_metW RX7 rfl (by decide) (Nat.le_of_ble_eq_true rfl) [(0, .ref h0), (1, .int x1)] rfl ?_
  intro p e s m below meth c C hr hlk
  unfold f_X7_dance at hf
  refine ik_iload_n C 1 rfl rfl dX7_dance_0 ?_
  obtain ⟨r1, hc1, hf⟩ := ik_b1s hf
  have hM := (c_X7_isTune l D cI cS x1 r1 hc1)
  refine ik_goR (ik_runS (st := []) (As := [.int x1]) C hM ms_X7_isTune wl_32_0 ⟨rfl, rfl, Nat.le_of_ble_eq_true rfl, Nat.le_of_ble_eq_true rfl⟩ [] rfl (by decide +kernel) rfl rfl (Nat.le_of_ble_eq_true rfl) dX7_dance_1 ⟨Nat.zero_le _, Nat.zero_le _⟩) rfl ?_
  refine ik_if_eq C 15 dX7_dance_4 (by decide) (fun hc => ?_) (fun hc => ?_)
  · have hf := ik_pos hc hf
    refine ik_aload_n C 0 rfl rfl dX7_dance_15 ?_
    refine ik_ldc C wl_6_14 dX7_dance_16 ?_
    obtain ⟨r2, g3, hc3, hf⟩ := ik_b2s hf
    have hM := (c_X7_finds l D cI cS h0 h1 h2 h3 h4 h5 h6 h7 h8 h9 h10 h11 misKept mtaped msort mfrom mto mvalue mbad mm mkept mwas mother mfound mwarm mdrip mtape mbits msize mnumber (-1000001 : Int32) r2 g3 hc3)
    refine ik_goW (v := (some (.int r2))) (wc := (wz_X7 cI cS h0 h1 h2 h3 h4 h5 h6 h7 h8 h9 h10 h11 misKept mtaped msort mfrom mto mvalue mbad mm mkept mwas mother mfound mwarm mdrip mtape mbits msize mnumber)) (w1 := (wz_X7 cI cS h0 h1 h2 h3 h4 h5 h6 h7 h8 h9 h10 h11 misKept mtaped msort mfrom mto mvalue mbad mm mkept mwas mother g3 mwarm mdrip mtape mbits msize mnumber)) [0, 1, 2, 3, 4, 5, 6, 7, 8, 9, 10, 11] [] 12 rfl rfl (wz_X7 cI cS h0 h1 h2 h3 h4 h5 h6 h7 h8 h9 h10 h11 misKept mtaped msort mfrom mto mvalue mbad mm mkept mwas mother g3 mwarm mdrip mtape mbits msize mnumber) rfl [] rfl rfl rfl (by decide +kernel) (ik_runV (st := []) (As := [.int (-1000001 : Int32)]) C hM mv_X7_finds wl_7_8 ⟨rfl, rfl, Nat.le_of_ble_eq_true rfl, Nat.le_of_ble_eq_true rfl⟩ [0, 1, 2, 3, 4, 5, 6, 7, 8, 9, 10, 11] rfl (by decide +kernel) 0 rfl rfl rfl rfl (Nat.le_of_ble_eq_true rfl) dX7_dance_18 ⟨Nat.zero_le _, Nat.zero_le _⟩) rfl ?_
    obtain ⟨rfl, rfl, rfl⟩ := ik_e3 hf
    exact ik_iretW C hr hlk dX7_dance_21
  · have hf := ik_neg hc hf
    refine ik_aload_n C 0 rfl rfl dX7_dance_7 ?_
    refine ik_iload_n C 1 rfl rfl dX7_dance_8 ?_
    obtain ⟨r2, g3, hc3, hf⟩ := ik_b2s hf
    have hM := (c_X7_danced l D cI cS h0 h1 h2 h3 h4 h5 h6 h7 h8 h9 h10 h11 misKept mtaped msort mfrom mto mvalue mbad mm mkept mwas mother mfound mwarm mdrip mtape mbits msize mnumber x1 r2 g3 hc3)
    refine ik_goW (v := (some (.int r2))) (wc := (wz_X7 cI cS h0 h1 h2 h3 h4 h5 h6 h7 h8 h9 h10 h11 misKept mtaped msort mfrom mto mvalue mbad mm mkept mwas mother mfound mwarm mdrip mtape mbits msize mnumber)) (w1 := (wz_X7 cI cS h0 h1 h2 h3 h4 h5 h6 h7 h8 h9 h10 h11 misKept mtaped msort mfrom mto mvalue mbad g3 mkept mwas mother mfound mwarm mdrip mtape mbits msize mnumber)) [0, 1, 2, 3, 4, 5, 6, 7, 8, 9, 10, 11] [] 12 rfl rfl (wz_X7 cI cS h0 h1 h2 h3 h4 h5 h6 h7 h8 h9 h10 h11 misKept mtaped msort mfrom mto mvalue mbad g3 mkept mwas mother mfound mwarm mdrip mtape mbits msize mnumber) rfl [] rfl rfl rfl (by decide +kernel) (ik_runV (st := []) (As := [.int x1]) C hM mv_X7_danced wl_32_22 ⟨rfl, rfl, Nat.le_of_ble_eq_true rfl, Nat.le_of_ble_eq_true rfl⟩ [0, 1, 2, 3, 4, 5, 6, 7, 8, 9, 10, 11] rfl (by decide +kernel) 0 rfl rfl rfl rfl (Nat.le_of_ble_eq_true rfl) dX7_dance_9 ⟨Nat.zero_le _, Nat.zero_le _⟩) rfl ?_
    refine ik_goto C 21 dX7_dance_12 (by decide) ?_
    obtain ⟨rfl, rfl, rfl⟩ := ik_e3 hf
    exact ik_iretW C hr hlk dX7_dance_21
theorem mv_X7_tune : ik_V yX7_tune RX7 cX7_tune 5 (some .int) 0 := ⟨wl_33_7, wl_33_8, wl_1_5, wl_33_9, by decide +kernel⟩
set_option maxHeartbeats 4000000 in
set_option maxRecDepth 100000 in
theorem c_X7_tune (l : Launch) (D : va_G) (cI cS : ClassId) (h0 h1 h2 h3 h4 h5 h6 h7 h8 h9 h10 h11 : Nat) (misKept : Int32) (mtaped : Int32) (msort : Int32) (mfrom : Int32) (mto : Int32) (mvalue : Int32) (mbad : Int32) (mm : Nat → Int32) (mkept : Nat → Int32) (mwas : Nat → Int32) (mother : Nat → Int32) (mfound : Nat → Int32) (mwarm : Nat → Int32) (mdrip : Nat → Int32) (mtape : Nat → Int32) (mbits : Nat → Int32) (msize : Nat → Int32) (mnumber : Nat → Int32) (R : Int32) (mm_r : Nat → Int32) (mwas_r : Nat → Int32) (hf : f_X7_tune mm mwas = some (R, mm_r, mwas_r)) : Met l yX7_tune (ik_ws yX7_tune cX7_tune 5 (some .int)) ({ frames := 8, cells := 0, slots := 0, locals := 183 } : Room) (ik_P D cI cS [.ref h0] (wz_X7 cI cS h0 h1 h2 h3 h4 h5 h6 h7 h8 h9 h10 h11 misKept mtaped msort mfrom mto mvalue mbad mm mkept mwas mother mfound mwarm mdrip mtape mbits msize mnumber)) (ik_Q (some (.int R)) D (wz_X7 cI cS h0 h1 h2 h3 h4 h5 h6 h7 h8 h9 h10 h11 misKept mtaped msort mfrom mto mvalue mbad mm_r mkept mwas_r mother mfound mwarm mdrip mtape mbits msize mnumber) (wz_X7 cI cS h0 h1 h2 h3 h4 h5 h6 h7 h8 h9 h10 h11 misKept mtaped msort mfrom mto mvalue mbad mm mkept mwas mother mfound mwarm mdrip mtape mbits msize mnumber)) 0 0 (ik_in (wz_X7 cI cS h0 h1 h2 h3 h4 h5 h6 h7 h8 h9 h10 h11 misKept mtaped msort mfrom mto mvalue mbad mm mkept mwas mother mfound mwarm mdrip mtape mbits msize mnumber)) := by
  refine ik_metW RX7 rfl (by decide) (Nat.le_of_ble_eq_true rfl) [(0, .ref h0)] rfl ?_
  intro p e s m below meth c C hr hlk
  unfold f_X7_tune at hf
  refine ik_iconst (v := (0 : Int32)) C (by decide) dX7_tune_0 ?_
  refine ik_istore_n C [(1, .int (0 : Int32)), (0, .ref h0)] rfl (by decide) rfl dX7_tune_1 ?_
  refine ik_iconst (v := (0 : Int32)) C (by decide) dX7_tune_2 ?_
  refine ik_istore_n C [(2, .int (0 : Int32)), (1, .int (0 : Int32)), (0, .ref h0)] rfl (by decide) rfl dX7_tune_3 ?_
  refine ik_iconst (v := (2 : Int32)) C (by decide) dX7_tune_4 ?_
  refine ik_istore_n C [(3, .int (2 : Int32)), (2, .int (0 : Int32)), (1, .int (0 : Int32)), (0, .ref h0)] rfl (by decide) rfl dX7_tune_5 ?_
  have hL_6 : ∀ (n_6 : Nat) (mm_6 : Nat → Int32) (mwas_6 : Nat → Int32) (x1_6 : Int32) (x2_6 : Int32) (x3_6 : Int32), ik_lp5 (b_X7_tune_6) n_6 mm_6 mwas_6 x1_6 x2_6 x3_6 = some (R, mm_r, mwas_r) → ik_G p l e ({ frames := 8, cells := 0, slots := 0, locals := 183 } : Room) s m ([.ref h0] : List Value).toArray below meth c D (ik_in (wz_X7 cI cS h0 h1 h2 h3 h4 h5 h6 h7 h8 h9 h10 h11 misKept mtaped msort mfrom mto mvalue mbad mm mkept mwas mother mfound mwarm mdrip mtape mbits msize mnumber)) (ik_in (wz_X7 cI cS h0 h1 h2 h3 h4 h5 h6 h7 h8 h9 h10 h11 misKept mtaped msort mfrom mto mvalue mbad mm mkept mwas mother mfound mwarm mdrip mtape mbits msize mnumber)) 5 0 0 (MQ below (ik_Q (some (.int R)) D (wz_X7 cI cS h0 h1 h2 h3 h4 h5 h6 h7 h8 h9 h10 h11 misKept mtaped msort mfrom mto mvalue mbad mm_r mkept mwas_r mother mfound mwarm mdrip mtape mbits msize mnumber) (wz_X7 cI cS h0 h1 h2 h3 h4 h5 h6 h7 h8 h9 h10 h11 misKept mtaped msort mfrom mto mvalue mbad mm mkept mwas mother mfound mwarm mdrip mtape mbits msize mnumber)) ([.ref h0] : List Value).toArray s 0 0 (ik_in (wz_X7 cI cS h0 h1 h2 h3 h4 h5 h6 h7 h8 h9 h10 h11 misKept mtaped msort mfrom mto mvalue mbad mm mkept mwas mother mfound mwarm mdrip mtape mbits msize mnumber))) 6 [(3, .int x3_6), (2, .int x2_6), (1, .int x1_6), (0, .ref h0)] [] (wz_X7 cI cS h0 h1 h2 h3 h4 h5 h6 h7 h8 h9 h10 h11 misKept mtaped msort mfrom mto mvalue mbad mm_6 mkept mwas_6 mother mfound mwarm mdrip mtape mbits msize mnumber) := by
    intro n_6
    induction n_6 with
    | zero => intro _ _ _ _ _ hf; exact nomatch hf
    | succ n_6 ih_6 =>
      intro mm_6 mwas_6 x1_6 x2_6 x3_6 hf
      replace hf : b_X7_tune_6 (ik_lp5 (b_X7_tune_6) n_6) mm_6 mwas_6 x1_6 x2_6 x3_6 = some (R, mm_r, mwas_r) := hf
      unfold b_X7_tune_6 at hf
      refine ik_iload_n C 0 rfl rfl dX7_tune_6 ?_
      refine ik_bipush (v := (9 : Int32)) C (by decide) dX7_tune_7 ?_
      refine ik_icmp_gt C 65 dX7_tune_9 (by decide) (fun hc => ?_) (fun hc => ?_)
      · have hf := ik_pos hc hf
        refine ik_iload_n C 2 rfl rfl dX7_tune_65 ?_
        obtain ⟨rfl, rfl, rfl⟩ := ik_e3 hf
        exact ik_iretW C hr hlk dX7_tune_66
      · have hf := ik_neg hc hf
        refine ik_aload_n C 3 rfl rfl dX7_tune_12 ?_
        refine ik_get C inlX7 0 rfl rfl 0 (by decide) wl_4_12 rfl (v := .ref h1) rfl dX7_tune_13 ?_
        refine ik_aload_n C 3 rfl rfl dX7_tune_16 ?_
        refine ik_get C inlX7 0 rfl rfl 2 (by decide) wl_4_14 rfl (v := .ref h3) rfl dX7_tune_17 ?_
        obtain ⟨g1, hc1, hf⟩ := ik_b1s hf
        have hM := (c_X7_row l D cI cS h1 h3 mm_6 mwas_6 g1 hc1)
        refine ik_goW (v := none) (wc := (wz_row cI cS h1 h3 mm_6 mwas_6)) (w1 := (wz_row cI cS h1 h3 mm_6 g1)) [1, 3] [0, 2, 4, 5, 6, 7, 8, 9, 10, 11] 12 rfl rfl (wz_X7 cI cS h0 h1 h2 h3 h4 h5 h6 h7 h8 h9 h10 h11 misKept mtaped msort mfrom mto mvalue mbad mm_6 mkept g1 mother mfound mwarm mdrip mtape mbits msize mnumber) rfl [(h0, .inr (7, [.ref h1, .ref h2, .ref h3, .ref h4, .int misKept, .ref h5, .ref h6, .ref h7, .ref h8, .int mtaped, .int msort, .int mfrom, .int mto, .int mvalue, .int mbad, .ref h9, .ref h10, .ref h11])), (h2, .inl (cI, 82, .inl mkept)), (h4, .inl (cI, 82, .inl mother)), (h5, .inl (cI, 7, .inl mfound)), (h6, .inl (cI, 16, .inl mwarm)), (h7, .inl (cI, 8, .inl mdrip)), (h8, .inl (cI, 120, .inl mtape)), (h9, .inl (cI, 4, .inl mbits)), (h10, .inl (cI, 4, .inl msize)), (h11, .inl (cI, 160, .inl mnumber))] rfl rfl rfl (by decide +kernel) (ik_runS (st := []) (As := [.ref h1, .ref h3]) C hM ms_X7_row wl_24_22 ⟨rfl, rfl, Nat.le_of_ble_eq_true rfl, Nat.le_of_ble_eq_true rfl⟩ [1, 3] rfl (by decide +kernel) rfl rfl (Nat.le_of_ble_eq_true rfl) dX7_tune_20 ⟨Nat.zero_le _, Nat.zero_le _⟩) rfl ?_
        refine ik_aload_n C 3 rfl rfl dX7_tune_23 ?_
        refine ik_iload_n C 0 rfl rfl dX7_tune_24 ?_
        obtain ⟨r2, g3, hc3, hf⟩ := ik_b2s hf
        have hM := (c_X7_danced l D cI cS h0 h1 h2 h3 h4 h5 h6 h7 h8 h9 h10 h11 misKept mtaped msort mfrom mto mvalue mbad mm_6 mkept g1 mother mfound mwarm mdrip mtape mbits msize mnumber x3_6 r2 g3 hc3)
        refine ik_goW (v := (some (.int r2))) (wc := (wz_X7 cI cS h0 h1 h2 h3 h4 h5 h6 h7 h8 h9 h10 h11 misKept mtaped msort mfrom mto mvalue mbad mm_6 mkept g1 mother mfound mwarm mdrip mtape mbits msize mnumber)) (w1 := (wz_X7 cI cS h0 h1 h2 h3 h4 h5 h6 h7 h8 h9 h10 h11 misKept mtaped msort mfrom mto mvalue mbad g3 mkept g1 mother mfound mwarm mdrip mtape mbits msize mnumber)) [0, 1, 2, 3, 4, 5, 6, 7, 8, 9, 10, 11] [] 12 rfl rfl (wz_X7 cI cS h0 h1 h2 h3 h4 h5 h6 h7 h8 h9 h10 h11 misKept mtaped msort mfrom mto mvalue mbad g3 mkept g1 mother mfound mwarm mdrip mtape mbits msize mnumber) rfl [] rfl rfl rfl (by decide +kernel) (ik_runV (st := []) (As := [.int x3_6]) C hM mv_X7_danced wl_32_22 ⟨rfl, rfl, Nat.le_of_ble_eq_true rfl, Nat.le_of_ble_eq_true rfl⟩ [0, 1, 2, 3, 4, 5, 6, 7, 8, 9, 10, 11] rfl (by decide +kernel) 0 rfl rfl rfl rfl (Nat.le_of_ble_eq_true rfl) dX7_tune_25 ⟨Nat.zero_le _, Nat.zero_le _⟩) rfl ?_
        refine ik_istore C [(4, .int r2), (3, .int x3_6), (2, .int x2_6), (1, .int x1_6), (0, .ref h0)] (by decide) rfl dX7_tune_28 ?_
        refine ik_aload_n C 4 rfl rfl dX7_tune_30 ?_
        refine ik_get C inlX7 0 rfl rfl 2 (by decide) wl_4_14 rfl (v := .ref h3) rfl dX7_tune_31 ?_
        refine ik_aload_n C 4 rfl rfl dX7_tune_34 ?_
        refine ik_get C inlX7 0 rfl rfl 0 (by decide) wl_4_12 rfl (v := .ref h1) rfl dX7_tune_35 ?_
        obtain ⟨g4, hc4, hf⟩ := ik_b1s hf
        have hM := (c_X7_row l D cI cS h3 h1 g1 g3 g4 hc4)
        refine ik_goW (v := none) (wc := (wz_row cI cS h3 h1 g1 g3)) (w1 := (wz_row cI cS h3 h1 g1 g4)) [3, 1] [0, 2, 4, 5, 6, 7, 8, 9, 10, 11] 12 rfl rfl (wz_X7 cI cS h0 h1 h2 h3 h4 h5 h6 h7 h8 h9 h10 h11 misKept mtaped msort mfrom mto mvalue mbad g4 mkept g1 mother mfound mwarm mdrip mtape mbits msize mnumber) rfl [(h0, .inr (7, [.ref h1, .ref h2, .ref h3, .ref h4, .int misKept, .ref h5, .ref h6, .ref h7, .ref h8, .int mtaped, .int msort, .int mfrom, .int mto, .int mvalue, .int mbad, .ref h9, .ref h10, .ref h11])), (h2, .inl (cI, 82, .inl mkept)), (h4, .inl (cI, 82, .inl mother)), (h5, .inl (cI, 7, .inl mfound)), (h6, .inl (cI, 16, .inl mwarm)), (h7, .inl (cI, 8, .inl mdrip)), (h8, .inl (cI, 120, .inl mtape)), (h9, .inl (cI, 4, .inl mbits)), (h10, .inl (cI, 4, .inl msize)), (h11, .inl (cI, 160, .inl mnumber))] rfl rfl rfl (by decide +kernel) (ik_runS (st := []) (As := [.ref h3, .ref h1]) C hM ms_X7_row wl_24_22 ⟨rfl, rfl, Nat.le_of_ble_eq_true rfl, Nat.le_of_ble_eq_true rfl⟩ [3, 1] rfl (by decide +kernel) rfl rfl (Nat.le_of_ble_eq_true rfl) dX7_tune_38 ⟨Nat.zero_le _, Nat.zero_le _⟩) rfl ?_
        refine ik_iload_n C 3 rfl rfl dX7_tune_41 ?_
        refine ik_if_le C 54 dX7_tune_42 (by decide) (fun hc => ?_) (fun hc => ?_)
        · have hf := ik_pos hc hf
          refine ik_iload_n C 1 rfl rfl dX7_tune_54 ?_
          refine ik_istore_n C [(1, .int x3_6), (4, .int r2), (3, .int x3_6), (2, .int x2_6), (0, .ref h0)] rfl (by decide) rfl dX7_tune_55 ?_
          refine ik_iload C 1 rfl dX7_tune_56 ?_
          refine ik_istore_n C [(2, .int r2), (1, .int x3_6), (4, .int r2), (3, .int x3_6), (0, .ref h0)] rfl (by decide) rfl dX7_tune_58 ?_
          refine ik_iinc C [(3, .int (x3_6 + (1 : Int32))), (2, .int r2), (1, .int x3_6), (4, .int r2), (0, .ref h0)] 3 rfl rfl (by decide) rfl dX7_tune_59 ?_
          refine ik_goto C 6 dX7_tune_62 (by decide) ?_
          exact ik_sub [0, 1, 2, 4] [(3, .int (x3_6 + (1 : Int32))), (2, .int r2), (1, .int x3_6), (0, .ref h0)] rfl (ih_6 g4 g1 x3_6 r2 (x3_6 + (1 : Int32)) hf)
        · have hf := ik_neg hc hf
          refine ik_iload C 0 rfl dX7_tune_45 ?_
          refine ik_iload_n C 2 rfl rfl dX7_tune_47 ?_
          refine ik_icmp_lt C 54 dX7_tune_48 (by decide) (fun hc => ?_) (fun hc => ?_)
          · have hf := ik_pos hc hf
            refine ik_iload_n C 1 rfl rfl dX7_tune_54 ?_
            refine ik_istore_n C [(1, .int x3_6), (4, .int r2), (3, .int x3_6), (2, .int x2_6), (0, .ref h0)] rfl (by decide) rfl dX7_tune_55 ?_
            refine ik_iload C 1 rfl dX7_tune_56 ?_
            refine ik_istore_n C [(2, .int r2), (1, .int x3_6), (4, .int r2), (3, .int x3_6), (0, .ref h0)] rfl (by decide) rfl dX7_tune_58 ?_
            refine ik_iinc C [(3, .int (x3_6 + (1 : Int32))), (2, .int r2), (1, .int x3_6), (4, .int r2), (0, .ref h0)] 3 rfl rfl (by decide) rfl dX7_tune_59 ?_
            refine ik_goto C 6 dX7_tune_62 (by decide) ?_
            exact ik_sub [0, 1, 2, 4] [(3, .int (x3_6 + (1 : Int32))), (2, .int r2), (1, .int x3_6), (0, .ref h0)] rfl (ih_6 g4 g1 x3_6 r2 (x3_6 + (1 : Int32)) hf)
          · have hf := ik_neg hc hf
            refine ik_goto C 59 dX7_tune_51 (by decide) ?_
            refine ik_iinc C [(3, .int (x3_6 + (1 : Int32))), (4, .int r2), (2, .int x2_6), (1, .int x1_6), (0, .ref h0)] 1 rfl rfl (by decide) rfl dX7_tune_59 ?_
            refine ik_goto C 6 dX7_tune_62 (by decide) ?_
            exact ik_sub [0, 2, 3, 4] [(3, .int (x3_6 + (1 : Int32))), (2, .int x2_6), (1, .int x1_6), (0, .ref h0)] rfl (ih_6 g4 g1 x1_6 x2_6 (x3_6 + (1 : Int32)) hf)
  exact hL_6 ik_fu mm mwas (0 : Int32) (0 : Int32) (2 : Int32) hf
theorem mv_X7_draw : ik_V yX7_draw RX7 cX7_draw 1 (some .int) 0 := ⟨wl_34_0, wl_34_1, wl_1_5, wl_34_2, by decide +kernel⟩
set_option maxHeartbeats 4000000 in
set_option maxRecDepth 100000 in
theorem c_X7_draw (l : Launch) (D : va_G) (cI cS : ClassId) (h0 h1 h2 h3 h4 h5 h6 h7 h8 h9 h10 h11 : Nat) (misKept : Int32) (mtaped : Int32) (msort : Int32) (mfrom : Int32) (mto : Int32) (mvalue : Int32) (mbad : Int32) (mm : Nat → Int32) (mkept : Nat → Int32) (mwas : Nat → Int32) (mother : Nat → Int32) (mfound : Nat → Int32) (mwarm : Nat → Int32) (mdrip : Nat → Int32) (mtape : Nat → Int32) (mbits : Nat → Int32) (msize : Nat → Int32) (mnumber : Nat → Int32) (R : Int32) (mm_r : Nat → Int32) (hf : f_X7_draw mm = some (R, mm_r)) : Met l yX7_draw (ik_ws yX7_draw cX7_draw 1 (some .int)) ({ frames := 0, cells := 0, slots := 0, locals := 0 } : Room) (ik_P D cI cS [.ref h0] (wz_X7 cI cS h0 h1 h2 h3 h4 h5 h6 h7 h8 h9 h10 h11 misKept mtaped msort mfrom mto mvalue mbad mm mkept mwas mother mfound mwarm mdrip mtape mbits msize mnumber)) (ik_Q (some (.int R)) D (wz_X7 cI cS h0 h1 h2 h3 h4 h5 h6 h7 h8 h9 h10 h11 misKept mtaped msort mfrom mto mvalue mbad mm_r mkept mwas mother mfound mwarm mdrip mtape mbits msize mnumber) (wz_X7 cI cS h0 h1 h2 h3 h4 h5 h6 h7 h8 h9 h10 h11 misKept mtaped msort mfrom mto mvalue mbad mm mkept mwas mother mfound mwarm mdrip mtape mbits msize mnumber)) 0 0 (ik_in (wz_X7 cI cS h0 h1 h2 h3 h4 h5 h6 h7 h8 h9 h10 h11 misKept mtaped msort mfrom mto mvalue mbad mm mkept mwas mother mfound mwarm mdrip mtape mbits msize mnumber)) := by
  refine ik_metW RX7 rfl (by decide) (Nat.le_of_ble_eq_true rfl) [(0, .ref h0)] rfl ?_
  intro p e s m below meth c C hr hlk
  unfold f_X7_draw at hf
  refine ik_aload_n C 0 rfl rfl dX7_draw_0 ?_
  refine ik_get C inlX7 0 rfl rfl 0 (by decide) wl_4_12 rfl (v := .ref h1) rfl dX7_draw_1 ?_
  refine ik_iconst (v := (4 : Int32)) C (by decide) dX7_draw_4 ?_
  refine ik_aload_n C 0 rfl rfl dX7_draw_5 ?_
  refine ik_get C inlX7 0 rfl rfl 0 (by decide) wl_4_12 rfl (v := .ref h1) rfl dX7_draw_6 ?_
  refine ik_iconst (v := (4 : Int32)) C (by decide) dX7_draw_9 ?_
  refine ik_iald C 1 rfl (ik_vin (by decide)) dX7_draw_10 ?_
  refine ik_ldc C wl_34_3 dX7_draw_11 ?_
  refine ik_imul C dX7_draw_13 ?_
  refine ik_sipush (v := (12345 : Int32)) C (by decide) dX7_draw_14 ?_
  refine ik_iadd C dX7_draw_17 ?_
  refine ik_iast C 1 rfl (ik_vin (by decide)) (wz_X7 cI cS h0 h1 h2 h3 h4 h5 h6 h7 h8 h9 h10 h11 misKept mtaped msort mfrom mto mvalue mbad (upd mm ((4 : Int32)).toNatClampNeg (((mm ((4 : Int32)).toNatClampNeg) * (1103515245 : Int32)) + (12345 : Int32))) mkept mwas mother mfound mwarm mdrip mtape mbits msize mnumber) rfl dX7_draw_18 ?_
  refine ik_aload_n C 0 rfl rfl dX7_draw_19 ?_
  refine ik_get C inlX7 0 rfl rfl 0 (by decide) wl_4_12 rfl (v := .ref h1) rfl dX7_draw_20 ?_
  refine ik_iconst (v := (4 : Int32)) C (by decide) dX7_draw_23 ?_
  refine ik_iald C 1 rfl (ik_vin (by decide)) dX7_draw_24 ?_
  refine ik_bipush (v := (8 : Int32)) C (by decide) dX7_draw_25 ?_
  refine ik_iushr C dX7_draw_27 ?_
  obtain ⟨rfl, rfl⟩ := ik_e2 hf
  exact ik_iretW C hr hlk dX7_draw_28
theorem mv_X7_wind : ik_V yX7_wind RX7 cX7_wind 4 (some .int) 1 := ⟨wl_33_20, wl_33_21, wl_1_5, wl_33_22, by decide +kernel⟩
set_option maxHeartbeats 4000000 in
set_option maxRecDepth 100000 in
theorem c_X7_wind (l : Launch) (D : va_G) (cI cS : ClassId) (h0 h1 h2 h3 h4 h5 h6 h7 h8 h9 h10 h11 : Nat) (misKept : Int32) (mtaped : Int32) (msort : Int32) (mfrom : Int32) (mto : Int32) (mvalue : Int32) (mbad : Int32) (mm : Nat → Int32) (mkept : Nat → Int32) (mwas : Nat → Int32) (mother : Nat → Int32) (mfound : Nat → Int32) (mwarm : Nat → Int32) (mdrip : Nat → Int32) (mtape : Nat → Int32) (mbits : Nat → Int32) (msize : Nat → Int32) (mnumber : Nat → Int32) (x1 : Int32) (R : Int32) (mm_r : Nat → Int32) (mfound_r : Nat → Int32) (hf : f_X7_wind mm mfound x1 = some (R, mm_r, mfound_r)) : Met l yX7_wind (ik_ws yX7_wind cX7_wind 4 (some .int)) ({ frames := 2, cells := 0, slots := 0, locals := 43 } : Room) (ik_P D cI cS [.ref h0, .int x1] (wz_X7 cI cS h0 h1 h2 h3 h4 h5 h6 h7 h8 h9 h10 h11 misKept mtaped msort mfrom mto mvalue mbad mm mkept mwas mother mfound mwarm mdrip mtape mbits msize mnumber)) (ik_Q (some (.int R)) D (wz_X7 cI cS h0 h1 h2 h3 h4 h5 h6 h7 h8 h9 h10 h11 misKept mtaped msort mfrom mto mvalue mbad mm_r mkept mwas mother mfound_r mwarm mdrip mtape mbits msize mnumber) (wz_X7 cI cS h0 h1 h2 h3 h4 h5 h6 h7 h8 h9 h10 h11 misKept mtaped msort mfrom mto mvalue mbad mm mkept mwas mother mfound mwarm mdrip mtape mbits msize mnumber)) 0 0 (ik_in (wz_X7 cI cS h0 h1 h2 h3 h4 h5 h6 h7 h8 h9 h10 h11 misKept mtaped msort mfrom mto mvalue mbad mm mkept mwas mother mfound mwarm mdrip mtape mbits msize mnumber)) := by
  refine ik_metW RX7 rfl (by decide) (Nat.le_of_ble_eq_true rfl) [(0, .ref h0), (1, .int x1)] rfl ?_
  intro p e s m below meth c C hr hlk
  unfold f_X7_wind at hf
  refine ik_iload_n C 1 rfl rfl dX7_wind_0 ?_
  refine ik_i2l C dX7_wind_1 ?_
  refine ik_lconst (v := (1 : Int64)) C (by decide) dX7_wind_2 ?_
  refine ik_ldc2 C wl_16_20 dX7_wind_3 ?_
  obtain ⟨r1, hc1, hf⟩ := ik_b1s hf
  have hM := (c_X7_in l D cI cS (x1).toInt64 (1 : Int64) (20 : Int64) r1 hc1)
  refine ik_goR (ik_runS (st := []) (As := [.long (x1).toInt64, .long (1 : Int64), .long (20 : Int64)]) C hM ms_X7_in wl_6_21 ⟨rfl, rfl, Nat.le_of_ble_eq_true rfl, Nat.le_of_ble_eq_true rfl⟩ [] rfl (by decide +kernel) rfl rfl (Nat.le_of_ble_eq_true rfl) dX7_wind_6 ⟨Nat.zero_le _, Nat.zero_le _⟩) rfl ?_
  refine ik_if_ne C 19 dX7_wind_9 (by decide) (fun hc => ?_) (fun hc => ?_)
  · have hf := ik_neg hc hf
    refine ik_iconst (v := (0 : Int32)) C (by decide) dX7_wind_19 ?_
    refine ik_istore_n C [(2, .int (0 : Int32)), (0, .ref h0), (1, .int x1)] rfl (by decide) rfl dX7_wind_20 ?_
    have hL_21 : ∀ (n_21 : Nat) (mm_21 : Nat → Int32) (x2_21 : Int32), ik_lp2 (b_X7_wind_21 mfound x1) n_21 mm_21 x2_21 = some (R, mm_r, mfound_r) → ik_G p l e ({ frames := 2, cells := 0, slots := 0, locals := 43 } : Room) s m ([.ref h0, .int x1] : List Value).toArray below meth c D (ik_in (wz_X7 cI cS h0 h1 h2 h3 h4 h5 h6 h7 h8 h9 h10 h11 misKept mtaped msort mfrom mto mvalue mbad mm mkept mwas mother mfound mwarm mdrip mtape mbits msize mnumber)) (ik_in (wz_X7 cI cS h0 h1 h2 h3 h4 h5 h6 h7 h8 h9 h10 h11 misKept mtaped msort mfrom mto mvalue mbad mm mkept mwas mother mfound mwarm mdrip mtape mbits msize mnumber)) 4 0 0 (MQ below (ik_Q (some (.int R)) D (wz_X7 cI cS h0 h1 h2 h3 h4 h5 h6 h7 h8 h9 h10 h11 misKept mtaped msort mfrom mto mvalue mbad mm_r mkept mwas mother mfound_r mwarm mdrip mtape mbits msize mnumber) (wz_X7 cI cS h0 h1 h2 h3 h4 h5 h6 h7 h8 h9 h10 h11 misKept mtaped msort mfrom mto mvalue mbad mm mkept mwas mother mfound mwarm mdrip mtape mbits msize mnumber)) ([.ref h0, .int x1] : List Value).toArray s 0 0 (ik_in (wz_X7 cI cS h0 h1 h2 h3 h4 h5 h6 h7 h8 h9 h10 h11 misKept mtaped msort mfrom mto mvalue mbad mm mkept mwas mother mfound mwarm mdrip mtape mbits msize mnumber))) 21 [(2, .int x2_21), (0, .ref h0), (1, .int x1)] [] (wz_X7 cI cS h0 h1 h2 h3 h4 h5 h6 h7 h8 h9 h10 h11 misKept mtaped msort mfrom mto mvalue mbad mm_21 mkept mwas mother mfound mwarm mdrip mtape mbits msize mnumber) := by
      intro n_21
      induction n_21 with
      | zero => intro _ _ hf; exact nomatch hf
      | succ n_21 ih_21 =>
        intro mm_21 x2_21 hf
        replace hf : b_X7_wind_21 mfound x1 (ik_lp2 (b_X7_wind_21 mfound x1) n_21) mm_21 x2_21 = some (R, mm_r, mfound_r) := hf
        unfold b_X7_wind_21 at hf
        refine ik_iload_n C 0 rfl rfl dX7_wind_21 ?_
        refine ik_iload_n C 2 rfl rfl dX7_wind_22 ?_
        refine ik_icmp_ge C 68 dX7_wind_23 (by decide) (fun hc => ?_) (fun hc => ?_)
        · have hf := ik_pos hc hf
          refine ik_aload_n C 1 rfl rfl dX7_wind_68 ?_
          obtain ⟨r2, hc2, hf⟩ := ik_b1s hf
          have hM := (c_X7_light l D cI cS h0 h1 h2 h3 h4 h5 h6 h7 h8 h9 h10 h11 misKept mtaped msort mfrom mto mvalue mbad mm_21 mkept mwas mother mfound mwarm mdrip mtape mbits msize mnumber r2 hc2)
          refine ik_goR (ik_runV (st := []) (As := []) C hM mv_X7_light wl_27_7 ⟨rfl, rfl, Nat.le_of_ble_eq_true rfl, Nat.le_of_ble_eq_true rfl⟩ [0, 1, 2, 3, 4, 5, 6, 7, 8, 9, 10, 11] rfl (by decide +kernel) 0 rfl rfl rfl rfl (Nat.le_of_ble_eq_true rfl) dX7_wind_69 ⟨Nat.zero_le _, Nat.zero_le _⟩) rfl ?_
          obtain ⟨rfl, rfl, rfl⟩ := ik_e3 hf
          exact ik_iretW C hr hlk dX7_wind_72
        · have hf := ik_neg hc hf
          refine ik_aload_n C 1 rfl rfl dX7_wind_26 ?_
          obtain ⟨r2, g3, hc3, hf⟩ := ik_b2s hf
          have hM := (c_X7_draw l D cI cS h0 h1 h2 h3 h4 h5 h6 h7 h8 h9 h10 h11 misKept mtaped msort mfrom mto mvalue mbad mm_21 mkept mwas mother mfound mwarm mdrip mtape mbits msize mnumber r2 g3 hc3)
          refine ik_goW (v := (some (.int r2))) (wc := (wz_X7 cI cS h0 h1 h2 h3 h4 h5 h6 h7 h8 h9 h10 h11 misKept mtaped msort mfrom mto mvalue mbad mm_21 mkept mwas mother mfound mwarm mdrip mtape mbits msize mnumber)) (w1 := (wz_X7 cI cS h0 h1 h2 h3 h4 h5 h6 h7 h8 h9 h10 h11 misKept mtaped msort mfrom mto mvalue mbad g3 mkept mwas mother mfound mwarm mdrip mtape mbits msize mnumber)) [0, 1, 2, 3, 4, 5, 6, 7, 8, 9, 10, 11] [] 12 rfl rfl (wz_X7 cI cS h0 h1 h2 h3 h4 h5 h6 h7 h8 h9 h10 h11 misKept mtaped msort mfrom mto mvalue mbad g3 mkept mwas mother mfound mwarm mdrip mtape mbits msize mnumber) rfl [] rfl rfl rfl (by decide +kernel) (ik_runV (st := []) (As := []) C hM mv_X7_draw wl_33_23 ⟨rfl, rfl, Nat.le_of_ble_eq_true rfl, Nat.le_of_ble_eq_true rfl⟩ [0, 1, 2, 3, 4, 5, 6, 7, 8, 9, 10, 11] rfl (by decide +kernel) 0 rfl rfl rfl rfl (Nat.le_of_ble_eq_true rfl) dX7_wind_27 ⟨Nat.zero_le _, Nat.zero_le _⟩) rfl ?_
          refine ik_bipush (v := (6 : Int32)) C (by decide) dX7_wind_30 ?_
          refine ik_irem C (by decide) dX7_wind_32 ?_
          refine ik_istore_n C [(3, .int (r2 - r2 / (6 : Int32) * (6 : Int32))), (2, .int x2_21), (0, .ref h0), (1, .int x1)] rfl (by decide) rfl dX7_wind_33 ?_
          refine ik_aload_n C 2 rfl rfl dX7_wind_34 ?_
          refine ik_get C inlX7 0 rfl rfl 0 (by decide) wl_4_12 rfl (v := .ref h1) rfl dX7_wind_35 ?_
          refine ik_bipush (v := (6 : Int32)) C (by decide) dX7_wind_38 ?_
          refine ik_iconst (v := (3 : Int32)) C (by decide) dX7_wind_40 ?_
          refine ik_iload_n C 0 rfl rfl dX7_wind_41 ?_
          refine ik_imul C dX7_wind_42 ?_
          refine ik_iadd C dX7_wind_43 ?_
          refine ik_iconst (v := (2 : Int32)) C (by decide) dX7_wind_44 ?_
          refine ik_iadd C dX7_wind_45 ?_
          refine ik_iconst (v := (1 : Int32)) C (by decide) dX7_wind_46 ?_
          refine ik_aload_n C 2 rfl rfl dX7_wind_47 ?_
          refine ik_get C inlX7 0 rfl rfl 0 (by decide) wl_4_12 rfl (v := .ref h1) rfl dX7_wind_48 ?_
          refine ik_bipush (v := (6 : Int32)) C (by decide) dX7_wind_51 ?_
          refine ik_iconst (v := (3 : Int32)) C (by decide) dX7_wind_53 ?_
          refine ik_iload_n C 0 rfl rfl dX7_wind_54 ?_
          refine ik_imul C dX7_wind_55 ?_
          refine ik_iadd C dX7_wind_56 ?_
          refine ik_iconst (v := (2 : Int32)) C (by decide) dX7_wind_57 ?_
          refine ik_iadd C dX7_wind_58 ?_
          have hg := ik_gdi hf
          have hf := ik_gdk hf
          refine ik_iald C 1 rfl hg dX7_wind_59 ?_
          refine ik_isub C dX7_wind_60 ?_
          have hg := ik_gdi hf
          have hf := ik_gdk hf
          refine ik_iast C 1 rfl hg (wz_X7 cI cS h0 h1 h2 h3 h4 h5 h6 h7 h8 h9 h10 h11 misKept mtaped msort mfrom mto mvalue mbad (upd g3 ((((6 : Int32) + ((3 : Int32) * (r2 - r2 / (6 : Int32) * (6 : Int32)))) + (2 : Int32))).toNatClampNeg ((1 : Int32) - (g3 ((((6 : Int32) + ((3 : Int32) * (r2 - r2 / (6 : Int32) * (6 : Int32)))) + (2 : Int32))).toNatClampNeg))) mkept mwas mother mfound mwarm mdrip mtape mbits msize mnumber) rfl dX7_wind_61 ?_
          refine ik_iinc C [(2, .int (x2_21 + (1 : Int32))), (3, .int (r2 - r2 / (6 : Int32) * (6 : Int32))), (0, .ref h0), (1, .int x1)] 1 rfl rfl (by decide) rfl dX7_wind_62 ?_
          refine ik_goto C 21 dX7_wind_65 (by decide) ?_
          exact ik_sub [0, 2, 3] [(2, .int (x2_21 + (1 : Int32))), (0, .ref h0), (1, .int x1)] rfl (ih_21 (upd g3 ((((6 : Int32) + ((3 : Int32) * (r2 - r2 / (6 : Int32) * (6 : Int32)))) + (2 : Int32))).toNatClampNeg ((1 : Int32) - (g3 ((((6 : Int32) + ((3 : Int32) * (r2 - r2 / (6 : Int32) * (6 : Int32)))) + (2 : Int32))).toNatClampNeg))) (x2_21 + (1 : Int32)) hf)
    exact hL_21 ik_fu mm (0 : Int32) hf
  · have hf := ik_pos hc hf
    refine ik_aload_n C 0 rfl rfl dX7_wind_12 ?_
    refine ik_ldc C wl_6_14 dX7_wind_13 ?_
    obtain ⟨r2, g3, hc3, hf⟩ := ik_b2s hf
    have hM := (c_X7_finds l D cI cS h0 h1 h2 h3 h4 h5 h6 h7 h8 h9 h10 h11 misKept mtaped msort mfrom mto mvalue mbad mm mkept mwas mother mfound mwarm mdrip mtape mbits msize mnumber (-1000001 : Int32) r2 g3 hc3)
    refine ik_goW (v := (some (.int r2))) (wc := (wz_X7 cI cS h0 h1 h2 h3 h4 h5 h6 h7 h8 h9 h10 h11 misKept mtaped msort mfrom mto mvalue mbad mm mkept mwas mother mfound mwarm mdrip mtape mbits msize mnumber)) (w1 := (wz_X7 cI cS h0 h1 h2 h3 h4 h5 h6 h7 h8 h9 h10 h11 misKept mtaped msort mfrom mto mvalue mbad mm mkept mwas mother g3 mwarm mdrip mtape mbits msize mnumber)) [0, 1, 2, 3, 4, 5, 6, 7, 8, 9, 10, 11] [] 12 rfl rfl (wz_X7 cI cS h0 h1 h2 h3 h4 h5 h6 h7 h8 h9 h10 h11 misKept mtaped msort mfrom mto mvalue mbad mm mkept mwas mother g3 mwarm mdrip mtape mbits msize mnumber) rfl [] rfl rfl rfl (by decide +kernel) (ik_runV (st := []) (As := [.int (-1000001 : Int32)]) C hM mv_X7_finds wl_7_8 ⟨rfl, rfl, Nat.le_of_ble_eq_true rfl, Nat.le_of_ble_eq_true rfl⟩ [0, 1, 2, 3, 4, 5, 6, 7, 8, 9, 10, 11] rfl (by decide +kernel) 0 rfl rfl rfl rfl (Nat.le_of_ble_eq_true rfl) dX7_wind_15 ⟨Nat.zero_le _, Nat.zero_le _⟩) rfl ?_
    obtain ⟨rfl, rfl, rfl⟩ := ik_e3 hf
    exact ik_iretW C hr hlk dX7_wind_18
theorem mv_X7_seed : ik_V yX7_seed RX7 cX7_seed 2 (some .int) 1 := ⟨wl_34_10, wl_34_11, wl_1_5, wl_34_12, by decide +kernel⟩
set_option maxHeartbeats 4000000 in
set_option maxRecDepth 100000 in
theorem c_X7_seed (l : Launch) (D : va_G) (cI cS : ClassId) (h0 h1 h2 h3 h4 h5 h6 h7 h8 h9 h10 h11 : Nat) (misKept : Int32) (mtaped : Int32) (msort : Int32) (mfrom : Int32) (mto : Int32) (mvalue : Int32) (mbad : Int32) (mm : Nat → Int32) (mkept : Nat → Int32) (mwas : Nat → Int32) (mother : Nat → Int32) (mfound : Nat → Int32) (mwarm : Nat → Int32) (mdrip : Nat → Int32) (mtape : Nat → Int32) (mbits : Nat → Int32) (msize : Nat → Int32) (mnumber : Nat → Int32) (x1 : Int32) (R : Int32) (mm_r : Nat → Int32) (hf : f_X7_seed mm x1 = some (R, mm_r)) : Met l yX7_seed (ik_ws yX7_seed cX7_seed 2 (some .int)) ({ frames := 1, cells := 0, slots := 0, locals := 23 } : Room) (ik_P D cI cS [.ref h0, .int x1] (wz_X7 cI cS h0 h1 h2 h3 h4 h5 h6 h7 h8 h9 h10 h11 misKept mtaped msort mfrom mto mvalue mbad mm mkept mwas mother mfound mwarm mdrip mtape mbits msize mnumber)) (ik_Q (some (.int R)) D (wz_X7 cI cS h0 h1 h2 h3 h4 h5 h6 h7 h8 h9 h10 h11 misKept mtaped msort mfrom mto mvalue mbad mm_r mkept mwas mother mfound mwarm mdrip mtape mbits msize mnumber) (wz_X7 cI cS h0 h1 h2 h3 h4 h5 h6 h7 h8 h9 h10 h11 misKept mtaped msort mfrom mto mvalue mbad mm mkept mwas mother mfound mwarm mdrip mtape mbits msize mnumber)) 0 0 (ik_in (wz_X7 cI cS h0 h1 h2 h3 h4 h5 h6 h7 h8 h9 h10 h11 misKept mtaped msort mfrom mto mvalue mbad mm mkept mwas mother mfound mwarm mdrip mtape mbits msize mnumber)) := by
  refine ik_metW RX7 rfl (by decide) (Nat.le_of_ble_eq_true rfl) [(0, .ref h0), (1, .int x1)] rfl ?_
  intro p e s m below meth c C hr hlk
  unfold f_X7_seed at hf
  refine ik_aload_n C 0 rfl rfl dX7_seed_0 ?_
  refine ik_iconst (v := (4 : Int32)) C (by decide) dX7_seed_1 ?_
  refine ik_iload_n C 1 rfl rfl dX7_seed_2 ?_
  obtain ⟨r1, g2, hc2, hf⟩ := ik_b2s hf
  have hM := (c_X7_becomes l D cI cS h0 h1 h2 h3 h4 h5 h6 h7 h8 h9 h10 h11 misKept mtaped msort mfrom mto mvalue mbad mm mkept mwas mother mfound mwarm mdrip mtape mbits msize mnumber (4 : Int32) x1 r1 g2 hc2)
  refine ik_goW (v := (some (.int r1))) (wc := (wz_X7 cI cS h0 h1 h2 h3 h4 h5 h6 h7 h8 h9 h10 h11 misKept mtaped msort mfrom mto mvalue mbad mm mkept mwas mother mfound mwarm mdrip mtape mbits msize mnumber)) (w1 := (wz_X7 cI cS h0 h1 h2 h3 h4 h5 h6 h7 h8 h9 h10 h11 misKept mtaped msort mfrom mto mvalue mbad g2 mkept mwas mother mfound mwarm mdrip mtape mbits msize mnumber)) [0, 1, 2, 3, 4, 5, 6, 7, 8, 9, 10, 11] [] 12 rfl rfl (wz_X7 cI cS h0 h1 h2 h3 h4 h5 h6 h7 h8 h9 h10 h11 misKept mtaped msort mfrom mto mvalue mbad g2 mkept mwas mother mfound mwarm mdrip mtape mbits msize mnumber) rfl [] rfl rfl rfl (by decide +kernel) (ik_runV (st := []) (As := [.int (4 : Int32), .int x1]) C hM mv_X7_becomes wl_12_4 ⟨rfl, rfl, Nat.le_of_ble_eq_true rfl, Nat.le_of_ble_eq_true rfl⟩ [0, 1, 2, 3, 4, 5, 6, 7, 8, 9, 10, 11] rfl (by decide +kernel) 0 rfl rfl rfl rfl (Nat.le_of_ble_eq_true rfl) dX7_seed_3 ⟨Nat.zero_le _, Nat.zero_le _⟩) rfl ?_
  obtain ⟨rfl, rfl⟩ := ik_e2 hf
  exact ik_iretW C hr hlk dX7_seed_6
theorem mv_X7_feed : ik_V yX7_feed RX7 cX7_feed 4 (some .int) 2 := ⟨wl_35_0, wl_35_1, wl_1_5, wl_35_2, by decide +kernel⟩
set_option maxHeartbeats 4000000 in
set_option maxRecDepth 100000 in
theorem c_X7_feed (l : Launch) (D : va_G) (cI cS : ClassId) (h0 h1 h2 h3 h4 h5 h6 h7 h8 h9 h10 h11 : Nat) (misKept : Int32) (mtaped : Int32) (msort : Int32) (mfrom : Int32) (mto : Int32) (mvalue : Int32) (mbad : Int32) (mm : Nat → Int32) (mkept : Nat → Int32) (mwas : Nat → Int32) (mother : Nat → Int32) (mfound : Nat → Int32) (mwarm : Nat → Int32) (mdrip : Nat → Int32) (mtape : Nat → Int32) (mbits : Nat → Int32) (msize : Nat → Int32) (mnumber : Nat → Int32) (x1 : Int32) (x2 : Int32) (R : Int32) (mtaped_r : Int32) (mfound_r : Nat → Int32) (mtape_r : Nat → Int32) (hf : f_X7_feed mtaped mfound mtape x1 x2 = some (R, mtaped_r, mfound_r, mtape_r)) : Met l yX7_feed (ik_ws yX7_feed cX7_feed 4 (some .int)) ({ frames := 1, cells := 0, slots := 0, locals := 25 } : Room) (ik_P D cI cS [.ref h0, .int x1, .int x2] (wz_X7 cI cS h0 h1 h2 h3 h4 h5 h6 h7 h8 h9 h10 h11 misKept mtaped msort mfrom mto mvalue mbad mm mkept mwas mother mfound mwarm mdrip mtape mbits msize mnumber)) (ik_Q (some (.int R)) D (wz_X7 cI cS h0 h1 h2 h3 h4 h5 h6 h7 h8 h9 h10 h11 misKept mtaped_r msort mfrom mto mvalue mbad mm mkept mwas mother mfound_r mwarm mdrip mtape_r mbits msize mnumber) (wz_X7 cI cS h0 h1 h2 h3 h4 h5 h6 h7 h8 h9 h10 h11 misKept mtaped msort mfrom mto mvalue mbad mm mkept mwas mother mfound mwarm mdrip mtape mbits msize mnumber)) 0 0 (ik_in (wz_X7 cI cS h0 h1 h2 h3 h4 h5 h6 h7 h8 h9 h10 h11 misKept mtaped msort mfrom mto mvalue mbad mm mkept mwas mother mfound mwarm mdrip mtape mbits msize mnumber)) := by
  refine ik_metW RX7 rfl (by decide) (Nat.le_of_ble_eq_true rfl) [(0, .ref h0), (1, .int x1), (2, .int x2)] rfl ?_
  intro p e s m below meth c C hr hlk
  unfold f_X7_feed at hf
  refine ik_iload_n C 2 rfl rfl dX7_feed_0 ?_
  refine ik_i2l C dX7_feed_1 ?_
  refine ik_lconst (v := (1 : Int64)) C (by decide) dX7_feed_2 ?_
  refine ik_ldc2 C wl_24_21 dX7_feed_3 ?_
  obtain ⟨r1, hc1, hf⟩ := ik_b1s hf
  have hM := (c_X7_in l D cI cS (x2).toInt64 (1 : Int64) (4 : Int64) r1 hc1)
  refine ik_goR (ik_runS (st := []) (As := [.long (x2).toInt64, .long (1 : Int64), .long (4 : Int64)]) C hM ms_X7_in wl_6_21 ⟨rfl, rfl, Nat.le_of_ble_eq_true rfl, Nat.le_of_ble_eq_true rfl⟩ [] rfl (by decide +kernel) rfl rfl (Nat.le_of_ble_eq_true rfl) dX7_feed_6 ⟨Nat.zero_le _, Nat.zero_le _⟩) rfl ?_
  refine ik_if_ne C 19 dX7_feed_9 (by decide) (fun hc => ?_) (fun hc => ?_)
  · have hf := ik_neg hc hf
    refine ik_aload_n C 0 rfl rfl dX7_feed_19 ?_
    refine ik_get C inlX7 0 rfl rfl 9 (by decide) wl_35_3 rfl (v := .int mtaped) rfl dX7_feed_20 ?_
    refine ik_iload_n C 2 rfl rfl dX7_feed_23 ?_
    refine ik_iadd C dX7_feed_24 ?_
    refine ik_bipush (v := (120 : Int32)) C (by decide) dX7_feed_25 ?_
    refine ik_icmp_le C 37 dX7_feed_27 (by decide) (fun hc => ?_) (fun hc => ?_)
    · have hf := ik_pos hc hf
      refine ik_iload_n C 2 rfl rfl dX7_feed_37 ?_
      refine ik_iconst (v := (1 : Int32)) C (by decide) dX7_feed_38 ?_
      refine ik_isub C dX7_feed_39 ?_
      refine ik_istore_n C [(3, .int (x2 - (1 : Int32))), (0, .ref h0), (1, .int x1), (2, .int x2)] rfl (by decide) rfl dX7_feed_40 ?_
      have hL_41 : ∀ (n_41 : Nat) (mtaped_41 : Int32) (mtape_41 : Nat → Int32) (x3_41 : Int32), ik_lp3 (b_X7_feed_41 mfound x1) n_41 mtaped_41 mtape_41 x3_41 = some (R, mtaped_r, mfound_r, mtape_r) → ik_G p l e ({ frames := 1, cells := 0, slots := 0, locals := 25 } : Room) s m ([.ref h0, .int x1, .int x2] : List Value).toArray below meth c D (ik_in (wz_X7 cI cS h0 h1 h2 h3 h4 h5 h6 h7 h8 h9 h10 h11 misKept mtaped msort mfrom mto mvalue mbad mm mkept mwas mother mfound mwarm mdrip mtape mbits msize mnumber)) (ik_in (wz_X7 cI cS h0 h1 h2 h3 h4 h5 h6 h7 h8 h9 h10 h11 misKept mtaped msort mfrom mto mvalue mbad mm mkept mwas mother mfound mwarm mdrip mtape mbits msize mnumber)) 4 0 0 (MQ below (ik_Q (some (.int R)) D (wz_X7 cI cS h0 h1 h2 h3 h4 h5 h6 h7 h8 h9 h10 h11 misKept mtaped_r msort mfrom mto mvalue mbad mm mkept mwas mother mfound_r mwarm mdrip mtape_r mbits msize mnumber) (wz_X7 cI cS h0 h1 h2 h3 h4 h5 h6 h7 h8 h9 h10 h11 misKept mtaped msort mfrom mto mvalue mbad mm mkept mwas mother mfound mwarm mdrip mtape mbits msize mnumber)) ([.ref h0, .int x1, .int x2] : List Value).toArray s 0 0 (ik_in (wz_X7 cI cS h0 h1 h2 h3 h4 h5 h6 h7 h8 h9 h10 h11 misKept mtaped msort mfrom mto mvalue mbad mm mkept mwas mother mfound mwarm mdrip mtape mbits msize mnumber))) 41 [(3, .int x3_41), (0, .ref h0), (1, .int x1), (2, .int x2)] [] (wz_X7 cI cS h0 h1 h2 h3 h4 h5 h6 h7 h8 h9 h10 h11 misKept mtaped_41 msort mfrom mto mvalue mbad mm mkept mwas mother mfound mwarm mdrip mtape_41 mbits msize mnumber) := by
        intro n_41
        induction n_41 with
        | zero => intro _ _ _ hf; exact nomatch hf
        | succ n_41 ih_41 =>
          intro mtaped_41 mtape_41 x3_41 hf
          replace hf : b_X7_feed_41 mfound x1 (ik_lp3 (b_X7_feed_41 mfound x1) n_41) mtaped_41 mtape_41 x3_41 = some (R, mtaped_r, mfound_r, mtape_r) := hf
          unfold b_X7_feed_41 at hf
          refine ik_iload_n C 0 rfl rfl dX7_feed_41 ?_
          refine ik_if_lt C 80 dX7_feed_42 (by decide) (fun hc => ?_) (fun hc => ?_)
          · have hf := ik_pos hc hf
            refine ik_aload_n C 1 rfl rfl dX7_feed_80 ?_
            refine ik_get C inlX7 0 rfl rfl 9 (by decide) wl_35_3 rfl (v := .int mtaped_41) rfl dX7_feed_81 ?_
            obtain ⟨rfl, rfl, rfl, rfl⟩ := ik_e4 hf
            exact ik_iretW C hr hlk dX7_feed_84
          · have hf := ik_neg hc hf
            refine ik_aload_n C 1 rfl rfl dX7_feed_45 ?_
            refine ik_get C inlX7 0 rfl rfl 8 (by decide) wl_4_19 rfl (v := .ref h8) rfl dX7_feed_46 ?_
            refine ik_aload_n C 1 rfl rfl dX7_feed_49 ?_
            refine ik_get C inlX7 0 rfl rfl 9 (by decide) wl_35_3 rfl (v := .int mtaped_41) rfl dX7_feed_50 ?_
            refine ik_iload_n C 2 rfl rfl dX7_feed_53 ?_
            refine ik_bipush (v := (8 : Int32)) C (by decide) dX7_feed_54 ?_
            refine ik_iload_n C 0 rfl rfl dX7_feed_56 ?_
            refine ik_imul C dX7_feed_57 ?_
            refine ik_ishr C dX7_feed_58 ?_
            refine ik_sipush (v := (255 : Int32)) C (by decide) dX7_feed_59 ?_
            refine ik_iand C dX7_feed_62 ?_
            have hg := ik_gdi hf
            have hf := ik_gdk hf
            refine ik_iast C 8 rfl hg (wz_X7 cI cS h0 h1 h2 h3 h4 h5 h6 h7 h8 h9 h10 h11 misKept mtaped_41 msort mfrom mto mvalue mbad mm mkept mwas mother mfound mwarm mdrip (upd mtape_41 (mtaped_41).toNatClampNeg ((x1 >>> (((8 : Int32) * x3_41) &&& 31)) &&& (255 : Int32))) mbits msize mnumber) rfl dX7_feed_63 ?_
            refine ik_aload_n C 1 rfl rfl dX7_feed_64 ?_
            refine ik_dup C rfl dX7_feed_65 ?_
            refine ik_get C inlX7 0 rfl rfl 9 (by decide) wl_35_3 rfl (v := .int mtaped_41) rfl dX7_feed_66 ?_
            refine ik_iconst (v := (1 : Int32)) C (by decide) dX7_feed_69 ?_
            refine ik_iadd C dX7_feed_70 ?_
            refine ik_put C inlX7 tyX7 tyX7_ok nmX7 0 rfl rfl 9 (by decide) wl_35_3 rfl (by decide) rfl rfl (Nat.le_of_ble_eq_true rfl) (wz_X7 cI cS h0 h1 h2 h3 h4 h5 h6 h7 h8 h9 h10 h11 misKept (mtaped_41 + (1 : Int32)) msort mfrom mto mvalue mbad mm mkept mwas mother mfound mwarm mdrip (upd mtape_41 (mtaped_41).toNatClampNeg ((x1 >>> (((8 : Int32) * x3_41) &&& 31)) &&& (255 : Int32))) mbits msize mnumber) rfl dX7_feed_71 ?_
            refine ik_iinc C [(3, .int (x3_41 + (-1 : Int32))), (0, .ref h0), (1, .int x1), (2, .int x2)] 0 rfl (congrArg (fun t => x3_41 + t) (show Int32.ofInt (-1) = (-1 : Int32) by decide)) (by decide) rfl dX7_feed_74 ?_
            refine ik_goto C 41 dX7_feed_77 (by decide) ?_
            exact ik_sub [0, 1, 2, 3] [(3, .int (x3_41 + (-1 : Int32))), (0, .ref h0), (1, .int x1), (2, .int x2)] rfl (ih_41 (mtaped_41 + (1 : Int32)) (upd mtape_41 (mtaped_41).toNatClampNeg ((x1 >>> (((8 : Int32) * x3_41) &&& 31)) &&& (255 : Int32))) (x3_41 + (-1 : Int32)) hf)
      exact hL_41 ik_fu mtaped mtape (x2 - (1 : Int32)) hf
    · have hf := ik_neg hc hf
      refine ik_aload_n C 0 rfl rfl dX7_feed_30 ?_
      refine ik_ldc C wl_6_15 dX7_feed_31 ?_
      obtain ⟨r2, g3, hc3, hf⟩ := ik_b2s hf
      have hM := (c_X7_finds l D cI cS h0 h1 h2 h3 h4 h5 h6 h7 h8 h9 h10 h11 misKept mtaped msort mfrom mto mvalue mbad mm mkept mwas mother mfound mwarm mdrip mtape mbits msize mnumber (-1000002 : Int32) r2 g3 hc3)
      refine ik_goW (v := (some (.int r2))) (wc := (wz_X7 cI cS h0 h1 h2 h3 h4 h5 h6 h7 h8 h9 h10 h11 misKept mtaped msort mfrom mto mvalue mbad mm mkept mwas mother mfound mwarm mdrip mtape mbits msize mnumber)) (w1 := (wz_X7 cI cS h0 h1 h2 h3 h4 h5 h6 h7 h8 h9 h10 h11 misKept mtaped msort mfrom mto mvalue mbad mm mkept mwas mother g3 mwarm mdrip mtape mbits msize mnumber)) [0, 1, 2, 3, 4, 5, 6, 7, 8, 9, 10, 11] [] 12 rfl rfl (wz_X7 cI cS h0 h1 h2 h3 h4 h5 h6 h7 h8 h9 h10 h11 misKept mtaped msort mfrom mto mvalue mbad mm mkept mwas mother g3 mwarm mdrip mtape mbits msize mnumber) rfl [] rfl rfl rfl (by decide +kernel) (ik_runV (st := []) (As := [.int (-1000002 : Int32)]) C hM mv_X7_finds wl_7_8 ⟨rfl, rfl, Nat.le_of_ble_eq_true rfl, Nat.le_of_ble_eq_true rfl⟩ [0, 1, 2, 3, 4, 5, 6, 7, 8, 9, 10, 11] rfl (by decide +kernel) 0 rfl rfl rfl rfl (Nat.le_of_ble_eq_true rfl) dX7_feed_33 ⟨Nat.zero_le _, Nat.zero_le _⟩) rfl ?_
      obtain ⟨rfl, rfl, rfl, rfl⟩ := ik_e4 hf
      exact ik_iretW C hr hlk dX7_feed_36
  · have hf := ik_pos hc hf
    refine ik_aload_n C 0 rfl rfl dX7_feed_12 ?_
    refine ik_ldc C wl_6_14 dX7_feed_13 ?_
    obtain ⟨r2, g3, hc3, hf⟩ := ik_b2s hf
    have hM := (c_X7_finds l D cI cS h0 h1 h2 h3 h4 h5 h6 h7 h8 h9 h10 h11 misKept mtaped msort mfrom mto mvalue mbad mm mkept mwas mother mfound mwarm mdrip mtape mbits msize mnumber (-1000001 : Int32) r2 g3 hc3)
    refine ik_goW (v := (some (.int r2))) (wc := (wz_X7 cI cS h0 h1 h2 h3 h4 h5 h6 h7 h8 h9 h10 h11 misKept mtaped msort mfrom mto mvalue mbad mm mkept mwas mother mfound mwarm mdrip mtape mbits msize mnumber)) (w1 := (wz_X7 cI cS h0 h1 h2 h3 h4 h5 h6 h7 h8 h9 h10 h11 misKept mtaped msort mfrom mto mvalue mbad mm mkept mwas mother g3 mwarm mdrip mtape mbits msize mnumber)) [0, 1, 2, 3, 4, 5, 6, 7, 8, 9, 10, 11] [] 12 rfl rfl (wz_X7 cI cS h0 h1 h2 h3 h4 h5 h6 h7 h8 h9 h10 h11 misKept mtaped msort mfrom mto mvalue mbad mm mkept mwas mother g3 mwarm mdrip mtape mbits msize mnumber) rfl [] rfl rfl rfl (by decide +kernel) (ik_runV (st := []) (As := [.int (-1000001 : Int32)]) C hM mv_X7_finds wl_7_8 ⟨rfl, rfl, Nat.le_of_ble_eq_true rfl, Nat.le_of_ble_eq_true rfl⟩ [0, 1, 2, 3, 4, 5, 6, 7, 8, 9, 10, 11] rfl (by decide +kernel) 0 rfl rfl rfl rfl (Nat.le_of_ble_eq_true rfl) dX7_feed_15 ⟨Nat.zero_le _, Nat.zero_le _⟩) rfl ?_
    obtain ⟨rfl, rfl, rfl, rfl⟩ := ik_e4 hf
    exact ik_iretW C hr hlk dX7_feed_18
