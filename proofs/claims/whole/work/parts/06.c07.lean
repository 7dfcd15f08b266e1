theorem mv_X7_wipe : ik_V yX7_wipe RX7 cX7_wipe 2 (some .int) 0 := ⟨wl_35_9, wl_35_10, wl_1_5, wl_35_11, by decide +kernel⟩
set_option maxHeartbeats 4000000 in
set_option maxRecDepth 100000 in
theorem c_X7_wipe (l : Launch) (D : va_G) (cI cS : ClassId) (h0 h1 h2 h3 h4 h5 h6 h7 h8 h9 h10 h11 : Nat) (misKept : Int32) (mtaped : Int32) (msort : Int32) (mfrom : Int32) (mto : Int32) (mvalue : Int32) (mbad : Int32) (mm : Nat → Int32) (mkept : Nat → Int32) (mwas : Nat → Int32) (mother : Nat → Int32) (mfound : Nat → Int32) (mwarm : Nat → Int32) (mdrip : Nat → Int32) (mtape : Nat → Int32) (mbits : Nat → Int32) (msize : Nat → Int32) (mnumber : Nat → Int32) (R : Int32) (mtaped_r : Int32) (hf : f_X7_wipe mtaped = some (R, mtaped_r)) : Met l yX7_wipe (ik_ws yX7_wipe cX7_wipe 2 (some .int)) ({ frames := 0, cells := 0, slots := 0, locals := 0 } : Room) (ik_P D cI cS [.ref h0] (wz_X7 cI cS h0 h1 h2 h3 h4 h5 h6 h7 h8 h9 h10 h11 misKept mtaped msort mfrom mto mvalue mbad mm mkept mwas mother mfound mwarm mdrip mtape mbits msize mnumber)) (ik_Q (some (.int R)) D (wz_X7 cI cS h0 h1 h2 h3 h4 h5 h6 h7 h8 h9 h10 h11 misKept mtaped_r msort mfrom mto mvalue mbad mm mkept mwas mother mfound mwarm mdrip mtape mbits msize mnumber) (wz_X7 cI cS h0 h1 h2 h3 h4 h5 h6 h7 h8 h9 h10 h11 misKept mtaped msort mfrom mto mvalue mbad mm mkept mwas mother mfound mwarm mdrip mtape mbits msize mnumber)) 0 0 (ik_in (wz_X7 cI cS h0 h1 h2 h3 h4 h5 h6 h7 h8 h9 h10 h11 misKept mtaped msort mfrom mto mvalue mbad mm mkept mwas mother mfound mwarm mdrip mtape mbits msize mnumber)) := by
  refine ik_metW RX7 rfl (by decide) (Nat.le_of_ble_eq_true rfl) [(0, .ref h0)] rfl ?_
  intro p e s m below meth c C hr hlk
  unfold f_X7_wipe at hf
  refine ik_aload_n C 0 rfl rfl dX7_wipe_0 ?_
  refine ik_get C inlX7 0 rfl rfl 9 (by decide) wl_35_3 rfl (v := .int mtaped) rfl dX7_wipe_1 ?_
  refine ik_istore_n C [(1, .int mtaped), (0, .ref h0)] rfl (by decide) rfl dX7_wipe_4 ?_
  refine ik_aload_n C 1 rfl rfl dX7_wipe_5 ?_
  refine ik_iconst (v := (0 : Int32)) C (by decide) dX7_wipe_6 ?_
  refine ik_put C inlX7 tyX7 tyX7_ok nmX7 0 rfl rfl 9 (by decide) wl_35_3 rfl (by decide) rfl rfl (Nat.le_of_ble_eq_true rfl) (wz_X7 cI cS h0 h1 h2 h3 h4 h5 h6 h7 h8 h9 h10 h11 misKept (0 : Int32) msort mfrom mto mvalue mbad mm mkept mwas mother mfound mwarm mdrip mtape mbits msize mnumber) rfl dX7_wipe_7 ?_
  refine ik_iload_n C 0 rfl rfl dX7_wipe_10 ?_
  obtain ⟨rfl, rfl⟩ := ik_e2 hf
  exact ik_iretW C hr hlk dX7_wipe_11
theorem mv_X7_isByte : ik_V yX7_isByte RX7 cX7_isByte 4 (some .boolean) 3 := ⟨wl_41_0, wl_41_1, wl_1_5, wl_41_2, by decide +kernel⟩
set_option maxHeartbeats 4000000 in
set_option maxRecDepth 100000 in
theorem c_X7_isByte (l : Launch) (D : va_G) (cI cS : ClassId) (h0 h1 h2 h3 h4 h5 h6 h7 h8 h9 h10 h11 : Nat) (misKept : Int32) (mtaped : Int32) (msort : Int32) (mfrom : Int32) (mto : Int32) (mvalue : Int32) (mbad : Int32) (mm : Nat → Int32) (mkept : Nat → Int32) (mwas : Nat → Int32) (mother : Nat → Int32) (mfound : Nat → Int32) (mwarm : Nat → Int32) (mdrip : Nat → Int32) (mtape : Nat → Int32) (mbits : Nat → Int32) (msize : Nat → Int32) (mnumber : Nat → Int32) (x1 : Int32) (x2 : Int32) (x3 : Int32) (R : Int32) (hf : f_X7_isByte mtaped mtape x1 x2 x3 = some (R)) : Met l yX7_isByte (ik_ws yX7_isByte cX7_isByte 4 (some .boolean)) ({ frames := 1, cells := 0, slots := 0, locals := 25 } : Room) (ik_P D cI cS [.ref h0, .int x1, .int x2, .int x3] (wz_X7 cI cS h0 h1 h2 h3 h4 h5 h6 h7 h8 h9 h10 h11 misKept mtaped msort mfrom mto mvalue mbad mm mkept mwas mother mfound mwarm mdrip mtape mbits msize mnumber)) (ik_R (some (.int R))) 0 0 ik_no := by
  refine ik_metR RX7 rfl (by decide) (Nat.le_of_ble_eq_true rfl) [(0, .ref h0), (1, .int x1), (2, .int x2), (3, .int x3)] rfl ?_
  intro p e s m below meth c C hr hlk
  unfold f_X7_isByte at hf
  refine ik_iload_n C 1 rfl rfl dX7_isByte_0 ?_
  refine ik_aload_n C 0 rfl rfl dX7_isByte_1 ?_
  refine ik_get C inlX7 0 rfl rfl 9 (by decide) wl_35_3 rfl (v := .int mtaped) rfl dX7_isByte_2 ?_
  refine ik_icmp_ge C 29 dX7_isByte_5 (by decide) (fun hc => ?_) (fun hc => ?_)
  · have hf := ik_pos hc hf
    refine ik_iconst (v := (0 : Int32)) C (by decide) dX7_isByte_29 ?_
    obtain rfl := Option.some.inj hf
    exact ik_zretR C hr (by decide) hlk dX7_isByte_30
  · have hf := ik_neg hc hf
    refine ik_aload_n C 0 rfl rfl dX7_isByte_8 ?_
    refine ik_get C inlX7 0 rfl rfl 8 (by decide) wl_4_19 rfl (v := .ref h8) rfl dX7_isByte_9 ?_
    refine ik_iload_n C 1 rfl rfl dX7_isByte_12 ?_
    have hg := ik_gdi hf
    have hf := ik_gdk hf
    refine ik_iald C 8 rfl hg dX7_isByte_13 ?_
    refine ik_i2l C dX7_isByte_14 ?_
    refine ik_iload_n C 2 rfl rfl dX7_isByte_15 ?_
    refine ik_i2l C dX7_isByte_16 ?_
    refine ik_iload_n C 3 rfl rfl dX7_isByte_17 ?_
    refine ik_i2l C dX7_isByte_18 ?_
    obtain ⟨r1, hc1, hf⟩ := ik_b1s hf
    have hM := (c_X7_in l D cI cS ((mtape (x1).toNatClampNeg)).toInt64 (x2).toInt64 (x3).toInt64 r1 hc1)
    refine ik_goR (ik_runS (st := []) (As := [.long ((mtape (x1).toNatClampNeg)).toInt64, .long (x2).toInt64, .long (x3).toInt64]) C hM ms_X7_in wl_6_21 ⟨rfl, rfl, Nat.le_of_ble_eq_true rfl, Nat.le_of_ble_eq_true rfl⟩ [] rfl (by decide +kernel) rfl rfl (Nat.le_of_ble_eq_true rfl) dX7_isByte_19 ⟨Nat.zero_le _, Nat.zero_le _⟩) rfl ?_
    refine ik_if_eq C 29 dX7_isByte_22 (by decide) (fun hc => ?_) (fun hc => ?_)
    · have hf := ik_pos hc hf
      refine ik_iconst (v := (0 : Int32)) C (by decide) dX7_isByte_29 ?_
      obtain rfl := Option.some.inj hf
      exact ik_zretR C hr (by decide) hlk dX7_isByte_30
    · have hf := ik_neg hc hf
      refine ik_iconst (v := (1 : Int32)) C (by decide) dX7_isByte_25 ?_
      refine ik_goto C 30 dX7_isByte_26 (by decide) ?_
      obtain rfl := Option.some.inj hf
      exact ik_zretR C hr (by decide) hlk dX7_isByte_30
theorem mv_X7_token : ik_V yX7_token RX7 cX7_token 1 none 0 := ⟨wl_40_19, wl_40_20, wl_1_5, wl_40_21, by decide +kernel⟩
set_option maxHeartbeats 4000000 in
set_option maxRecDepth 100000 in
theorem c_X7_token (l : Launch) (D : va_G) (cI cS : ClassId) (h0 h1 h2 h3 h4 h5 h6 h7 h8 h9 h10 h11 : Nat) (misKept : Int32) (mtaped : Int32) (msort : Int32) (mfrom : Int32) (mto : Int32) (mvalue : Int32) (mbad : Int32) (mm : Nat → Int32) (mkept : Nat → Int32) (mwas : Nat → Int32) (mother : Nat → Int32) (mfound : Nat → Int32) (mwarm : Nat → Int32) (mdrip : Nat → Int32) (mtape : Nat → Int32) (mbits : Nat → Int32) (msize : Nat → Int32) (mnumber : Nat → Int32) (msort_r : Int32) (mfrom_r : Int32) (mto_r : Int32) (mvalue_r : Int32) (hf : f_X7_token mtaped msort mfrom mto mvalue mtape = some (msort_r, mfrom_r, mto_r, mvalue_r)) : Met l yX7_token (ik_ws yX7_token cX7_token 1 none) ({ frames := 2, cells := 0, slots := 0, locals := 48 } : Room) (ik_P D cI cS [.ref h0] (wz_X7 cI cS h0 h1 h2 h3 h4 h5 h6 h7 h8 h9 h10 h11 misKept mtaped msort mfrom mto mvalue mbad mm mkept mwas mother mfound mwarm mdrip mtape mbits msize mnumber)) (ik_Q none D (wz_X7 cI cS h0 h1 h2 h3 h4 h5 h6 h7 h8 h9 h10 h11 misKept mtaped msort_r mfrom_r mto_r mvalue_r mbad mm mkept mwas mother mfound mwarm mdrip mtape mbits msize mnumber) (wz_X7 cI cS h0 h1 h2 h3 h4 h5 h6 h7 h8 h9 h10 h11 misKept mtaped msort mfrom mto mvalue mbad mm mkept mwas mother mfound mwarm mdrip mtape mbits msize mnumber)) 0 0 (ik_in (wz_X7 cI cS h0 h1 h2 h3 h4 h5 h6 h7 h8 h9 h10 h11 misKept mtaped msort mfrom mto mvalue mbad mm mkept mwas mother mfound mwarm mdrip mtape mbits msize mnumber)) := by
  refine ik_metW RX7 rfl (by decide) (Nat.le_of_ble_eq_true rfl) [(0, .ref h0)] rfl ?_
  intro p e s m below meth c C hr hlk
  unfold f_X7_token at hf
  refine ik_aload_n C 0 rfl rfl dX7_token_0 ?_
  refine ik_aload_n C 0 rfl rfl dX7_token_1 ?_
  refine ik_get C inlX7 0 rfl rfl 12 (by decide) wl_40_14 rfl (v := .int mto) rfl dX7_token_2 ?_
  refine ik_put C inlX7 tyX7 tyX7_ok nmX7 0 rfl rfl 11 (by decide) wl_40_17 rfl (by decide) rfl rfl (Nat.le_of_ble_eq_true rfl) (wz_X7 cI cS h0 h1 h2 h3 h4 h5 h6 h7 h8 h9 h10 h11 misKept mtaped msort mto mto mvalue mbad mm mkept mwas mother mfound mwarm mdrip mtape mbits msize mnumber) rfl dX7_token_5 ?_
  have hL_8 : ∀ (n_8 : Nat) (mfrom_8 : Int32), ik_lp1 (b_X7_token_8 mtaped mtape) n_8 mfrom_8 = some (msort_r, mfrom_r, mto_r, mvalue_r) → ik_G p l e ({ frames := 2, cells := 0, slots := 0, locals := 48 } : Room) s m ([.ref h0] : List Value).toArray below meth c D (ik_in (wz_X7 cI cS h0 h1 h2 h3 h4 h5 h6 h7 h8 h9 h10 h11 misKept mtaped msort mfrom mto mvalue mbad mm mkept mwas mother mfound mwarm mdrip mtape mbits msize mnumber)) (ik_in (wz_X7 cI cS h0 h1 h2 h3 h4 h5 h6 h7 h8 h9 h10 h11 misKept mtaped msort mfrom mto mvalue mbad mm mkept mwas mother mfound mwarm mdrip mtape mbits msize mnumber)) 1 0 0 (MQ below (ik_Q none D (wz_X7 cI cS h0 h1 h2 h3 h4 h5 h6 h7 h8 h9 h10 h11 misKept mtaped msort_r mfrom_r mto_r mvalue_r mbad mm mkept mwas mother mfound mwarm mdrip mtape mbits msize mnumber) (wz_X7 cI cS h0 h1 h2 h3 h4 h5 h6 h7 h8 h9 h10 h11 misKept mtaped msort mfrom mto mvalue mbad mm mkept mwas mother mfound mwarm mdrip mtape mbits msize mnumber)) ([.ref h0] : List Value).toArray s 0 0 (ik_in (wz_X7 cI cS h0 h1 h2 h3 h4 h5 h6 h7 h8 h9 h10 h11 misKept mtaped msort mfrom mto mvalue mbad mm mkept mwas mother mfound mwarm mdrip mtape mbits msize mnumber))) 8 [(0, .ref h0)] [] (wz_X7 cI cS h0 h1 h2 h3 h4 h5 h6 h7 h8 h9 h10 h11 misKept mtaped msort mfrom_8 mto mvalue mbad mm mkept mwas mother mfound mwarm mdrip mtape mbits msize mnumber) := by
    intro n_8
    induction n_8 with
    | zero => intro _ hf; exact nomatch hf
    | succ n_8 ih_8 =>
      intro mfrom_8 hf
      replace hf : b_X7_token_8 mtaped mtape (ik_lp1 (b_X7_token_8 mtaped mtape) n_8) mfrom_8 = some (msort_r, mfrom_r, mto_r, mvalue_r) := hf
      unfold b_X7_token_8 at hf
      refine ik_aload_n C 0 rfl rfl dX7_token_8 ?_
      refine ik_aload_n C 0 rfl rfl dX7_token_9 ?_
      refine ik_get C inlX7 0 rfl rfl 11 (by decide) wl_40_17 rfl (v := .int mfrom_8) rfl dX7_token_10 ?_
      refine ik_bipush (v := (32 : Int32)) C (by decide) dX7_token_13 ?_
      refine ik_bipush (v := (32 : Int32)) C (by decide) dX7_token_15 ?_
      obtain ⟨r1, hc1, hf⟩ := ik_b1s hf
      have hM := (c_X7_isByte l D cI cS h0 h1 h2 h3 h4 h5 h6 h7 h8 h9 h10 h11 misKept mtaped msort mfrom_8 mto mvalue mbad mm mkept mwas mother mfound mwarm mdrip mtape mbits msize mnumber mfrom_8 (32 : Int32) (32 : Int32) r1 hc1)
      refine ik_goR (ik_runV (st := []) (As := [.int mfrom_8, .int (32 : Int32), .int (32 : Int32)]) C hM mv_X7_isByte wl_40_23 ⟨rfl, rfl, Nat.le_of_ble_eq_true rfl, Nat.le_of_ble_eq_true rfl⟩ [0, 1, 2, 3, 4, 5, 6, 7, 8, 9, 10, 11] rfl (by decide +kernel) 0 rfl rfl rfl rfl (Nat.le_of_ble_eq_true rfl) dX7_token_17 ⟨Nat.zero_le _, Nat.zero_le _⟩) rfl ?_
      refine ik_if_eq C 36 dX7_token_20 (by decide) (fun hc => ?_) (fun hc => ?_)
      · have hf := ik_pos hc hf
        refine ik_aload_n C 0 rfl rfl dX7_token_36 ?_
        refine ik_aload_n C 0 rfl rfl dX7_token_37 ?_
        refine ik_get C inlX7 0 rfl rfl 11 (by decide) wl_40_17 rfl (v := .int mfrom_8) rfl dX7_token_38 ?_
        refine ik_put C inlX7 tyX7 tyX7_ok nmX7 0 rfl rfl 12 (by decide) wl_40_14 rfl (by decide) rfl rfl (Nat.le_of_ble_eq_true rfl) (wz_X7 cI cS h0 h1 h2 h3 h4 h5 h6 h7 h8 h9 h10 h11 misKept mtaped msort mfrom_8 mfrom_8 mvalue mbad mm mkept mwas mother mfound mwarm mdrip mtape mbits msize mnumber) rfl dX7_token_41 ?_
        refine ik_aload_n C 0 rfl rfl dX7_token_44 ?_
        refine ik_iconst (v := (0 : Int32)) C (by decide) dX7_token_45 ?_
        refine ik_put C inlX7 tyX7 tyX7_ok nmX7 0 rfl rfl 13 (by decide) wl_40_22 rfl (by decide) rfl rfl (Nat.le_of_ble_eq_true rfl) (wz_X7 cI cS h0 h1 h2 h3 h4 h5 h6 h7 h8 h9 h10 h11 misKept mtaped msort mfrom_8 mfrom_8 (0 : Int32) mbad mm mkept mwas mother mfound mwarm mdrip mtape mbits msize mnumber) rfl dX7_token_46 ?_
        refine ik_aload_n C 0 rfl rfl dX7_token_49 ?_
        have hJ_104 : ∀ (v0_104 : Int32), j_X7_token_104 mtaped mtape mfrom_8 v0_104 = some (msort_r, mfrom_r, mto_r, mvalue_r) → ik_G p l e ({ frames := 2, cells := 0, slots := 0, locals := 48 } : Room) s m ([.ref h0] : List Value).toArray below meth c D (ik_in (wz_X7 cI cS h0 h1 h2 h3 h4 h5 h6 h7 h8 h9 h10 h11 misKept mtaped msort mfrom mto mvalue mbad mm mkept mwas mother mfound mwarm mdrip mtape mbits msize mnumber)) (ik_in (wz_X7 cI cS h0 h1 h2 h3 h4 h5 h6 h7 h8 h9 h10 h11 misKept mtaped msort mfrom mto mvalue mbad mm mkept mwas mother mfound mwarm mdrip mtape mbits msize mnumber)) 1 0 0 (MQ below (ik_Q none D (wz_X7 cI cS h0 h1 h2 h3 h4 h5 h6 h7 h8 h9 h10 h11 misKept mtaped msort_r mfrom_r mto_r mvalue_r mbad mm mkept mwas mother mfound mwarm mdrip mtape mbits msize mnumber) (wz_X7 cI cS h0 h1 h2 h3 h4 h5 h6 h7 h8 h9 h10 h11 misKept mtaped msort mfrom mto mvalue mbad mm mkept mwas mother mfound mwarm mdrip mtape mbits msize mnumber)) ([.ref h0] : List Value).toArray s 0 0 (ik_in (wz_X7 cI cS h0 h1 h2 h3 h4 h5 h6 h7 h8 h9 h10 h11 misKept mtaped msort mfrom mto mvalue mbad mm mkept mwas mother mfound mwarm mdrip mtape mbits msize mnumber))) 104 [(0, .ref h0)] [.int v0_104, .ref h0] (wz_X7 cI cS h0 h1 h2 h3 h4 h5 h6 h7 h8 h9 h10 h11 misKept mtaped msort mfrom_8 mfrom_8 (0 : Int32) mbad mm mkept mwas mother mfound mwarm mdrip mtape mbits msize mnumber) := by
          intro v0_104 hf
          unfold j_X7_token_104 at hf
          refine ik_put C inlX7 tyX7 tyX7_ok nmX7 0 rfl rfl 10 (by decide) wl_40_16 rfl (by decide) rfl rfl (Nat.le_of_ble_eq_true rfl) (wz_X7 cI cS h0 h1 h2 h3 h4 h5 h6 h7 h8 h9 h10 h11 misKept mtaped v0_104 mfrom_8 mfrom_8 (0 : Int32) mbad mm mkept mwas mother mfound mwarm mdrip mtape mbits msize mnumber) rfl dX7_token_104 ?_
          have hJ_125 : ∀ (mto_j125 : Int32), j_X7_token_125 mtaped mtape mfrom_8 v0_104 mto_j125 = some (msort_r, mfrom_r, mto_r, mvalue_r) → ik_G p l e ({ frames := 2, cells := 0, slots := 0, locals := 48 } : Room) s m ([.ref h0] : List Value).toArray below meth c D (ik_in (wz_X7 cI cS h0 h1 h2 h3 h4 h5 h6 h7 h8 h9 h10 h11 misKept mtaped msort mfrom mto mvalue mbad mm mkept mwas mother mfound mwarm mdrip mtape mbits msize mnumber)) (ik_in (wz_X7 cI cS h0 h1 h2 h3 h4 h5 h6 h7 h8 h9 h10 h11 misKept mtaped msort mfrom mto mvalue mbad mm mkept mwas mother mfound mwarm mdrip mtape mbits msize mnumber)) 1 0 0 (MQ below (ik_Q none D (wz_X7 cI cS h0 h1 h2 h3 h4 h5 h6 h7 h8 h9 h10 h11 misKept mtaped msort_r mfrom_r mto_r mvalue_r mbad mm mkept mwas mother mfound mwarm mdrip mtape mbits msize mnumber) (wz_X7 cI cS h0 h1 h2 h3 h4 h5 h6 h7 h8 h9 h10 h11 misKept mtaped msort mfrom mto mvalue mbad mm mkept mwas mother mfound mwarm mdrip mtape mbits msize mnumber)) ([.ref h0] : List Value).toArray s 0 0 (ik_in (wz_X7 cI cS h0 h1 h2 h3 h4 h5 h6 h7 h8 h9 h10 h11 misKept mtaped msort mfrom mto mvalue mbad mm mkept mwas mother mfound mwarm mdrip mtape mbits msize mnumber))) 125 [(0, .ref h0)] [] (wz_X7 cI cS h0 h1 h2 h3 h4 h5 h6 h7 h8 h9 h10 h11 misKept mtaped v0_104 mfrom_8 mto_j125 (0 : Int32) mbad mm mkept mwas mother mfound mwarm mdrip mtape mbits msize mnumber) := by
            intro mto_j125 hf
            unfold j_X7_token_125 at hf
            have hL_125 : ∀ (n_125 : Nat) (mto_125 : Int32), ik_lp1 (b_X7_token_125 mtaped mtape mfrom_8 v0_104) n_125 mto_125 = some (msort_r, mfrom_r, mto_r, mvalue_r) → ik_G p l e ({ frames := 2, cells := 0, slots := 0, locals := 48 } : Room) s m ([.ref h0] : List Value).toArray below meth c D (ik_in (wz_X7 cI cS h0 h1 h2 h3 h4 h5 h6 h7 h8 h9 h10 h11 misKept mtaped msort mfrom mto mvalue mbad mm mkept mwas mother mfound mwarm mdrip mtape mbits msize mnumber)) (ik_in (wz_X7 cI cS h0 h1 h2 h3 h4 h5 h6 h7 h8 h9 h10 h11 misKept mtaped msort mfrom mto mvalue mbad mm mkept mwas mother mfound mwarm mdrip mtape mbits msize mnumber)) 1 0 0 (MQ below (ik_Q none D (wz_X7 cI cS h0 h1 h2 h3 h4 h5 h6 h7 h8 h9 h10 h11 misKept mtaped msort_r mfrom_r mto_r mvalue_r mbad mm mkept mwas mother mfound mwarm mdrip mtape mbits msize mnumber) (wz_X7 cI cS h0 h1 h2 h3 h4 h5 h6 h7 h8 h9 h10 h11 misKept mtaped msort mfrom mto mvalue mbad mm mkept mwas mother mfound mwarm mdrip mtape mbits msize mnumber)) ([.ref h0] : List Value).toArray s 0 0 (ik_in (wz_X7 cI cS h0 h1 h2 h3 h4 h5 h6 h7 h8 h9 h10 h11 misKept mtaped msort mfrom mto mvalue mbad mm mkept mwas mother mfound mwarm mdrip mtape mbits msize mnumber))) 125 [(0, .ref h0)] [] (wz_X7 cI cS h0 h1 h2 h3 h4 h5 h6 h7 h8 h9 h10 h11 misKept mtaped v0_104 mfrom_8 mto_125 (0 : Int32) mbad mm mkept mwas mother mfound mwarm mdrip mtape mbits msize mnumber) := by
              intro n_125
              induction n_125 with
              | zero => intro _ hf; exact nomatch hf
              | succ n_125 ih_125 =>
                intro mto_125 hf
                replace hf : b_X7_token_125 mtaped mtape mfrom_8 v0_104 (ik_lp1 (b_X7_token_125 mtaped mtape mfrom_8 v0_104) n_125) mto_125 = some (msort_r, mfrom_r, mto_r, mvalue_r) := hf
                unfold b_X7_token_125 at hf
                have hJ_161 : ∀ (_ : Unit), j_X7_token_161 mtaped mtape mfrom_8 mto_125 v0_104 = some (msort_r, mfrom_r, mto_r, mvalue_r) → ik_G p l e ({ frames := 2, cells := 0, slots := 0, locals := 48 } : Room) s m ([.ref h0] : List Value).toArray below meth c D (ik_in (wz_X7 cI cS h0 h1 h2 h3 h4 h5 h6 h7 h8 h9 h10 h11 misKept mtaped msort mfrom mto mvalue mbad mm mkept mwas mother mfound mwarm mdrip mtape mbits msize mnumber)) (ik_in (wz_X7 cI cS h0 h1 h2 h3 h4 h5 h6 h7 h8 h9 h10 h11 misKept mtaped msort mfrom mto mvalue mbad mm mkept mwas mother mfound mwarm mdrip mtape mbits msize mnumber)) 1 0 0 (MQ below (ik_Q none D (wz_X7 cI cS h0 h1 h2 h3 h4 h5 h6 h7 h8 h9 h10 h11 misKept mtaped msort_r mfrom_r mto_r mvalue_r mbad mm mkept mwas mother mfound mwarm mdrip mtape mbits msize mnumber) (wz_X7 cI cS h0 h1 h2 h3 h4 h5 h6 h7 h8 h9 h10 h11 misKept mtaped msort mfrom mto mvalue mbad mm mkept mwas mother mfound mwarm mdrip mtape mbits msize mnumber)) ([.ref h0] : List Value).toArray s 0 0 (ik_in (wz_X7 cI cS h0 h1 h2 h3 h4 h5 h6 h7 h8 h9 h10 h11 misKept mtaped msort mfrom mto mvalue mbad mm mkept mwas mother mfound mwarm mdrip mtape mbits msize mnumber))) 161 [(0, .ref h0)] [] (wz_X7 cI cS h0 h1 h2 h3 h4 h5 h6 h7 h8 h9 h10 h11 misKept mtaped v0_104 mfrom_8 mto_125 (0 : Int32) mbad mm mkept mwas mother mfound mwarm mdrip mtape mbits msize mnumber) := by
                  intro _ hf
                  unfold j_X7_token_161 at hf
                  have hL_161 : ∀ (n_161 : Nat) (mto_161 : Int32) (mvalue_161 : Int32), ik_lp2 (b_X7_token_161 mtaped mtape mfrom_8 v0_104) n_161 mto_161 mvalue_161 = some (msort_r, mfrom_r, mto_r, mvalue_r) → ik_G p l e ({ frames := 2, cells := 0, slots := 0, locals := 48 } : Room) s m ([.ref h0] : List Value).toArray below meth c D (ik_in (wz_X7 cI cS h0 h1 h2 h3 h4 h5 h6 h7 h8 h9 h10 h11 misKept mtaped msort mfrom mto mvalue mbad mm mkept mwas mother mfound mwarm mdrip mtape mbits msize mnumber)) (ik_in (wz_X7 cI cS h0 h1 h2 h3 h4 h5 h6 h7 h8 h9 h10 h11 misKept mtaped msort mfrom mto mvalue mbad mm mkept mwas mother mfound mwarm mdrip mtape mbits msize mnumber)) 1 0 0 (MQ below (ik_Q none D (wz_X7 cI cS h0 h1 h2 h3 h4 h5 h6 h7 h8 h9 h10 h11 misKept mtaped msort_r mfrom_r mto_r mvalue_r mbad mm mkept mwas mother mfound mwarm mdrip mtape mbits msize mnumber) (wz_X7 cI cS h0 h1 h2 h3 h4 h5 h6 h7 h8 h9 h10 h11 misKept mtaped msort mfrom mto mvalue mbad mm mkept mwas mother mfound mwarm mdrip mtape mbits msize mnumber)) ([.ref h0] : List Value).toArray s 0 0 (ik_in (wz_X7 cI cS h0 h1 h2 h3 h4 h5 h6 h7 h8 h9 h10 h11 misKept mtaped msort mfrom mto mvalue mbad mm mkept mwas mother mfound mwarm mdrip mtape mbits msize mnumber))) 161 [(0, .ref h0)] [] (wz_X7 cI cS h0 h1 h2 h3 h4 h5 h6 h7 h8 h9 h10 h11 misKept mtaped v0_104 mfrom_8 mto_161 mvalue_161 mbad mm mkept mwas mother mfound mwarm mdrip mtape mbits msize mnumber) := by
                    intro n_161
                    induction n_161 with
                    | zero => intro _ _ hf; exact nomatch hf
                    | succ n_161 ih_161 =>
                      intro mto_161 mvalue_161 hf
                      replace hf : b_X7_token_161 mtaped mtape mfrom_8 v0_104 (ik_lp2 (b_X7_token_161 mtaped mtape mfrom_8 v0_104) n_161) mto_161 mvalue_161 = some (msort_r, mfrom_r, mto_r, mvalue_r) := hf
                      unfold b_X7_token_161 at hf
                      refine ik_aload_n C 0 rfl rfl dX7_token_161 ?_
                      refine ik_get C inlX7 0 rfl rfl 10 (by decide) wl_40_16 rfl (v := .int v0_104) rfl dX7_token_162 ?_
                      refine ik_iconst (v := (2 : Int32)) C (by decide) dX7_token_165 ?_
                      refine ik_icmp_ne C 238 dX7_token_166 (by decide) (fun hc => ?_) (fun hc => ?_)
                      · have hf := ik_neg hc hf
                        obtain ⟨rfl, rfl, rfl, rfl⟩ := ik_e4 hf
                        exact ik_vretW C hr hlk dX7_token_238
                      · have hf := ik_pos hc hf
                        refine ik_aload_n C 0 rfl rfl dX7_token_169 ?_
                        refine ik_aload_n C 0 rfl rfl dX7_token_170 ?_
                        refine ik_get C inlX7 0 rfl rfl 12 (by decide) wl_40_14 rfl (v := .int mto_161) rfl dX7_token_171 ?_
                        refine ik_bipush (v := (48 : Int32)) C (by decide) dX7_token_174 ?_
                        refine ik_bipush (v := (57 : Int32)) C (by decide) dX7_token_176 ?_
                        obtain ⟨r2, hc2, hf⟩ := ik_b1s hf
                        have hM := (c_X7_isByte l D cI cS h0 h1 h2 h3 h4 h5 h6 h7 h8 h9 h10 h11 misKept mtaped v0_104 mfrom_8 mto_161 mvalue_161 mbad mm mkept mwas mother mfound mwarm mdrip mtape mbits msize mnumber mto_161 (48 : Int32) (57 : Int32) r2 hc2)
                        refine ik_goR (ik_runV (st := []) (As := [.int mto_161, .int (48 : Int32), .int (57 : Int32)]) C hM mv_X7_isByte wl_40_23 ⟨rfl, rfl, Nat.le_of_ble_eq_true rfl, Nat.le_of_ble_eq_true rfl⟩ [0, 1, 2, 3, 4, 5, 6, 7, 8, 9, 10, 11] rfl (by decide +kernel) 0 rfl rfl rfl rfl (Nat.le_of_ble_eq_true rfl) dX7_token_178 ⟨Nat.zero_le _, Nat.zero_le _⟩) rfl ?_
                        refine ik_if_eq C 238 dX7_token_181 (by decide) (fun hc => ?_) (fun hc => ?_)
                        · have hf := ik_pos hc hf
                          obtain ⟨rfl, rfl, rfl, rfl⟩ := ik_e4 hf
                          exact ik_vretW C hr hlk dX7_token_238
                        · have hf := ik_neg hc hf
                          refine ik_aload_n C 0 rfl rfl dX7_token_184 ?_
                          refine ik_aload_n C 0 rfl rfl dX7_token_185 ?_
                          refine ik_get C inlX7 0 rfl rfl 13 (by decide) wl_40_22 rfl (v := .int mvalue_161) rfl dX7_token_186 ?_
                          refine ik_sipush (v := (999 : Int32)) C (by decide) dX7_token_189 ?_
                          refine ik_icmp_le C 202 dX7_token_192 (by decide) (fun hc => ?_) (fun hc => ?_)
                          · have hf := ik_pos hc hf
                            refine ik_bipush (v := (10 : Int32)) C (by decide) dX7_token_202 ?_
                            refine ik_aload_n C 0 rfl rfl dX7_token_204 ?_
                            refine ik_get C inlX7 0 rfl rfl 13 (by decide) wl_40_22 rfl (v := .int mvalue_161) rfl dX7_token_205 ?_
                            refine ik_imul C dX7_token_208 ?_
                            refine ik_aload_n C 0 rfl rfl dX7_token_209 ?_
                            refine ik_get C inlX7 0 rfl rfl 8 (by decide) wl_4_19 rfl (v := .ref h8) rfl dX7_token_210 ?_
                            refine ik_aload_n C 0 rfl rfl dX7_token_213 ?_
                            refine ik_get C inlX7 0 rfl rfl 12 (by decide) wl_40_14 rfl (v := .int mto_161) rfl dX7_token_214 ?_
                            have hg := ik_gdi hf
                            have hf := ik_gdk hf
                            refine ik_iald C 8 rfl hg dX7_token_217 ?_
                            refine ik_iadd C dX7_token_218 ?_
                            refine ik_bipush (v := (48 : Int32)) C (by decide) dX7_token_219 ?_
                            refine ik_isub C dX7_token_221 ?_
                            refine ik_put C inlX7 tyX7 tyX7_ok nmX7 0 rfl rfl 13 (by decide) wl_40_22 rfl (by decide) rfl rfl (Nat.le_of_ble_eq_true rfl) (wz_X7 cI cS h0 h1 h2 h3 h4 h5 h6 h7 h8 h9 h10 h11 misKept mtaped v0_104 mfrom_8 mto_161 ((((10 : Int32) * mvalue_161) + (mtape (mto_161).toNatClampNeg)) - (48 : Int32)) mbad mm mkept mwas mother mfound mwarm mdrip mtape mbits msize mnumber) rfl dX7_token_222 ?_
                            refine ik_aload_n C 0 rfl rfl dX7_token_225 ?_
                            refine ik_dup C rfl dX7_token_226 ?_
                            refine ik_get C inlX7 0 rfl rfl 12 (by decide) wl_40_14 rfl (v := .int mto_161) rfl dX7_token_227 ?_
                            refine ik_iconst (v := (1 : Int32)) C (by decide) dX7_token_230 ?_
                            refine ik_iadd C dX7_token_231 ?_
                            refine ik_put C inlX7 tyX7 tyX7_ok nmX7 0 rfl rfl 12 (by decide) wl_40_14 rfl (by decide) rfl rfl (Nat.le_of_ble_eq_true rfl) (wz_X7 cI cS h0 h1 h2 h3 h4 h5 h6 h7 h8 h9 h10 h11 misKept mtaped v0_104 mfrom_8 (mto_161 + (1 : Int32)) ((((10 : Int32) * mvalue_161) + (mtape (mto_161).toNatClampNeg)) - (48 : Int32)) mbad mm mkept mwas mother mfound mwarm mdrip mtape mbits msize mnumber) rfl dX7_token_232 ?_
                            refine ik_goto C 161 dX7_token_235 (by decide) ?_
                            exact ik_sub [0] [(0, .ref h0)] rfl (ih_161 (mto_161 + (1 : Int32)) ((((10 : Int32) * mvalue_161) + (mtape (mto_161).toNatClampNeg)) - (48 : Int32)) hf)
                          · have hf := ik_neg hc hf
                            refine ik_aload_n C 0 rfl rfl dX7_token_195 ?_
                            refine ik_get C inlX7 0 rfl rfl 13 (by decide) wl_40_22 rfl (v := .int mvalue_161) rfl dX7_token_196 ?_
                            refine ik_goto C 222 dX7_token_199 (by decide) ?_
                            refine ik_put C inlX7 tyX7 tyX7_ok nmX7 0 rfl rfl 13 (by decide) wl_40_22 rfl (by decide) rfl rfl (Nat.le_of_ble_eq_true rfl) (wz_X7 cI cS h0 h1 h2 h3 h4 h5 h6 h7 h8 h9 h10 h11 misKept mtaped v0_104 mfrom_8 mto_161 mvalue_161 mbad mm mkept mwas mother mfound mwarm mdrip mtape mbits msize mnumber) rfl dX7_token_222 ?_
                            refine ik_aload_n C 0 rfl rfl dX7_token_225 ?_
                            refine ik_dup C rfl dX7_token_226 ?_
                            refine ik_get C inlX7 0 rfl rfl 12 (by decide) wl_40_14 rfl (v := .int mto_161) rfl dX7_token_227 ?_
                            refine ik_iconst (v := (1 : Int32)) C (by decide) dX7_token_230 ?_
                            refine ik_iadd C dX7_token_231 ?_
                            refine ik_put C inlX7 tyX7 tyX7_ok nmX7 0 rfl rfl 12 (by decide) wl_40_14 rfl (by decide) rfl rfl (Nat.le_of_ble_eq_true rfl) (wz_X7 cI cS h0 h1 h2 h3 h4 h5 h6 h7 h8 h9 h10 h11 misKept mtaped v0_104 mfrom_8 (mto_161 + (1 : Int32)) mvalue_161 mbad mm mkept mwas mother mfound mwarm mdrip mtape mbits msize mnumber) rfl dX7_token_232 ?_
                            refine ik_goto C 161 dX7_token_235 (by decide) ?_
                            exact ik_sub [0] [(0, .ref h0)] rfl (ih_161 (mto_161 + (1 : Int32)) mvalue_161 hf)
                  exact hL_161 ik_fu mto_125 (0 : Int32) hf
                refine ik_aload_n C 0 rfl rfl dX7_token_125 ?_
                refine ik_get C inlX7 0 rfl rfl 10 (by decide) wl_40_16 rfl (v := .int v0_104) rfl dX7_token_126 ?_
                refine ik_iconst (v := (1 : Int32)) C (by decide) dX7_token_129 ?_
                refine ik_icmp_ne C 161 dX7_token_130 (by decide) (fun hc => ?_) (fun hc => ?_)
                · have hf := ik_neg hc hf
                  exact ik_sub [0] [(0, .ref h0)] rfl (hJ_161 () hf)
                · have hf := ik_pos hc hf
                  refine ik_aload_n C 0 rfl rfl dX7_token_133 ?_
                  refine ik_aload_n C 0 rfl rfl dX7_token_134 ?_
                  refine ik_get C inlX7 0 rfl rfl 12 (by decide) wl_40_14 rfl (v := .int mto_125) rfl dX7_token_135 ?_
                  refine ik_bipush (v := (97 : Int32)) C (by decide) dX7_token_138 ?_
                  refine ik_bipush (v := (122 : Int32)) C (by decide) dX7_token_140 ?_
                  obtain ⟨r2, hc2, hf⟩ := ik_b1s hf
                  have hM := (c_X7_isByte l D cI cS h0 h1 h2 h3 h4 h5 h6 h7 h8 h9 h10 h11 misKept mtaped v0_104 mfrom_8 mto_125 (0 : Int32) mbad mm mkept mwas mother mfound mwarm mdrip mtape mbits msize mnumber mto_125 (97 : Int32) (122 : Int32) r2 hc2)
                  refine ik_goR (ik_runV (st := []) (As := [.int mto_125, .int (97 : Int32), .int (122 : Int32)]) C hM mv_X7_isByte wl_40_23 ⟨rfl, rfl, Nat.le_of_ble_eq_true rfl, Nat.le_of_ble_eq_true rfl⟩ [0, 1, 2, 3, 4, 5, 6, 7, 8, 9, 10, 11] rfl (by decide +kernel) 0 rfl rfl rfl rfl (Nat.le_of_ble_eq_true rfl) dX7_token_142 ⟨Nat.zero_le _, Nat.zero_le _⟩) rfl ?_
                  refine ik_if_eq C 161 dX7_token_145 (by decide) (fun hc => ?_) (fun hc => ?_)
                  · have hf := ik_pos hc hf
                    exact ik_sub [0] [(0, .ref h0)] rfl (hJ_161 () hf)
                  · have hf := ik_neg hc hf
                    refine ik_aload_n C 0 rfl rfl dX7_token_148 ?_
                    refine ik_dup C rfl dX7_token_149 ?_
                    refine ik_get C inlX7 0 rfl rfl 12 (by decide) wl_40_14 rfl (v := .int mto_125) rfl dX7_token_150 ?_
                    refine ik_iconst (v := (1 : Int32)) C (by decide) dX7_token_153 ?_
                    refine ik_iadd C dX7_token_154 ?_
                    refine ik_put C inlX7 tyX7 tyX7_ok nmX7 0 rfl rfl 12 (by decide) wl_40_14 rfl (by decide) rfl rfl (Nat.le_of_ble_eq_true rfl) (wz_X7 cI cS h0 h1 h2 h3 h4 h5 h6 h7 h8 h9 h10 h11 misKept mtaped v0_104 mfrom_8 (mto_125 + (1 : Int32)) (0 : Int32) mbad mm mkept mwas mother mfound mwarm mdrip mtape mbits msize mnumber) rfl dX7_token_155 ?_
                    refine ik_goto C 125 dX7_token_158 (by decide) ?_
                    exact ik_sub [0] [(0, .ref h0)] rfl (ih_125 (mto_125 + (1 : Int32)) hf)
            exact hL_125 ik_fu mto_j125 hf
          refine ik_aload_n C 0 rfl rfl dX7_token_107 ?_
          refine ik_get C inlX7 0 rfl rfl 10 (by decide) wl_40_16 rfl (v := .int v0_104) rfl dX7_token_108 ?_
          refine ik_iconst (v := (3 : Int32)) C (by decide) dX7_token_111 ?_
          refine ik_icmp_ne C 125 dX7_token_112 (by decide) (fun hc => ?_) (fun hc => ?_)
          · have hf := ik_neg hc hf
            exact ik_sub [0] [(0, .ref h0)] rfl (hJ_125 mfrom_8 hf)
          · have hf := ik_pos hc hf
            refine ik_aload_n C 0 rfl rfl dX7_token_115 ?_
            refine ik_dup C rfl dX7_token_116 ?_
            refine ik_get C inlX7 0 rfl rfl 12 (by decide) wl_40_14 rfl (v := .int mfrom_8) rfl dX7_token_117 ?_
            refine ik_iconst (v := (1 : Int32)) C (by decide) dX7_token_120 ?_
            refine ik_iadd C dX7_token_121 ?_
            refine ik_put C inlX7 tyX7 tyX7_ok nmX7 0 rfl rfl 12 (by decide) wl_40_14 rfl (by decide) rfl rfl (Nat.le_of_ble_eq_true rfl) (wz_X7 cI cS h0 h1 h2 h3 h4 h5 h6 h7 h8 h9 h10 h11 misKept mtaped v0_104 mfrom_8 (mfrom_8 + (1 : Int32)) (0 : Int32) mbad mm mkept mwas mother mfound mwarm mdrip mtape mbits msize mnumber) rfl dX7_token_122 ?_
            exact ik_sub [0] [(0, .ref h0)] rfl (hJ_125 (mfrom_8 + (1 : Int32)) hf)
        refine ik_aload_n C 0 rfl rfl dX7_token_50 ?_
        refine ik_get C inlX7 0 rfl rfl 11 (by decide) wl_40_17 rfl (v := .int mfrom_8) rfl dX7_token_51 ?_
        refine ik_aload_n C 0 rfl rfl dX7_token_54 ?_
        refine ik_get C inlX7 0 rfl rfl 9 (by decide) wl_35_3 rfl (v := .int mtaped) rfl dX7_token_55 ?_
        refine ik_icmp_ne C 65 dX7_token_58 (by decide) (fun hc => ?_) (fun hc => ?_)
        · have hf := ik_neg hc hf
          refine ik_aload_n C 0 rfl rfl dX7_token_65 ?_
          refine ik_aload_n C 0 rfl rfl dX7_token_66 ?_
          refine ik_get C inlX7 0 rfl rfl 11 (by decide) wl_40_17 rfl (v := .int mfrom_8) rfl dX7_token_67 ?_
          refine ik_bipush (v := (97 : Int32)) C (by decide) dX7_token_70 ?_
          refine ik_bipush (v := (122 : Int32)) C (by decide) dX7_token_72 ?_
          obtain ⟨r2, hc2, hf⟩ := ik_b1s hf
          have hM := (c_X7_isByte l D cI cS h0 h1 h2 h3 h4 h5 h6 h7 h8 h9 h10 h11 misKept mtaped msort mfrom_8 mfrom_8 (0 : Int32) mbad mm mkept mwas mother mfound mwarm mdrip mtape mbits msize mnumber mfrom_8 (97 : Int32) (122 : Int32) r2 hc2)
          refine ik_goR (ik_runV (st := [.ref h0]) (As := [.int mfrom_8, .int (97 : Int32), .int (122 : Int32)]) C hM mv_X7_isByte wl_40_23 ⟨rfl, rfl, Nat.le_of_ble_eq_true rfl, Nat.le_of_ble_eq_true rfl⟩ [0, 1, 2, 3, 4, 5, 6, 7, 8, 9, 10, 11] rfl (by decide +kernel) 0 rfl rfl rfl rfl (Nat.le_of_ble_eq_true rfl) dX7_token_74 ⟨Nat.zero_le _, Nat.zero_le _⟩) rfl ?_
          refine ik_if_eq C 84 dX7_token_77 (by decide) (fun hc => ?_) (fun hc => ?_)
          · have hf := ik_pos hc hf
            refine ik_aload_n C 0 rfl rfl dX7_token_84 ?_
            refine ik_aload_n C 0 rfl rfl dX7_token_85 ?_
            refine ik_get C inlX7 0 rfl rfl 11 (by decide) wl_40_17 rfl (v := .int mfrom_8) rfl dX7_token_86 ?_
            refine ik_bipush (v := (48 : Int32)) C (by decide) dX7_token_89 ?_
            refine ik_bipush (v := (57 : Int32)) C (by decide) dX7_token_91 ?_
            obtain ⟨r3, hc3, hf⟩ := ik_b1s hf
            have hM := (c_X7_isByte l D cI cS h0 h1 h2 h3 h4 h5 h6 h7 h8 h9 h10 h11 misKept mtaped msort mfrom_8 mfrom_8 (0 : Int32) mbad mm mkept mwas mother mfound mwarm mdrip mtape mbits msize mnumber mfrom_8 (48 : Int32) (57 : Int32) r3 hc3)
            refine ik_goR (ik_runV (st := [.ref h0]) (As := [.int mfrom_8, .int (48 : Int32), .int (57 : Int32)]) C hM mv_X7_isByte wl_40_23 ⟨rfl, rfl, Nat.le_of_ble_eq_true rfl, Nat.le_of_ble_eq_true rfl⟩ [0, 1, 2, 3, 4, 5, 6, 7, 8, 9, 10, 11] rfl (by decide +kernel) 0 rfl rfl rfl rfl (Nat.le_of_ble_eq_true rfl) dX7_token_93 ⟨Nat.zero_le _, Nat.zero_le _⟩) rfl ?_
            refine ik_if_eq C 103 dX7_token_96 (by decide) (fun hc => ?_) (fun hc => ?_)
            · have hf := ik_pos hc hf
              refine ik_iconst (v := (3 : Int32)) C (by decide) dX7_token_103 ?_
              exact ik_sub [0] [(0, .ref h0)] rfl (hJ_104 (3 : Int32) hf)
            · have hf := ik_neg hc hf
              refine ik_iconst (v := (2 : Int32)) C (by decide) dX7_token_99 ?_
              refine ik_goto C 104 dX7_token_100 (by decide) ?_
              exact ik_sub [0] [(0, .ref h0)] rfl (hJ_104 (2 : Int32) hf)
          · have hf := ik_neg hc hf
            refine ik_iconst (v := (1 : Int32)) C (by decide) dX7_token_80 ?_
            refine ik_goto C 104 dX7_token_81 (by decide) ?_
            exact ik_sub [0] [(0, .ref h0)] rfl (hJ_104 (1 : Int32) hf)
        · have hf := ik_pos hc hf
          refine ik_iconst (v := (0 : Int32)) C (by decide) dX7_token_61 ?_
          refine ik_goto C 104 dX7_token_62 (by decide) ?_
          exact ik_sub [0] [(0, .ref h0)] rfl (hJ_104 (0 : Int32) hf)
      · have hf := ik_neg hc hf
        refine ik_aload_n C 0 rfl rfl dX7_token_23 ?_
        refine ik_dup C rfl dX7_token_24 ?_
        refine ik_get C inlX7 0 rfl rfl 11 (by decide) wl_40_17 rfl (v := .int mfrom_8) rfl dX7_token_25 ?_
        refine ik_iconst (v := (1 : Int32)) C (by decide) dX7_token_28 ?_
        refine ik_iadd C dX7_token_29 ?_
        refine ik_put C inlX7 tyX7 tyX7_ok nmX7 0 rfl rfl 11 (by decide) wl_40_17 rfl (by decide) rfl rfl (Nat.le_of_ble_eq_true rfl) (wz_X7 cI cS h0 h1 h2 h3 h4 h5 h6 h7 h8 h9 h10 h11 misKept mtaped msort (mfrom_8 + (1 : Int32)) mto mvalue mbad mm mkept mwas mother mfound mwarm mdrip mtape mbits msize mnumber) rfl dX7_token_30 ?_
        refine ik_goto C 8 dX7_token_33 (by decide) ?_
        exact ik_sub [0] [(0, .ref h0)] rfl (ih_8 (mfrom_8 + (1 : Int32)) hf)
  exact hL_8 ik_fu mto hf
theorem mv_X7_isWord : ik_V yX7_isWord RX7 cX7_isWord 4 (some .boolean) 1 := ⟨wl_41_12, wl_41_13, wl_1_5, wl_41_14, by decide +kernel⟩
set_option maxHeartbeats 4000000 in
set_option maxRecDepth 100000 in
theorem c_X7_isWord (l : Launch) (D : va_G) (cI cS : ClassId) (aK aV : Nat → Nat) (ka : Nat) (wi : Nat) (hwi : wi < 26) (h0 h1 h2 h3 h4 h5 h6 h7 h8 h9 h10 h11 : Nat) (misKept : Int32) (mtaped : Int32) (msort : Int32) (mfrom : Int32) (mto : Int32) (mvalue : Int32) (mbad : Int32) (mm : Nat → Int32) (mkept : Nat → Int32) (mwas : Nat → Int32) (mother : Nat → Int32) (mfound : Nat → Int32) (mwarm : Nat → Int32) (mdrip : Nat → Int32) (mtape : Nat → Int32) (mbits : Nat → Int32) (msize : Nat → Int32) (mnumber : Nat → Int32) (R : Int32) (hf : f_X7_isWord msort mfrom mto mbad mtape wi = some (R)) : Met l yX7_isWord (ik_ws yX7_isWord cX7_isWord 4 (some .boolean)) ({ frames := 4, cells := 0, slots := 0, locals := 111 } : Room) (ik_PZ D cI cS aK aV ka [.ref h0, .ref (aK wi)] (wz_X7 cI cS h0 h1 h2 h3 h4 h5 h6 h7 h8 h9 h10 h11 misKept mtaped msort mfrom mto mvalue mbad mm mkept mwas mother mfound mwarm mdrip mtape mbits msize mnumber)) (ik_R (some (.int R))) 0 0 ik_no := by
  refine ik_metRZ RX7 rfl (by decide) (Nat.le_of_ble_eq_true rfl) [(0, .ref h0), (1, .ref (aK wi))] rfl ?_
  intro p e s m below meth c C hr hlk hZ
  unfold f_X7_isWord at hf
  have hJ_36 : ∀ (v0_36 : Int32), j_X7_isWord_36 mfrom mtape wi v0_36 = some (R) → ik_G p l e ({ frames := 4, cells := 0, slots := 0, locals := 111 } : Room) s m ([.ref h0, .ref (aK wi)] : List Value).toArray below meth c D ik_no (fun _ => True) 4 0 0 (MQ below (ik_R (some (.int R))) ([.ref h0, .ref (aK wi)] : List Value).toArray s 0 0 ik_no) 36 [(0, .ref h0), (1, .ref (aK wi))] [.int v0_36] (wz_X7 cI cS h0 h1 h2 h3 h4 h5 h6 h7 h8 h9 h10 h11 misKept mtaped msort mfrom mto mvalue mbad mm mkept mwas mother mfound mwarm mdrip mtape mbits msize mnumber) := by
    intro v0_36 hf
    unfold j_X7_isWord_36 at hf
    refine ik_istore_n C [(2, .int v0_36), (0, .ref h0), (1, .ref (aK wi))] rfl (by decide) rfl dX7_isWord_36 ?_
    refine ik_iconst (v := (0 : Int32)) C (by decide) dX7_isWord_37 ?_
    refine ik_istore_n C [(3, .int (0 : Int32)), (2, .int v0_36), (0, .ref h0), (1, .ref (aK wi))] rfl (by decide) rfl dX7_isWord_38 ?_
    have hL_39 : ∀ (n_39 : Nat) (x2_39 : Int32) (x3_39 : Int32), ik_lp2 (b_X7_isWord_39 mfrom mtape wi) n_39 x2_39 x3_39 = some (R) → ik_G p l e ({ frames := 4, cells := 0, slots := 0, locals := 111 } : Room) s m ([.ref h0, .ref (aK wi)] : List Value).toArray below meth c D ik_no (fun _ => True) 4 0 0 (MQ below (ik_R (some (.int R))) ([.ref h0, .ref (aK wi)] : List Value).toArray s 0 0 ik_no) 39 [(3, .int x3_39), (2, .int x2_39), (0, .ref h0), (1, .ref (aK wi))] [] (wz_X7 cI cS h0 h1 h2 h3 h4 h5 h6 h7 h8 h9 h10 h11 misKept mtaped msort mfrom mto mvalue mbad mm mkept mwas mother mfound mwarm mdrip mtape mbits msize mnumber) := by
      intro n_39
      induction n_39 with
      | zero => intro _ _ hf; exact nomatch hf
      | succ n_39 ih_39 =>
        intro x2_39 x3_39 hf
        replace hf : b_X7_isWord_39 mfrom mtape wi (ik_lp2 (b_X7_isWord_39 mfrom mtape wi) n_39) x2_39 x3_39 = some (R) := hf
        unfold b_X7_isWord_39 at hf
        refine ik_iload_n C 1 rfl rfl dX7_isWord_39 ?_
        refine ik_if_eq C 82 dX7_isWord_40 (by decide) (fun hc => ?_) (fun hc => ?_)
        · have hf := ik_pos hc hf
          refine ik_iload_n C 1 rfl rfl dX7_isWord_82 ?_
          have hz := ik_gzi hf
          have hf := ik_gzk hf
          obtain rfl := Option.some.inj hf
          exact ik_zretR C hr hz.1 hlk dX7_isWord_83
        · have hf := ik_neg hc hf
          refine ik_iload_n C 0 rfl rfl dX7_isWord_43 ?_
          refine ik_aload_n C 3 rfl rfl dX7_isWord_44 ?_
          have hM := c_J0_length_8abf5 l D cI cS aK aV ka wi hwi
          refine ik_goR (ik_runT (st := [.int x3_39]) (As := []) C hZ ik_noA wi hwi hM mv_J0_length_8abf5 wl_41_15 ⟨rfl, rfl, Nat.le_of_ble_eq_true rfl, Nat.le_of_ble_eq_true rfl⟩ rfl rfl (Nat.le_of_ble_eq_true rfl) dX7_isWord_45 ⟨Nat.zero_le _, Nat.zero_le _⟩) rfl ?_
          refine ik_icmp_ge C 82 dX7_isWord_48 (by decide) (fun hc => ?_) (fun hc => ?_)
          · have hf := ik_pos hc hf
            refine ik_iload_n C 1 rfl rfl dX7_isWord_82 ?_
            have hz := ik_gzi hf
            have hf := ik_gzk hf
            obtain rfl := Option.some.inj hf
            exact ik_zretR C hr hz.1 hlk dX7_isWord_83
          · have hf := ik_neg hc hf
            refine ik_aload_n C 2 rfl rfl dX7_isWord_51 ?_
            refine ik_get C inlX7 0 rfl rfl 8 (by decide) wl_4_19 rfl (v := .ref h8) rfl dX7_isWord_52 ?_
            refine ik_aload_n C 2 rfl rfl dX7_isWord_55 ?_
            refine ik_get C inlX7 0 rfl rfl 11 (by decide) wl_40_17 rfl (v := .int mfrom) rfl dX7_isWord_56 ?_
            refine ik_iload_n C 0 rfl rfl dX7_isWord_59 ?_
            refine ik_iadd C dX7_isWord_60 ?_
            have hg := ik_gdi hf
            have hf := ik_gdk hf
            refine ik_iald C 8 rfl hg dX7_isWord_61 ?_
            refine ik_aload_n C 3 rfl rfl dX7_isWord_62 ?_
            refine ik_iload_n C 0 rfl rfl dX7_isWord_63 ?_
            have hg := ik_gsi hf
            have hf := ik_gsk hf
            have hM := c_J0_charAt_5068e l D cI cS aK aV ka wi hwi x3_39 hg.1 hg.2
            refine ik_goR (ik_runT (st := [.int (mtape ((mfrom + x3_39)).toNatClampNeg)]) (As := [.int x3_39]) C hZ ik_noA wi hwi hM mv_J0_charAt_5068e wl_41_16 ⟨rfl, rfl, Nat.le_of_ble_eq_true rfl, Nat.le_of_ble_eq_true rfl⟩ rfl rfl (Nat.le_of_ble_eq_true rfl) dX7_isWord_64 ⟨Nat.zero_le _, Nat.zero_le _⟩) rfl ?_
            refine ik_icmp_ne C 74 dX7_isWord_67 (by decide) (fun hc => ?_) (fun hc => ?_)
            · have hf := ik_neg hc hf
              refine ik_iconst (v := (0 : Int32)) C (by decide) dX7_isWord_74 ?_
              refine ik_istore_n C [(2, .int (0 : Int32)), (3, .int x3_39), (0, .ref h0), (1, .ref (aK wi))] rfl (by decide) rfl dX7_isWord_75 ?_
              refine ik_iinc C [(3, .int (x3_39 + (1 : Int32))), (2, .int (0 : Int32)), (0, .ref h0), (1, .ref (aK wi))] 1 rfl rfl (by decide) rfl dX7_isWord_76 ?_
              refine ik_goto C 39 dX7_isWord_79 (by decide) ?_
              exact ik_sub [0, 1, 2, 3] [(3, .int (x3_39 + (1 : Int32))), (2, .int (0 : Int32)), (0, .ref h0), (1, .ref (aK wi))] rfl (ih_39 (0 : Int32) (x3_39 + (1 : Int32)) hf)
            · have hf := ik_pos hc hf
              refine ik_iconst (v := (1 : Int32)) C (by decide) dX7_isWord_70 ?_
              refine ik_goto C 75 dX7_isWord_71 (by decide) ?_
              refine ik_istore_n C [(2, .int (1 : Int32)), (3, .int x3_39), (0, .ref h0), (1, .ref (aK wi))] rfl (by decide) rfl dX7_isWord_75 ?_
              refine ik_iinc C [(3, .int (x3_39 + (1 : Int32))), (2, .int (1 : Int32)), (0, .ref h0), (1, .ref (aK wi))] 1 rfl rfl (by decide) rfl dX7_isWord_76 ?_
              refine ik_goto C 39 dX7_isWord_79 (by decide) ?_
              exact ik_sub [0, 1, 2, 3] [(3, .int (x3_39 + (1 : Int32))), (2, .int (1 : Int32)), (0, .ref h0), (1, .ref (aK wi))] rfl (ih_39 (1 : Int32) (x3_39 + (1 : Int32)) hf)
    exact hL_39 ik_fu v0_36 (0 : Int32) hf
  refine ik_aload_n C 0 rfl rfl dX7_isWord_0 ?_
  refine ik_get C inlX7 0 rfl rfl 14 (by decide) wl_40_15 rfl (v := .int mbad) rfl dX7_isWord_1 ?_
  refine ik_if_ne C 35 dX7_isWord_4 (by decide) (fun hc => ?_) (fun hc => ?_)
  · have hf := ik_neg hc hf
    refine ik_iconst (v := (0 : Int32)) C (by decide) dX7_isWord_35 ?_
    exact ik_sub [0, 1] [(0, .ref h0), (1, .ref (aK wi))] rfl (hJ_36 (0 : Int32) hf)
  · have hf := ik_pos hc hf
    refine ik_aload_n C 0 rfl rfl dX7_isWord_7 ?_
    refine ik_get C inlX7 0 rfl rfl 10 (by decide) wl_40_16 rfl (v := .int msort) rfl dX7_isWord_8 ?_
    refine ik_iconst (v := (1 : Int32)) C (by decide) dX7_isWord_11 ?_
    refine ik_icmp_ne C 35 dX7_isWord_12 (by decide) (fun hc => ?_) (fun hc => ?_)
    · have hf := ik_neg hc hf
      refine ik_iconst (v := (0 : Int32)) C (by decide) dX7_isWord_35 ?_
      exact ik_sub [0, 1] [(0, .ref h0), (1, .ref (aK wi))] rfl (hJ_36 (0 : Int32) hf)
    · have hf := ik_pos hc hf
      refine ik_aload_n C 0 rfl rfl dX7_isWord_15 ?_
      refine ik_get C inlX7 0 rfl rfl 12 (by decide) wl_40_14 rfl (v := .int mto) rfl dX7_isWord_16 ?_
      refine ik_aload_n C 0 rfl rfl dX7_isWord_19 ?_
      refine ik_get C inlX7 0 rfl rfl 11 (by decide) wl_40_17 rfl (v := .int mfrom) rfl dX7_isWord_20 ?_
      refine ik_isub C dX7_isWord_23 ?_
      refine ik_aload_n C 1 rfl rfl dX7_isWord_24 ?_
      have hM := c_J0_length_8abf5 l D cI cS aK aV ka wi hwi
      refine ik_goR (ik_runT (st := [.int (mto - mfrom)]) (As := []) C hZ ik_noA wi hwi hM mv_J0_length_8abf5 wl_41_15 ⟨rfl, rfl, Nat.le_of_ble_eq_true rfl, Nat.le_of_ble_eq_true rfl⟩ rfl rfl (Nat.le_of_ble_eq_true rfl) dX7_isWord_25 ⟨Nat.zero_le _, Nat.zero_le _⟩) rfl ?_
      refine ik_icmp_ne C 35 dX7_isWord_28 (by decide) (fun hc => ?_) (fun hc => ?_)
      · have hf := ik_neg hc hf
        refine ik_iconst (v := (0 : Int32)) C (by decide) dX7_isWord_35 ?_
        exact ik_sub [0, 1] [(0, .ref h0), (1, .ref (aK wi))] rfl (hJ_36 (0 : Int32) hf)
      · have hf := ik_pos hc hf
        refine ik_iconst (v := (1 : Int32)) C (by decide) dX7_isWord_31 ?_
        refine ik_goto C 36 dX7_isWord_32 (by decide) ?_
        exact ik_sub [0, 1] [(0, .ref h0), (1, .ref (aK wi))] rfl (hJ_36 (1 : Int32) hf)
theorem mv_X7_takes : ik_V yX7_takes RX7 cX7_takes 2 (some .boolean) 1 := ⟨wl_41_8, wl_41_9, wl_1_5, wl_41_10, by decide +kernel⟩
set_option maxHeartbeats 4000000 in
set_option maxRecDepth 100000 in
theorem c_X7_takes (l : Launch) (D : va_G) (cI cS : ClassId) (aK aV : Nat → Nat) (ka : Nat) (wi : Nat) (hwi : wi < 26) (h0 h1 h2 h3 h4 h5 h6 h7 h8 h9 h10 h11 : Nat) (misKept : Int32) (mtaped : Int32) (msort : Int32) (mfrom : Int32) (mto : Int32) (mvalue : Int32) (mbad : Int32) (mm : Nat → Int32) (mkept : Nat → Int32) (mwas : Nat → Int32) (mother : Nat → Int32) (mfound : Nat → Int32) (mwarm : Nat → Int32) (mdrip : Nat → Int32) (mtape : Nat → Int32) (mbits : Nat → Int32) (msize : Nat → Int32) (mnumber : Nat → Int32) (R : Int32) (msort_r : Int32) (mfrom_r : Int32) (mto_r : Int32) (mvalue_r : Int32) (hf : f_X7_takes mtaped msort mfrom mto mvalue mbad mtape wi = some (R, msort_r, mfrom_r, mto_r, mvalue_r)) : Met l yX7_takes (ik_ws yX7_takes cX7_takes 2 (some .boolean)) ({ frames := 5, cells := 0, slots := 0, locals := 134 } : Room) (ik_PZ D cI cS aK aV ka [.ref h0, .ref (aK wi)] (wz_X7 cI cS h0 h1 h2 h3 h4 h5 h6 h7 h8 h9 h10 h11 misKept mtaped msort mfrom mto mvalue mbad mm mkept mwas mother mfound mwarm mdrip mtape mbits msize mnumber)) (ik_Q (some (.int R)) D (wz_X7 cI cS h0 h1 h2 h3 h4 h5 h6 h7 h8 h9 h10 h11 misKept mtaped msort_r mfrom_r mto_r mvalue_r mbad mm mkept mwas mother mfound mwarm mdrip mtape mbits msize mnumber) (wz_X7 cI cS h0 h1 h2 h3 h4 h5 h6 h7 h8 h9 h10 h11 misKept mtaped msort mfrom mto mvalue mbad mm mkept mwas mother mfound mwarm mdrip mtape mbits msize mnumber)) 0 0 (ik_in (wz_X7 cI cS h0 h1 h2 h3 h4 h5 h6 h7 h8 h9 h10 h11 misKept mtaped msort mfrom mto mvalue mbad mm mkept mwas mother mfound mwarm mdrip mtape mbits msize mnumber)) := by
  refine ik_metWZ RX7 rfl (by decide) (Nat.le_of_ble_eq_true rfl) [(0, .ref h0), (1, .ref (aK wi))] rfl ?_
  intro p e s m below meth c C hr hlk hZ
  unfold f_X7_takes at hf
  refine ik_aload_n C 0 rfl rfl dX7_takes_0 ?_
  refine ik_aload_n C 1 rfl rfl dX7_takes_1 ?_
  obtain ⟨r1, hc1, hf⟩ := ik_b1s hf
  have hM := (c_X7_isWord l D cI cS aK aV ka wi hwi h0 h1 h2 h3 h4 h5 h6 h7 h8 h9 h10 h11 misKept mtaped msort mfrom mto mvalue mbad mm mkept mwas mother mfound mwarm mdrip mtape mbits msize mnumber r1 hc1)
  refine ik_goR (ik_runVZ (st := []) (As := [.ref (aK wi)]) C hZ (fun _ h => h) ik_hBw hM mv_X7_isWord wl_41_11 ⟨rfl, rfl, Nat.le_of_ble_eq_true rfl, Nat.le_of_ble_eq_true rfl⟩ [0, 1, 2, 3, 4, 5, 6, 7, 8, 9, 10, 11] rfl (by decide +kernel) 0 rfl rfl rfl rfl (Nat.le_of_ble_eq_true rfl) dX7_takes_2 ⟨Nat.zero_le _, Nat.zero_le _⟩) rfl ?_
  refine ik_if_ne C 10 dX7_takes_5 (by decide) (fun hc => ?_) (fun hc => ?_)
  · have hf := ik_neg hc hf
    refine ik_aload_n C 0 rfl rfl dX7_takes_10 ?_
    obtain ⟨g2, g3, g4, g5, hc5, hf⟩ := ik_b4s hf
    have hM := (c_X7_token l D cI cS h0 h1 h2 h3 h4 h5 h6 h7 h8 h9 h10 h11 misKept mtaped msort mfrom mto mvalue mbad mm mkept mwas mother mfound mwarm mdrip mtape mbits msize mnumber g2 g3 g4 g5 hc5)
    refine ik_goW (v := none) (wc := (wz_X7 cI cS h0 h1 h2 h3 h4 h5 h6 h7 h8 h9 h10 h11 misKept mtaped msort mfrom mto mvalue mbad mm mkept mwas mother mfound mwarm mdrip mtape mbits msize mnumber)) (w1 := (wz_X7 cI cS h0 h1 h2 h3 h4 h5 h6 h7 h8 h9 h10 h11 misKept mtaped g2 g3 g4 g5 mbad mm mkept mwas mother mfound mwarm mdrip mtape mbits msize mnumber)) [0, 1, 2, 3, 4, 5, 6, 7, 8, 9, 10, 11] [] 12 rfl rfl (wz_X7 cI cS h0 h1 h2 h3 h4 h5 h6 h7 h8 h9 h10 h11 misKept mtaped g2 g3 g4 g5 mbad mm mkept mwas mother mfound mwarm mdrip mtape mbits msize mnumber) rfl [] rfl rfl rfl (by decide +kernel) (ik_runV (st := []) (As := []) C hM mv_X7_token wl_40_18 ⟨rfl, rfl, Nat.le_of_ble_eq_true rfl, Nat.le_of_ble_eq_true rfl⟩ [0, 1, 2, 3, 4, 5, 6, 7, 8, 9, 10, 11] rfl (by decide +kernel) 0 rfl rfl rfl rfl (Nat.le_of_ble_eq_true rfl) dX7_takes_11 ⟨Nat.zero_le _, Nat.zero_le _⟩) rfl ?_
    refine ik_iconst (v := (1 : Int32)) C (by decide) dX7_takes_14 ?_
    obtain ⟨rfl, rfl, rfl, rfl, rfl⟩ := ik_e5 hf
    exact ik_zretW C hr (by decide) hlk dX7_takes_15
  · have hf := ik_pos hc hf
    refine ik_iconst (v := (0 : Int32)) C (by decide) dX7_takes_8 ?_
    obtain ⟨rfl, rfl, rfl, rfl, rfl⟩ := ik_e5 hf
    exact ik_zretW C hr (by decide) hlk dX7_takes_9
theorem mv_X7_isSign : ik_V yX7_isSign RX7 cX7_isSign 2 (some .boolean) 1 := ⟨wl_42_10, wl_42_11, wl_1_5, wl_42_12, by decide +kernel⟩
set_option maxHeartbeats 4000000 in
set_option maxRecDepth 100000 in
theorem c_X7_isSign (l : Launch) (D : va_G) (cI cS : ClassId) (h0 h1 h2 h3 h4 h5 h6 h7 h8 h9 h10 h11 : Nat) (misKept : Int32) (mtaped : Int32) (msort : Int32) (mfrom : Int32) (mto : Int32) (mvalue : Int32) (mbad : Int32) (mm : Nat → Int32) (mkept : Nat → Int32) (mwas : Nat → Int32) (mother : Nat → Int32) (mfound : Nat → Int32) (mwarm : Nat → Int32) (mdrip : Nat → Int32) (mtape : Nat → Int32) (mbits : Nat → Int32) (msize : Nat → Int32) (mnumber : Nat → Int32) (x1 : Int32) (R : Int32) (hf : f_X7_isSign msort mfrom mbad mtape x1 = some (R)) : Met l yX7_isSign (ik_ws yX7_isSign cX7_isSign 2 (some .boolean)) ({ frames := 0, cells := 0, slots := 0, locals := 0 } : Room) (ik_P D cI cS [.ref h0, .int x1] (wz_X7 cI cS h0 h1 h2 h3 h4 h5 h6 h7 h8 h9 h10 h11 misKept mtaped msort mfrom mto mvalue mbad mm mkept mwas mother mfound mwarm mdrip mtape mbits msize mnumber)) (ik_R (some (.int R))) 0 0 ik_no := by
  refine ik_metR RX7 rfl (by decide) (Nat.le_of_ble_eq_true rfl) [(0, .ref h0), (1, .int x1)] rfl ?_
  intro p e s m below meth c C hr hlk
  unfold f_X7_isSign at hf
  refine ik_aload_n C 0 rfl rfl dX7_isSign_0 ?_
  refine ik_get C inlX7 0 rfl rfl 14 (by decide) wl_40_15 rfl (v := .int mbad) rfl dX7_isSign_1 ?_
  refine ik_if_ne C 32 dX7_isSign_4 (by decide) (fun hc => ?_) (fun hc => ?_)
  · have hf := ik_neg hc hf
    refine ik_iconst (v := (0 : Int32)) C (by decide) dX7_isSign_32 ?_
    obtain rfl := Option.some.inj hf
    exact ik_zretR C hr (by decide) hlk dX7_isSign_33
  · have hf := ik_pos hc hf
    refine ik_aload_n C 0 rfl rfl dX7_isSign_7 ?_
    refine ik_get C inlX7 0 rfl rfl 10 (by decide) wl_40_16 rfl (v := .int msort) rfl dX7_isSign_8 ?_
    refine ik_iconst (v := (3 : Int32)) C (by decide) dX7_isSign_11 ?_
    refine ik_icmp_ne C 32 dX7_isSign_12 (by decide) (fun hc => ?_) (fun hc => ?_)
    · have hf := ik_neg hc hf
      refine ik_iconst (v := (0 : Int32)) C (by decide) dX7_isSign_32 ?_
      obtain rfl := Option.some.inj hf
      exact ik_zretR C hr (by decide) hlk dX7_isSign_33
    · have hf := ik_pos hc hf
      refine ik_aload_n C 0 rfl rfl dX7_isSign_15 ?_
      refine ik_get C inlX7 0 rfl rfl 8 (by decide) wl_4_19 rfl (v := .ref h8) rfl dX7_isSign_16 ?_
      refine ik_aload_n C 0 rfl rfl dX7_isSign_19 ?_
      refine ik_get C inlX7 0 rfl rfl 11 (by decide) wl_40_17 rfl (v := .int mfrom) rfl dX7_isSign_20 ?_
      have hg := ik_gdi hf
      have hf := ik_gdk hf
      refine ik_iald C 8 rfl hg dX7_isSign_23 ?_
      refine ik_iload_n C 1 rfl rfl dX7_isSign_24 ?_
      refine ik_icmp_ne C 32 dX7_isSign_25 (by decide) (fun hc => ?_) (fun hc => ?_)
      · have hf := ik_neg hc hf
        refine ik_iconst (v := (0 : Int32)) C (by decide) dX7_isSign_32 ?_
        obtain rfl := Option.some.inj hf
        exact ik_zretR C hr (by decide) hlk dX7_isSign_33
      · have hf := ik_pos hc hf
        refine ik_iconst (v := (1 : Int32)) C (by decide) dX7_isSign_28 ?_
        refine ik_goto C 33 dX7_isSign_29 (by decide) ?_
        obtain rfl := Option.some.inj hf
        exact ik_zretR C hr (by decide) hlk dX7_isSign_33
theorem mv_X7_number : ik_V yX7_number RX7 cX7_number 5 (some .int) 3 := ⟨wl_41_22, wl_41_23, wl_1_5, wl_42_0, by decide +kernel⟩
set_option maxHeartbeats 4000000 in
set_option maxRecDepth 100000 in
theorem c_X7_number (l : Launch) (D : va_G) (cI cS : ClassId) (h0 h1 h2 h3 h4 h5 h6 h7 h8 h9 h10 h11 : Nat) (misKept : Int32) (mtaped : Int32) (msort : Int32) (mfrom : Int32) (mto : Int32) (mvalue : Int32) (mbad : Int32) (mm : Nat → Int32) (mkept : Nat → Int32) (mwas : Nat → Int32) (mother : Nat → Int32) (mfound : Nat → Int32) (mwarm : Nat → Int32) (mdrip : Nat → Int32) (mtape : Nat → Int32) (mbits : Nat → Int32) (msize : Nat → Int32) (mnumber : Nat → Int32) (x1 : Int32) (x2 : Int32) (x3 : Int32) (R : Int32) (msort_r : Int32) (mfrom_r : Int32) (mto_r : Int32) (mvalue_r : Int32) (mbad_r : Int32) (hf : f_X7_number mtaped msort mfrom mto mvalue mbad mtape x1 x2 x3 = some (R, msort_r, mfrom_r, mto_r, mvalue_r, mbad_r)) : Met l yX7_number (ik_ws yX7_number cX7_number 5 (some .int)) ({ frames := 3, cells := 0, slots := 0, locals := 68 } : Room) (ik_P D cI cS [.ref h0, .int x1, .int x2, .int x3] (wz_X7 cI cS h0 h1 h2 h3 h4 h5 h6 h7 h8 h9 h10 h11 misKept mtaped msort mfrom mto mvalue mbad mm mkept mwas mother mfound mwarm mdrip mtape mbits msize mnumber)) (ik_Q (some (.int R)) D (wz_X7 cI cS h0 h1 h2 h3 h4 h5 h6 h7 h8 h9 h10 h11 misKept mtaped msort_r mfrom_r mto_r mvalue_r mbad_r mm mkept mwas mother mfound mwarm mdrip mtape mbits msize mnumber) (wz_X7 cI cS h0 h1 h2 h3 h4 h5 h6 h7 h8 h9 h10 h11 misKept mtaped msort mfrom mto mvalue mbad mm mkept mwas mother mfound mwarm mdrip mtape mbits msize mnumber)) 0 0 (ik_in (wz_X7 cI cS h0 h1 h2 h3 h4 h5 h6 h7 h8 h9 h10 h11 misKept mtaped msort mfrom mto mvalue mbad mm mkept mwas mother mfound mwarm mdrip mtape mbits msize mnumber)) := by
  refine ik_metW RX7 rfl (by decide) (Nat.le_of_ble_eq_true rfl) [(0, .ref h0), (1, .int x1), (2, .int x2), (3, .int x3)] rfl ?_
  intro p e s m below meth c C hr hlk
  unfold f_X7_number at hf
  refine ik_aload_n C 0 rfl rfl dX7_number_0 ?_
  refine ik_aload_n C 0 rfl rfl dX7_number_1 ?_
  refine ik_get C inlX7 0 rfl rfl 14 (by decide) wl_40_15 rfl (v := .int mbad) rfl dX7_number_2 ?_
  refine ik_if_ne C 35 dX7_number_5 (by decide) (fun hc => ?_) (fun hc => ?_)
  · have hf := ik_neg hc hf
    refine ik_iconst (v := (1 : Int32)) C (by decide) dX7_number_35 ?_
    refine ik_goto C 40 dX7_number_36 (by decide) ?_
    refine ik_put C inlX7 tyX7 tyX7_ok nmX7 0 rfl rfl 14 (by decide) wl_40_15 rfl (by decide) (by decide) (by decide) (Nat.le_of_ble_eq_true rfl) (wz_X7 cI cS h0 h1 h2 h3 h4 h5 h6 h7 h8 h9 h10 h11 misKept mtaped msort mfrom mto mvalue (1 : Int32) mm mkept mwas mother mfound mwarm mdrip mtape mbits msize mnumber) rfl dX7_number_40 ?_
    refine ik_aload_n C 0 rfl rfl dX7_number_43 ?_
    refine ik_get C inlX7 0 rfl rfl 13 (by decide) wl_40_22 rfl (v := .int mvalue) rfl dX7_number_44 ?_
    refine ik_istore C [(4, .int mvalue), (0, .ref h0), (1, .int x1), (2, .int x2), (3, .int x3)] (by decide) rfl dX7_number_47 ?_
    refine ik_aload_n C 1 rfl rfl dX7_number_49 ?_
    refine ik_get C inlX7 0 rfl rfl 14 (by decide) wl_40_15 rfl (v := .int (1 : Int32)) rfl dX7_number_50 ?_
    refine ik_if_ne C 60 dX7_number_53 (by decide) (fun hc => ?_) (fun hc => ?_)
    · have hf := ik_neg hc hf
      refine ik_iload C 0 rfl dX7_number_60 ?_
      obtain ⟨rfl, rfl, rfl, rfl, rfl, rfl⟩ := ik_e6 hf
      exact ik_iretW C hr hlk dX7_number_62
    · have hf := ik_pos hc hf
      refine ik_aload_n C 1 rfl rfl dX7_number_56 ?_
      obtain ⟨g1, g2, g3, g4, hc4, hf⟩ := ik_b4s hf
      have hM := (c_X7_token l D cI cS h0 h1 h2 h3 h4 h5 h6 h7 h8 h9 h10 h11 misKept mtaped msort mfrom mto mvalue (1 : Int32) mm mkept mwas mother mfound mwarm mdrip mtape mbits msize mnumber g1 g2 g3 g4 hc4)
      refine ik_goW (v := none) (wc := (wz_X7 cI cS h0 h1 h2 h3 h4 h5 h6 h7 h8 h9 h10 h11 misKept mtaped msort mfrom mto mvalue (1 : Int32) mm mkept mwas mother mfound mwarm mdrip mtape mbits msize mnumber)) (w1 := (wz_X7 cI cS h0 h1 h2 h3 h4 h5 h6 h7 h8 h9 h10 h11 misKept mtaped g1 g2 g3 g4 (1 : Int32) mm mkept mwas mother mfound mwarm mdrip mtape mbits msize mnumber)) [0, 1, 2, 3, 4, 5, 6, 7, 8, 9, 10, 11] [] 12 rfl rfl (wz_X7 cI cS h0 h1 h2 h3 h4 h5 h6 h7 h8 h9 h10 h11 misKept mtaped g1 g2 g3 g4 (1 : Int32) mm mkept mwas mother mfound mwarm mdrip mtape mbits msize mnumber) rfl [] rfl rfl rfl (by decide +kernel) (ik_runV (st := []) (As := []) C hM mv_X7_token wl_40_18 ⟨rfl, rfl, Nat.le_of_ble_eq_true rfl, Nat.le_of_ble_eq_true rfl⟩ [0, 1, 2, 3, 4, 5, 6, 7, 8, 9, 10, 11] rfl (by decide +kernel) 0 rfl rfl rfl rfl (Nat.le_of_ble_eq_true rfl) dX7_number_57 ⟨Nat.zero_le _, Nat.zero_le _⟩) rfl ?_
      refine ik_iload C 0 rfl dX7_number_60 ?_
      obtain ⟨rfl, rfl, rfl, rfl, rfl, rfl⟩ := ik_e6 hf
      exact ik_iretW C hr hlk dX7_number_62
  · have hf := ik_pos hc hf
    refine ik_iload_n C 3 rfl rfl dX7_number_8 ?_
    refine ik_if_eq C 35 dX7_number_9 (by decide) (fun hc => ?_) (fun hc => ?_)
    · have hf := ik_pos hc hf
      refine ik_iconst (v := (1 : Int32)) C (by decide) dX7_number_35 ?_
      refine ik_goto C 40 dX7_number_36 (by decide) ?_
      refine ik_put C inlX7 tyX7 tyX7_ok nmX7 0 rfl rfl 14 (by decide) wl_40_15 rfl (by decide) (by decide) (by decide) (Nat.le_of_ble_eq_true rfl) (wz_X7 cI cS h0 h1 h2 h3 h4 h5 h6 h7 h8 h9 h10 h11 misKept mtaped msort mfrom mto mvalue (1 : Int32) mm mkept mwas mother mfound mwarm mdrip mtape mbits msize mnumber) rfl dX7_number_40 ?_
      refine ik_aload_n C 0 rfl rfl dX7_number_43 ?_
      refine ik_get C inlX7 0 rfl rfl 13 (by decide) wl_40_22 rfl (v := .int mvalue) rfl dX7_number_44 ?_
      refine ik_istore C [(4, .int mvalue), (0, .ref h0), (1, .int x1), (2, .int x2), (3, .int x3)] (by decide) rfl dX7_number_47 ?_
      refine ik_aload_n C 1 rfl rfl dX7_number_49 ?_
      refine ik_get C inlX7 0 rfl rfl 14 (by decide) wl_40_15 rfl (v := .int (1 : Int32)) rfl dX7_number_50 ?_
      refine ik_if_ne C 60 dX7_number_53 (by decide) (fun hc => ?_) (fun hc => ?_)
      · have hf := ik_neg hc hf
        refine ik_iload C 0 rfl dX7_number_60 ?_
        obtain ⟨rfl, rfl, rfl, rfl, rfl, rfl⟩ := ik_e6 hf
        exact ik_iretW C hr hlk dX7_number_62
      · have hf := ik_pos hc hf
        refine ik_aload_n C 1 rfl rfl dX7_number_56 ?_
        obtain ⟨g1, g2, g3, g4, hc4, hf⟩ := ik_b4s hf
        have hM := (c_X7_token l D cI cS h0 h1 h2 h3 h4 h5 h6 h7 h8 h9 h10 h11 misKept mtaped msort mfrom mto mvalue (1 : Int32) mm mkept mwas mother mfound mwarm mdrip mtape mbits msize mnumber g1 g2 g3 g4 hc4)
        refine ik_goW (v := none) (wc := (wz_X7 cI cS h0 h1 h2 h3 h4 h5 h6 h7 h8 h9 h10 h11 misKept mtaped msort mfrom mto mvalue (1 : Int32) mm mkept mwas mother mfound mwarm mdrip mtape mbits msize mnumber)) (w1 := (wz_X7 cI cS h0 h1 h2 h3 h4 h5 h6 h7 h8 h9 h10 h11 misKept mtaped g1 g2 g3 g4 (1 : Int32) mm mkept mwas mother mfound mwarm mdrip mtape mbits msize mnumber)) [0, 1, 2, 3, 4, 5, 6, 7, 8, 9, 10, 11] [] 12 rfl rfl (wz_X7 cI cS h0 h1 h2 h3 h4 h5 h6 h7 h8 h9 h10 h11 misKept mtaped g1 g2 g3 g4 (1 : Int32) mm mkept mwas mother mfound mwarm mdrip mtape mbits msize mnumber) rfl [] rfl rfl rfl (by decide +kernel) (ik_runV (st := []) (As := []) C hM mv_X7_token wl_40_18 ⟨rfl, rfl, Nat.le_of_ble_eq_true rfl, Nat.le_of_ble_eq_true rfl⟩ [0, 1, 2, 3, 4, 5, 6, 7, 8, 9, 10, 11] rfl (by decide +kernel) 0 rfl rfl rfl rfl (Nat.le_of_ble_eq_true rfl) dX7_number_57 ⟨Nat.zero_le _, Nat.zero_le _⟩) rfl ?_
        refine ik_iload C 0 rfl dX7_number_60 ?_
        obtain ⟨rfl, rfl, rfl, rfl, rfl, rfl⟩ := ik_e6 hf
        exact ik_iretW C hr hlk dX7_number_62
    · have hf := ik_neg hc hf
      refine ik_aload_n C 0 rfl rfl dX7_number_12 ?_
      refine ik_get C inlX7 0 rfl rfl 10 (by decide) wl_40_16 rfl (v := .int msort) rfl dX7_number_13 ?_
      refine ik_iconst (v := (2 : Int32)) C (by decide) dX7_number_16 ?_
      refine ik_icmp_ne C 35 dX7_number_17 (by decide) (fun hc => ?_) (fun hc => ?_)
      · have hf := ik_neg hc hf
        refine ik_iconst (v := (1 : Int32)) C (by decide) dX7_number_35 ?_
        refine ik_goto C 40 dX7_number_36 (by decide) ?_
        refine ik_put C inlX7 tyX7 tyX7_ok nmX7 0 rfl rfl 14 (by decide) wl_40_15 rfl (by decide) (by decide) (by decide) (Nat.le_of_ble_eq_true rfl) (wz_X7 cI cS h0 h1 h2 h3 h4 h5 h6 h7 h8 h9 h10 h11 misKept mtaped msort mfrom mto mvalue (1 : Int32) mm mkept mwas mother mfound mwarm mdrip mtape mbits msize mnumber) rfl dX7_number_40 ?_
        refine ik_aload_n C 0 rfl rfl dX7_number_43 ?_
        refine ik_get C inlX7 0 rfl rfl 13 (by decide) wl_40_22 rfl (v := .int mvalue) rfl dX7_number_44 ?_
        refine ik_istore C [(4, .int mvalue), (0, .ref h0), (1, .int x1), (2, .int x2), (3, .int x3)] (by decide) rfl dX7_number_47 ?_
        refine ik_aload_n C 1 rfl rfl dX7_number_49 ?_
        refine ik_get C inlX7 0 rfl rfl 14 (by decide) wl_40_15 rfl (v := .int (1 : Int32)) rfl dX7_number_50 ?_
        refine ik_if_ne C 60 dX7_number_53 (by decide) (fun hc => ?_) (fun hc => ?_)
        · have hf := ik_neg hc hf
          refine ik_iload C 0 rfl dX7_number_60 ?_
          obtain ⟨rfl, rfl, rfl, rfl, rfl, rfl⟩ := ik_e6 hf
          exact ik_iretW C hr hlk dX7_number_62
        · have hf := ik_pos hc hf
          refine ik_aload_n C 1 rfl rfl dX7_number_56 ?_
          obtain ⟨g1, g2, g3, g4, hc4, hf⟩ := ik_b4s hf
          have hM := (c_X7_token l D cI cS h0 h1 h2 h3 h4 h5 h6 h7 h8 h9 h10 h11 misKept mtaped msort mfrom mto mvalue (1 : Int32) mm mkept mwas mother mfound mwarm mdrip mtape mbits msize mnumber g1 g2 g3 g4 hc4)
          refine ik_goW (v := none) (wc := (wz_X7 cI cS h0 h1 h2 h3 h4 h5 h6 h7 h8 h9 h10 h11 misKept mtaped msort mfrom mto mvalue (1 : Int32) mm mkept mwas mother mfound mwarm mdrip mtape mbits msize mnumber)) (w1 := (wz_X7 cI cS h0 h1 h2 h3 h4 h5 h6 h7 h8 h9 h10 h11 misKept mtaped g1 g2 g3 g4 (1 : Int32) mm mkept mwas mother mfound mwarm mdrip mtape mbits msize mnumber)) [0, 1, 2, 3, 4, 5, 6, 7, 8, 9, 10, 11] [] 12 rfl rfl (wz_X7 cI cS h0 h1 h2 h3 h4 h5 h6 h7 h8 h9 h10 h11 misKept mtaped g1 g2 g3 g4 (1 : Int32) mm mkept mwas mother mfound mwarm mdrip mtape mbits msize mnumber) rfl [] rfl rfl rfl (by decide +kernel) (ik_runV (st := []) (As := []) C hM mv_X7_token wl_40_18 ⟨rfl, rfl, Nat.le_of_ble_eq_true rfl, Nat.le_of_ble_eq_true rfl⟩ [0, 1, 2, 3, 4, 5, 6, 7, 8, 9, 10, 11] rfl (by decide +kernel) 0 rfl rfl rfl rfl (Nat.le_of_ble_eq_true rfl) dX7_number_57 ⟨Nat.zero_le _, Nat.zero_le _⟩) rfl ?_
          refine ik_iload C 0 rfl dX7_number_60 ?_
          obtain ⟨rfl, rfl, rfl, rfl, rfl, rfl⟩ := ik_e6 hf
          exact ik_iretW C hr hlk dX7_number_62
      · have hf := ik_pos hc hf
        refine ik_aload_n C 0 rfl rfl dX7_number_20 ?_
        refine ik_get C inlX7 0 rfl rfl 13 (by decide) wl_40_22 rfl (v := .int mvalue) rfl dX7_number_21 ?_
        refine ik_i2l C dX7_number_24 ?_
        refine ik_iload_n C 1 rfl rfl dX7_number_25 ?_
        refine ik_i2l C dX7_number_26 ?_
        refine ik_iload_n C 2 rfl rfl dX7_number_27 ?_
        refine ik_i2l C dX7_number_28 ?_
        obtain ⟨r1, hc1, hf⟩ := ik_b1s hf
        have hM := (c_X7_in l D cI cS (mvalue).toInt64 (x1).toInt64 (x2).toInt64 r1 hc1)
        refine ik_goR (ik_runS (st := [.ref h0]) (As := [.long (mvalue).toInt64, .long (x1).toInt64, .long (x2).toInt64]) C hM ms_X7_in wl_6_21 ⟨rfl, rfl, Nat.le_of_ble_eq_true rfl, Nat.le_of_ble_eq_true rfl⟩ [] rfl (by decide +kernel) rfl rfl (Nat.le_of_ble_eq_true rfl) dX7_number_29 ⟨Nat.zero_le _, Nat.zero_le _⟩) rfl ?_
        refine ik_if_ne C 39 dX7_number_32 (by decide) (fun hc => ?_) (fun hc => ?_)
        · have hf := ik_neg hc hf
          refine ik_iconst (v := (0 : Int32)) C (by decide) dX7_number_39 ?_
          refine ik_put C inlX7 tyX7 tyX7_ok nmX7 0 rfl rfl 14 (by decide) wl_40_15 rfl (by decide) (by decide) (by decide) (Nat.le_of_ble_eq_true rfl) (wz_X7 cI cS h0 h1 h2 h3 h4 h5 h6 h7 h8 h9 h10 h11 misKept mtaped msort mfrom mto mvalue (0 : Int32) mm mkept mwas mother mfound mwarm mdrip mtape mbits msize mnumber) rfl dX7_number_40 ?_
          refine ik_aload_n C 0 rfl rfl dX7_number_43 ?_
          refine ik_get C inlX7 0 rfl rfl 13 (by decide) wl_40_22 rfl (v := .int mvalue) rfl dX7_number_44 ?_
          refine ik_istore C [(4, .int mvalue), (0, .ref h0), (1, .int x1), (2, .int x2), (3, .int x3)] (by decide) rfl dX7_number_47 ?_
          refine ik_aload_n C 1 rfl rfl dX7_number_49 ?_
          refine ik_get C inlX7 0 rfl rfl 14 (by decide) wl_40_15 rfl (v := .int (0 : Int32)) rfl dX7_number_50 ?_
          refine ik_if_ne C 60 dX7_number_53 (by decide) (fun hc => ?_) (fun hc => ?_)
          · have hf := ik_neg hc hf
            refine ik_iload C 0 rfl dX7_number_60 ?_
            obtain ⟨rfl, rfl, rfl, rfl, rfl, rfl⟩ := ik_e6 hf
            exact ik_iretW C hr hlk dX7_number_62
          · have hf := ik_pos hc hf
            refine ik_aload_n C 1 rfl rfl dX7_number_56 ?_
            obtain ⟨g2, g3, g4, g5, hc5, hf⟩ := ik_b4s hf
            have hM := (c_X7_token l D cI cS h0 h1 h2 h3 h4 h5 h6 h7 h8 h9 h10 h11 misKept mtaped msort mfrom mto mvalue (0 : Int32) mm mkept mwas mother mfound mwarm mdrip mtape mbits msize mnumber g2 g3 g4 g5 hc5)
            refine ik_goW (v := none) (wc := (wz_X7 cI cS h0 h1 h2 h3 h4 h5 h6 h7 h8 h9 h10 h11 misKept mtaped msort mfrom mto mvalue (0 : Int32) mm mkept mwas mother mfound mwarm mdrip mtape mbits msize mnumber)) (w1 := (wz_X7 cI cS h0 h1 h2 h3 h4 h5 h6 h7 h8 h9 h10 h11 misKept mtaped g2 g3 g4 g5 (0 : Int32) mm mkept mwas mother mfound mwarm mdrip mtape mbits msize mnumber)) [0, 1, 2, 3, 4, 5, 6, 7, 8, 9, 10, 11] [] 12 rfl rfl (wz_X7 cI cS h0 h1 h2 h3 h4 h5 h6 h7 h8 h9 h10 h11 misKept mtaped g2 g3 g4 g5 (0 : Int32) mm mkept mwas mother mfound mwarm mdrip mtape mbits msize mnumber) rfl [] rfl rfl rfl (by decide +kernel) (ik_runV (st := []) (As := []) C hM mv_X7_token wl_40_18 ⟨rfl, rfl, Nat.le_of_ble_eq_true rfl, Nat.le_of_ble_eq_true rfl⟩ [0, 1, 2, 3, 4, 5, 6, 7, 8, 9, 10, 11] rfl (by decide +kernel) 0 rfl rfl rfl rfl (Nat.le_of_ble_eq_true rfl) dX7_number_57 ⟨Nat.zero_le _, Nat.zero_le _⟩) rfl ?_
            refine ik_iload C 0 rfl dX7_number_60 ?_
            obtain ⟨rfl, rfl, rfl, rfl, rfl, rfl⟩ := ik_e6 hf
            exact ik_iretW C hr hlk dX7_number_62
        · have hf := ik_pos hc hf
          refine ik_iconst (v := (1 : Int32)) C (by decide) dX7_number_35 ?_
          refine ik_goto C 40 dX7_number_36 (by decide) ?_
          refine ik_put C inlX7 tyX7 tyX7_ok nmX7 0 rfl rfl 14 (by decide) wl_40_15 rfl (by decide) (by decide) (by decide) (Nat.le_of_ble_eq_true rfl) (wz_X7 cI cS h0 h1 h2 h3 h4 h5 h6 h7 h8 h9 h10 h11 misKept mtaped msort mfrom mto mvalue (1 : Int32) mm mkept mwas mother mfound mwarm mdrip mtape mbits msize mnumber) rfl dX7_number_40 ?_
          refine ik_aload_n C 0 rfl rfl dX7_number_43 ?_
          refine ik_get C inlX7 0 rfl rfl 13 (by decide) wl_40_22 rfl (v := .int mvalue) rfl dX7_number_44 ?_
          refine ik_istore C [(4, .int mvalue), (0, .ref h0), (1, .int x1), (2, .int x2), (3, .int x3)] (by decide) rfl dX7_number_47 ?_
          refine ik_aload_n C 1 rfl rfl dX7_number_49 ?_
          refine ik_get C inlX7 0 rfl rfl 14 (by decide) wl_40_15 rfl (v := .int (1 : Int32)) rfl dX7_number_50 ?_
          refine ik_if_ne C 60 dX7_number_53 (by decide) (fun hc => ?_) (fun hc => ?_)
          · have hf := ik_neg hc hf
            refine ik_iload C 0 rfl dX7_number_60 ?_
            obtain ⟨rfl, rfl, rfl, rfl, rfl, rfl⟩ := ik_e6 hf
            exact ik_iretW C hr hlk dX7_number_62
          · have hf := ik_pos hc hf
            refine ik_aload_n C 1 rfl rfl dX7_number_56 ?_
            obtain ⟨g2, g3, g4, g5, hc5, hf⟩ := ik_b4s hf
            have hM := (c_X7_token l D cI cS h0 h1 h2 h3 h4 h5 h6 h7 h8 h9 h10 h11 misKept mtaped msort mfrom mto mvalue (1 : Int32) mm mkept mwas mother mfound mwarm mdrip mtape mbits msize mnumber g2 g3 g4 g5 hc5)
            refine ik_goW (v := none) (wc := (wz_X7 cI cS h0 h1 h2 h3 h4 h5 h6 h7 h8 h9 h10 h11 misKept mtaped msort mfrom mto mvalue (1 : Int32) mm mkept mwas mother mfound mwarm mdrip mtape mbits msize mnumber)) (w1 := (wz_X7 cI cS h0 h1 h2 h3 h4 h5 h6 h7 h8 h9 h10 h11 misKept mtaped g2 g3 g4 g5 (1 : Int32) mm mkept mwas mother mfound mwarm mdrip mtape mbits msize mnumber)) [0, 1, 2, 3, 4, 5, 6, 7, 8, 9, 10, 11] [] 12 rfl rfl (wz_X7 cI cS h0 h1 h2 h3 h4 h5 h6 h7 h8 h9 h10 h11 misKept mtaped g2 g3 g4 g5 (1 : Int32) mm mkept mwas mother mfound mwarm mdrip mtape mbits msize mnumber) rfl [] rfl rfl rfl (by decide +kernel) (ik_runV (st := []) (As := []) C hM mv_X7_token wl_40_18 ⟨rfl, rfl, Nat.le_of_ble_eq_true rfl, Nat.le_of_ble_eq_true rfl⟩ [0, 1, 2, 3, 4, 5, 6, 7, 8, 9, 10, 11] rfl (by decide +kernel) 0 rfl rfl rfl rfl (Nat.le_of_ble_eq_true rfl) dX7_number_57 ⟨Nat.zero_le _, Nat.zero_le _⟩) rfl ?_
            refine ik_iload C 0 rfl dX7_number_60 ?_
            obtain ⟨rfl, rfl, rfl, rfl, rfl, rfl⟩ := ik_e6 hf
            exact ik_iretW C hr hlk dX7_number_62
theorem mv_X7_kindHere : ik_V yX7_kindHere RX7 cX7_kindHere 1 (some .int) 0 := ⟨wl_42_14, wl_42_15, wl_1_5, wl_42_16, by decide +kernel⟩
set_option maxHeartbeats 4000000 in
set_option maxRecDepth 100000 in
theorem c_X7_kindHere (l : Launch) (D : va_G) (cI cS : ClassId) (aK aV : Nat → Nat) (ka : Nat) (h0 h1 h2 h3 h4 h5 h6 h7 h8 h9 h10 h11 : Nat) (misKept : Int32) (mtaped : Int32) (msort : Int32) (mfrom : Int32) (mto : Int32) (mvalue : Int32) (mbad : Int32) (mm : Nat → Int32) (mkept : Nat → Int32) (mwas : Nat → Int32) (mother : Nat → Int32) (mfound : Nat → Int32) (mwarm : Nat → Int32) (mdrip : Nat → Int32) (mtape : Nat → Int32) (mbits : Nat → Int32) (msize : Nat → Int32) (mnumber : Nat → Int32) (R : Int32) (hf : f_X7_kindHere msort mfrom mto mbad mtape = some (R)) : Met l yX7_kindHere (ik_ws yX7_kindHere cX7_kindHere 1 (some .int)) ({ frames := 5, cells := 0, slots := 0, locals := 134 } : Room) (ik_PZ D cI cS aK aV ka [.ref h0] (wz_X7 cI cS h0 h1 h2 h3 h4 h5 h6 h7 h8 h9 h10 h11 misKept mtaped msort mfrom mto mvalue mbad mm mkept mwas mother mfound mwarm mdrip mtape mbits msize mnumber)) (ik_R (some (.int R))) 0 0 ik_no := by
  refine ik_metRZ RX7 rfl (by decide) (Nat.le_of_ble_eq_true rfl) [(0, .ref h0)] rfl ?_
  intro p e s m below meth c C hr hlk hZ
  unfold f_X7_kindHere at hf
  refine ik_aload_n C 0 rfl rfl dX7_kindHere_0 ?_
  refine ik_ldcSw C (hZ.1 13 (by decide)).2.2.2.2 dX7_kindHere_1 ?_
  obtain ⟨r1, hc1, hf⟩ := ik_b1s hf
  have hM := (c_X7_isWord l D cI cS aK aV ka 13 (by decide) h0 h1 h2 h3 h4 h5 h6 h7 h8 h9 h10 h11 misKept mtaped msort mfrom mto mvalue mbad mm mkept mwas mother mfound mwarm mdrip mtape mbits msize mnumber r1 hc1)
  refine ik_goR (ik_runVZ (st := []) (As := [.ref (aK 13)]) C hZ ik_noA ik_hBr hM mv_X7_isWord wl_41_11 ⟨rfl, rfl, Nat.le_of_ble_eq_true rfl, Nat.le_of_ble_eq_true rfl⟩ [0, 1, 2, 3, 4, 5, 6, 7, 8, 9, 10, 11] rfl (by decide +kernel) 0 rfl rfl rfl rfl (Nat.le_of_ble_eq_true rfl) dX7_kindHere_4 ⟨Nat.zero_le _, Nat.zero_le _⟩) rfl ?_
  refine ik_if_eq C 12 dX7_kindHere_7 (by decide) (fun hc => ?_) (fun hc => ?_)
  · have hf := ik_pos hc hf
    refine ik_aload_n C 0 rfl rfl dX7_kindHere_12 ?_
    refine ik_ldcSw C (hZ.1 14 (by decide)).2.2.2.2 dX7_kindHere_13 ?_
    obtain ⟨r2, hc2, hf⟩ := ik_b1s hf
    have hM := (c_X7_isWord l D cI cS aK aV ka 14 (by decide) h0 h1 h2 h3 h4 h5 h6 h7 h8 h9 h10 h11 misKept mtaped msort mfrom mto mvalue mbad mm mkept mwas mother mfound mwarm mdrip mtape mbits msize mnumber r2 hc2)
    refine ik_goR (ik_runVZ (st := []) (As := [.ref (aK 14)]) C hZ ik_noA ik_hBr hM mv_X7_isWord wl_41_11 ⟨rfl, rfl, Nat.le_of_ble_eq_true rfl, Nat.le_of_ble_eq_true rfl⟩ [0, 1, 2, 3, 4, 5, 6, 7, 8, 9, 10, 11] rfl (by decide +kernel) 0 rfl rfl rfl rfl (Nat.le_of_ble_eq_true rfl) dX7_kindHere_16 ⟨Nat.zero_le _, Nat.zero_le _⟩) rfl ?_
    refine ik_if_eq C 24 dX7_kindHere_19 (by decide) (fun hc => ?_) (fun hc => ?_)
    · have hf := ik_pos hc hf
      refine ik_aload_n C 0 rfl rfl dX7_kindHere_24 ?_
      refine ik_ldcSw C (hZ.1 15 (by decide)).2.2.2.2 dX7_kindHere_25 ?_
      obtain ⟨r3, hc3, hf⟩ := ik_b1s hf
      have hM := (c_X7_isWord l D cI cS aK aV ka 15 (by decide) h0 h1 h2 h3 h4 h5 h6 h7 h8 h9 h10 h11 misKept mtaped msort mfrom mto mvalue mbad mm mkept mwas mother mfound mwarm mdrip mtape mbits msize mnumber r3 hc3)
      refine ik_goR (ik_runVZ (st := []) (As := [.ref (aK 15)]) C hZ ik_noA ik_hBr hM mv_X7_isWord wl_41_11 ⟨rfl, rfl, Nat.le_of_ble_eq_true rfl, Nat.le_of_ble_eq_true rfl⟩ [0, 1, 2, 3, 4, 5, 6, 7, 8, 9, 10, 11] rfl (by decide +kernel) 0 rfl rfl rfl rfl (Nat.le_of_ble_eq_true rfl) dX7_kindHere_28 ⟨Nat.zero_le _, Nat.zero_le _⟩) rfl ?_
      refine ik_if_eq C 36 dX7_kindHere_31 (by decide) (fun hc => ?_) (fun hc => ?_)
      · have hf := ik_pos hc hf
        refine ik_aload_n C 0 rfl rfl dX7_kindHere_36 ?_
        refine ik_ldcSw C (hZ.1 16 (by decide)).2.2.2.2 dX7_kindHere_37 ?_
        obtain ⟨r4, hc4, hf⟩ := ik_b1s hf
        have hM := (c_X7_isWord l D cI cS aK aV ka 16 (by decide) h0 h1 h2 h3 h4 h5 h6 h7 h8 h9 h10 h11 misKept mtaped msort mfrom mto mvalue mbad mm mkept mwas mother mfound mwarm mdrip mtape mbits msize mnumber r4 hc4)
        refine ik_goR (ik_runVZ (st := []) (As := [.ref (aK 16)]) C hZ ik_noA ik_hBr hM mv_X7_isWord wl_41_11 ⟨rfl, rfl, Nat.le_of_ble_eq_true rfl, Nat.le_of_ble_eq_true rfl⟩ [0, 1, 2, 3, 4, 5, 6, 7, 8, 9, 10, 11] rfl (by decide +kernel) 0 rfl rfl rfl rfl (Nat.le_of_ble_eq_true rfl) dX7_kindHere_40 ⟨Nat.zero_le _, Nat.zero_le _⟩) rfl ?_
        refine ik_if_eq C 48 dX7_kindHere_43 (by decide) (fun hc => ?_) (fun hc => ?_)
        · have hf := ik_pos hc hf
          refine ik_aload_n C 0 rfl rfl dX7_kindHere_48 ?_
          refine ik_ldcSw C (hZ.1 17 (by decide)).2.2.2.2 dX7_kindHere_49 ?_
          obtain ⟨r5, hc5, hf⟩ := ik_b1s hf
          have hM := (c_X7_isWord l D cI cS aK aV ka 17 (by decide) h0 h1 h2 h3 h4 h5 h6 h7 h8 h9 h10 h11 misKept mtaped msort mfrom mto mvalue mbad mm mkept mwas mother mfound mwarm mdrip mtape mbits msize mnumber r5 hc5)
          refine ik_goR (ik_runVZ (st := []) (As := [.ref (aK 17)]) C hZ ik_noA ik_hBr hM mv_X7_isWord wl_41_11 ⟨rfl, rfl, Nat.le_of_ble_eq_true rfl, Nat.le_of_ble_eq_true rfl⟩ [0, 1, 2, 3, 4, 5, 6, 7, 8, 9, 10, 11] rfl (by decide +kernel) 0 rfl rfl rfl rfl (Nat.le_of_ble_eq_true rfl) dX7_kindHere_52 ⟨Nat.zero_le _, Nat.zero_le _⟩) rfl ?_
          refine ik_if_eq C 60 dX7_kindHere_55 (by decide) (fun hc => ?_) (fun hc => ?_)
          · have hf := ik_pos hc hf
            refine ik_aload_n C 0 rfl rfl dX7_kindHere_60 ?_
            refine ik_ldcSw C (hZ.1 18 (by decide)).2.2.2.2 dX7_kindHere_61 ?_
            obtain ⟨r6, hc6, hf⟩ := ik_b1s hf
            have hM := (c_X7_isWord l D cI cS aK aV ka 18 (by decide) h0 h1 h2 h3 h4 h5 h6 h7 h8 h9 h10 h11 misKept mtaped msort mfrom mto mvalue mbad mm mkept mwas mother mfound mwarm mdrip mtape mbits msize mnumber r6 hc6)
            refine ik_goR (ik_runVZ (st := []) (As := [.ref (aK 18)]) C hZ ik_noA ik_hBr hM mv_X7_isWord wl_41_11 ⟨rfl, rfl, Nat.le_of_ble_eq_true rfl, Nat.le_of_ble_eq_true rfl⟩ [0, 1, 2, 3, 4, 5, 6, 7, 8, 9, 10, 11] rfl (by decide +kernel) 0 rfl rfl rfl rfl (Nat.le_of_ble_eq_true rfl) dX7_kindHere_64 ⟨Nat.zero_le _, Nat.zero_le _⟩) rfl ?_
            refine ik_if_eq C 74 dX7_kindHere_67 (by decide) (fun hc => ?_) (fun hc => ?_)
            · have hf := ik_pos hc hf
              refine ik_aload_n C 0 rfl rfl dX7_kindHere_74 ?_
              refine ik_ldcSw C (hZ.1 19 (by decide)).2.2.2.2 dX7_kindHere_75 ?_
              obtain ⟨r7, hc7, hf⟩ := ik_b1s hf
              have hM := (c_X7_isWord l D cI cS aK aV ka 19 (by decide) h0 h1 h2 h3 h4 h5 h6 h7 h8 h9 h10 h11 misKept mtaped msort mfrom mto mvalue mbad mm mkept mwas mother mfound mwarm mdrip mtape mbits msize mnumber r7 hc7)
              refine ik_goR (ik_runVZ (st := []) (As := [.ref (aK 19)]) C hZ ik_noA ik_hBr hM mv_X7_isWord wl_41_11 ⟨rfl, rfl, Nat.le_of_ble_eq_true rfl, Nat.le_of_ble_eq_true rfl⟩ [0, 1, 2, 3, 4, 5, 6, 7, 8, 9, 10, 11] rfl (by decide +kernel) 0 rfl rfl rfl rfl (Nat.le_of_ble_eq_true rfl) dX7_kindHere_78 ⟨Nat.zero_le _, Nat.zero_le _⟩) rfl ?_
              refine ik_if_eq C 89 dX7_kindHere_81 (by decide) (fun hc => ?_) (fun hc => ?_)
              · have hf := ik_pos hc hf
                refine ik_iconst (v := (-1 : Int32)) C (by decide) dX7_kindHere_89 ?_
                obtain rfl := Option.some.inj hf
                exact ik_iretR C hr hlk dX7_kindHere_90
              · have hf := ik_neg hc hf
                refine ik_bipush (v := (6 : Int32)) C (by decide) dX7_kindHere_84 ?_
                refine ik_goto C 90 dX7_kindHere_86 (by decide) ?_
                obtain rfl := Option.some.inj hf
                exact ik_iretR C hr hlk dX7_kindHere_90
            · have hf := ik_neg hc hf
              refine ik_iconst (v := (5 : Int32)) C (by decide) dX7_kindHere_70 ?_
              refine ik_goto C 90 dX7_kindHere_71 (by decide) ?_
              obtain rfl := Option.some.inj hf
              exact ik_iretR C hr hlk dX7_kindHere_90
          · have hf := ik_neg hc hf
            refine ik_iconst (v := (4 : Int32)) C (by decide) dX7_kindHere_58 ?_
            obtain rfl := Option.some.inj hf
            exact ik_iretR C hr hlk dX7_kindHere_59
        · have hf := ik_neg hc hf
          refine ik_iconst (v := (3 : Int32)) C (by decide) dX7_kindHere_46 ?_
          obtain rfl := Option.some.inj hf
          exact ik_iretR C hr hlk dX7_kindHere_47
      · have hf := ik_neg hc hf
        refine ik_iconst (v := (2 : Int32)) C (by decide) dX7_kindHere_34 ?_
        obtain rfl := Option.some.inj hf
        exact ik_iretR C hr hlk dX7_kindHere_35
    · have hf := ik_neg hc hf
      refine ik_iconst (v := (1 : Int32)) C (by decide) dX7_kindHere_22 ?_
      obtain rfl := Option.some.inj hf
      exact ik_iretR C hr hlk dX7_kindHere_23
  · have hf := ik_neg hc hf
    refine ik_iconst (v := (0 : Int32)) C (by decide) dX7_kindHere_10 ?_
    obtain rfl := Option.some.inj hf
    exact ik_iretR C hr hlk dX7_kindHere_11
theorem mv_X7_tells : ik_V yX7_tells RX7 cX7_tells 3 none 2 := ⟨wl_42_2, wl_42_3, wl_1_5, wl_42_4, by decide +kernel⟩
set_option maxHeartbeats 4000000 in
set_option maxRecDepth 100000 in
theorem c_X7_tells (l : Launch) (D : va_G) (cI cS : ClassId) (h0 h1 h2 h3 h4 h5 h6 h7 h8 h9 h10 h11 : Nat) (misKept : Int32) (mtaped : Int32) (msort : Int32) (mfrom : Int32) (mto : Int32) (mvalue : Int32) (mbad : Int32) (mm : Nat → Int32) (mkept : Nat → Int32) (mwas : Nat → Int32) (mother : Nat → Int32) (mfound : Nat → Int32) (mwarm : Nat → Int32) (mdrip : Nat → Int32) (mtape : Nat → Int32) (mbits : Nat → Int32) (msize : Nat → Int32) (mnumber : Nat → Int32) (x1 : Int32) (x2 : Int32) (mm_r : Nat → Int32) (hf : f_X7_tells mbad mm x1 x2 = some (mm_r)) : Met l yX7_tells (ik_ws yX7_tells cX7_tells 3 none) ({ frames := 0, cells := 0, slots := 0, locals := 0 } : Room) (ik_P D cI cS [.ref h0, .int x1, .int x2] (wz_X7 cI cS h0 h1 h2 h3 h4 h5 h6 h7 h8 h9 h10 h11 misKept mtaped msort mfrom mto mvalue mbad mm mkept mwas mother mfound mwarm mdrip mtape mbits msize mnumber)) (ik_Q none D (wz_X7 cI cS h0 h1 h2 h3 h4 h5 h6 h7 h8 h9 h10 h11 misKept mtaped msort mfrom mto mvalue mbad mm_r mkept mwas mother mfound mwarm mdrip mtape mbits msize mnumber) (wz_X7 cI cS h0 h1 h2 h3 h4 h5 h6 h7 h8 h9 h10 h11 misKept mtaped msort mfrom mto mvalue mbad mm mkept mwas mother mfound mwarm mdrip mtape mbits msize mnumber)) 0 0 (ik_in (wz_X7 cI cS h0 h1 h2 h3 h4 h5 h6 h7 h8 h9 h10 h11 misKept mtaped msort mfrom mto mvalue mbad mm mkept mwas mother mfound mwarm mdrip mtape mbits msize mnumber)) := by
  refine ik_metW RX7 rfl (by decide) (Nat.le_of_ble_eq_true rfl) [(0, .ref h0), (1, .int x1), (2, .int x2)] rfl ?_
  intro p e s m below meth c C hr hlk
  unfold f_X7_tells at hf
  refine ik_aload_n C 0 rfl rfl dX7_tells_0 ?_
  refine ik_get C inlX7 0 rfl rfl 14 (by decide) wl_40_15 rfl (v := .int mbad) rfl dX7_tells_1 ?_
  refine ik_if_ne C 14 dX7_tells_4 (by decide) (fun hc => ?_) (fun hc => ?_)
  · have hf := ik_neg hc hf
    obtain rfl := Option.some.inj hf
    exact ik_vretW C hr hlk dX7_tells_14
  · have hf := ik_pos hc hf
    refine ik_aload_n C 0 rfl rfl dX7_tells_7 ?_
    refine ik_get C inlX7 0 rfl rfl 0 (by decide) wl_4_12 rfl (v := .ref h1) rfl dX7_tells_8 ?_
    refine ik_iload_n C 1 rfl rfl dX7_tells_11 ?_
    refine ik_iload_n C 2 rfl rfl dX7_tells_12 ?_
    have hg := ik_gdi hf
    have hf := ik_gdk hf
    refine ik_iast C 1 rfl hg (wz_X7 cI cS h0 h1 h2 h3 h4 h5 h6 h7 h8 h9 h10 h11 misKept mtaped msort mfrom mto mvalue mbad (upd mm (x1).toNatClampNeg x2) mkept mwas mother mfound mwarm mdrip mtape mbits msize mnumber) rfl dX7_tells_13 ?_
    obtain rfl := Option.some.inj hf
    exact ik_vretW C hr hlk dX7_tells_14
theorem mv_X7_candleItem : ik_V yX7_candleItem RX7 cX7_candleItem 2 none 0 := ⟨wl_41_18, wl_41_19, wl_1_5, wl_41_20, by decide +kernel⟩
set_option maxHeartbeats 4000000 in
set_option maxRecDepth 100000 in
theorem c_X7_candleItem (l : Launch) (D : va_G) (cI cS : ClassId) (aK aV : Nat → Nat) (ka : Nat) (h0 h1 h2 h3 h4 h5 h6 h7 h8 h9 h10 h11 : Nat) (misKept : Int32) (mtaped : Int32) (msort : Int32) (mfrom : Int32) (mto : Int32) (mvalue : Int32) (mbad : Int32) (mm : Nat → Int32) (mkept : Nat → Int32) (mwas : Nat → Int32) (mother : Nat → Int32) (mfound : Nat → Int32) (mwarm : Nat → Int32) (mdrip : Nat → Int32) (mtape : Nat → Int32) (mbits : Nat → Int32) (msize : Nat → Int32) (mnumber : Nat → Int32) (msort_r : Int32) (mfrom_r : Int32) (mto_r : Int32) (mvalue_r : Int32) (mbad_r : Int32) (mm_r : Nat → Int32) (hf : f_X7_candleItem mtaped msort mfrom mto mvalue mbad mm mtape = some (msort_r, mfrom_r, mto_r, mvalue_r, mbad_r, mm_r)) : Met l yX7_candleItem (ik_ws yX7_candleItem cX7_candleItem 2 none) ({ frames := 6, cells := 0, slots := 0, locals := 155 } : Room) (ik_PZ D cI cS aK aV ka [.ref h0] (wz_X7 cI cS h0 h1 h2 h3 h4 h5 h6 h7 h8 h9 h10 h11 misKept mtaped msort mfrom mto mvalue mbad mm mkept mwas mother mfound mwarm mdrip mtape mbits msize mnumber)) (ik_Q none D (wz_X7 cI cS h0 h1 h2 h3 h4 h5 h6 h7 h8 h9 h10 h11 misKept mtaped msort_r mfrom_r mto_r mvalue_r mbad_r mm_r mkept mwas mother mfound mwarm mdrip mtape mbits msize mnumber) (wz_X7 cI cS h0 h1 h2 h3 h4 h5 h6 h7 h8 h9 h10 h11 misKept mtaped msort mfrom mto mvalue mbad mm mkept mwas mother mfound mwarm mdrip mtape mbits msize mnumber)) 0 0 (ik_in (wz_X7 cI cS h0 h1 h2 h3 h4 h5 h6 h7 h8 h9 h10 h11 misKept mtaped msort mfrom mto mvalue mbad mm mkept mwas mother mfound mwarm mdrip mtape mbits msize mnumber)) := by
  refine ik_metWZ RX7 rfl (by decide) (Nat.le_of_ble_eq_true rfl) [(0, .ref h0)] rfl ?_
  intro p e s m below meth c C hr hlk hZ
  unfold f_X7_candleItem at hf
  refine ik_aload_n C 0 rfl rfl dX7_candleItem_0 ?_
  refine ik_iconst (v := (0 : Int32)) C (by decide) dX7_candleItem_1 ?_
  refine ik_iconst (v := (5 : Int32)) C (by decide) dX7_candleItem_2 ?_
  refine ik_iconst (v := (1 : Int32)) C (by decide) dX7_candleItem_3 ?_
  obtain ⟨r1, g2, g3, g4, g5, g6, hc6, hf⟩ := ik_b6s hf
  have hM := (c_X7_number l D cI cS h0 h1 h2 h3 h4 h5 h6 h7 h8 h9 h10 h11 misKept mtaped msort mfrom mto mvalue mbad mm mkept mwas mother mfound mwarm mdrip mtape mbits msize mnumber (0 : Int32) (5 : Int32) (1 : Int32) r1 g2 g3 g4 g5 g6 hc6)
  refine ik_goW (v := (some (.int r1))) (wc := (wz_X7 cI cS h0 h1 h2 h3 h4 h5 h6 h7 h8 h9 h10 h11 misKept mtaped msort mfrom mto mvalue mbad mm mkept mwas mother mfound mwarm mdrip mtape mbits msize mnumber)) (w1 := (wz_X7 cI cS h0 h1 h2 h3 h4 h5 h6 h7 h8 h9 h10 h11 misKept mtaped g2 g3 g4 g5 g6 mm mkept mwas mother mfound mwarm mdrip mtape mbits msize mnumber)) [0, 1, 2, 3, 4, 5, 6, 7, 8, 9, 10, 11] [] 12 rfl rfl (wz_X7 cI cS h0 h1 h2 h3 h4 h5 h6 h7 h8 h9 h10 h11 misKept mtaped g2 g3 g4 g5 g6 mm mkept mwas mother mfound mwarm mdrip mtape mbits msize mnumber) rfl [] rfl rfl rfl (by decide +kernel) (ik_runV (st := []) (As := [.int (0 : Int32), .int (5 : Int32), .int (1 : Int32)]) C hM mv_X7_number wl_41_21 ⟨rfl, rfl, Nat.le_of_ble_eq_true rfl, Nat.le_of_ble_eq_true rfl⟩ [0, 1, 2, 3, 4, 5, 6, 7, 8, 9, 10, 11] rfl (by decide +kernel) 0 rfl rfl rfl rfl (Nat.le_of_ble_eq_true rfl) dX7_candleItem_4 ⟨Nat.zero_le _, Nat.zero_le _⟩) rfl ?_
  refine ik_istore_n C [(1, .int r1), (0, .ref h0)] rfl (by decide) rfl dX7_candleItem_7 ?_
  refine ik_aload_n C 1 rfl rfl dX7_candleItem_8 ?_
  refine ik_aload_n C 1 rfl rfl dX7_candleItem_9 ?_
  refine ik_get C inlX7 0 rfl rfl 14 (by decide) wl_40_15 rfl (v := .int g6) rfl dX7_candleItem_10 ?_
  refine ik_if_ne C 26 dX7_candleItem_13 (by decide) (fun hc => ?_) (fun hc => ?_)
  · have hf := ik_neg hc hf
    refine ik_iconst (v := (1 : Int32)) C (by decide) dX7_candleItem_26 ?_
    refine ik_goto C 31 dX7_candleItem_27 (by decide) ?_
    refine ik_put C inlX7 tyX7 tyX7_ok nmX7 0 rfl rfl 14 (by decide) wl_40_15 rfl (by decide) (by decide) (by decide) (Nat.le_of_ble_eq_true rfl) (wz_X7 cI cS h0 h1 h2 h3 h4 h5 h6 h7 h8 h9 h10 h11 misKept mtaped g2 g3 g4 g5 (1 : Int32) mm mkept mwas mother mfound mwarm mdrip mtape mbits msize mnumber) rfl dX7_candleItem_31 ?_
    refine ik_aload_n C 1 rfl rfl dX7_candleItem_34 ?_
    refine ik_bipush (v := (6 : Int32)) C (by decide) dX7_candleItem_35 ?_
    refine ik_iconst (v := (3 : Int32)) C (by decide) dX7_candleItem_37 ?_
    refine ik_iload_n C 0 rfl rfl dX7_candleItem_38 ?_
    refine ik_imul C dX7_candleItem_39 ?_
    refine ik_iadd C dX7_candleItem_40 ?_
    refine ik_aload_n C 1 rfl rfl dX7_candleItem_41 ?_
    refine ik_iconst (v := (0 : Int32)) C (by decide) dX7_candleItem_42 ?_
    refine ik_bipush (v := (47 : Int32)) C (by decide) dX7_candleItem_43 ?_
    refine ik_iconst (v := (1 : Int32)) C (by decide) dX7_candleItem_45 ?_
    obtain ⟨r7, g8, g9, g10, g11, g12, hc12, hf⟩ := ik_b6s hf
    have hM := (c_X7_number l D cI cS h0 h1 h2 h3 h4 h5 h6 h7 h8 h9 h10 h11 misKept mtaped g2 g3 g4 g5 (1 : Int32) mm mkept mwas mother mfound mwarm mdrip mtape mbits msize mnumber (0 : Int32) (47 : Int32) (1 : Int32) r7 g8 g9 g10 g11 g12 hc12)
    refine ik_goW (v := (some (.int r7))) (wc := (wz_X7 cI cS h0 h1 h2 h3 h4 h5 h6 h7 h8 h9 h10 h11 misKept mtaped g2 g3 g4 g5 (1 : Int32) mm mkept mwas mother mfound mwarm mdrip mtape mbits msize mnumber)) (w1 := (wz_X7 cI cS h0 h1 h2 h3 h4 h5 h6 h7 h8 h9 h10 h11 misKept mtaped g8 g9 g10 g11 g12 mm mkept mwas mother mfound mwarm mdrip mtape mbits msize mnumber)) [0, 1, 2, 3, 4, 5, 6, 7, 8, 9, 10, 11] [] 12 rfl rfl (wz_X7 cI cS h0 h1 h2 h3 h4 h5 h6 h7 h8 h9 h10 h11 misKept mtaped g8 g9 g10 g11 g12 mm mkept mwas mother mfound mwarm mdrip mtape mbits msize mnumber) rfl [] rfl rfl rfl (by decide +kernel) (ik_runV (st := [.int ((6 : Int32) + ((3 : Int32) * r1)), .ref h0]) (As := [.int (0 : Int32), .int (47 : Int32), .int (1 : Int32)]) C hM mv_X7_number wl_41_21 ⟨rfl, rfl, Nat.le_of_ble_eq_true rfl, Nat.le_of_ble_eq_true rfl⟩ [0, 1, 2, 3, 4, 5, 6, 7, 8, 9, 10, 11] rfl (by decide +kernel) 0 rfl rfl rfl rfl (Nat.le_of_ble_eq_true rfl) dX7_candleItem_46 ⟨Nat.zero_le _, Nat.zero_le _⟩) rfl ?_
    obtain ⟨g13, hc13, hf⟩ := ik_b1s hf
    have hM := (c_X7_tells l D cI cS h0 h1 h2 h3 h4 h5 h6 h7 h8 h9 h10 h11 misKept mtaped g8 g9 g10 g11 g12 mm mkept mwas mother mfound mwarm mdrip mtape mbits msize mnumber ((6 : Int32) + ((3 : Int32) * r1)) r7 g13 hc13)
    refine ik_goW (v := none) (wc := (wz_X7 cI cS h0 h1 h2 h3 h4 h5 h6 h7 h8 h9 h10 h11 misKept mtaped g8 g9 g10 g11 g12 mm mkept mwas mother mfound mwarm mdrip mtape mbits msize mnumber)) (w1 := (wz_X7 cI cS h0 h1 h2 h3 h4 h5 h6 h7 h8 h9 h10 h11 misKept mtaped g8 g9 g10 g11 g12 g13 mkept mwas mother mfound mwarm mdrip mtape mbits msize mnumber)) [0, 1, 2, 3, 4, 5, 6, 7, 8, 9, 10, 11] [] 12 rfl rfl (wz_X7 cI cS h0 h1 h2 h3 h4 h5 h6 h7 h8 h9 h10 h11 misKept mtaped g8 g9 g10 g11 g12 g13 mkept mwas mother mfound mwarm mdrip mtape mbits msize mnumber) rfl [] rfl rfl rfl (by decide +kernel) (ik_runV (st := []) (As := [.int ((6 : Int32) + ((3 : Int32) * r1)), .int r7]) C hM mv_X7_tells wl_42_1 ⟨rfl, rfl, Nat.le_of_ble_eq_true rfl, Nat.le_of_ble_eq_true rfl⟩ [0, 1, 2, 3, 4, 5, 6, 7, 8, 9, 10, 11] rfl (by decide +kernel) 0 rfl rfl rfl rfl (Nat.le_of_ble_eq_true rfl) dX7_candleItem_49 ⟨Nat.zero_le _, Nat.zero_le _⟩) rfl ?_
    refine ik_aload_n C 1 rfl rfl dX7_candleItem_52 ?_
    refine ik_ldcSw C (hZ.1 21 (by decide)).2.2.2.2 dX7_candleItem_53 ?_
    obtain ⟨r14, g15, g16, g17, g18, hc18, hf⟩ := ik_b5s hf
    have hM := (c_X7_takes l D cI cS aK aV ka 21 (by decide) h0 h1 h2 h3 h4 h5 h6 h7 h8 h9 h10 h11 misKept mtaped g8 g9 g10 g11 g12 g13 mkept mwas mother mfound mwarm mdrip mtape mbits msize mnumber r14 g15 g16 g17 g18 hc18)
    refine ik_goW (v := (some (.int r14))) (wc := (wz_X7 cI cS h0 h1 h2 h3 h4 h5 h6 h7 h8 h9 h10 h11 misKept mtaped g8 g9 g10 g11 g12 g13 mkept mwas mother mfound mwarm mdrip mtape mbits msize mnumber)) (w1 := (wz_X7 cI cS h0 h1 h2 h3 h4 h5 h6 h7 h8 h9 h10 h11 misKept mtaped g15 g16 g17 g18 g12 g13 mkept mwas mother mfound mwarm mdrip mtape mbits msize mnumber)) [0, 1, 2, 3, 4, 5, 6, 7, 8, 9, 10, 11] [] 12 rfl rfl (wz_X7 cI cS h0 h1 h2 h3 h4 h5 h6 h7 h8 h9 h10 h11 misKept mtaped g15 g16 g17 g18 g12 g13 mkept mwas mother mfound mwarm mdrip mtape mbits msize mnumber) rfl [] rfl rfl rfl (by decide +kernel) (ik_runVZ (st := []) (As := [.ref (aK 21)]) C hZ (fun _ h => h) ik_hBw hM mv_X7_takes wl_41_7 ⟨rfl, rfl, Nat.le_of_ble_eq_true rfl, Nat.le_of_ble_eq_true rfl⟩ [0, 1, 2, 3, 4, 5, 6, 7, 8, 9, 10, 11] rfl (by decide +kernel) 0 rfl rfl rfl rfl (Nat.le_of_ble_eq_true rfl) dX7_candleItem_56 ⟨Nat.zero_le _, Nat.zero_le _⟩) rfl ?_
    refine ik_if_eq C 82 dX7_candleItem_59 (by decide) (fun hc => ?_) (fun hc => ?_)
    · have hf := ik_pos hc hf
      refine ik_aload_n C 1 rfl rfl dX7_candleItem_82 ?_
      refine ik_bipush (v := (6 : Int32)) C (by decide) dX7_candleItem_83 ?_
      refine ik_iconst (v := (3 : Int32)) C (by decide) dX7_candleItem_85 ?_
      refine ik_iload_n C 0 rfl rfl dX7_candleItem_86 ?_
      refine ik_imul C dX7_candleItem_87 ?_
      refine ik_iadd C dX7_candleItem_88 ?_
      refine ik_iconst (v := (2 : Int32)) C (by decide) dX7_candleItem_89 ?_
      refine ik_iadd C dX7_candleItem_90 ?_
      refine ik_aload_n C 1 rfl rfl dX7_candleItem_91 ?_
      refine ik_ldcSw C (hZ.1 22 (by decide)).2.2.2.2 dX7_candleItem_92 ?_
      obtain ⟨r19, g20, g21, g22, g23, hc23, hf⟩ := ik_b5s hf
      have hM := (c_X7_takes l D cI cS aK aV ka 22 (by decide) h0 h1 h2 h3 h4 h5 h6 h7 h8 h9 h10 h11 misKept mtaped g15 g16 g17 g18 g12 g13 mkept mwas mother mfound mwarm mdrip mtape mbits msize mnumber r19 g20 g21 g22 g23 hc23)
      refine ik_goW (v := (some (.int r19))) (wc := (wz_X7 cI cS h0 h1 h2 h3 h4 h5 h6 h7 h8 h9 h10 h11 misKept mtaped g15 g16 g17 g18 g12 g13 mkept mwas mother mfound mwarm mdrip mtape mbits msize mnumber)) (w1 := (wz_X7 cI cS h0 h1 h2 h3 h4 h5 h6 h7 h8 h9 h10 h11 misKept mtaped g20 g21 g22 g23 g12 g13 mkept mwas mother mfound mwarm mdrip mtape mbits msize mnumber)) [0, 1, 2, 3, 4, 5, 6, 7, 8, 9, 10, 11] [] 12 rfl rfl (wz_X7 cI cS h0 h1 h2 h3 h4 h5 h6 h7 h8 h9 h10 h11 misKept mtaped g20 g21 g22 g23 g12 g13 mkept mwas mother mfound mwarm mdrip mtape mbits msize mnumber) rfl [] rfl rfl rfl (by decide +kernel) (ik_runVZ (st := [.int (((6 : Int32) + ((3 : Int32) * r1)) + (2 : Int32)), .ref h0]) (As := [.ref (aK 22)]) C hZ (fun _ h => h) ik_hBw hM mv_X7_takes wl_41_7 ⟨rfl, rfl, Nat.le_of_ble_eq_true rfl, Nat.le_of_ble_eq_true rfl⟩ [0, 1, 2, 3, 4, 5, 6, 7, 8, 9, 10, 11] rfl (by decide +kernel) 0 rfl rfl rfl rfl (Nat.le_of_ble_eq_true rfl) dX7_candleItem_95 ⟨Nat.zero_le _, Nat.zero_le _⟩) rfl ?_
      refine ik_if_eq C 105 dX7_candleItem_98 (by decide) (fun hc => ?_) (fun hc => ?_)
      · have hf := ik_pos hc hf
        refine ik_iconst (v := (0 : Int32)) C (by decide) dX7_candleItem_105 ?_
        obtain ⟨g24, hc24, hf⟩ := ik_b1s hf
        have hM := (c_X7_tells l D cI cS h0 h1 h2 h3 h4 h5 h6 h7 h8 h9 h10 h11 misKept mtaped g20 g21 g22 g23 g12 g13 mkept mwas mother mfound mwarm mdrip mtape mbits msize mnumber (((6 : Int32) + ((3 : Int32) * r1)) + (2 : Int32)) (0 : Int32) g24 hc24)
        refine ik_goW (v := none) (wc := (wz_X7 cI cS h0 h1 h2 h3 h4 h5 h6 h7 h8 h9 h10 h11 misKept mtaped g20 g21 g22 g23 g12 g13 mkept mwas mother mfound mwarm mdrip mtape mbits msize mnumber)) (w1 := (wz_X7 cI cS h0 h1 h2 h3 h4 h5 h6 h7 h8 h9 h10 h11 misKept mtaped g20 g21 g22 g23 g12 g24 mkept mwas mother mfound mwarm mdrip mtape mbits msize mnumber)) [0, 1, 2, 3, 4, 5, 6, 7, 8, 9, 10, 11] [] 12 rfl rfl (wz_X7 cI cS h0 h1 h2 h3 h4 h5 h6 h7 h8 h9 h10 h11 misKept mtaped g20 g21 g22 g23 g12 g24 mkept mwas mother mfound mwarm mdrip mtape mbits msize mnumber) rfl [] rfl rfl rfl (by decide +kernel) (ik_runV (st := []) (As := [.int (((6 : Int32) + ((3 : Int32) * r1)) + (2 : Int32)), .int (0 : Int32)]) C hM mv_X7_tells wl_42_1 ⟨rfl, rfl, Nat.le_of_ble_eq_true rfl, Nat.le_of_ble_eq_true rfl⟩ [0, 1, 2, 3, 4, 5, 6, 7, 8, 9, 10, 11] rfl (by decide +kernel) 0 rfl rfl rfl rfl (Nat.le_of_ble_eq_true rfl) dX7_candleItem_106 ⟨Nat.zero_le _, Nat.zero_le _⟩) rfl ?_
        obtain ⟨rfl, rfl, rfl, rfl, rfl, rfl⟩ := ik_e6 hf
        exact ik_vretW C hr hlk dX7_candleItem_109
      · have hf := ik_neg hc hf
        refine ik_iconst (v := (1 : Int32)) C (by decide) dX7_candleItem_101 ?_
        refine ik_goto C 106 dX7_candleItem_102 (by decide) ?_
        obtain ⟨g24, hc24, hf⟩ := ik_b1s hf
        have hM := (c_X7_tells l D cI cS h0 h1 h2 h3 h4 h5 h6 h7 h8 h9 h10 h11 misKept mtaped g20 g21 g22 g23 g12 g13 mkept mwas mother mfound mwarm mdrip mtape mbits msize mnumber (((6 : Int32) + ((3 : Int32) * r1)) + (2 : Int32)) (1 : Int32) g24 hc24)
        refine ik_goW (v := none) (wc := (wz_X7 cI cS h0 h1 h2 h3 h4 h5 h6 h7 h8 h9 h10 h11 misKept mtaped g20 g21 g22 g23 g12 g13 mkept mwas mother mfound mwarm mdrip mtape mbits msize mnumber)) (w1 := (wz_X7 cI cS h0 h1 h2 h3 h4 h5 h6 h7 h8 h9 h10 h11 misKept mtaped g20 g21 g22 g23 g12 g24 mkept mwas mother mfound mwarm mdrip mtape mbits msize mnumber)) [0, 1, 2, 3, 4, 5, 6, 7, 8, 9, 10, 11] [] 12 rfl rfl (wz_X7 cI cS h0 h1 h2 h3 h4 h5 h6 h7 h8 h9 h10 h11 misKept mtaped g20 g21 g22 g23 g12 g24 mkept mwas mother mfound mwarm mdrip mtape mbits msize mnumber) rfl [] rfl rfl rfl (by decide +kernel) (ik_runV (st := []) (As := [.int (((6 : Int32) + ((3 : Int32) * r1)) + (2 : Int32)), .int (1 : Int32)]) C hM mv_X7_tells wl_42_1 ⟨rfl, rfl, Nat.le_of_ble_eq_true rfl, Nat.le_of_ble_eq_true rfl⟩ [0, 1, 2, 3, 4, 5, 6, 7, 8, 9, 10, 11] rfl (by decide +kernel) 0 rfl rfl rfl rfl (Nat.le_of_ble_eq_true rfl) dX7_candleItem_106 ⟨Nat.zero_le _, Nat.zero_le _⟩) rfl ?_
        obtain ⟨rfl, rfl, rfl, rfl, rfl, rfl⟩ := ik_e6 hf
        exact ik_vretW C hr hlk dX7_candleItem_109
    · have hf := ik_neg hc hf
      refine ik_aload_n C 1 rfl rfl dX7_candleItem_62 ?_
      refine ik_bipush (v := (6 : Int32)) C (by decide) dX7_candleItem_63 ?_
      refine ik_iconst (v := (3 : Int32)) C (by decide) dX7_candleItem_65 ?_
      refine ik_iload_n C 0 rfl rfl dX7_candleItem_66 ?_
      refine ik_imul C dX7_candleItem_67 ?_
      refine ik_iadd C dX7_candleItem_68 ?_
      refine ik_iconst (v := (1 : Int32)) C (by decide) dX7_candleItem_69 ?_
      refine ik_iadd C dX7_candleItem_70 ?_
      refine ik_aload_n C 1 rfl rfl dX7_candleItem_71 ?_
      refine ik_iconst (v := (0 : Int32)) C (by decide) dX7_candleItem_72 ?_
      refine ik_bipush (v := (30 : Int32)) C (by decide) dX7_candleItem_73 ?_
      refine ik_iconst (v := (1 : Int32)) C (by decide) dX7_candleItem_75 ?_
      obtain ⟨r19, g20, g21, g22, g23, g24, hc24, hf⟩ := ik_b6s hf
      have hM := (c_X7_number l D cI cS h0 h1 h2 h3 h4 h5 h6 h7 h8 h9 h10 h11 misKept mtaped g15 g16 g17 g18 g12 g13 mkept mwas mother mfound mwarm mdrip mtape mbits msize mnumber (0 : Int32) (30 : Int32) (1 : Int32) r19 g20 g21 g22 g23 g24 hc24)
      refine ik_goW (v := (some (.int r19))) (wc := (wz_X7 cI cS h0 h1 h2 h3 h4 h5 h6 h7 h8 h9 h10 h11 misKept mtaped g15 g16 g17 g18 g12 g13 mkept mwas mother mfound mwarm mdrip mtape mbits msize mnumber)) (w1 := (wz_X7 cI cS h0 h1 h2 h3 h4 h5 h6 h7 h8 h9 h10 h11 misKept mtaped g20 g21 g22 g23 g24 g13 mkept mwas mother mfound mwarm mdrip mtape mbits msize mnumber)) [0, 1, 2, 3, 4, 5, 6, 7, 8, 9, 10, 11] [] 12 rfl rfl (wz_X7 cI cS h0 h1 h2 h3 h4 h5 h6 h7 h8 h9 h10 h11 misKept mtaped g20 g21 g22 g23 g24 g13 mkept mwas mother mfound mwarm mdrip mtape mbits msize mnumber) rfl [] rfl rfl rfl (by decide +kernel) (ik_runV (st := [.int (((6 : Int32) + ((3 : Int32) * r1)) + (1 : Int32)), .ref h0]) (As := [.int (0 : Int32), .int (30 : Int32), .int (1 : Int32)]) C hM mv_X7_number wl_41_21 ⟨rfl, rfl, Nat.le_of_ble_eq_true rfl, Nat.le_of_ble_eq_true rfl⟩ [0, 1, 2, 3, 4, 5, 6, 7, 8, 9, 10, 11] rfl (by decide +kernel) 0 rfl rfl rfl rfl (Nat.le_of_ble_eq_true rfl) dX7_candleItem_76 ⟨Nat.zero_le _, Nat.zero_le _⟩) rfl ?_
      obtain ⟨g25, hc25, hf⟩ := ik_b1s hf
      have hM := (c_X7_tells l D cI cS h0 h1 h2 h3 h4 h5 h6 h7 h8 h9 h10 h11 misKept mtaped g20 g21 g22 g23 g24 g13 mkept mwas mother mfound mwarm mdrip mtape mbits msize mnumber (((6 : Int32) + ((3 : Int32) * r1)) + (1 : Int32)) r19 g25 hc25)
      refine ik_goW (v := none) (wc := (wz_X7 cI cS h0 h1 h2 h3 h4 h5 h6 h7 h8 h9 h10 h11 misKept mtaped g20 g21 g22 g23 g24 g13 mkept mwas mother mfound mwarm mdrip mtape mbits msize mnumber)) (w1 := (wz_X7 cI cS h0 h1 h2 h3 h4 h5 h6 h7 h8 h9 h10 h11 misKept mtaped g20 g21 g22 g23 g24 g25 mkept mwas mother mfound mwarm mdrip mtape mbits msize mnumber)) [0, 1, 2, 3, 4, 5, 6, 7, 8, 9, 10, 11] [] 12 rfl rfl (wz_X7 cI cS h0 h1 h2 h3 h4 h5 h6 h7 h8 h9 h10 h11 misKept mtaped g20 g21 g22 g23 g24 g25 mkept mwas mother mfound mwarm mdrip mtape mbits msize mnumber) rfl [] rfl rfl rfl (by decide +kernel) (ik_runV (st := []) (As := [.int (((6 : Int32) + ((3 : Int32) * r1)) + (1 : Int32)), .int r19]) C hM mv_X7_tells wl_42_1 ⟨rfl, rfl, Nat.le_of_ble_eq_true rfl, Nat.le_of_ble_eq_true rfl⟩ [0, 1, 2, 3, 4, 5, 6, 7, 8, 9, 10, 11] rfl (by decide +kernel) 0 rfl rfl rfl rfl (Nat.le_of_ble_eq_true rfl) dX7_candleItem_79 ⟨Nat.zero_le _, Nat.zero_le _⟩) rfl ?_
      refine ik_aload_n C 1 rfl rfl dX7_candleItem_82 ?_
      refine ik_bipush (v := (6 : Int32)) C (by decide) dX7_candleItem_83 ?_
      refine ik_iconst (v := (3 : Int32)) C (by decide) dX7_candleItem_85 ?_
      refine ik_iload_n C 0 rfl rfl dX7_candleItem_86 ?_
      refine ik_imul C dX7_candleItem_87 ?_
      refine ik_iadd C dX7_candleItem_88 ?_
      refine ik_iconst (v := (2 : Int32)) C (by decide) dX7_candleItem_89 ?_
      refine ik_iadd C dX7_candleItem_90 ?_
      refine ik_aload_n C 1 rfl rfl dX7_candleItem_91 ?_
      refine ik_ldcSw C (hZ.1 22 (by decide)).2.2.2.2 dX7_candleItem_92 ?_
      obtain ⟨r26, g27, g28, g29, g30, hc30, hf⟩ := ik_b5s hf
      have hM := (c_X7_takes l D cI cS aK aV ka 22 (by decide) h0 h1 h2 h3 h4 h5 h6 h7 h8 h9 h10 h11 misKept mtaped g20 g21 g22 g23 g24 g25 mkept mwas mother mfound mwarm mdrip mtape mbits msize mnumber r26 g27 g28 g29 g30 hc30)
      refine ik_goW (v := (some (.int r26))) (wc := (wz_X7 cI cS h0 h1 h2 h3 h4 h5 h6 h7 h8 h9 h10 h11 misKept mtaped g20 g21 g22 g23 g24 g25 mkept mwas mother mfound mwarm mdrip mtape mbits msize mnumber)) (w1 := (wz_X7 cI cS h0 h1 h2 h3 h4 h5 h6 h7 h8 h9 h10 h11 misKept mtaped g27 g28 g29 g30 g24 g25 mkept mwas mother mfound mwarm mdrip mtape mbits msize mnumber)) [0, 1, 2, 3, 4, 5, 6, 7, 8, 9, 10, 11] [] 12 rfl rfl (wz_X7 cI cS h0 h1 h2 h3 h4 h5 h6 h7 h8 h9 h10 h11 misKept mtaped g27 g28 g29 g30 g24 g25 mkept mwas mother mfound mwarm mdrip mtape mbits msize mnumber) rfl [] rfl rfl rfl (by decide +kernel) (ik_runVZ (st := [.int (((6 : Int32) + ((3 : Int32) * r1)) + (2 : Int32)), .ref h0]) (As := [.ref (aK 22)]) C hZ (fun _ h => h) ik_hBw hM mv_X7_takes wl_41_7 ⟨rfl, rfl, Nat.le_of_ble_eq_true rfl, Nat.le_of_ble_eq_true rfl⟩ [0, 1, 2, 3, 4, 5, 6, 7, 8, 9, 10, 11] rfl (by decide +kernel) 0 rfl rfl rfl rfl (Nat.le_of_ble_eq_true rfl) dX7_candleItem_95 ⟨Nat.zero_le _, Nat.zero_le _⟩) rfl ?_
      refine ik_if_eq C 105 dX7_candleItem_98 (by decide) (fun hc => ?_) (fun hc => ?_)
      · have hf := ik_pos hc hf
        refine ik_iconst (v := (0 : Int32)) C (by decide) dX7_candleItem_105 ?_
        obtain ⟨g31, hc31, hf⟩ := ik_b1s hf
        have hM := (c_X7_tells l D cI cS h0 h1 h2 h3 h4 h5 h6 h7 h8 h9 h10 h11 misKept mtaped g27 g28 g29 g30 g24 g25 mkept mwas mother mfound mwarm mdrip mtape mbits msize mnumber (((6 : Int32) + ((3 : Int32) * r1)) + (2 : Int32)) (0 : Int32) g31 hc31)
        refine ik_goW (v := none) (wc := (wz_X7 cI cS h0 h1 h2 h3 h4 h5 h6 h7 h8 h9 h10 h11 misKept mtaped g27 g28 g29 g30 g24 g25 mkept mwas mother mfound mwarm mdrip mtape mbits msize mnumber)) (w1 := (wz_X7 cI cS h0 h1 h2 h3 h4 h5 h6 h7 h8 h9 h10 h11 misKept mtaped g27 g28 g29 g30 g24 g31 mkept mwas mother mfound mwarm mdrip mtape mbits msize mnumber)) [0, 1, 2, 3, 4, 5, 6, 7, 8, 9, 10, 11] [] 12 rfl rfl (wz_X7 cI cS h0 h1 h2 h3 h4 h5 h6 h7 h8 h9 h10 h11 misKept mtaped g27 g28 g29 g30 g24 g31 mkept mwas mother mfound mwarm mdrip mtape mbits msize mnumber) rfl [] rfl rfl rfl (by decide +kernel) (ik_runV (st := []) (As := [.int (((6 : Int32) + ((3 : Int32) * r1)) + (2 : Int32)), .int (0 : Int32)]) C hM mv_X7_tells wl_42_1 ⟨rfl, rfl, Nat.le_of_ble_eq_true rfl, Nat.le_of_ble_eq_true rfl⟩ [0, 1, 2, 3, 4, 5, 6, 7, 8, 9, 10, 11] rfl (by decide +kernel) 0 rfl rfl rfl rfl (Nat.le_of_ble_eq_true rfl) dX7_candleItem_106 ⟨Nat.zero_le _, Nat.zero_le _⟩) rfl ?_
        obtain ⟨rfl, rfl, rfl, rfl, rfl, rfl⟩ := ik_e6 hf
        exact ik_vretW C hr hlk dX7_candleItem_109
      · have hf := ik_neg hc hf
        refine ik_iconst (v := (1 : Int32)) C (by decide) dX7_candleItem_101 ?_
        refine ik_goto C 106 dX7_candleItem_102 (by decide) ?_
        obtain ⟨g31, hc31, hf⟩ := ik_b1s hf
        have hM := (c_X7_tells l D cI cS h0 h1 h2 h3 h4 h5 h6 h7 h8 h9 h10 h11 misKept mtaped g27 g28 g29 g30 g24 g25 mkept mwas mother mfound mwarm mdrip mtape mbits msize mnumber (((6 : Int32) + ((3 : Int32) * r1)) + (2 : Int32)) (1 : Int32) g31 hc31)
        refine ik_goW (v := none) (wc := (wz_X7 cI cS h0 h1 h2 h3 h4 h5 h6 h7 h8 h9 h10 h11 misKept mtaped g27 g28 g29 g30 g24 g25 mkept mwas mother mfound mwarm mdrip mtape mbits msize mnumber)) (w1 := (wz_X7 cI cS h0 h1 h2 h3 h4 h5 h6 h7 h8 h9 h10 h11 misKept mtaped g27 g28 g29 g30 g24 g31 mkept mwas mother mfound mwarm mdrip mtape mbits msize mnumber)) [0, 1, 2, 3, 4, 5, 6, 7, 8, 9, 10, 11] [] 12 rfl rfl (wz_X7 cI cS h0 h1 h2 h3 h4 h5 h6 h7 h8 h9 h10 h11 misKept mtaped g27 g28 g29 g30 g24 g31 mkept mwas mother mfound mwarm mdrip mtape mbits msize mnumber) rfl [] rfl rfl rfl (by decide +kernel) (ik_runV (st := []) (As := [.int (((6 : Int32) + ((3 : Int32) * r1)) + (2 : Int32)), .int (1 : Int32)]) C hM mv_X7_tells wl_42_1 ⟨rfl, rfl, Nat.le_of_ble_eq_true rfl, Nat.le_of_ble_eq_true rfl⟩ [0, 1, 2, 3, 4, 5, 6, 7, 8, 9, 10, 11] rfl (by decide +kernel) 0 rfl rfl rfl rfl (Nat.le_of_ble_eq_true rfl) dX7_candleItem_106 ⟨Nat.zero_le _, Nat.zero_le _⟩) rfl ?_
        obtain ⟨rfl, rfl, rfl, rfl, rfl, rfl⟩ := ik_e6 hf
        exact ik_vretW C hr hlk dX7_candleItem_109
  · have hf := ik_pos hc hf
    refine ik_aload_n C 1 rfl rfl dX7_candleItem_16 ?_
    refine ik_ldcSw C (hZ.1 20 (by decide)).2.2.2.2 dX7_candleItem_17 ?_
    obtain ⟨r7, g8, g9, g10, g11, hc11, hf⟩ := ik_b5s hf
    have hM := (c_X7_takes l D cI cS aK aV ka 20 (by decide) h0 h1 h2 h3 h4 h5 h6 h7 h8 h9 h10 h11 misKept mtaped g2 g3 g4 g5 g6 mm mkept mwas mother mfound mwarm mdrip mtape mbits msize mnumber r7 g8 g9 g10 g11 hc11)
    refine ik_goW (v := (some (.int r7))) (wc := (wz_X7 cI cS h0 h1 h2 h3 h4 h5 h6 h7 h8 h9 h10 h11 misKept mtaped g2 g3 g4 g5 g6 mm mkept mwas mother mfound mwarm mdrip mtape mbits msize mnumber)) (w1 := (wz_X7 cI cS h0 h1 h2 h3 h4 h5 h6 h7 h8 h9 h10 h11 misKept mtaped g8 g9 g10 g11 g6 mm mkept mwas mother mfound mwarm mdrip mtape mbits msize mnumber)) [0, 1, 2, 3, 4, 5, 6, 7, 8, 9, 10, 11] [] 12 rfl rfl (wz_X7 cI cS h0 h1 h2 h3 h4 h5 h6 h7 h8 h9 h10 h11 misKept mtaped g8 g9 g10 g11 g6 mm mkept mwas mother mfound mwarm mdrip mtape mbits msize mnumber) rfl [] rfl rfl rfl (by decide +kernel) (ik_runVZ (st := [.ref h0]) (As := [.ref (aK 20)]) C hZ (fun _ h => h) ik_hBw hM mv_X7_takes wl_41_7 ⟨rfl, rfl, Nat.le_of_ble_eq_true rfl, Nat.le_of_ble_eq_true rfl⟩ [0, 1, 2, 3, 4, 5, 6, 7, 8, 9, 10, 11] rfl (by decide +kernel) 0 rfl rfl rfl rfl (Nat.le_of_ble_eq_true rfl) dX7_candleItem_20 ⟨Nat.zero_le _, Nat.zero_le _⟩) rfl ?_
    refine ik_if_ne C 30 dX7_candleItem_23 (by decide) (fun hc => ?_) (fun hc => ?_)
    · have hf := ik_neg hc hf
      refine ik_iconst (v := (0 : Int32)) C (by decide) dX7_candleItem_30 ?_
      refine ik_put C inlX7 tyX7 tyX7_ok nmX7 0 rfl rfl 14 (by decide) wl_40_15 rfl (by decide) (by decide) (by decide) (Nat.le_of_ble_eq_true rfl) (wz_X7 cI cS h0 h1 h2 h3 h4 h5 h6 h7 h8 h9 h10 h11 misKept mtaped g8 g9 g10 g11 (0 : Int32) mm mkept mwas mother mfound mwarm mdrip mtape mbits msize mnumber) rfl dX7_candleItem_31 ?_
      refine ik_aload_n C 1 rfl rfl dX7_candleItem_34 ?_
      refine ik_bipush (v := (6 : Int32)) C (by decide) dX7_candleItem_35 ?_
      refine ik_iconst (v := (3 : Int32)) C (by decide) dX7_candleItem_37 ?_
      refine ik_iload_n C 0 rfl rfl dX7_candleItem_38 ?_
      refine ik_imul C dX7_candleItem_39 ?_
      refine ik_iadd C dX7_candleItem_40 ?_
      refine ik_aload_n C 1 rfl rfl dX7_candleItem_41 ?_
      refine ik_iconst (v := (0 : Int32)) C (by decide) dX7_candleItem_42 ?_
      refine ik_bipush (v := (47 : Int32)) C (by decide) dX7_candleItem_43 ?_
      refine ik_iconst (v := (1 : Int32)) C (by decide) dX7_candleItem_45 ?_
      obtain ⟨r12, g13, g14, g15, g16, g17, hc17, hf⟩ := ik_b6s hf
      have hM := (c_X7_number l D cI cS h0 h1 h2 h3 h4 h5 h6 h7 h8 h9 h10 h11 misKept mtaped g8 g9 g10 g11 (0 : Int32) mm mkept mwas mother mfound mwarm mdrip mtape mbits msize mnumber (0 : Int32) (47 : Int32) (1 : Int32) r12 g13 g14 g15 g16 g17 hc17)
      refine ik_goW (v := (some (.int r12))) (wc := (wz_X7 cI cS h0 h1 h2 h3 h4 h5 h6 h7 h8 h9 h10 h11 misKept mtaped g8 g9 g10 g11 (0 : Int32) mm mkept mwas mother mfound mwarm mdrip mtape mbits msize mnumber)) (w1 := (wz_X7 cI cS h0 h1 h2 h3 h4 h5 h6 h7 h8 h9 h10 h11 misKept mtaped g13 g14 g15 g16 g17 mm mkept mwas mother mfound mwarm mdrip mtape mbits msize mnumber)) [0, 1, 2, 3, 4, 5, 6, 7, 8, 9, 10, 11] [] 12 rfl rfl (wz_X7 cI cS h0 h1 h2 h3 h4 h5 h6 h7 h8 h9 h10 h11 misKept mtaped g13 g14 g15 g16 g17 mm mkept mwas mother mfound mwarm mdrip mtape mbits msize mnumber) rfl [] rfl rfl rfl (by decide +kernel) (ik_runV (st := [.int ((6 : Int32) + ((3 : Int32) * r1)), .ref h0]) (As := [.int (0 : Int32), .int (47 : Int32), .int (1 : Int32)]) C hM mv_X7_number wl_41_21 ⟨rfl, rfl, Nat.le_of_ble_eq_true rfl, Nat.le_of_ble_eq_true rfl⟩ [0, 1, 2, 3, 4, 5, 6, 7, 8, 9, 10, 11] rfl (by decide +kernel) 0 rfl rfl rfl rfl (Nat.le_of_ble_eq_true rfl) dX7_candleItem_46 ⟨Nat.zero_le _, Nat.zero_le _⟩) rfl ?_
      obtain ⟨g18, hc18, hf⟩ := ik_b1s hf
      have hM := (c_X7_tells l D cI cS h0 h1 h2 h3 h4 h5 h6 h7 h8 h9 h10 h11 misKept mtaped g13 g14 g15 g16 g17 mm mkept mwas mother mfound mwarm mdrip mtape mbits msize mnumber ((6 : Int32) + ((3 : Int32) * r1)) r12 g18 hc18)
      refine ik_goW (v := none) (wc := (wz_X7 cI cS h0 h1 h2 h3 h4 h5 h6 h7 h8 h9 h10 h11 misKept mtaped g13 g14 g15 g16 g17 mm mkept mwas mother mfound mwarm mdrip mtape mbits msize mnumber)) (w1 := (wz_X7 cI cS h0 h1 h2 h3 h4 h5 h6 h7 h8 h9 h10 h11 misKept mtaped g13 g14 g15 g16 g17 g18 mkept mwas mother mfound mwarm mdrip mtape mbits msize mnumber)) [0, 1, 2, 3, 4, 5, 6, 7, 8, 9, 10, 11] [] 12 rfl rfl (wz_X7 cI cS h0 h1 h2 h3 h4 h5 h6 h7 h8 h9 h10 h11 misKept mtaped g13 g14 g15 g16 g17 g18 mkept mwas mother mfound mwarm mdrip mtape mbits msize mnumber) rfl [] rfl rfl rfl (by decide +kernel) (ik_runV (st := []) (As := [.int ((6 : Int32) + ((3 : Int32) * r1)), .int r12]) C hM mv_X7_tells wl_42_1 ⟨rfl, rfl, Nat.le_of_ble_eq_true rfl, Nat.le_of_ble_eq_true rfl⟩ [0, 1, 2, 3, 4, 5, 6, 7, 8, 9, 10, 11] rfl (by decide +kernel) 0 rfl rfl rfl rfl (Nat.le_of_ble_eq_true rfl) dX7_candleItem_49 ⟨Nat.zero_le _, Nat.zero_le _⟩) rfl ?_
      refine ik_aload_n C 1 rfl rfl dX7_candleItem_52 ?_
      refine ik_ldcSw C (hZ.1 21 (by decide)).2.2.2.2 dX7_candleItem_53 ?_
      obtain ⟨r19, g20, g21, g22, g23, hc23, hf⟩ := ik_b5s hf
      have hM := (c_X7_takes l D cI cS aK aV ka 21 (by decide) h0 h1 h2 h3 h4 h5 h6 h7 h8 h9 h10 h11 misKept mtaped g13 g14 g15 g16 g17 g18 mkept mwas mother mfound mwarm mdrip mtape mbits msize mnumber r19 g20 g21 g22 g23 hc23)
      refine ik_goW (v := (some (.int r19))) (wc := (wz_X7 cI cS h0 h1 h2 h3 h4 h5 h6 h7 h8 h9 h10 h11 misKept mtaped g13 g14 g15 g16 g17 g18 mkept mwas mother mfound mwarm mdrip mtape mbits msize mnumber)) (w1 := (wz_X7 cI cS h0 h1 h2 h3 h4 h5 h6 h7 h8 h9 h10 h11 misKept mtaped g20 g21 g22 g23 g17 g18 mkept mwas mother mfound mwarm mdrip mtape mbits msize mnumber)) [0, 1, 2, 3, 4, 5, 6, 7, 8, 9, 10, 11] [] 12 rfl rfl (wz_X7 cI cS h0 h1 h2 h3 h4 h5 h6 h7 h8 h9 h10 h11 misKept mtaped g20 g21 g22 g23 g17 g18 mkept mwas mother mfound mwarm mdrip mtape mbits msize mnumber) rfl [] rfl rfl rfl (by decide +kernel) (ik_runVZ (st := []) (As := [.ref (aK 21)]) C hZ (fun _ h => h) ik_hBw hM mv_X7_takes wl_41_7 ⟨rfl, rfl, Nat.le_of_ble_eq_true rfl, Nat.le_of_ble_eq_true rfl⟩ [0, 1, 2, 3, 4, 5, 6, 7, 8, 9, 10, 11] rfl (by decide +kernel) 0 rfl rfl rfl rfl (Nat.le_of_ble_eq_true rfl) dX7_candleItem_56 ⟨Nat.zero_le _, Nat.zero_le _⟩) rfl ?_
      refine ik_if_eq C 82 dX7_candleItem_59 (by decide) (fun hc => ?_) (fun hc => ?_)
      · have hf := ik_pos hc hf
        refine ik_aload_n C 1 rfl rfl dX7_candleItem_82 ?_
        refine ik_bipush (v := (6 : Int32)) C (by decide) dX7_candleItem_83 ?_
        refine ik_iconst (v := (3 : Int32)) C (by decide) dX7_candleItem_85 ?_
        refine ik_iload_n C 0 rfl rfl dX7_candleItem_86 ?_
        refine ik_imul C dX7_candleItem_87 ?_
        refine ik_iadd C dX7_candleItem_88 ?_
        refine ik_iconst (v := (2 : Int32)) C (by decide) dX7_candleItem_89 ?_
        refine ik_iadd C dX7_candleItem_90 ?_
        refine ik_aload_n C 1 rfl rfl dX7_candleItem_91 ?_
        refine ik_ldcSw C (hZ.1 22 (by decide)).2.2.2.2 dX7_candleItem_92 ?_
        obtain ⟨r24, g25, g26, g27, g28, hc28, hf⟩ := ik_b5s hf
        have hM := (c_X7_takes l D cI cS aK aV ka 22 (by decide) h0 h1 h2 h3 h4 h5 h6 h7 h8 h9 h10 h11 misKept mtaped g20 g21 g22 g23 g17 g18 mkept mwas mother mfound mwarm mdrip mtape mbits msize mnumber r24 g25 g26 g27 g28 hc28)
        refine ik_goW (v := (some (.int r24))) (wc := (wz_X7 cI cS h0 h1 h2 h3 h4 h5 h6 h7 h8 h9 h10 h11 misKept mtaped g20 g21 g22 g23 g17 g18 mkept mwas mother mfound mwarm mdrip mtape mbits msize mnumber)) (w1 := (wz_X7 cI cS h0 h1 h2 h3 h4 h5 h6 h7 h8 h9 h10 h11 misKept mtaped g25 g26 g27 g28 g17 g18 mkept mwas mother mfound mwarm mdrip mtape mbits msize mnumber)) [0, 1, 2, 3, 4, 5, 6, 7, 8, 9, 10, 11] [] 12 rfl rfl (wz_X7 cI cS h0 h1 h2 h3 h4 h5 h6 h7 h8 h9 h10 h11 misKept mtaped g25 g26 g27 g28 g17 g18 mkept mwas mother mfound mwarm mdrip mtape mbits msize mnumber) rfl [] rfl rfl rfl (by decide +kernel) (ik_runVZ (st := [.int (((6 : Int32) + ((3 : Int32) * r1)) + (2 : Int32)), .ref h0]) (As := [.ref (aK 22)]) C hZ (fun _ h => h) ik_hBw hM mv_X7_takes wl_41_7 ⟨rfl, rfl, Nat.le_of_ble_eq_true rfl, Nat.le_of_ble_eq_true rfl⟩ [0, 1, 2, 3, 4, 5, 6, 7, 8, 9, 10, 11] rfl (by decide +kernel) 0 rfl rfl rfl rfl (Nat.le_of_ble_eq_true rfl) dX7_candleItem_95 ⟨Nat.zero_le _, Nat.zero_le _⟩) rfl ?_
        refine ik_if_eq C 105 dX7_candleItem_98 (by decide) (fun hc => ?_) (fun hc => ?_)
        · have hf := ik_pos hc hf
          refine ik_iconst (v := (0 : Int32)) C (by decide) dX7_candleItem_105 ?_
          obtain ⟨g29, hc29, hf⟩ := ik_b1s hf
          have hM := (c_X7_tells l D cI cS h0 h1 h2 h3 h4 h5 h6 h7 h8 h9 h10 h11 misKept mtaped g25 g26 g27 g28 g17 g18 mkept mwas mother mfound mwarm mdrip mtape mbits msize mnumber (((6 : Int32) + ((3 : Int32) * r1)) + (2 : Int32)) (0 : Int32) g29 hc29)
          refine ik_goW (v := none) (wc := (wz_X7 cI cS h0 h1 h2 h3 h4 h5 h6 h7 h8 h9 h10 h11 misKept mtaped g25 g26 g27 g28 g17 g18 mkept mwas mother mfound mwarm mdrip mtape mbits msize mnumber)) (w1 := (wz_X7 cI cS h0 h1 h2 h3 h4 h5 h6 h7 h8 h9 h10 h11 misKept mtaped g25 g26 g27 g28 g17 g29 mkept mwas mother mfound mwarm mdrip mtape mbits msize mnumber)) [0, 1, 2, 3, 4, 5, 6, 7, 8, 9, 10, 11] [] 12 rfl rfl (wz_X7 cI cS h0 h1 h2 h3 h4 h5 h6 h7 h8 h9 h10 h11 misKept mtaped g25 g26 g27 g28 g17 g29 mkept mwas mother mfound mwarm mdrip mtape mbits msize mnumber) rfl [] rfl rfl rfl (by decide +kernel) (ik_runV (st := []) (As := [.int (((6 : Int32) + ((3 : Int32) * r1)) + (2 : Int32)), .int (0 : Int32)]) C hM mv_X7_tells wl_42_1 ⟨rfl, rfl, Nat.le_of_ble_eq_true rfl, Nat.le_of_ble_eq_true rfl⟩ [0, 1, 2, 3, 4, 5, 6, 7, 8, 9, 10, 11] rfl (by decide +kernel) 0 rfl rfl rfl rfl (Nat.le_of_ble_eq_true rfl) dX7_candleItem_106 ⟨Nat.zero_le _, Nat.zero_le _⟩) rfl ?_
          obtain ⟨rfl, rfl, rfl, rfl, rfl, rfl⟩ := ik_e6 hf
          exact ik_vretW C hr hlk dX7_candleItem_109
        · have hf := ik_neg hc hf
          refine ik_iconst (v := (1 : Int32)) C (by decide) dX7_candleItem_101 ?_
          refine ik_goto C 106 dX7_candleItem_102 (by decide) ?_
          obtain ⟨g29, hc29, hf⟩ := ik_b1s hf
          have hM := (c_X7_tells l D cI cS h0 h1 h2 h3 h4 h5 h6 h7 h8 h9 h10 h11 misKept mtaped g25 g26 g27 g28 g17 g18 mkept mwas mother mfound mwarm mdrip mtape mbits msize mnumber (((6 : Int32) + ((3 : Int32) * r1)) + (2 : Int32)) (1 : Int32) g29 hc29)
          refine ik_goW (v := none) (wc := (wz_X7 cI cS h0 h1 h2 h3 h4 h5 h6 h7 h8 h9 h10 h11 misKept mtaped g25 g26 g27 g28 g17 g18 mkept mwas mother mfound mwarm mdrip mtape mbits msize mnumber)) (w1 := (wz_X7 cI cS h0 h1 h2 h3 h4 h5 h6 h7 h8 h9 h10 h11 misKept mtaped g25 g26 g27 g28 g17 g29 mkept mwas mother mfound mwarm mdrip mtape mbits msize mnumber)) [0, 1, 2, 3, 4, 5, 6, 7, 8, 9, 10, 11] [] 12 rfl rfl (wz_X7 cI cS h0 h1 h2 h3 h4 h5 h6 h7 h8 h9 h10 h11 misKept mtaped g25 g26 g27 g28 g17 g29 mkept mwas mother mfound mwarm mdrip mtape mbits msize mnumber) rfl [] rfl rfl rfl (by decide +kernel) (ik_runV (st := []) (As := [.int (((6 : Int32) + ((3 : Int32) * r1)) + (2 : Int32)), .int (1 : Int32)]) C hM mv_X7_tells wl_42_1 ⟨rfl, rfl, Nat.le_of_ble_eq_true rfl, Nat.le_of_ble_eq_true rfl⟩ [0, 1, 2, 3, 4, 5, 6, 7, 8, 9, 10, 11] rfl (by decide +kernel) 0 rfl rfl rfl rfl (Nat.le_of_ble_eq_true rfl) dX7_candleItem_106 ⟨Nat.zero_le _, Nat.zero_le _⟩) rfl ?_
          obtain ⟨rfl, rfl, rfl, rfl, rfl, rfl⟩ := ik_e6 hf
          exact ik_vretW C hr hlk dX7_candleItem_109
      · have hf := ik_neg hc hf
        refine ik_aload_n C 1 rfl rfl dX7_candleItem_62 ?_
        refine ik_bipush (v := (6 : Int32)) C (by decide) dX7_candleItem_63 ?_
        refine ik_iconst (v := (3 : Int32)) C (by decide) dX7_candleItem_65 ?_
        refine ik_iload_n C 0 rfl rfl dX7_candleItem_66 ?_
        refine ik_imul C dX7_candleItem_67 ?_
        refine ik_iadd C dX7_candleItem_68 ?_
        refine ik_iconst (v := (1 : Int32)) C (by decide) dX7_candleItem_69 ?_
        refine ik_iadd C dX7_candleItem_70 ?_
        refine ik_aload_n C 1 rfl rfl dX7_candleItem_71 ?_
        refine ik_iconst (v := (0 : Int32)) C (by decide) dX7_candleItem_72 ?_
        refine ik_bipush (v := (30 : Int32)) C (by decide) dX7_candleItem_73 ?_
        refine ik_iconst (v := (1 : Int32)) C (by decide) dX7_candleItem_75 ?_
        obtain ⟨r24, g25, g26, g27, g28, g29, hc29, hf⟩ := ik_b6s hf
        have hM := (c_X7_number l D cI cS h0 h1 h2 h3 h4 h5 h6 h7 h8 h9 h10 h11 misKept mtaped g20 g21 g22 g23 g17 g18 mkept mwas mother mfound mwarm mdrip mtape mbits msize mnumber (0 : Int32) (30 : Int32) (1 : Int32) r24 g25 g26 g27 g28 g29 hc29)
        refine ik_goW (v := (some (.int r24))) (wc := (wz_X7 cI cS h0 h1 h2 h3 h4 h5 h6 h7 h8 h9 h10 h11 misKept mtaped g20 g21 g22 g23 g17 g18 mkept mwas mother mfound mwarm mdrip mtape mbits msize mnumber)) (w1 := (wz_X7 cI cS h0 h1 h2 h3 h4 h5 h6 h7 h8 h9 h10 h11 misKept mtaped g25 g26 g27 g28 g29 g18 mkept mwas mother mfound mwarm mdrip mtape mbits msize mnumber)) [0, 1, 2, 3, 4, 5, 6, 7, 8, 9, 10, 11] [] 12 rfl rfl (wz_X7 cI cS h0 h1 h2 h3 h4 h5 h6 h7 h8 h9 h10 h11 misKept mtaped g25 g26 g27 g28 g29 g18 mkept mwas mother mfound mwarm mdrip mtape mbits msize mnumber) rfl [] rfl rfl rfl (by decide +kernel) (ik_runV (st := [.int (((6 : Int32) + ((3 : Int32) * r1)) + (1 : Int32)), .ref h0]) (As := [.int (0 : Int32), .int (30 : Int32), .int (1 : Int32)]) C hM mv_X7_number wl_41_21 ⟨rfl, rfl, Nat.le_of_ble_eq_true rfl, Nat.le_of_ble_eq_true rfl⟩ [0, 1, 2, 3, 4, 5, 6, 7, 8, 9, 10, 11] rfl (by decide +kernel) 0 rfl rfl rfl rfl (Nat.le_of_ble_eq_true rfl) dX7_candleItem_76 ⟨Nat.zero_le _, Nat.zero_le _⟩) rfl ?_
        obtain ⟨g30, hc30, hf⟩ := ik_b1s hf
        have hM := (c_X7_tells l D cI cS h0 h1 h2 h3 h4 h5 h6 h7 h8 h9 h10 h11 misKept mtaped g25 g26 g27 g28 g29 g18 mkept mwas mother mfound mwarm mdrip mtape mbits msize mnumber (((6 : Int32) + ((3 : Int32) * r1)) + (1 : Int32)) r24 g30 hc30)
        refine ik_goW (v := none) (wc := (wz_X7 cI cS h0 h1 h2 h3 h4 h5 h6 h7 h8 h9 h10 h11 misKept mtaped g25 g26 g27 g28 g29 g18 mkept mwas mother mfound mwarm mdrip mtape mbits msize mnumber)) (w1 := (wz_X7 cI cS h0 h1 h2 h3 h4 h5 h6 h7 h8 h9 h10 h11 misKept mtaped g25 g26 g27 g28 g29 g30 mkept mwas mother mfound mwarm mdrip mtape mbits msize mnumber)) [0, 1, 2, 3, 4, 5, 6, 7, 8, 9, 10, 11] [] 12 rfl rfl (wz_X7 cI cS h0 h1 h2 h3 h4 h5 h6 h7 h8 h9 h10 h11 misKept mtaped g25 g26 g27 g28 g29 g30 mkept mwas mother mfound mwarm mdrip mtape mbits msize mnumber) rfl [] rfl rfl rfl (by decide +kernel) (ik_runV (st := []) (As := [.int (((6 : Int32) + ((3 : Int32) * r1)) + (1 : Int32)), .int r24]) C hM mv_X7_tells wl_42_1 ⟨rfl, rfl, Nat.le_of_ble_eq_true rfl, Nat.le_of_ble_eq_true rfl⟩ [0, 1, 2, 3, 4, 5, 6, 7, 8, 9, 10, 11] rfl (by decide +kernel) 0 rfl rfl rfl rfl (Nat.le_of_ble_eq_true rfl) dX7_candleItem_79 ⟨Nat.zero_le _, Nat.zero_le _⟩) rfl ?_
        refine ik_aload_n C 1 rfl rfl dX7_candleItem_82 ?_
        refine ik_bipush (v := (6 : Int32)) C (by decide) dX7_candleItem_83 ?_
        refine ik_iconst (v := (3 : Int32)) C (by decide) dX7_candleItem_85 ?_
        refine ik_iload_n C 0 rfl rfl dX7_candleItem_86 ?_
        refine ik_imul C dX7_candleItem_87 ?_
        refine ik_iadd C dX7_candleItem_88 ?_
        refine ik_iconst (v := (2 : Int32)) C (by decide) dX7_candleItem_89 ?_
        refine ik_iadd C dX7_candleItem_90 ?_
        refine ik_aload_n C 1 rfl rfl dX7_candleItem_91 ?_
        refine ik_ldcSw C (hZ.1 22 (by decide)).2.2.2.2 dX7_candleItem_92 ?_
        obtain ⟨r31, g32, g33, g34, g35, hc35, hf⟩ := ik_b5s hf
        have hM := (c_X7_takes l D cI cS aK aV ka 22 (by decide) h0 h1 h2 h3 h4 h5 h6 h7 h8 h9 h10 h11 misKept mtaped g25 g26 g27 g28 g29 g30 mkept mwas mother mfound mwarm mdrip mtape mbits msize mnumber r31 g32 g33 g34 g35 hc35)
        refine ik_goW (v := (some (.int r31))) (wc := (wz_X7 cI cS h0 h1 h2 h3 h4 h5 h6 h7 h8 h9 h10 h11 misKept mtaped g25 g26 g27 g28 g29 g30 mkept mwas mother mfound mwarm mdrip mtape mbits msize mnumber)) (w1 := (wz_X7 cI cS h0 h1 h2 h3 h4 h5 h6 h7 h8 h9 h10 h11 misKept mtaped g32 g33 g34 g35 g29 g30 mkept mwas mother mfound mwarm mdrip mtape mbits msize mnumber)) [0, 1, 2, 3, 4, 5, 6, 7, 8, 9, 10, 11] [] 12 rfl rfl (wz_X7 cI cS h0 h1 h2 h3 h4 h5 h6 h7 h8 h9 h10 h11 misKept mtaped g32 g33 g34 g35 g29 g30 mkept mwas mother mfound mwarm mdrip mtape mbits msize mnumber) rfl [] rfl rfl rfl (by decide +kernel) (ik_runVZ (st := [.int (((6 : Int32) + ((3 : Int32) * r1)) + (2 : Int32)), .ref h0]) (As := [.ref (aK 22)]) C hZ (fun _ h => h) ik_hBw hM mv_X7_takes wl_41_7 ⟨rfl, rfl, Nat.le_of_ble_eq_true rfl, Nat.le_of_ble_eq_true rfl⟩ [0, 1, 2, 3, 4, 5, 6, 7, 8, 9, 10, 11] rfl (by decide +kernel) 0 rfl rfl rfl rfl (Nat.le_of_ble_eq_true rfl) dX7_candleItem_95 ⟨Nat.zero_le _, Nat.zero_le _⟩) rfl ?_
        refine ik_if_eq C 105 dX7_candleItem_98 (by decide) (fun hc => ?_) (fun hc => ?_)
        · have hf := ik_pos hc hf
          refine ik_iconst (v := (0 : Int32)) C (by decide) dX7_candleItem_105 ?_
          obtain ⟨g36, hc36, hf⟩ := ik_b1s hf
          have hM := (c_X7_tells l D cI cS h0 h1 h2 h3 h4 h5 h6 h7 h8 h9 h10 h11 misKept mtaped g32 g33 g34 g35 g29 g30 mkept mwas mother mfound mwarm mdrip mtape mbits msize mnumber (((6 : Int32) + ((3 : Int32) * r1)) + (2 : Int32)) (0 : Int32) g36 hc36)
          refine ik_goW (v := none) (wc := (wz_X7 cI cS h0 h1 h2 h3 h4 h5 h6 h7 h8 h9 h10 h11 misKept mtaped g32 g33 g34 g35 g29 g30 mkept mwas mother mfound mwarm mdrip mtape mbits msize mnumber)) (w1 := (wz_X7 cI cS h0 h1 h2 h3 h4 h5 h6 h7 h8 h9 h10 h11 misKept mtaped g32 g33 g34 g35 g29 g36 mkept mwas mother mfound mwarm mdrip mtape mbits msize mnumber)) [0, 1, 2, 3, 4, 5, 6, 7, 8, 9, 10, 11] [] 12 rfl rfl (wz_X7 cI cS h0 h1 h2 h3 h4 h5 h6 h7 h8 h9 h10 h11 misKept mtaped g32 g33 g34 g35 g29 g36 mkept mwas mother mfound mwarm mdrip mtape mbits msize mnumber) rfl [] rfl rfl rfl (by decide +kernel) (ik_runV (st := []) (As := [.int (((6 : Int32) + ((3 : Int32) * r1)) + (2 : Int32)), .int (0 : Int32)]) C hM mv_X7_tells wl_42_1 ⟨rfl, rfl, Nat.le_of_ble_eq_true rfl, Nat.le_of_ble_eq_true rfl⟩ [0, 1, 2, 3, 4, 5, 6, 7, 8, 9, 10, 11] rfl (by decide +kernel) 0 rfl rfl rfl rfl (Nat.le_of_ble_eq_true rfl) dX7_candleItem_106 ⟨Nat.zero_le _, Nat.zero_le _⟩) rfl ?_
          obtain ⟨rfl, rfl, rfl, rfl, rfl, rfl⟩ := ik_e6 hf
          exact ik_vretW C hr hlk dX7_candleItem_109
        · have hf := ik_neg hc hf
          refine ik_iconst (v := (1 : Int32)) C (by decide) dX7_candleItem_101 ?_
          refine ik_goto C 106 dX7_candleItem_102 (by decide) ?_
          obtain ⟨g36, hc36, hf⟩ := ik_b1s hf
          have hM := (c_X7_tells l D cI cS h0 h1 h2 h3 h4 h5 h6 h7 h8 h9 h10 h11 misKept mtaped g32 g33 g34 g35 g29 g30 mkept mwas mother mfound mwarm mdrip mtape mbits msize mnumber (((6 : Int32) + ((3 : Int32) * r1)) + (2 : Int32)) (1 : Int32) g36 hc36)
          refine ik_goW (v := none) (wc := (wz_X7 cI cS h0 h1 h2 h3 h4 h5 h6 h7 h8 h9 h10 h11 misKept mtaped g32 g33 g34 g35 g29 g30 mkept mwas mother mfound mwarm mdrip mtape mbits msize mnumber)) (w1 := (wz_X7 cI cS h0 h1 h2 h3 h4 h5 h6 h7 h8 h9 h10 h11 misKept mtaped g32 g33 g34 g35 g29 g36 mkept mwas mother mfound mwarm mdrip mtape mbits msize mnumber)) [0, 1, 2, 3, 4, 5, 6, 7, 8, 9, 10, 11] [] 12 rfl rfl (wz_X7 cI cS h0 h1 h2 h3 h4 h5 h6 h7 h8 h9 h10 h11 misKept mtaped g32 g33 g34 g35 g29 g36 mkept mwas mother mfound mwarm mdrip mtape mbits msize mnumber) rfl [] rfl rfl rfl (by decide +kernel) (ik_runV (st := []) (As := [.int (((6 : Int32) + ((3 : Int32) * r1)) + (2 : Int32)), .int (1 : Int32)]) C hM mv_X7_tells wl_42_1 ⟨rfl, rfl, Nat.le_of_ble_eq_true rfl, Nat.le_of_ble_eq_true rfl⟩ [0, 1, 2, 3, 4, 5, 6, 7, 8, 9, 10, 11] rfl (by decide +kernel) 0 rfl rfl rfl rfl (Nat.le_of_ble_eq_true rfl) dX7_candleItem_106 ⟨Nat.zero_le _, Nat.zero_le _⟩) rfl ?_
          obtain ⟨rfl, rfl, rfl, rfl, rfl, rfl⟩ := ik_e6 hf
          exact ik_vretW C hr hlk dX7_candleItem_109
    · have hf := ik_pos hc hf
      refine ik_iconst (v := (1 : Int32)) C (by decide) dX7_candleItem_26 ?_
      refine ik_goto C 31 dX7_candleItem_27 (by decide) ?_
      refine ik_put C inlX7 tyX7 tyX7_ok nmX7 0 rfl rfl 14 (by decide) wl_40_15 rfl (by decide) (by decide) (by decide) (Nat.le_of_ble_eq_true rfl) (wz_X7 cI cS h0 h1 h2 h3 h4 h5 h6 h7 h8 h9 h10 h11 misKept mtaped g8 g9 g10 g11 (1 : Int32) mm mkept mwas mother mfound mwarm mdrip mtape mbits msize mnumber) rfl dX7_candleItem_31 ?_
      refine ik_aload_n C 1 rfl rfl dX7_candleItem_34 ?_
      refine ik_bipush (v := (6 : Int32)) C (by decide) dX7_candleItem_35 ?_
      refine ik_iconst (v := (3 : Int32)) C (by decide) dX7_candleItem_37 ?_
      refine ik_iload_n C 0 rfl rfl dX7_candleItem_38 ?_
      refine ik_imul C dX7_candleItem_39 ?_
      refine ik_iadd C dX7_candleItem_40 ?_
      refine ik_aload_n C 1 rfl rfl dX7_candleItem_41 ?_
      refine ik_iconst (v := (0 : Int32)) C (by decide) dX7_candleItem_42 ?_
      refine ik_bipush (v := (47 : Int32)) C (by decide) dX7_candleItem_43 ?_
      refine ik_iconst (v := (1 : Int32)) C (by decide) dX7_candleItem_45 ?_
      obtain ⟨r12, g13, g14, g15, g16, g17, hc17, hf⟩ := ik_b6s hf
      have hM := (c_X7_number l D cI cS h0 h1 h2 h3 h4 h5 h6 h7 h8 h9 h10 h11 misKept mtaped g8 g9 g10 g11 (1 : Int32) mm mkept mwas mother mfound mwarm mdrip mtape mbits msize mnumber (0 : Int32) (47 : Int32) (1 : Int32) r12 g13 g14 g15 g16 g17 hc17)
      refine ik_goW (v := (some (.int r12))) (wc := (wz_X7 cI cS h0 h1 h2 h3 h4 h5 h6 h7 h8 h9 h10 h11 misKept mtaped g8 g9 g10 g11 (1 : Int32) mm mkept mwas mother mfound mwarm mdrip mtape mbits msize mnumber)) (w1 := (wz_X7 cI cS h0 h1 h2 h3 h4 h5 h6 h7 h8 h9 h10 h11 misKept mtaped g13 g14 g15 g16 g17 mm mkept mwas mother mfound mwarm mdrip mtape mbits msize mnumber)) [0, 1, 2, 3, 4, 5, 6, 7, 8, 9, 10, 11] [] 12 rfl rfl (wz_X7 cI cS h0 h1 h2 h3 h4 h5 h6 h7 h8 h9 h10 h11 misKept mtaped g13 g14 g15 g16 g17 mm mkept mwas mother mfound mwarm mdrip mtape mbits msize mnumber) rfl [] rfl rfl rfl (by decide +kernel) (ik_runV (st := [.int ((6 : Int32) + ((3 : Int32) * r1)), .ref h0]) (As := [.int (0 : Int32), .int (47 : Int32), .int (1 : Int32)]) C hM mv_X7_number wl_41_21 ⟨rfl, rfl, Nat.le_of_ble_eq_true rfl, Nat.le_of_ble_eq_true rfl⟩ [0, 1, 2, 3, 4, 5, 6, 7, 8, 9, 10, 11] rfl (by decide +kernel) 0 rfl rfl rfl rfl (Nat.le_of_ble_eq_true rfl) dX7_candleItem_46 ⟨Nat.zero_le _, Nat.zero_le _⟩) rfl ?_
      obtain ⟨g18, hc18, hf⟩ := ik_b1s hf
      have hM := (c_X7_tells l D cI cS h0 h1 h2 h3 h4 h5 h6 h7 h8 h9 h10 h11 misKept mtaped g13 g14 g15 g16 g17 mm mkept mwas mother mfound mwarm mdrip mtape mbits msize mnumber ((6 : Int32) + ((3 : Int32) * r1)) r12 g18 hc18)
      refine ik_goW (v := none) (wc := (wz_X7 cI cS h0 h1 h2 h3 h4 h5 h6 h7 h8 h9 h10 h11 misKept mtaped g13 g14 g15 g16 g17 mm mkept mwas mother mfound mwarm mdrip mtape mbits msize mnumber)) (w1 := (wz_X7 cI cS h0 h1 h2 h3 h4 h5 h6 h7 h8 h9 h10 h11 misKept mtaped g13 g14 g15 g16 g17 g18 mkept mwas mother mfound mwarm mdrip mtape mbits msize mnumber)) [0, 1, 2, 3, 4, 5, 6, 7, 8, 9, 10, 11] [] 12 rfl rfl (wz_X7 cI cS h0 h1 h2 h3 h4 h5 h6 h7 h8 h9 h10 h11 misKept mtaped g13 g14 g15 g16 g17 g18 mkept mwas mother mfound mwarm mdrip mtape mbits msize mnumber) rfl [] rfl rfl rfl (by decide +kernel) (ik_runV (st := []) (As := [.int ((6 : Int32) + ((3 : Int32) * r1)), .int r12]) C hM mv_X7_tells wl_42_1 ⟨rfl, rfl, Nat.le_of_ble_eq_true rfl, Nat.le_of_ble_eq_true rfl⟩ [0, 1, 2, 3, 4, 5, 6, 7, 8, 9, 10, 11] rfl (by decide +kernel) 0 rfl rfl rfl rfl (Nat.le_of_ble_eq_true rfl) dX7_candleItem_49 ⟨Nat.zero_le _, Nat.zero_le _⟩) rfl ?_
      refine ik_aload_n C 1 rfl rfl dX7_candleItem_52 ?_
      refine ik_ldcSw C (hZ.1 21 (by decide)).2.2.2.2 dX7_candleItem_53 ?_
      obtain ⟨r19, g20, g21, g22, g23, hc23, hf⟩ := ik_b5s hf
      have hM := (c_X7_takes l D cI cS aK aV ka 21 (by decide) h0 h1 h2 h3 h4 h5 h6 h7 h8 h9 h10 h11 misKept mtaped g13 g14 g15 g16 g17 g18 mkept mwas mother mfound mwarm mdrip mtape mbits msize mnumber r19 g20 g21 g22 g23 hc23)
      refine ik_goW (v := (some (.int r19))) (wc := (wz_X7 cI cS h0 h1 h2 h3 h4 h5 h6 h7 h8 h9 h10 h11 misKept mtaped g13 g14 g15 g16 g17 g18 mkept mwas mother mfound mwarm mdrip mtape mbits msize mnumber)) (w1 := (wz_X7 cI cS h0 h1 h2 h3 h4 h5 h6 h7 h8 h9 h10 h11 misKept mtaped g20 g21 g22 g23 g17 g18 mkept mwas mother mfound mwarm mdrip mtape mbits msize mnumber)) [0, 1, 2, 3, 4, 5, 6, 7, 8, 9, 10, 11] [] 12 rfl rfl (wz_X7 cI cS h0 h1 h2 h3 h4 h5 h6 h7 h8 h9 h10 h11 misKept mtaped g20 g21 g22 g23 g17 g18 mkept mwas mother mfound mwarm mdrip mtape mbits msize mnumber) rfl [] rfl rfl rfl (by decide +kernel) (ik_runVZ (st := []) (As := [.ref (aK 21)]) C hZ (fun _ h => h) ik_hBw hM mv_X7_takes wl_41_7 ⟨rfl, rfl, Nat.le_of_ble_eq_true rfl, Nat.le_of_ble_eq_true rfl⟩ [0, 1, 2, 3, 4, 5, 6, 7, 8, 9, 10, 11] rfl (by decide +kernel) 0 rfl rfl rfl rfl (Nat.le_of_ble_eq_true rfl) dX7_candleItem_56 ⟨Nat.zero_le _, Nat.zero_le _⟩) rfl ?_
      refine ik_if_eq C 82 dX7_candleItem_59 (by decide) (fun hc => ?_) (fun hc => ?_)
      · have hf := ik_pos hc hf
        refine ik_aload_n C 1 rfl rfl dX7_candleItem_82 ?_
        refine ik_bipush (v := (6 : Int32)) C (by decide) dX7_candleItem_83 ?_
        refine ik_iconst (v := (3 : Int32)) C (by decide) dX7_candleItem_85 ?_
        refine ik_iload_n C 0 rfl rfl dX7_candleItem_86 ?_
        refine ik_imul C dX7_candleItem_87 ?_
        refine ik_iadd C dX7_candleItem_88 ?_
        refine ik_iconst (v := (2 : Int32)) C (by decide) dX7_candleItem_89 ?_
        refine ik_iadd C dX7_candleItem_90 ?_
        refine ik_aload_n C 1 rfl rfl dX7_candleItem_91 ?_
        refine ik_ldcSw C (hZ.1 22 (by decide)).2.2.2.2 dX7_candleItem_92 ?_
        obtain ⟨r24, g25, g26, g27, g28, hc28, hf⟩ := ik_b5s hf
        have hM := (c_X7_takes l D cI cS aK aV ka 22 (by decide) h0 h1 h2 h3 h4 h5 h6 h7 h8 h9 h10 h11 misKept mtaped g20 g21 g22 g23 g17 g18 mkept mwas mother mfound mwarm mdrip mtape mbits msize mnumber r24 g25 g26 g27 g28 hc28)
        refine ik_goW (v := (some (.int r24))) (wc := (wz_X7 cI cS h0 h1 h2 h3 h4 h5 h6 h7 h8 h9 h10 h11 misKept mtaped g20 g21 g22 g23 g17 g18 mkept mwas mother mfound mwarm mdrip mtape mbits msize mnumber)) (w1 := (wz_X7 cI cS h0 h1 h2 h3 h4 h5 h6 h7 h8 h9 h10 h11 misKept mtaped g25 g26 g27 g28 g17 g18 mkept mwas mother mfound mwarm mdrip mtape mbits msize mnumber)) [0, 1, 2, 3, 4, 5, 6, 7, 8, 9, 10, 11] [] 12 rfl rfl (wz_X7 cI cS h0 h1 h2 h3 h4 h5 h6 h7 h8 h9 h10 h11 misKept mtaped g25 g26 g27 g28 g17 g18 mkept mwas mother mfound mwarm mdrip mtape mbits msize mnumber) rfl [] rfl rfl rfl (by decide +kernel) (ik_runVZ (st := [.int (((6 : Int32) + ((3 : Int32) * r1)) + (2 : Int32)), .ref h0]) (As := [.ref (aK 22)]) C hZ (fun _ h => h) ik_hBw hM mv_X7_takes wl_41_7 ⟨rfl, rfl, Nat.le_of_ble_eq_true rfl, Nat.le_of_ble_eq_true rfl⟩ [0, 1, 2, 3, 4, 5, 6, 7, 8, 9, 10, 11] rfl (by decide +kernel) 0 rfl rfl rfl rfl (Nat.le_of_ble_eq_true rfl) dX7_candleItem_95 ⟨Nat.zero_le _, Nat.zero_le _⟩) rfl ?_
        refine ik_if_eq C 105 dX7_candleItem_98 (by decide) (fun hc => ?_) (fun hc => ?_)
        · have hf := ik_pos hc hf
          refine ik_iconst (v := (0 : Int32)) C (by decide) dX7_candleItem_105 ?_
          obtain ⟨g29, hc29, hf⟩ := ik_b1s hf
          have hM := (c_X7_tells l D cI cS h0 h1 h2 h3 h4 h5 h6 h7 h8 h9 h10 h11 misKept mtaped g25 g26 g27 g28 g17 g18 mkept mwas mother mfound mwarm mdrip mtape mbits msize mnumber (((6 : Int32) + ((3 : Int32) * r1)) + (2 : Int32)) (0 : Int32) g29 hc29)
          refine ik_goW (v := none) (wc := (wz_X7 cI cS h0 h1 h2 h3 h4 h5 h6 h7 h8 h9 h10 h11 misKept mtaped g25 g26 g27 g28 g17 g18 mkept mwas mother mfound mwarm mdrip mtape mbits msize mnumber)) (w1 := (wz_X7 cI cS h0 h1 h2 h3 h4 h5 h6 h7 h8 h9 h10 h11 misKept mtaped g25 g26 g27 g28 g17 g29 mkept mwas mother mfound mwarm mdrip mtape mbits msize mnumber)) [0, 1, 2, 3, 4, 5, 6, 7, 8, 9, 10, 11] [] 12 rfl rfl (wz_X7 cI cS h0 h1 h2 h3 h4 h5 h6 h7 h8 h9 h10 h11 misKept mtaped g25 g26 g27 g28 g17 g29 mkept mwas mother mfound mwarm mdrip mtape mbits msize mnumber) rfl [] rfl rfl rfl (by decide +kernel) (ik_runV (st := []) (As := [.int (((6 : Int32) + ((3 : Int32) * r1)) + (2 : Int32)), .int (0 : Int32)]) C hM mv_X7_tells wl_42_1 ⟨rfl, rfl, Nat.le_of_ble_eq_true rfl, Nat.le_of_ble_eq_true rfl⟩ [0, 1, 2, 3, 4, 5, 6, 7, 8, 9, 10, 11] rfl (by decide +kernel) 0 rfl rfl rfl rfl (Nat.le_of_ble_eq_true rfl) dX7_candleItem_106 ⟨Nat.zero_le _, Nat.zero_le _⟩) rfl ?_
          obtain ⟨rfl, rfl, rfl, rfl, rfl, rfl⟩ := ik_e6 hf
          exact ik_vretW C hr hlk dX7_candleItem_109
        · have hf := ik_neg hc hf
          refine ik_iconst (v := (1 : Int32)) C (by decide) dX7_candleItem_101 ?_
          refine ik_goto C 106 dX7_candleItem_102 (by decide) ?_
          obtain ⟨g29, hc29, hf⟩ := ik_b1s hf
          have hM := (c_X7_tells l D cI cS h0 h1 h2 h3 h4 h5 h6 h7 h8 h9 h10 h11 misKept mtaped g25 g26 g27 g28 g17 g18 mkept mwas mother mfound mwarm mdrip mtape mbits msize mnumber (((6 : Int32) + ((3 : Int32) * r1)) + (2 : Int32)) (1 : Int32) g29 hc29)
          refine ik_goW (v := none) (wc := (wz_X7 cI cS h0 h1 h2 h3 h4 h5 h6 h7 h8 h9 h10 h11 misKept mtaped g25 g26 g27 g28 g17 g18 mkept mwas mother mfound mwarm mdrip mtape mbits msize mnumber)) (w1 := (wz_X7 cI cS h0 h1 h2 h3 h4 h5 h6 h7 h8 h9 h10 h11 misKept mtaped g25 g26 g27 g28 g17 g29 mkept mwas mother mfound mwarm mdrip mtape mbits msize mnumber)) [0, 1, 2, 3, 4, 5, 6, 7, 8, 9, 10, 11] [] 12 rfl rfl (wz_X7 cI cS h0 h1 h2 h3 h4 h5 h6 h7 h8 h9 h10 h11 misKept mtaped g25 g26 g27 g28 g17 g29 mkept mwas mother mfound mwarm mdrip mtape mbits msize mnumber) rfl [] rfl rfl rfl (by decide +kernel) (ik_runV (st := []) (As := [.int (((6 : Int32) + ((3 : Int32) * r1)) + (2 : Int32)), .int (1 : Int32)]) C hM mv_X7_tells wl_42_1 ⟨rfl, rfl, Nat.le_of_ble_eq_true rfl, Nat.le_of_ble_eq_true rfl⟩ [0, 1, 2, 3, 4, 5, 6, 7, 8, 9, 10, 11] rfl (by decide +kernel) 0 rfl rfl rfl rfl (Nat.le_of_ble_eq_true rfl) dX7_candleItem_106 ⟨Nat.zero_le _, Nat.zero_le _⟩) rfl ?_
          obtain ⟨rfl, rfl, rfl, rfl, rfl, rfl⟩ := ik_e6 hf
          exact ik_vretW C hr hlk dX7_candleItem_109
      · have hf := ik_neg hc hf
        refine ik_aload_n C 1 rfl rfl dX7_candleItem_62 ?_
        refine ik_bipush (v := (6 : Int32)) C (by decide) dX7_candleItem_63 ?_
        refine ik_iconst (v := (3 : Int32)) C (by decide) dX7_candleItem_65 ?_
        refine ik_iload_n C 0 rfl rfl dX7_candleItem_66 ?_
        refine ik_imul C dX7_candleItem_67 ?_
        refine ik_iadd C dX7_candleItem_68 ?_
        refine ik_iconst (v := (1 : Int32)) C (by decide) dX7_candleItem_69 ?_
        refine ik_iadd C dX7_candleItem_70 ?_
        refine ik_aload_n C 1 rfl rfl dX7_candleItem_71 ?_
        refine ik_iconst (v := (0 : Int32)) C (by decide) dX7_candleItem_72 ?_
        refine ik_bipush (v := (30 : Int32)) C (by decide) dX7_candleItem_73 ?_
        refine ik_iconst (v := (1 : Int32)) C (by decide) dX7_candleItem_75 ?_
        obtain ⟨r24, g25, g26, g27, g28, g29, hc29, hf⟩ := ik_b6s hf
        have hM := (c_X7_number l D cI cS h0 h1 h2 h3 h4 h5 h6 h7 h8 h9 h10 h11 misKept mtaped g20 g21 g22 g23 g17 g18 mkept mwas mother mfound mwarm mdrip mtape mbits msize mnumber (0 : Int32) (30 : Int32) (1 : Int32) r24 g25 g26 g27 g28 g29 hc29)
        refine ik_goW (v := (some (.int r24))) (wc := (wz_X7 cI cS h0 h1 h2 h3 h4 h5 h6 h7 h8 h9 h10 h11 misKept mtaped g20 g21 g22 g23 g17 g18 mkept mwas mother mfound mwarm mdrip mtape mbits msize mnumber)) (w1 := (wz_X7 cI cS h0 h1 h2 h3 h4 h5 h6 h7 h8 h9 h10 h11 misKept mtaped g25 g26 g27 g28 g29 g18 mkept mwas mother mfound mwarm mdrip mtape mbits msize mnumber)) [0, 1, 2, 3, 4, 5, 6, 7, 8, 9, 10, 11] [] 12 rfl rfl (wz_X7 cI cS h0 h1 h2 h3 h4 h5 h6 h7 h8 h9 h10 h11 misKept mtaped g25 g26 g27 g28 g29 g18 mkept mwas mother mfound mwarm mdrip mtape mbits msize mnumber) rfl [] rfl rfl rfl (by decide +kernel) (ik_runV (st := [.int (((6 : Int32) + ((3 : Int32) * r1)) + (1 : Int32)), .ref h0]) (As := [.int (0 : Int32), .int (30 : Int32), .int (1 : Int32)]) C hM mv_X7_number wl_41_21 ⟨rfl, rfl, Nat.le_of_ble_eq_true rfl, Nat.le_of_ble_eq_true rfl⟩ [0, 1, 2, 3, 4, 5, 6, 7, 8, 9, 10, 11] rfl (by decide +kernel) 0 rfl rfl rfl rfl (Nat.le_of_ble_eq_true rfl) dX7_candleItem_76 ⟨Nat.zero_le _, Nat.zero_le _⟩) rfl ?_
        obtain ⟨g30, hc30, hf⟩ := ik_b1s hf
        have hM := (c_X7_tells l D cI cS h0 h1 h2 h3 h4 h5 h6 h7 h8 h9 h10 h11 misKept mtaped g25 g26 g27 g28 g29 g18 mkept mwas mother mfound mwarm mdrip mtape mbits msize mnumber (((6 : Int32) + ((3 : Int32) * r1)) + (1 : Int32)) r24 g30 hc30)
        refine ik_goW (v := none) (wc := (wz_X7 cI cS h0 h1 h2 h3 h4 h5 h6 h7 h8 h9 h10 h11 misKept mtaped g25 g26 g27 g28 g29 g18 mkept mwas mother mfound mwarm mdrip mtape mbits msize mnumber)) (w1 := (wz_X7 cI cS h0 h1 h2 h3 h4 h5 h6 h7 h8 h9 h10 h11 misKept mtaped g25 g26 g27 g28 g29 g30 mkept mwas mother mfound mwarm mdrip mtape mbits msize mnumber)) [0, 1, 2, 3, 4, 5, 6, 7, 8, 9, 10, 11] [] 12 rfl rfl (wz_X7 cI cS h0 h1 h2 h3 h4 h5 h6 h7 h8 h9 h10 h11 misKept mtaped g25 g26 g27 g28 g29 g30 mkept mwas mother mfound mwarm mdrip mtape mbits msize mnumber) rfl [] rfl rfl rfl (by decide +kernel) (ik_runV (st := []) (As := [.int (((6 : Int32) + ((3 : Int32) * r1)) + (1 : Int32)), .int r24]) C hM mv_X7_tells wl_42_1 ⟨rfl, rfl, Nat.le_of_ble_eq_true rfl, Nat.le_of_ble_eq_true rfl⟩ [0, 1, 2, 3, 4, 5, 6, 7, 8, 9, 10, 11] rfl (by decide +kernel) 0 rfl rfl rfl rfl (Nat.le_of_ble_eq_true rfl) dX7_candleItem_79 ⟨Nat.zero_le _, Nat.zero_le _⟩) rfl ?_
        refine ik_aload_n C 1 rfl rfl dX7_candleItem_82 ?_
        refine ik_bipush (v := (6 : Int32)) C (by decide) dX7_candleItem_83 ?_
        refine ik_iconst (v := (3 : Int32)) C (by decide) dX7_candleItem_85 ?_
        refine ik_iload_n C 0 rfl rfl dX7_candleItem_86 ?_
        refine ik_imul C dX7_candleItem_87 ?_
        refine ik_iadd C dX7_candleItem_88 ?_
        refine ik_iconst (v := (2 : Int32)) C (by decide) dX7_candleItem_89 ?_
        refine ik_iadd C dX7_candleItem_90 ?_
        refine ik_aload_n C 1 rfl rfl dX7_candleItem_91 ?_
        refine ik_ldcSw C (hZ.1 22 (by decide)).2.2.2.2 dX7_candleItem_92 ?_
        obtain ⟨r31, g32, g33, g34, g35, hc35, hf⟩ := ik_b5s hf
        have hM := (c_X7_takes l D cI cS aK aV ka 22 (by decide) h0 h1 h2 h3 h4 h5 h6 h7 h8 h9 h10 h11 misKept mtaped g25 g26 g27 g28 g29 g30 mkept mwas mother mfound mwarm mdrip mtape mbits msize mnumber r31 g32 g33 g34 g35 hc35)
        refine ik_goW (v := (some (.int r31))) (wc := (wz_X7 cI cS h0 h1 h2 h3 h4 h5 h6 h7 h8 h9 h10 h11 misKept mtaped g25 g26 g27 g28 g29 g30 mkept mwas mother mfound mwarm mdrip mtape mbits msize mnumber)) (w1 := (wz_X7 cI cS h0 h1 h2 h3 h4 h5 h6 h7 h8 h9 h10 h11 misKept mtaped g32 g33 g34 g35 g29 g30 mkept mwas mother mfound mwarm mdrip mtape mbits msize mnumber)) [0, 1, 2, 3, 4, 5, 6, 7, 8, 9, 10, 11] [] 12 rfl rfl (wz_X7 cI cS h0 h1 h2 h3 h4 h5 h6 h7 h8 h9 h10 h11 misKept mtaped g32 g33 g34 g35 g29 g30 mkept mwas mother mfound mwarm mdrip mtape mbits msize mnumber) rfl [] rfl rfl rfl (by decide +kernel) (ik_runVZ (st := [.int (((6 : Int32) + ((3 : Int32) * r1)) + (2 : Int32)), .ref h0]) (As := [.ref (aK 22)]) C hZ (fun _ h => h) ik_hBw hM mv_X7_takes wl_41_7 ⟨rfl, rfl, Nat.le_of_ble_eq_true rfl, Nat.le_of_ble_eq_true rfl⟩ [0, 1, 2, 3, 4, 5, 6, 7, 8, 9, 10, 11] rfl (by decide +kernel) 0 rfl rfl rfl rfl (Nat.le_of_ble_eq_true rfl) dX7_candleItem_95 ⟨Nat.zero_le _, Nat.zero_le _⟩) rfl ?_
        refine ik_if_eq C 105 dX7_candleItem_98 (by decide) (fun hc => ?_) (fun hc => ?_)
        · have hf := ik_pos hc hf
          refine ik_iconst (v := (0 : Int32)) C (by decide) dX7_candleItem_105 ?_
          obtain ⟨g36, hc36, hf⟩ := ik_b1s hf
          have hM := (c_X7_tells l D cI cS h0 h1 h2 h3 h4 h5 h6 h7 h8 h9 h10 h11 misKept mtaped g32 g33 g34 g35 g29 g30 mkept mwas mother mfound mwarm mdrip mtape mbits msize mnumber (((6 : Int32) + ((3 : Int32) * r1)) + (2 : Int32)) (0 : Int32) g36 hc36)
          refine ik_goW (v := none) (wc := (wz_X7 cI cS h0 h1 h2 h3 h4 h5 h6 h7 h8 h9 h10 h11 misKept mtaped g32 g33 g34 g35 g29 g30 mkept mwas mother mfound mwarm mdrip mtape mbits msize mnumber)) (w1 := (wz_X7 cI cS h0 h1 h2 h3 h4 h5 h6 h7 h8 h9 h10 h11 misKept mtaped g32 g33 g34 g35 g29 g36 mkept mwas mother mfound mwarm mdrip mtape mbits msize mnumber)) [0, 1, 2, 3, 4, 5, 6, 7, 8, 9, 10, 11] [] 12 rfl rfl (wz_X7 cI cS h0 h1 h2 h3 h4 h5 h6 h7 h8 h9 h10 h11 misKept mtaped g32 g33 g34 g35 g29 g36 mkept mwas mother mfound mwarm mdrip mtape mbits msize mnumber) rfl [] rfl rfl rfl (by decide +kernel) (ik_runV (st := []) (As := [.int (((6 : Int32) + ((3 : Int32) * r1)) + (2 : Int32)), .int (0 : Int32)]) C hM mv_X7_tells wl_42_1 ⟨rfl, rfl, Nat.le_of_ble_eq_true rfl, Nat.le_of_ble_eq_true rfl⟩ [0, 1, 2, 3, 4, 5, 6, 7, 8, 9, 10, 11] rfl (by decide +kernel) 0 rfl rfl rfl rfl (Nat.le_of_ble_eq_true rfl) dX7_candleItem_106 ⟨Nat.zero_le _, Nat.zero_le _⟩) rfl ?_
          obtain ⟨rfl, rfl, rfl, rfl, rfl, rfl⟩ := ik_e6 hf
          exact ik_vretW C hr hlk dX7_candleItem_109
        · have hf := ik_neg hc hf
          refine ik_iconst (v := (1 : Int32)) C (by decide) dX7_candleItem_101 ?_
          refine ik_goto C 106 dX7_candleItem_102 (by decide) ?_
          obtain ⟨g36, hc36, hf⟩ := ik_b1s hf
          have hM := (c_X7_tells l D cI cS h0 h1 h2 h3 h4 h5 h6 h7 h8 h9 h10 h11 misKept mtaped g32 g33 g34 g35 g29 g30 mkept mwas mother mfound mwarm mdrip mtape mbits msize mnumber (((6 : Int32) + ((3 : Int32) * r1)) + (2 : Int32)) (1 : Int32) g36 hc36)
          refine ik_goW (v := none) (wc := (wz_X7 cI cS h0 h1 h2 h3 h4 h5 h6 h7 h8 h9 h10 h11 misKept mtaped g32 g33 g34 g35 g29 g30 mkept mwas mother mfound mwarm mdrip mtape mbits msize mnumber)) (w1 := (wz_X7 cI cS h0 h1 h2 h3 h4 h5 h6 h7 h8 h9 h10 h11 misKept mtaped g32 g33 g34 g35 g29 g36 mkept mwas mother mfound mwarm mdrip mtape mbits msize mnumber)) [0, 1, 2, 3, 4, 5, 6, 7, 8, 9, 10, 11] [] 12 rfl rfl (wz_X7 cI cS h0 h1 h2 h3 h4 h5 h6 h7 h8 h9 h10 h11 misKept mtaped g32 g33 g34 g35 g29 g36 mkept mwas mother mfound mwarm mdrip mtape mbits msize mnumber) rfl [] rfl rfl rfl (by decide +kernel) (ik_runV (st := []) (As := [.int (((6 : Int32) + ((3 : Int32) * r1)) + (2 : Int32)), .int (1 : Int32)]) C hM mv_X7_tells wl_42_1 ⟨rfl, rfl, Nat.le_of_ble_eq_true rfl, Nat.le_of_ble_eq_true rfl⟩ [0, 1, 2, 3, 4, 5, 6, 7, 8, 9, 10, 11] rfl (by decide +kernel) 0 rfl rfl rfl rfl (Nat.le_of_ble_eq_true rfl) dX7_candleItem_106 ⟨Nat.zero_le _, Nat.zero_le _⟩) rfl ?_
          obtain ⟨rfl, rfl, rfl, rfl, rfl, rfl⟩ := ik_e6 hf
          exact ik_vretW C hr hlk dX7_candleItem_109
