theorem mv_X7_freezes : ik_V yX7_freezes RX7 cX7_freezes 6 none 1 := ⟨wl_21_3, wl_21_4, wl_1_5, wl_21_5, by decide +kernel⟩
set_option maxHeartbeats 4000000 in
set_option maxRecDepth 100000 in
theorem c_X7_freezes (l : Launch) (D : va_G) (cI cS : ClassId) (h0 h1 h2 h3 h4 h5 h6 h7 h8 h9 h10 h11 : Nat) (misKept : Int32) (mtaped : Int32) (msort : Int32) (mfrom : Int32) (mto : Int32) (mvalue : Int32) (mbad : Int32) (mm : Nat → Int32) (mkept : Nat → Int32) (mwas : Nat → Int32) (mother : Nat → Int32) (mfound : Nat → Int32) (mwarm : Nat → Int32) (mdrip : Nat → Int32) (mtape : Nat → Int32) (mbits : Nat → Int32) (msize : Nat → Int32) (mnumber : Nat → Int32) (x1 : Int32) (mm_r : Nat → Int32) (hf : f_X7_freezes mm mwarm mdrip x1 = some (mm_r)) : Met l yX7_freezes (ik_ws yX7_freezes cX7_freezes 6 none) ({ frames := 2, cells := 0, slots := 0, locals := 43 } : Room) (ik_P D cI cS [.ref h0, .int x1] (wz_X7 cI cS h0 h1 h2 h3 h4 h5 h6 h7 h8 h9 h10 h11 misKept mtaped msort mfrom mto mvalue mbad mm mkept mwas mother mfound mwarm mdrip mtape mbits msize mnumber)) (ik_Q none D (wz_X7 cI cS h0 h1 h2 h3 h4 h5 h6 h7 h8 h9 h10 h11 misKept mtaped msort mfrom mto mvalue mbad mm_r mkept mwas mother mfound mwarm mdrip mtape mbits msize mnumber) (wz_X7 cI cS h0 h1 h2 h3 h4 h5 h6 h7 h8 h9 h10 h11 misKept mtaped msort mfrom mto mvalue mbad mm mkept mwas mother mfound mwarm mdrip mtape mbits msize mnumber)) 0 0 (ik_in (wz_X7 cI cS h0 h1 h2 h3 h4 h5 h6 h7 h8 h9 h10 h11 misKept mtaped msort mfrom mto mvalue mbad mm mkept mwas mother mfound mwarm mdrip mtape mbits msize mnumber)) := by
  refine ik_metW RX7 rfl (by decide) (Nat.le_of_ble_eq_true rfl) [(0, .ref h0), (1, .int x1)] rfl ?_
  intro p e s m below meth c C hr hlk
  unfold f_X7_freezes at hf
  refine ik_iconst (v := (-1 : Int32)) C (by decide) dX7_freezes_0 ?_
  refine ik_istore_n C [(2, .int (-1 : Int32)), (0, .ref h0), (1, .int x1)] rfl (by decide) rfl dX7_freezes_1 ?_
  refine ik_bipush (v := (40 : Int32)) C (by decide) dX7_freezes_2 ?_
  refine ik_iload_n C 2 rfl rfl dX7_freezes_4 ?_
  refine ik_iadd C dX7_freezes_5 ?_
  refine ik_istore_n C [(3, .int ((40 : Int32) + x1)), (2, .int (-1 : Int32)), (0, .ref h0), (1, .int x1)] rfl (by decide) rfl dX7_freezes_6 ?_
  have hL_7 : ∀ (n_7 : Nat) (x2_7 : Int32) (x3_7 : Int32), ik_lp2 (b_X7_freezes_7 mm mwarm mdrip x1) n_7 x2_7 x3_7 = some (mm_r) → ik_G p l e ({ frames := 2, cells := 0, slots := 0, locals := 43 } : Room) s m ([.ref h0, .int x1] : List Value).toArray below meth c D (ik_in (wz_X7 cI cS h0 h1 h2 h3 h4 h5 h6 h7 h8 h9 h10 h11 misKept mtaped msort mfrom mto mvalue mbad mm mkept mwas mother mfound mwarm mdrip mtape mbits msize mnumber)) (ik_in (wz_X7 cI cS h0 h1 h2 h3 h4 h5 h6 h7 h8 h9 h10 h11 misKept mtaped msort mfrom mto mvalue mbad mm mkept mwas mother mfound mwarm mdrip mtape mbits msize mnumber)) 6 0 0 (MQ below (ik_Q none D (wz_X7 cI cS h0 h1 h2 h3 h4 h5 h6 h7 h8 h9 h10 h11 misKept mtaped msort mfrom mto mvalue mbad mm_r mkept mwas mother mfound mwarm mdrip mtape mbits msize mnumber) (wz_X7 cI cS h0 h1 h2 h3 h4 h5 h6 h7 h8 h9 h10 h11 misKept mtaped msort mfrom mto mvalue mbad mm mkept mwas mother mfound mwarm mdrip mtape mbits msize mnumber)) ([.ref h0, .int x1] : List Value).toArray s 0 0 (ik_in (wz_X7 cI cS h0 h1 h2 h3 h4 h5 h6 h7 h8 h9 h10 h11 misKept mtaped msort mfrom mto mvalue mbad mm mkept mwas mother mfound mwarm mdrip mtape mbits msize mnumber))) 7 [(3, .int x3_7), (2, .int x2_7), (0, .ref h0), (1, .int x1)] [] (wz_X7 cI cS h0 h1 h2 h3 h4 h5 h6 h7 h8 h9 h10 h11 misKept mtaped msort mfrom mto mvalue mbad mm mkept mwas mother mfound mwarm mdrip mtape mbits msize mnumber) := by
    intro n_7
    induction n_7 with
    | zero => intro _ _ hf; exact nomatch hf
    | succ n_7 ih_7 =>
      intro x2_7 x3_7 hf
      replace hf : b_X7_freezes_7 mm mwarm mdrip x1 (ik_lp2 (b_X7_freezes_7 mm mwarm mdrip x1) n_7) x2_7 x3_7 = some (mm_r) := hf
      unfold b_X7_freezes_7 at hf
      refine ik_iload_n C 0 rfl rfl dX7_freezes_7 ?_
      refine ik_if_lt C 46 dX7_freezes_8 (by decide) (fun hc => ?_) (fun hc => ?_)
      · have hf := ik_pos hc hf
        refine ik_aload_n C 2 rfl rfl dX7_freezes_46 ?_
        refine ik_get C inlX7 0 rfl rfl 7 (by decide) wl_4_18 rfl (v := .ref h7) rfl dX7_freezes_47 ?_
        refine ik_iload_n C 3 rfl rfl dX7_freezes_50 ?_
        have hg := ik_gdi hf
        have hf := ik_gdk hf
        refine ik_iald C 7 rfl hg dX7_freezes_51 ?_
        refine ik_istore_n C [(3, .int (mdrip (x1).toNatClampNeg)), (2, .int x2_7), (0, .ref h0), (1, .int x1)] rfl (by decide) rfl dX7_freezes_52 ?_
        refine ik_iload_n C 1 rfl rfl dX7_freezes_53 ?_
        refine ik_if_lt C 99 dX7_freezes_54 (by decide) (fun hc => ?_) (fun hc => ?_)
        · have hf := ik_pos hc hf
          refine ik_aload_n C 2 rfl rfl dX7_freezes_99 ?_
          refine ik_get C inlX7 0 rfl rfl 0 (by decide) wl_4_12 rfl (v := .ref h1) rfl dX7_freezes_100 ?_
          refine ik_iconst (v := (2 : Int32)) C (by decide) dX7_freezes_103 ?_
          refine ik_dup2 C rfl rfl dX7_freezes_104 ?_
          refine ik_iald C 1 rfl (ik_vin (by decide)) dX7_freezes_105 ?_
          refine ik_iload_n C 0 rfl rfl dX7_freezes_106 ?_
          refine ik_iadd C dX7_freezes_107 ?_
          refine ik_iast C 1 rfl (ik_vin (by decide)) (wz_X7 cI cS h0 h1 h2 h3 h4 h5 h6 h7 h8 h9 h10 h11 misKept mtaped msort mfrom mto mvalue mbad (upd mm ((2 : Int32)).toNatClampNeg ((mm ((2 : Int32)).toNatClampNeg) + (mdrip (x1).toNatClampNeg))) mkept mwas mother mfound mwarm mdrip mtape mbits msize mnumber) rfl dX7_freezes_108 ?_
          obtain rfl := Option.some.inj hf
          exact ik_vretW C hr hlk dX7_freezes_109
        · have hf := ik_neg hc hf
          refine ik_bipush (v := (99 : Int32)) C (by decide) dX7_freezes_57 ?_
          refine ik_aload_n C 2 rfl rfl dX7_freezes_59 ?_
          refine ik_iload_n C 1 rfl rfl dX7_freezes_60 ?_
          obtain ⟨r1, hc1, hf⟩ := ik_b1s hf
          have hM := (c_X7_grains l D cI cS h0 h1 h2 h3 h4 h5 h6 h7 h8 h9 h10 h11 misKept mtaped msort mfrom mto mvalue mbad mm mkept mwas mother mfound mwarm mdrip mtape mbits msize mnumber x2_7 r1 hc1)
          refine ik_goR (ik_runV (st := [.int (99 : Int32)]) (As := [.int x2_7]) C hM mv_X7_grains wl_10_1 ⟨rfl, rfl, Nat.le_of_ble_eq_true rfl, Nat.le_of_ble_eq_true rfl⟩ [0, 1, 2, 3, 4, 5, 6, 7, 8, 9, 10, 11] rfl (by decide +kernel) 0 rfl rfl rfl rfl (Nat.le_of_ble_eq_true rfl) dX7_freezes_61 ⟨Nat.zero_le _, Nat.zero_le _⟩) rfl ?_
          refine ik_isub C dX7_freezes_64 ?_
          refine ik_istore C [(4, .int ((99 : Int32) - r1)), (3, .int (mdrip (x1).toNatClampNeg)), (2, .int x2_7), (0, .ref h0), (1, .int x1)] (by decide) rfl dX7_freezes_65 ?_
          refine ik_iload_n C 1 rfl rfl dX7_freezes_67 ?_
          refine ik_iload C 0 rfl dX7_freezes_68 ?_
          refine ik_icmp_ge C 77 dX7_freezes_70 (by decide) (fun hc => ?_) (fun hc => ?_)
          · have hf := ik_pos hc hf
            refine ik_iload C 0 rfl dX7_freezes_77 ?_
            refine ik_istore C [(5, .int ((99 : Int32) - r1)), (4, .int ((99 : Int32) - r1)), (3, .int (mdrip (x1).toNatClampNeg)), (2, .int x2_7), (0, .ref h0), (1, .int x1)] (by decide) rfl dX7_freezes_79 ?_
            refine ik_aload_n C 4 rfl rfl dX7_freezes_81 ?_
            refine ik_iload_n C 3 rfl rfl dX7_freezes_82 ?_
            refine ik_aload_n C 4 rfl rfl dX7_freezes_83 ?_
            refine ik_iload_n C 3 rfl rfl dX7_freezes_84 ?_
            obtain ⟨r2, hc2, hf⟩ := ik_b1s hf
            have hM := (c_X7_grains l D cI cS h0 h1 h2 h3 h4 h5 h6 h7 h8 h9 h10 h11 misKept mtaped msort mfrom mto mvalue mbad mm mkept mwas mother mfound mwarm mdrip mtape mbits msize mnumber x2_7 r2 hc2)
            refine ik_goR (ik_runV (st := [.int x2_7, .ref h0]) (As := [.int x2_7]) C hM mv_X7_grains wl_10_1 ⟨rfl, rfl, Nat.le_of_ble_eq_true rfl, Nat.le_of_ble_eq_true rfl⟩ [0, 1, 2, 3, 4, 5, 6, 7, 8, 9, 10, 11] rfl (by decide +kernel) 0 rfl rfl rfl rfl (Nat.le_of_ble_eq_true rfl) dX7_freezes_85 ⟨Nat.zero_le _, Nat.zero_le _⟩) rfl ?_
            refine ik_iload C 0 rfl dX7_freezes_88 ?_
            refine ik_iadd C dX7_freezes_90 ?_
            obtain ⟨g3, hc3, hf⟩ := ik_b1s hf
            have hM := (c_X7_makes l D cI cS h0 h1 h2 h3 h4 h5 h6 h7 h8 h9 h10 h11 misKept mtaped msort mfrom mto mvalue mbad mm mkept mwas mother mfound mwarm mdrip mtape mbits msize mnumber x2_7 (r2 + ((99 : Int32) - r1)) g3 hc3)
            refine ik_goW (v := none) (wc := (wz_X7 cI cS h0 h1 h2 h3 h4 h5 h6 h7 h8 h9 h10 h11 misKept mtaped msort mfrom mto mvalue mbad mm mkept mwas mother mfound mwarm mdrip mtape mbits msize mnumber)) (w1 := (wz_X7 cI cS h0 h1 h2 h3 h4 h5 h6 h7 h8 h9 h10 h11 misKept mtaped msort mfrom mto mvalue mbad g3 mkept mwas mother mfound mwarm mdrip mtape mbits msize mnumber)) [0, 1, 2, 3, 4, 5, 6, 7, 8, 9, 10, 11] [] 12 rfl rfl (wz_X7 cI cS h0 h1 h2 h3 h4 h5 h6 h7 h8 h9 h10 h11 misKept mtaped msort mfrom mto mvalue mbad g3 mkept mwas mother mfound mwarm mdrip mtape mbits msize mnumber) rfl [] rfl rfl rfl (by decide +kernel) (ik_runV (st := []) (As := [.int x2_7, .int (r2 + ((99 : Int32) - r1))]) C hM mv_X7_makes wl_14_23 ⟨rfl, rfl, Nat.le_of_ble_eq_true rfl, Nat.le_of_ble_eq_true rfl⟩ [0, 1, 2, 3, 4, 5, 6, 7, 8, 9, 10, 11] rfl (by decide +kernel) 0 rfl rfl rfl rfl (Nat.le_of_ble_eq_true rfl) dX7_freezes_91 ⟨Nat.zero_le _, Nat.zero_le _⟩) rfl ?_
            refine ik_iload_n C 2 rfl rfl dX7_freezes_94 ?_
            refine ik_iload C 0 rfl dX7_freezes_95 ?_
            refine ik_isub C dX7_freezes_97 ?_
            refine ik_istore_n C [(3, .int ((mdrip (x1).toNatClampNeg) - ((99 : Int32) - r1))), (5, .int ((99 : Int32) - r1)), (4, .int ((99 : Int32) - r1)), (2, .int x2_7), (0, .ref h0), (1, .int x1)] rfl (by decide) rfl dX7_freezes_98 ?_
            refine ik_aload_n C 4 rfl rfl dX7_freezes_99 ?_
            refine ik_get C inlX7 0 rfl rfl 0 (by decide) wl_4_12 rfl (v := .ref h1) rfl dX7_freezes_100 ?_
            refine ik_iconst (v := (2 : Int32)) C (by decide) dX7_freezes_103 ?_
            refine ik_dup2 C rfl rfl dX7_freezes_104 ?_
            refine ik_iald C 1 rfl (ik_vin (by decide)) dX7_freezes_105 ?_
            refine ik_iload_n C 0 rfl rfl dX7_freezes_106 ?_
            refine ik_iadd C dX7_freezes_107 ?_
            refine ik_iast C 1 rfl (ik_vin (by decide)) (wz_X7 cI cS h0 h1 h2 h3 h4 h5 h6 h7 h8 h9 h10 h11 misKept mtaped msort mfrom mto mvalue mbad (upd g3 ((2 : Int32)).toNatClampNeg ((g3 ((2 : Int32)).toNatClampNeg) + ((mdrip (x1).toNatClampNeg) - ((99 : Int32) - r1)))) mkept mwas mother mfound mwarm mdrip mtape mbits msize mnumber) rfl dX7_freezes_108 ?_
            obtain rfl := Option.some.inj hf
            exact ik_vretW C hr hlk dX7_freezes_109
          · have hf := ik_neg hc hf
            refine ik_iload_n C 1 rfl rfl dX7_freezes_73 ?_
            refine ik_goto C 79 dX7_freezes_74 (by decide) ?_
            refine ik_istore C [(5, .int (mdrip (x1).toNatClampNeg)), (4, .int ((99 : Int32) - r1)), (3, .int (mdrip (x1).toNatClampNeg)), (2, .int x2_7), (0, .ref h0), (1, .int x1)] (by decide) rfl dX7_freezes_79 ?_
            refine ik_aload_n C 4 rfl rfl dX7_freezes_81 ?_
            refine ik_iload_n C 3 rfl rfl dX7_freezes_82 ?_
            refine ik_aload_n C 4 rfl rfl dX7_freezes_83 ?_
            refine ik_iload_n C 3 rfl rfl dX7_freezes_84 ?_
            obtain ⟨r2, hc2, hf⟩ := ik_b1s hf
            have hM := (c_X7_grains l D cI cS h0 h1 h2 h3 h4 h5 h6 h7 h8 h9 h10 h11 misKept mtaped msort mfrom mto mvalue mbad mm mkept mwas mother mfound mwarm mdrip mtape mbits msize mnumber x2_7 r2 hc2)
            refine ik_goR (ik_runV (st := [.int x2_7, .ref h0]) (As := [.int x2_7]) C hM mv_X7_grains wl_10_1 ⟨rfl, rfl, Nat.le_of_ble_eq_true rfl, Nat.le_of_ble_eq_true rfl⟩ [0, 1, 2, 3, 4, 5, 6, 7, 8, 9, 10, 11] rfl (by decide +kernel) 0 rfl rfl rfl rfl (Nat.le_of_ble_eq_true rfl) dX7_freezes_85 ⟨Nat.zero_le _, Nat.zero_le _⟩) rfl ?_
            refine ik_iload C 0 rfl dX7_freezes_88 ?_
            refine ik_iadd C dX7_freezes_90 ?_
            obtain ⟨g3, hc3, hf⟩ := ik_b1s hf
            have hM := (c_X7_makes l D cI cS h0 h1 h2 h3 h4 h5 h6 h7 h8 h9 h10 h11 misKept mtaped msort mfrom mto mvalue mbad mm mkept mwas mother mfound mwarm mdrip mtape mbits msize mnumber x2_7 (r2 + (mdrip (x1).toNatClampNeg)) g3 hc3)
            refine ik_goW (v := none) (wc := (wz_X7 cI cS h0 h1 h2 h3 h4 h5 h6 h7 h8 h9 h10 h11 misKept mtaped msort mfrom mto mvalue mbad mm mkept mwas mother mfound mwarm mdrip mtape mbits msize mnumber)) (w1 := (wz_X7 cI cS h0 h1 h2 h3 h4 h5 h6 h7 h8 h9 h10 h11 misKept mtaped msort mfrom mto mvalue mbad g3 mkept mwas mother mfound mwarm mdrip mtape mbits msize mnumber)) [0, 1, 2, 3, 4, 5, 6, 7, 8, 9, 10, 11] [] 12 rfl rfl (wz_X7 cI cS h0 h1 h2 h3 h4 h5 h6 h7 h8 h9 h10 h11 misKept mtaped msort mfrom mto mvalue mbad g3 mkept mwas mother mfound mwarm mdrip mtape mbits msize mnumber) rfl [] rfl rfl rfl (by decide +kernel) (ik_runV (st := []) (As := [.int x2_7, .int (r2 + (mdrip (x1).toNatClampNeg))]) C hM mv_X7_makes wl_14_23 ⟨rfl, rfl, Nat.le_of_ble_eq_true rfl, Nat.le_of_ble_eq_true rfl⟩ [0, 1, 2, 3, 4, 5, 6, 7, 8, 9, 10, 11] rfl (by decide +kernel) 0 rfl rfl rfl rfl (Nat.le_of_ble_eq_true rfl) dX7_freezes_91 ⟨Nat.zero_le _, Nat.zero_le _⟩) rfl ?_
            refine ik_iload_n C 2 rfl rfl dX7_freezes_94 ?_
            refine ik_iload C 0 rfl dX7_freezes_95 ?_
            refine ik_isub C dX7_freezes_97 ?_
            refine ik_istore_n C [(3, .int ((mdrip (x1).toNatClampNeg) - (mdrip (x1).toNatClampNeg))), (5, .int (mdrip (x1).toNatClampNeg)), (4, .int ((99 : Int32) - r1)), (2, .int x2_7), (0, .ref h0), (1, .int x1)] rfl (by decide) rfl dX7_freezes_98 ?_
            refine ik_aload_n C 4 rfl rfl dX7_freezes_99 ?_
            refine ik_get C inlX7 0 rfl rfl 0 (by decide) wl_4_12 rfl (v := .ref h1) rfl dX7_freezes_100 ?_
            refine ik_iconst (v := (2 : Int32)) C (by decide) dX7_freezes_103 ?_
            refine ik_dup2 C rfl rfl dX7_freezes_104 ?_
            refine ik_iald C 1 rfl (ik_vin (by decide)) dX7_freezes_105 ?_
            refine ik_iload_n C 0 rfl rfl dX7_freezes_106 ?_
            refine ik_iadd C dX7_freezes_107 ?_
            refine ik_iast C 1 rfl (ik_vin (by decide)) (wz_X7 cI cS h0 h1 h2 h3 h4 h5 h6 h7 h8 h9 h10 h11 misKept mtaped msort mfrom mto mvalue mbad (upd g3 ((2 : Int32)).toNatClampNeg ((g3 ((2 : Int32)).toNatClampNeg) + ((mdrip (x1).toNatClampNeg) - (mdrip (x1).toNatClampNeg)))) mkept mwas mother mfound mwarm mdrip mtape mbits msize mnumber) rfl dX7_freezes_108 ?_
            obtain rfl := Option.some.inj hf
            exact ik_vretW C hr hlk dX7_freezes_109
      · have hf := ik_neg hc hf
        refine ik_aload_n C 2 rfl rfl dX7_freezes_11 ?_
        refine ik_iload_n C 0 rfl rfl dX7_freezes_12 ?_
        obtain ⟨r1, hc1, hf⟩ := ik_b1s hf
        have hM := (c_X7_blockOn l D cI cS h0 h1 h2 h3 h4 h5 h6 h7 h8 h9 h10 h11 misKept mtaped msort mfrom mto mvalue mbad mm mkept mwas mother mfound mwarm mdrip mtape mbits msize mnumber x3_7 r1 hc1)
        refine ik_goR (ik_runV (st := []) (As := [.int x3_7]) C hM mv_X7_blockOn wl_7_12 ⟨rfl, rfl, Nat.le_of_ble_eq_true rfl, Nat.le_of_ble_eq_true rfl⟩ [0, 1, 2, 3, 4, 5, 6, 7, 8, 9, 10, 11] rfl (by decide +kernel) 0 rfl rfl rfl rfl (Nat.le_of_ble_eq_true rfl) dX7_freezes_13 ⟨Nat.zero_le _, Nat.zero_le _⟩) rfl ?_
        refine ik_istore C [(4, .int r1), (3, .int x3_7), (2, .int x2_7), (0, .ref h0), (1, .int x1)] (by decide) rfl dX7_freezes_16 ?_
        refine ik_iload C 0 rfl dX7_freezes_18 ?_
        refine ik_if_lt C 38 dX7_freezes_20 (by decide) (fun hc => ?_) (fun hc => ?_)
        · have hf := ik_pos hc hf
          refine ik_iload_n C 2 rfl rfl dX7_freezes_38 ?_
          refine ik_istore_n C [(2, .int x2_7), (4, .int r1), (3, .int x3_7), (0, .ref h0), (1, .int x1)] rfl (by decide) rfl dX7_freezes_39 ?_
          refine ik_iinc C [(3, .int (x3_7 + (-8 : Int32))), (2, .int x2_7), (4, .int r1), (0, .ref h0), (1, .int x1)] 2 rfl (congrArg (fun t => x3_7 + t) (show Int32.ofInt (-8) = (-8 : Int32) by decide)) (by decide) rfl dX7_freezes_40 ?_
          refine ik_goto C 7 dX7_freezes_43 (by decide) ?_
          exact ik_sub [0, 1, 3, 4] [(3, .int (x3_7 + (-8 : Int32))), (2, .int x2_7), (0, .ref h0), (1, .int x1)] rfl (ih_7 x2_7 (x3_7 + (-8 : Int32)) hf)
        · have hf := ik_neg hc hf
          refine ik_aload_n C 3 rfl rfl dX7_freezes_23 ?_
          refine ik_get C inlX7 0 rfl rfl 6 (by decide) wl_4_17 rfl (v := .ref h6) rfl dX7_freezes_24 ?_
          refine ik_iload C 0 rfl dX7_freezes_27 ?_
          have hg := ik_gdi hf
          have hf := ik_gdk hf
          refine ik_iald C 6 rfl hg dX7_freezes_29 ?_
          refine ik_if_ge C 38 dX7_freezes_30 (by decide) (fun hc => ?_) (fun hc => ?_)
          · have hf := ik_pos hc hf
            refine ik_iload_n C 2 rfl rfl dX7_freezes_38 ?_
            refine ik_istore_n C [(2, .int x2_7), (4, .int r1), (3, .int x3_7), (0, .ref h0), (1, .int x1)] rfl (by decide) rfl dX7_freezes_39 ?_
            refine ik_iinc C [(3, .int (x3_7 + (-8 : Int32))), (2, .int x2_7), (4, .int r1), (0, .ref h0), (1, .int x1)] 2 rfl (congrArg (fun t => x3_7 + t) (show Int32.ofInt (-8) = (-8 : Int32) by decide)) (by decide) rfl dX7_freezes_40 ?_
            refine ik_goto C 7 dX7_freezes_43 (by decide) ?_
            exact ik_sub [0, 1, 3, 4] [(3, .int (x3_7 + (-8 : Int32))), (2, .int x2_7), (0, .ref h0), (1, .int x1)] rfl (ih_7 x2_7 (x3_7 + (-8 : Int32)) hf)
          · have hf := ik_neg hc hf
            refine ik_iload C 0 rfl dX7_freezes_33 ?_
            refine ik_goto C 39 dX7_freezes_35 (by decide) ?_
            refine ik_istore_n C [(2, .int r1), (4, .int r1), (3, .int x3_7), (0, .ref h0), (1, .int x1)] rfl (by decide) rfl dX7_freezes_39 ?_
            refine ik_iinc C [(3, .int (x3_7 + (-8 : Int32))), (2, .int r1), (4, .int r1), (0, .ref h0), (1, .int x1)] 2 rfl (congrArg (fun t => x3_7 + t) (show Int32.ofInt (-8) = (-8 : Int32) by decide)) (by decide) rfl dX7_freezes_40 ?_
            refine ik_goto C 7 dX7_freezes_43 (by decide) ?_
            exact ik_sub [0, 1, 3, 4] [(3, .int (x3_7 + (-8 : Int32))), (2, .int r1), (0, .ref h0), (1, .int x1)] rfl (ih_7 r1 (x3_7 + (-8 : Int32)) hf)
  exact hL_7 ik_fu (-1 : Int32) ((40 : Int32) + x1) hf
theorem mv_X7_weakNow : ik_V yX7_weakNow RX7 cX7_weakNow 3 (some .int) 0 := ⟨wl_21_19, wl_21_20, wl_1_5, wl_21_21, by decide +kernel⟩
set_option maxHeartbeats 4000000 in
set_option maxRecDepth 100000 in
theorem c_X7_weakNow (l : Launch) (D : va_G) (cI cS : ClassId) (h0 h1 h2 h3 h4 h5 h6 h7 h8 h9 h10 h11 : Nat) (misKept : Int32) (mtaped : Int32) (msort : Int32) (mfrom : Int32) (mto : Int32) (mvalue : Int32) (mbad : Int32) (mm : Nat → Int32) (mkept : Nat → Int32) (mwas : Nat → Int32) (mother : Nat → Int32) (mfound : Nat → Int32) (mwarm : Nat → Int32) (mdrip : Nat → Int32) (mtape : Nat → Int32) (mbits : Nat → Int32) (msize : Nat → Int32) (mnumber : Nat → Int32) (R : Int32) (hf : f_X7_weakNow mm = some (R)) : Met l yX7_weakNow (ik_ws yX7_weakNow cX7_weakNow 3 (some .int)) ({ frames := 3, cells := 0, slots := 0, locals := 66 } : Room) (ik_P D cI cS [.ref h0] (wz_X7 cI cS h0 h1 h2 h3 h4 h5 h6 h7 h8 h9 h10 h11 misKept mtaped msort mfrom mto mvalue mbad mm mkept mwas mother mfound mwarm mdrip mtape mbits msize mnumber)) (ik_R (some (.int R))) 0 0 ik_no := by
  refine ik_metR RX7 rfl (by decide) (Nat.le_of_ble_eq_true rfl) [(0, .ref h0)] rfl ?_
  intro p e s m below meth c C hr hlk
  unfold f_X7_weakNow at hf
  refine ik_iconst (v := (0 : Int32)) C (by decide) dX7_weakNow_0 ?_
  refine ik_istore_n C [(1, .int (0 : Int32)), (0, .ref h0)] rfl (by decide) rfl dX7_weakNow_1 ?_
  refine ik_iconst (v := (0 : Int32)) C (by decide) dX7_weakNow_2 ?_
  refine ik_istore_n C [(2, .int (0 : Int32)), (1, .int (0 : Int32)), (0, .ref h0)] rfl (by decide) rfl dX7_weakNow_3 ?_
  have hL_4 : ∀ (n_4 : Nat) (x1_4 : Int32) (x2_4 : Int32), ik_lp2 (b_X7_weakNow_4 mm) n_4 x1_4 x2_4 = some (R) → ik_G p l e ({ frames := 3, cells := 0, slots := 0, locals := 66 } : Room) s m ([.ref h0] : List Value).toArray below meth c D ik_no (fun _ => True) 3 0 0 (MQ below (ik_R (some (.int R))) ([.ref h0] : List Value).toArray s 0 0 ik_no) 4 [(2, .int x2_4), (1, .int x1_4), (0, .ref h0)] [] (wz_X7 cI cS h0 h1 h2 h3 h4 h5 h6 h7 h8 h9 h10 h11 misKept mtaped msort mfrom mto mvalue mbad mm mkept mwas mother mfound mwarm mdrip mtape mbits msize mnumber) := by
    intro n_4
    induction n_4 with
    | zero => intro _ _ hf; exact nomatch hf
    | succ n_4 ih_4 =>
      intro x1_4 x2_4 hf
      replace hf : b_X7_weakNow_4 mm (ik_lp2 (b_X7_weakNow_4 mm) n_4) x1_4 x2_4 = some (R) := hf
      unfold b_X7_weakNow_4 at hf
      refine ik_iload_n C 0 rfl rfl dX7_weakNow_4 ?_
      refine ik_aload_n C 2 rfl rfl dX7_weakNow_5 ?_
      refine ik_get C inlX7 0 rfl rfl 0 (by decide) wl_4_12 rfl (v := .ref h1) rfl dX7_weakNow_6 ?_
      refine ik_iconst (v := (5 : Int32)) C (by decide) dX7_weakNow_9 ?_
      refine ik_iald C 1 rfl (ik_vin (by decide)) dX7_weakNow_10 ?_
      refine ik_icmp_ge C 51 dX7_weakNow_11 (by decide) (fun hc => ?_) (fun hc => ?_)
      · have hf := ik_pos hc hf
        refine ik_iload_n C 1 rfl rfl dX7_weakNow_51 ?_
        obtain rfl := Option.some.inj hf
        exact ik_iretR C hr hlk dX7_weakNow_52
      · have hf := ik_neg hc hf
        refine ik_iload_n C 1 rfl rfl dX7_weakNow_14 ?_
        refine ik_aload_n C 2 rfl rfl dX7_weakNow_15 ?_
        refine ik_iload_n C 0 rfl rfl dX7_weakNow_16 ?_
        obtain ⟨r1, hc1, hf⟩ := ik_b1s hf
        have hM := (c_X7_isGone l D cI cS h0 h1 h2 h3 h4 h5 h6 h7 h8 h9 h10 h11 misKept mtaped msort mfrom mto mvalue mbad mm mkept mwas mother mfound mwarm mdrip mtape mbits msize mnumber x2_4 r1 hc1)
        refine ik_goR (ik_runV (st := [.int x1_4]) (As := [.int x2_4]) C hM mv_X7_isGone wl_10_5 ⟨rfl, rfl, Nat.le_of_ble_eq_true rfl, Nat.le_of_ble_eq_true rfl⟩ [0, 1, 2, 3, 4, 5, 6, 7, 8, 9, 10, 11] rfl (by decide +kernel) 0 rfl rfl rfl rfl (Nat.le_of_ble_eq_true rfl) dX7_weakNow_17 ⟨Nat.zero_le _, Nat.zero_le _⟩) rfl ?_
        refine ik_if_ne C 42 dX7_weakNow_20 (by decide) (fun hc => ?_) (fun hc => ?_)
        · have hf := ik_neg hc hf
          refine ik_iconst (v := (0 : Int32)) C (by decide) dX7_weakNow_42 ?_
          refine ik_ior C dX7_weakNow_43 ?_
          refine ik_istore_n C [(1, .int (x1_4 ||| (0 : Int32))), (2, .int x2_4), (0, .ref h0)] rfl (by decide) rfl dX7_weakNow_44 ?_
          refine ik_iinc C [(2, .int (x2_4 + (1 : Int32))), (1, .int (x1_4 ||| (0 : Int32))), (0, .ref h0)] 1 rfl rfl (by decide) rfl dX7_weakNow_45 ?_
          refine ik_goto C 4 dX7_weakNow_48 (by decide) ?_
          exact ik_sub [0, 1, 2] [(2, .int (x2_4 + (1 : Int32))), (1, .int (x1_4 ||| (0 : Int32))), (0, .ref h0)] rfl (ih_4 (x1_4 ||| (0 : Int32)) (x2_4 + (1 : Int32)) hf)
        · have hf := ik_pos hc hf
          refine ik_aload_n C 2 rfl rfl dX7_weakNow_23 ?_
          refine ik_iload_n C 0 rfl rfl dX7_weakNow_24 ?_
          obtain ⟨r2, hc2, hf⟩ := ik_b1s hf
          have hM := (c_X7_loadOf l D cI cS h0 h1 h2 h3 h4 h5 h6 h7 h8 h9 h10 h11 misKept mtaped msort mfrom mto mvalue mbad mm mkept mwas mother mfound mwarm mdrip mtape mbits msize mnumber x2_4 r2 hc2)
          refine ik_goR (ik_runV (st := [.int x1_4]) (As := [.int x2_4]) C hM mv_X7_loadOf wl_11_12 ⟨rfl, rfl, Nat.le_of_ble_eq_true rfl, Nat.le_of_ble_eq_true rfl⟩ [0, 1, 2, 3, 4, 5, 6, 7, 8, 9, 10, 11] rfl (by decide +kernel) 0 rfl rfl rfl rfl (Nat.le_of_ble_eq_true rfl) dX7_weakNow_25 ⟨Nat.zero_le _, Nat.zero_le _⟩) rfl ?_
          refine ik_aload_n C 2 rfl rfl dX7_weakNow_28 ?_
          refine ik_iload_n C 0 rfl rfl dX7_weakNow_29 ?_
          obtain ⟨r3, hc3, hf⟩ := ik_b1s hf
          have hM := (c_X7_strongOf l D cI cS h0 h1 h2 h3 h4 h5 h6 h7 h8 h9 h10 h11 misKept mtaped msort mfrom mto mvalue mbad mm mkept mwas mother mfound mwarm mdrip mtape mbits msize mnumber x2_4 r3 hc3)
          refine ik_goR (ik_runV (st := [.int r2, .int x1_4]) (As := [.int x2_4]) C hM mv_X7_strongOf wl_11_16 ⟨rfl, rfl, Nat.le_of_ble_eq_true rfl, Nat.le_of_ble_eq_true rfl⟩ [0, 1, 2, 3, 4, 5, 6, 7, 8, 9, 10, 11] rfl (by decide +kernel) 0 rfl rfl rfl rfl (Nat.le_of_ble_eq_true rfl) dX7_weakNow_30 ⟨Nat.zero_le _, Nat.zero_le _⟩) rfl ?_
          refine ik_icmp_le C 42 dX7_weakNow_33 (by decide) (fun hc => ?_) (fun hc => ?_)
          · have hf := ik_pos hc hf
            refine ik_iconst (v := (0 : Int32)) C (by decide) dX7_weakNow_42 ?_
            refine ik_ior C dX7_weakNow_43 ?_
            refine ik_istore_n C [(1, .int (x1_4 ||| (0 : Int32))), (2, .int x2_4), (0, .ref h0)] rfl (by decide) rfl dX7_weakNow_44 ?_
            refine ik_iinc C [(2, .int (x2_4 + (1 : Int32))), (1, .int (x1_4 ||| (0 : Int32))), (0, .ref h0)] 1 rfl rfl (by decide) rfl dX7_weakNow_45 ?_
            refine ik_goto C 4 dX7_weakNow_48 (by decide) ?_
            exact ik_sub [0, 1, 2] [(2, .int (x2_4 + (1 : Int32))), (1, .int (x1_4 ||| (0 : Int32))), (0, .ref h0)] rfl (ih_4 (x1_4 ||| (0 : Int32)) (x2_4 + (1 : Int32)) hf)
          · have hf := ik_neg hc hf
            refine ik_iconst (v := (1 : Int32)) C (by decide) dX7_weakNow_36 ?_
            refine ik_iload_n C 0 rfl rfl dX7_weakNow_37 ?_
            refine ik_ishl C dX7_weakNow_38 ?_
            refine ik_goto C 43 dX7_weakNow_39 (by decide) ?_
            refine ik_ior C dX7_weakNow_43 ?_
            refine ik_istore_n C [(1, .int (x1_4 ||| ((1 : Int32) <<< (x2_4 &&& 31)))), (2, .int x2_4), (0, .ref h0)] rfl (by decide) rfl dX7_weakNow_44 ?_
            refine ik_iinc C [(2, .int (x2_4 + (1 : Int32))), (1, .int (x1_4 ||| ((1 : Int32) <<< (x2_4 &&& 31)))), (0, .ref h0)] 1 rfl rfl (by decide) rfl dX7_weakNow_45 ?_
            refine ik_goto C 4 dX7_weakNow_48 (by decide) ?_
            exact ik_sub [0, 1, 2] [(2, .int (x2_4 + (1 : Int32))), (1, .int (x1_4 ||| ((1 : Int32) <<< (x2_4 &&& 31)))), (0, .ref h0)] rfl (ih_4 (x1_4 ||| ((1 : Int32) <<< (x2_4 &&& 31))) (x2_4 + (1 : Int32)) hf)
  exact hL_4 ik_fu (0 : Int32) (0 : Int32) hf
theorem mv_X7_looseNow : ik_V yX7_looseNow RX7 cX7_looseNow 4 (some .int) 0 := ⟨wl_21_15, wl_21_16, wl_1_5, wl_21_17, by decide +kernel⟩
set_option maxHeartbeats 4000000 in
set_option maxRecDepth 100000 in
theorem c_X7_looseNow (l : Launch) (D : va_G) (cI cS : ClassId) (h0 h1 h2 h3 h4 h5 h6 h7 h8 h9 h10 h11 : Nat) (misKept : Int32) (mtaped : Int32) (msort : Int32) (mfrom : Int32) (mto : Int32) (mvalue : Int32) (mbad : Int32) (mm : Nat → Int32) (mkept : Nat → Int32) (mwas : Nat → Int32) (mother : Nat → Int32) (mfound : Nat → Int32) (mwarm : Nat → Int32) (mdrip : Nat → Int32) (mtape : Nat → Int32) (mbits : Nat → Int32) (msize : Nat → Int32) (mnumber : Nat → Int32) (R : Int32) (hf : f_X7_looseNow mm = some (R)) : Met l yX7_looseNow (ik_ws yX7_looseNow cX7_looseNow 4 (some .int)) ({ frames := 5, cells := 0, slots := 0, locals := 114 } : Room) (ik_P D cI cS [.ref h0] (wz_X7 cI cS h0 h1 h2 h3 h4 h5 h6 h7 h8 h9 h10 h11 misKept mtaped msort mfrom mto mvalue mbad mm mkept mwas mother mfound mwarm mdrip mtape mbits msize mnumber)) (ik_R (some (.int R))) 0 0 ik_no := by
  refine ik_metR RX7 rfl (by decide) (Nat.le_of_ble_eq_true rfl) [(0, .ref h0)] rfl ?_
  intro p e s m below meth c C hr hlk
  unfold f_X7_looseNow at hf
  refine ik_aload_n C 0 rfl rfl dX7_looseNow_0 ?_
  obtain ⟨r1, hc1, hf⟩ := ik_b1s hf
  have hM := (c_X7_standing l D cI cS h0 h1 h2 h3 h4 h5 h6 h7 h8 h9 h10 h11 misKept mtaped msort mfrom mto mvalue mbad mm mkept mwas mother mfound mwarm mdrip mtape mbits msize mnumber r1 hc1)
  refine ik_goR (ik_runV (st := []) (As := []) C hM mv_X7_standing wl_10_9 ⟨rfl, rfl, Nat.le_of_ble_eq_true rfl, Nat.le_of_ble_eq_true rfl⟩ [0, 1, 2, 3, 4, 5, 6, 7, 8, 9, 10, 11] rfl (by decide +kernel) 0 rfl rfl rfl rfl (Nat.le_of_ble_eq_true rfl) dX7_looseNow_1 ⟨Nat.zero_le _, Nat.zero_le _⟩) rfl ?_
  refine ik_istore_n C [(1, .int r1), (0, .ref h0)] rfl (by decide) rfl dX7_looseNow_4 ?_
  refine ik_iconst (v := (0 : Int32)) C (by decide) dX7_looseNow_5 ?_
  refine ik_istore_n C [(2, .int (0 : Int32)), (1, .int r1), (0, .ref h0)] rfl (by decide) rfl dX7_looseNow_6 ?_
  refine ik_iconst (v := (0 : Int32)) C (by decide) dX7_looseNow_7 ?_
  refine ik_istore_n C [(3, .int (0 : Int32)), (2, .int (0 : Int32)), (1, .int r1), (0, .ref h0)] rfl (by decide) rfl dX7_looseNow_8 ?_
  have hL_9 : ∀ (n_9 : Nat) (x2_9 : Int32) (x3_9 : Int32), ik_lp2 (b_X7_looseNow_9 mm r1) n_9 x2_9 x3_9 = some (R) → ik_G p l e ({ frames := 5, cells := 0, slots := 0, locals := 114 } : Room) s m ([.ref h0] : List Value).toArray below meth c D ik_no (fun _ => True) 4 0 0 (MQ below (ik_R (some (.int R))) ([.ref h0] : List Value).toArray s 0 0 ik_no) 9 [(3, .int x3_9), (2, .int x2_9), (1, .int r1), (0, .ref h0)] [] (wz_X7 cI cS h0 h1 h2 h3 h4 h5 h6 h7 h8 h9 h10 h11 misKept mtaped msort mfrom mto mvalue mbad mm mkept mwas mother mfound mwarm mdrip mtape mbits msize mnumber) := by
    intro n_9
    induction n_9 with
    | zero => intro _ _ hf; exact nomatch hf
    | succ n_9 ih_9 =>
      intro x2_9 x3_9 hf
      replace hf : b_X7_looseNow_9 mm r1 (ik_lp2 (b_X7_looseNow_9 mm r1) n_9) x2_9 x3_9 = some (R) := hf
      unfold b_X7_looseNow_9 at hf
      refine ik_iload_n C 0 rfl rfl dX7_looseNow_9 ?_
      refine ik_aload_n C 3 rfl rfl dX7_looseNow_10 ?_
      refine ik_get C inlX7 0 rfl rfl 0 (by decide) wl_4_12 rfl (v := .ref h1) rfl dX7_looseNow_11 ?_
      refine ik_iconst (v := (5 : Int32)) C (by decide) dX7_looseNow_14 ?_
      refine ik_iald C 1 rfl (ik_vin (by decide)) dX7_looseNow_15 ?_
      refine ik_icmp_ge C 51 dX7_looseNow_16 (by decide) (fun hc => ?_) (fun hc => ?_)
      · have hf := ik_pos hc hf
        refine ik_iload_n C 1 rfl rfl dX7_looseNow_51 ?_
        obtain rfl := Option.some.inj hf
        exact ik_iretR C hr hlk dX7_looseNow_52
      · have hf := ik_neg hc hf
        refine ik_iload_n C 1 rfl rfl dX7_looseNow_19 ?_
        refine ik_aload_n C 3 rfl rfl dX7_looseNow_20 ?_
        refine ik_iload_n C 0 rfl rfl dX7_looseNow_21 ?_
        obtain ⟨r2, hc2, hf⟩ := ik_b1s hf
        have hM := (c_X7_isGone l D cI cS h0 h1 h2 h3 h4 h5 h6 h7 h8 h9 h10 h11 misKept mtaped msort mfrom mto mvalue mbad mm mkept mwas mother mfound mwarm mdrip mtape mbits msize mnumber x3_9 r2 hc2)
        refine ik_goR (ik_runV (st := [.int x2_9]) (As := [.int x3_9]) C hM mv_X7_isGone wl_10_5 ⟨rfl, rfl, Nat.le_of_ble_eq_true rfl, Nat.le_of_ble_eq_true rfl⟩ [0, 1, 2, 3, 4, 5, 6, 7, 8, 9, 10, 11] rfl (by decide +kernel) 0 rfl rfl rfl rfl (Nat.le_of_ble_eq_true rfl) dX7_looseNow_22 ⟨Nat.zero_le _, Nat.zero_le _⟩) rfl ?_
        refine ik_if_ne C 42 dX7_looseNow_25 (by decide) (fun hc => ?_) (fun hc => ?_)
        · have hf := ik_neg hc hf
          refine ik_iconst (v := (0 : Int32)) C (by decide) dX7_looseNow_42 ?_
          refine ik_ior C dX7_looseNow_43 ?_
          refine ik_istore_n C [(2, .int (x2_9 ||| (0 : Int32))), (3, .int x3_9), (1, .int r1), (0, .ref h0)] rfl (by decide) rfl dX7_looseNow_44 ?_
          refine ik_iinc C [(3, .int (x3_9 + (1 : Int32))), (2, .int (x2_9 ||| (0 : Int32))), (1, .int r1), (0, .ref h0)] 1 rfl rfl (by decide) rfl dX7_looseNow_45 ?_
          refine ik_goto C 9 dX7_looseNow_48 (by decide) ?_
          exact ik_sub [0, 1, 2, 3] [(3, .int (x3_9 + (1 : Int32))), (2, .int (x2_9 ||| (0 : Int32))), (1, .int r1), (0, .ref h0)] rfl (ih_9 (x2_9 ||| (0 : Int32)) (x3_9 + (1 : Int32)) hf)
        · have hf := ik_pos hc hf
          refine ik_iload_n C 2 rfl rfl dX7_looseNow_28 ?_
          refine ik_iload_n C 0 rfl rfl dX7_looseNow_29 ?_
          obtain ⟨r3, hc3, hf⟩ := ik_b1s hf
          have hM := (c_X7_has l D cI cS r1 x3_9 r3 hc3)
          refine ik_goR (ik_runS (st := [.int x2_9]) (As := [.int r1, .int x3_9]) C hM ms_X7_has wl_11_0 ⟨rfl, rfl, Nat.le_of_ble_eq_true rfl, Nat.le_of_ble_eq_true rfl⟩ [] rfl (by decide +kernel) rfl rfl (Nat.le_of_ble_eq_true rfl) dX7_looseNow_30 ⟨Nat.zero_le _, Nat.zero_le _⟩) rfl ?_
          refine ik_if_ne C 42 dX7_looseNow_33 (by decide) (fun hc => ?_) (fun hc => ?_)
          · have hf := ik_neg hc hf
            refine ik_iconst (v := (0 : Int32)) C (by decide) dX7_looseNow_42 ?_
            refine ik_ior C dX7_looseNow_43 ?_
            refine ik_istore_n C [(2, .int (x2_9 ||| (0 : Int32))), (3, .int x3_9), (1, .int r1), (0, .ref h0)] rfl (by decide) rfl dX7_looseNow_44 ?_
            refine ik_iinc C [(3, .int (x3_9 + (1 : Int32))), (2, .int (x2_9 ||| (0 : Int32))), (1, .int r1), (0, .ref h0)] 1 rfl rfl (by decide) rfl dX7_looseNow_45 ?_
            refine ik_goto C 9 dX7_looseNow_48 (by decide) ?_
            exact ik_sub [0, 1, 2, 3] [(3, .int (x3_9 + (1 : Int32))), (2, .int (x2_9 ||| (0 : Int32))), (1, .int r1), (0, .ref h0)] rfl (ih_9 (x2_9 ||| (0 : Int32)) (x3_9 + (1 : Int32)) hf)
          · have hf := ik_pos hc hf
            refine ik_iconst (v := (1 : Int32)) C (by decide) dX7_looseNow_36 ?_
            refine ik_iload_n C 0 rfl rfl dX7_looseNow_37 ?_
            refine ik_ishl C dX7_looseNow_38 ?_
            refine ik_goto C 43 dX7_looseNow_39 (by decide) ?_
            refine ik_ior C dX7_looseNow_43 ?_
            refine ik_istore_n C [(2, .int (x2_9 ||| ((1 : Int32) <<< (x3_9 &&& 31)))), (3, .int x3_9), (1, .int r1), (0, .ref h0)] rfl (by decide) rfl dX7_looseNow_44 ?_
            refine ik_iinc C [(3, .int (x3_9 + (1 : Int32))), (2, .int (x2_9 ||| ((1 : Int32) <<< (x3_9 &&& 31)))), (1, .int r1), (0, .ref h0)] 1 rfl rfl (by decide) rfl dX7_looseNow_45 ?_
            refine ik_goto C 9 dX7_looseNow_48 (by decide) ?_
            exact ik_sub [0, 1, 2, 3] [(3, .int (x3_9 + (1 : Int32))), (2, .int (x2_9 ||| ((1 : Int32) <<< (x3_9 &&& 31)))), (1, .int r1), (0, .ref h0)] rfl (ih_9 (x2_9 ||| ((1 : Int32) <<< (x3_9 &&& 31))) (x3_9 + (1 : Int32)) hf)
  exact hL_9 ik_fu (0 : Int32) (0 : Int32) hf
theorem mv_X7_falls : ik_V yX7_falls RX7 cX7_falls 3 none 0 := ⟨wl_21_11, wl_21_12, wl_1_5, wl_21_13, by decide +kernel⟩
set_option maxHeartbeats 4000000 in
set_option maxRecDepth 100000 in
theorem c_X7_falls (l : Launch) (D : va_G) (cI cS : ClassId) (h0 h1 h2 h3 h4 h5 h6 h7 h8 h9 h10 h11 : Nat) (misKept : Int32) (mtaped : Int32) (msort : Int32) (mfrom : Int32) (mto : Int32) (mvalue : Int32) (mbad : Int32) (mm : Nat → Int32) (mkept : Nat → Int32) (mwas : Nat → Int32) (mother : Nat → Int32) (mfound : Nat → Int32) (mwarm : Nat → Int32) (mdrip : Nat → Int32) (mtape : Nat → Int32) (mbits : Nat → Int32) (msize : Nat → Int32) (mnumber : Nat → Int32) (mm_r : Nat → Int32) (hf : f_X7_falls mm = some (mm_r)) : Met l yX7_falls (ik_ws yX7_falls cX7_falls 3 none) ({ frames := 6, cells := 0, slots := 0, locals := 137 } : Room) (ik_P D cI cS [.ref h0] (wz_X7 cI cS h0 h1 h2 h3 h4 h5 h6 h7 h8 h9 h10 h11 misKept mtaped msort mfrom mto mvalue mbad mm mkept mwas mother mfound mwarm mdrip mtape mbits msize mnumber)) (ik_Q none D (wz_X7 cI cS h0 h1 h2 h3 h4 h5 h6 h7 h8 h9 h10 h11 misKept mtaped msort mfrom mto mvalue mbad mm_r mkept mwas mother mfound mwarm mdrip mtape mbits msize mnumber) (wz_X7 cI cS h0 h1 h2 h3 h4 h5 h6 h7 h8 h9 h10 h11 misKept mtaped msort mfrom mto mvalue mbad mm mkept mwas mother mfound mwarm mdrip mtape mbits msize mnumber)) 0 0 (ik_in (wz_X7 cI cS h0 h1 h2 h3 h4 h5 h6 h7 h8 h9 h10 h11 misKept mtaped msort mfrom mto mvalue mbad mm mkept mwas mother mfound mwarm mdrip mtape mbits msize mnumber)) := by
  refine ik_metW RX7 rfl (by decide) (Nat.le_of_ble_eq_true rfl) [(0, .ref h0)] rfl ?_
  intro p e s m below meth c C hr hlk
  unfold f_X7_falls at hf
  refine ik_aload_n C 0 rfl rfl dX7_falls_0 ?_
  obtain ⟨r1, hc1, hf⟩ := ik_b1s hf
  have hM := (c_X7_looseNow l D cI cS h0 h1 h2 h3 h4 h5 h6 h7 h8 h9 h10 h11 misKept mtaped msort mfrom mto mvalue mbad mm mkept mwas mother mfound mwarm mdrip mtape mbits msize mnumber r1 hc1)
  refine ik_goR (ik_runV (st := []) (As := []) C hM mv_X7_looseNow wl_21_14 ⟨rfl, rfl, Nat.le_of_ble_eq_true rfl, Nat.le_of_ble_eq_true rfl⟩ [0, 1, 2, 3, 4, 5, 6, 7, 8, 9, 10, 11] rfl (by decide +kernel) 0 rfl rfl rfl rfl (Nat.le_of_ble_eq_true rfl) dX7_falls_1 ⟨Nat.zero_le _, Nat.zero_le _⟩) rfl ?_
  refine ik_aload_n C 0 rfl rfl dX7_falls_4 ?_
  obtain ⟨r2, hc2, hf⟩ := ik_b1s hf
  have hM := (c_X7_weakNow l D cI cS h0 h1 h2 h3 h4 h5 h6 h7 h8 h9 h10 h11 misKept mtaped msort mfrom mto mvalue mbad mm mkept mwas mother mfound mwarm mdrip mtape mbits msize mnumber r2 hc2)
  refine ik_goR (ik_runV (st := [.int r1]) (As := []) C hM mv_X7_weakNow wl_21_18 ⟨rfl, rfl, Nat.le_of_ble_eq_true rfl, Nat.le_of_ble_eq_true rfl⟩ [0, 1, 2, 3, 4, 5, 6, 7, 8, 9, 10, 11] rfl (by decide +kernel) 0 rfl rfl rfl rfl (Nat.le_of_ble_eq_true rfl) dX7_falls_5 ⟨Nat.zero_le _, Nat.zero_le _⟩) rfl ?_
  refine ik_ior C dX7_falls_8 ?_
  refine ik_istore_n C [(1, .int (r1 ||| r2)), (0, .ref h0)] rfl (by decide) rfl dX7_falls_9 ?_
  have hL_10 : ∀ (n_10 : Nat) (mm_10 : Nat → Int32) (x1_10 : Int32), ik_lp2 (b_X7_falls_10) n_10 mm_10 x1_10 = some (mm_r) → ik_G p l e ({ frames := 6, cells := 0, slots := 0, locals := 137 } : Room) s m ([.ref h0] : List Value).toArray below meth c D (ik_in (wz_X7 cI cS h0 h1 h2 h3 h4 h5 h6 h7 h8 h9 h10 h11 misKept mtaped msort mfrom mto mvalue mbad mm mkept mwas mother mfound mwarm mdrip mtape mbits msize mnumber)) (ik_in (wz_X7 cI cS h0 h1 h2 h3 h4 h5 h6 h7 h8 h9 h10 h11 misKept mtaped msort mfrom mto mvalue mbad mm mkept mwas mother mfound mwarm mdrip mtape mbits msize mnumber)) 3 0 0 (MQ below (ik_Q none D (wz_X7 cI cS h0 h1 h2 h3 h4 h5 h6 h7 h8 h9 h10 h11 misKept mtaped msort mfrom mto mvalue mbad mm_r mkept mwas mother mfound mwarm mdrip mtape mbits msize mnumber) (wz_X7 cI cS h0 h1 h2 h3 h4 h5 h6 h7 h8 h9 h10 h11 misKept mtaped msort mfrom mto mvalue mbad mm mkept mwas mother mfound mwarm mdrip mtape mbits msize mnumber)) ([.ref h0] : List Value).toArray s 0 0 (ik_in (wz_X7 cI cS h0 h1 h2 h3 h4 h5 h6 h7 h8 h9 h10 h11 misKept mtaped msort mfrom mto mvalue mbad mm mkept mwas mother mfound mwarm mdrip mtape mbits msize mnumber))) 10 [(1, .int x1_10), (0, .ref h0)] [] (wz_X7 cI cS h0 h1 h2 h3 h4 h5 h6 h7 h8 h9 h10 h11 misKept mtaped msort mfrom mto mvalue mbad mm_10 mkept mwas mother mfound mwarm mdrip mtape mbits msize mnumber) := by
    intro n_10
    induction n_10 with
    | zero => intro _ _ hf; exact nomatch hf
    | succ n_10 ih_10 =>
      intro mm_10 x1_10 hf
      replace hf : b_X7_falls_10 (ik_lp2 (b_X7_falls_10) n_10) mm_10 x1_10 = some (mm_r) := hf
      unfold b_X7_falls_10 at hf
      refine ik_iload_n C 0 rfl rfl dX7_falls_10 ?_
      refine ik_if_eq C 90 dX7_falls_11 (by decide) (fun hc => ?_) (fun hc => ?_)
      · have hf := ik_pos hc hf
        obtain rfl := Option.some.inj hf
        exact ik_vretW C hr hlk dX7_falls_90
      · have hf := ik_neg hc hf
        refine ik_iconst (v := (0 : Int32)) C (by decide) dX7_falls_14 ?_
        refine ik_istore_n C [(2, .int (0 : Int32)), (1, .int x1_10), (0, .ref h0)] rfl (by decide) rfl dX7_falls_15 ?_
        have hL_16 : ∀ (n_16 : Nat) (mm_16 : Nat → Int32) (x2_16 : Int32), ik_lp2 (b_X7_falls_16 x1_10 (ik_lp2 (b_X7_falls_10) n_10)) n_16 mm_16 x2_16 = some (mm_r) → ik_G p l e ({ frames := 6, cells := 0, slots := 0, locals := 137 } : Room) s m ([.ref h0] : List Value).toArray below meth c D (ik_in (wz_X7 cI cS h0 h1 h2 h3 h4 h5 h6 h7 h8 h9 h10 h11 misKept mtaped msort mfrom mto mvalue mbad mm mkept mwas mother mfound mwarm mdrip mtape mbits msize mnumber)) (ik_in (wz_X7 cI cS h0 h1 h2 h3 h4 h5 h6 h7 h8 h9 h10 h11 misKept mtaped msort mfrom mto mvalue mbad mm mkept mwas mother mfound mwarm mdrip mtape mbits msize mnumber)) 3 0 0 (MQ below (ik_Q none D (wz_X7 cI cS h0 h1 h2 h3 h4 h5 h6 h7 h8 h9 h10 h11 misKept mtaped msort mfrom mto mvalue mbad mm_r mkept mwas mother mfound mwarm mdrip mtape mbits msize mnumber) (wz_X7 cI cS h0 h1 h2 h3 h4 h5 h6 h7 h8 h9 h10 h11 misKept mtaped msort mfrom mto mvalue mbad mm mkept mwas mother mfound mwarm mdrip mtape mbits msize mnumber)) ([.ref h0] : List Value).toArray s 0 0 (ik_in (wz_X7 cI cS h0 h1 h2 h3 h4 h5 h6 h7 h8 h9 h10 h11 misKept mtaped msort mfrom mto mvalue mbad mm mkept mwas mother mfound mwarm mdrip mtape mbits msize mnumber))) 16 [(2, .int x2_16), (1, .int x1_10), (0, .ref h0)] [] (wz_X7 cI cS h0 h1 h2 h3 h4 h5 h6 h7 h8 h9 h10 h11 misKept mtaped msort mfrom mto mvalue mbad mm_16 mkept mwas mother mfound mwarm mdrip mtape mbits msize mnumber) := by
          intro n_16
          induction n_16 with
          | zero => intro _ _ hf; exact nomatch hf
          | succ n_16 ih_16 =>
            intro mm_16 x2_16 hf
            replace hf : b_X7_falls_16 x1_10 (ik_lp2 (b_X7_falls_10) n_10) (ik_lp2 (b_X7_falls_16 x1_10 (ik_lp2 (b_X7_falls_10) n_10)) n_16) mm_16 x2_16 = some (mm_r) := hf
            unfold b_X7_falls_16 at hf
            refine ik_iload_n C 0 rfl rfl dX7_falls_16 ?_
            refine ik_aload_n C 2 rfl rfl dX7_falls_17 ?_
            refine ik_get C inlX7 0 rfl rfl 0 (by decide) wl_4_12 rfl (v := .ref h1) rfl dX7_falls_18 ?_
            refine ik_iconst (v := (5 : Int32)) C (by decide) dX7_falls_21 ?_
            refine ik_iald C 1 rfl (ik_vin (by decide)) dX7_falls_22 ?_
            refine ik_icmp_ge C 77 dX7_falls_23 (by decide) (fun hc => ?_) (fun hc => ?_)
            · have hf := ik_pos hc hf
              refine ik_aload_n C 2 rfl rfl dX7_falls_77 ?_
              obtain ⟨r3, hc3, hf⟩ := ik_b1s hf
              have hM := (c_X7_looseNow l D cI cS h0 h1 h2 h3 h4 h5 h6 h7 h8 h9 h10 h11 misKept mtaped msort mfrom mto mvalue mbad mm_16 mkept mwas mother mfound mwarm mdrip mtape mbits msize mnumber r3 hc3)
              refine ik_goR (ik_runV (st := []) (As := []) C hM mv_X7_looseNow wl_21_14 ⟨rfl, rfl, Nat.le_of_ble_eq_true rfl, Nat.le_of_ble_eq_true rfl⟩ [0, 1, 2, 3, 4, 5, 6, 7, 8, 9, 10, 11] rfl (by decide +kernel) 0 rfl rfl rfl rfl (Nat.le_of_ble_eq_true rfl) dX7_falls_78 ⟨Nat.zero_le _, Nat.zero_le _⟩) rfl ?_
              refine ik_aload_n C 2 rfl rfl dX7_falls_81 ?_
              obtain ⟨r4, hc4, hf⟩ := ik_b1s hf
              have hM := (c_X7_weakNow l D cI cS h0 h1 h2 h3 h4 h5 h6 h7 h8 h9 h10 h11 misKept mtaped msort mfrom mto mvalue mbad mm_16 mkept mwas mother mfound mwarm mdrip mtape mbits msize mnumber r4 hc4)
              refine ik_goR (ik_runV (st := [.int r3]) (As := []) C hM mv_X7_weakNow wl_21_18 ⟨rfl, rfl, Nat.le_of_ble_eq_true rfl, Nat.le_of_ble_eq_true rfl⟩ [0, 1, 2, 3, 4, 5, 6, 7, 8, 9, 10, 11] rfl (by decide +kernel) 0 rfl rfl rfl rfl (Nat.le_of_ble_eq_true rfl) dX7_falls_82 ⟨Nat.zero_le _, Nat.zero_le _⟩) rfl ?_
              refine ik_ior C dX7_falls_85 ?_
              refine ik_istore_n C [(1, .int (r3 ||| r4)), (2, .int x2_16), (0, .ref h0)] rfl (by decide) rfl dX7_falls_86 ?_
              refine ik_goto C 10 dX7_falls_87 (by decide) ?_
              exact ik_sub [0, 2] [(1, .int (r3 ||| r4)), (0, .ref h0)] rfl (ih_10 mm_16 (r3 ||| r4) hf)
            · have hf := ik_neg hc hf
              refine ik_iload_n C 1 rfl rfl dX7_falls_26 ?_
              refine ik_iload_n C 0 rfl rfl dX7_falls_27 ?_
              obtain ⟨r3, hc3, hf⟩ := ik_b1s hf
              have hM := (c_X7_has l D cI cS x1_10 x2_16 r3 hc3)
              refine ik_goR (ik_runS (st := []) (As := [.int x1_10, .int x2_16]) C hM ms_X7_has wl_11_0 ⟨rfl, rfl, Nat.le_of_ble_eq_true rfl, Nat.le_of_ble_eq_true rfl⟩ [] rfl (by decide +kernel) rfl rfl (Nat.le_of_ble_eq_true rfl) dX7_falls_28 ⟨Nat.zero_le _, Nat.zero_le _⟩) rfl ?_
              refine ik_if_ne C 37 dX7_falls_31 (by decide) (fun hc => ?_) (fun hc => ?_)
              · have hf := ik_neg hc hf
                refine ik_aload_n C 2 rfl rfl dX7_falls_37 ?_
                refine ik_get C inlX7 0 rfl rfl 0 (by decide) wl_4_12 rfl (v := .ref h1) rfl dX7_falls_38 ?_
                refine ik_iconst (v := (3 : Int32)) C (by decide) dX7_falls_41 ?_
                refine ik_dup2 C rfl rfl dX7_falls_42 ?_
                refine ik_iald C 1 rfl (ik_vin (by decide)) dX7_falls_43 ?_
                refine ik_aload_n C 2 rfl rfl dX7_falls_44 ?_
                refine ik_iload_n C 0 rfl rfl dX7_falls_45 ?_
                obtain ⟨r4, hc4, hf⟩ := ik_b1s hf
                have hM := (c_X7_grains l D cI cS h0 h1 h2 h3 h4 h5 h6 h7 h8 h9 h10 h11 misKept mtaped msort mfrom mto mvalue mbad mm_16 mkept mwas mother mfound mwarm mdrip mtape mbits msize mnumber x2_16 r4 hc4)
                refine ik_goR (ik_runV (st := [.int (mm_16 ((3 : Int32)).toNatClampNeg), .int (3 : Int32), .ref h1]) (As := [.int x2_16]) C hM mv_X7_grains wl_10_1 ⟨rfl, rfl, Nat.le_of_ble_eq_true rfl, Nat.le_of_ble_eq_true rfl⟩ [0, 1, 2, 3, 4, 5, 6, 7, 8, 9, 10, 11] rfl (by decide +kernel) 0 rfl rfl rfl rfl (Nat.le_of_ble_eq_true rfl) dX7_falls_46 ⟨Nat.zero_le _, Nat.zero_le _⟩) rfl ?_
                refine ik_iadd C dX7_falls_49 ?_
                refine ik_iast C 1 rfl (ik_vin (by decide)) (wz_X7 cI cS h0 h1 h2 h3 h4 h5 h6 h7 h8 h9 h10 h11 misKept mtaped msort mfrom mto mvalue mbad (upd mm_16 ((3 : Int32)).toNatClampNeg ((mm_16 ((3 : Int32)).toNatClampNeg) + r4)) mkept mwas mother mfound mwarm mdrip mtape mbits msize mnumber) rfl dX7_falls_50 ?_
                refine ik_aload_n C 2 rfl rfl dX7_falls_51 ?_
                refine ik_iload_n C 0 rfl rfl dX7_falls_52 ?_
                refine ik_iconst (v := (0 : Int32)) C (by decide) dX7_falls_53 ?_
                obtain ⟨g5, hc5, hf⟩ := ik_b1s hf
                have hM := (c_X7_makes l D cI cS h0 h1 h2 h3 h4 h5 h6 h7 h8 h9 h10 h11 misKept mtaped msort mfrom mto mvalue mbad (upd mm_16 ((3 : Int32)).toNatClampNeg ((mm_16 ((3 : Int32)).toNatClampNeg) + r4)) mkept mwas mother mfound mwarm mdrip mtape mbits msize mnumber x2_16 (0 : Int32) g5 hc5)
                refine ik_goW (v := none) (wc := (wz_X7 cI cS h0 h1 h2 h3 h4 h5 h6 h7 h8 h9 h10 h11 misKept mtaped msort mfrom mto mvalue mbad (upd mm_16 ((3 : Int32)).toNatClampNeg ((mm_16 ((3 : Int32)).toNatClampNeg) + r4)) mkept mwas mother mfound mwarm mdrip mtape mbits msize mnumber)) (w1 := (wz_X7 cI cS h0 h1 h2 h3 h4 h5 h6 h7 h8 h9 h10 h11 misKept mtaped msort mfrom mto mvalue mbad g5 mkept mwas mother mfound mwarm mdrip mtape mbits msize mnumber)) [0, 1, 2, 3, 4, 5, 6, 7, 8, 9, 10, 11] [] 12 rfl rfl (wz_X7 cI cS h0 h1 h2 h3 h4 h5 h6 h7 h8 h9 h10 h11 misKept mtaped msort mfrom mto mvalue mbad g5 mkept mwas mother mfound mwarm mdrip mtape mbits msize mnumber) rfl [] rfl rfl rfl (by decide +kernel) (ik_runV (st := []) (As := [.int x2_16, .int (0 : Int32)]) C hM mv_X7_makes wl_14_23 ⟨rfl, rfl, Nat.le_of_ble_eq_true rfl, Nat.le_of_ble_eq_true rfl⟩ [0, 1, 2, 3, 4, 5, 6, 7, 8, 9, 10, 11] rfl (by decide +kernel) 0 rfl rfl rfl rfl (Nat.le_of_ble_eq_true rfl) dX7_falls_54 ⟨Nat.zero_le _, Nat.zero_le _⟩) rfl ?_
                refine ik_aload_n C 2 rfl rfl dX7_falls_57 ?_
                refine ik_get C inlX7 0 rfl rfl 0 (by decide) wl_4_12 rfl (v := .ref h1) rfl dX7_falls_58 ?_
                refine ik_bipush (v := (24 : Int32)) C (by decide) dX7_falls_61 ?_
                refine ik_iconst (v := (3 : Int32)) C (by decide) dX7_falls_63 ?_
                refine ik_iload_n C 0 rfl rfl dX7_falls_64 ?_
                refine ik_imul C dX7_falls_65 ?_
                refine ik_iadd C dX7_falls_66 ?_
                refine ik_iconst (v := (1 : Int32)) C (by decide) dX7_falls_67 ?_
                refine ik_iadd C dX7_falls_68 ?_
                refine ik_iconst (v := (-1 : Int32)) C (by decide) dX7_falls_69 ?_
                have hg := ik_gdi hf
                have hf := ik_gdk hf
                refine ik_iast C 1 rfl hg (wz_X7 cI cS h0 h1 h2 h3 h4 h5 h6 h7 h8 h9 h10 h11 misKept mtaped msort mfrom mto mvalue mbad (upd g5 ((((24 : Int32) + ((3 : Int32) * x2_16)) + (1 : Int32))).toNatClampNeg (-1 : Int32)) mkept mwas mother mfound mwarm mdrip mtape mbits msize mnumber) rfl dX7_falls_70 ?_
                refine ik_iinc C [(2, .int (x2_16 + (1 : Int32))), (1, .int x1_10), (0, .ref h0)] 0 rfl rfl (by decide) rfl dX7_falls_71 ?_
                refine ik_goto C 16 dX7_falls_74 (by decide) ?_
                exact ik_sub [0, 1, 2] [(2, .int (x2_16 + (1 : Int32))), (1, .int x1_10), (0, .ref h0)] rfl (ih_16 (upd g5 ((((24 : Int32) + ((3 : Int32) * x2_16)) + (1 : Int32))).toNatClampNeg (-1 : Int32)) (x2_16 + (1 : Int32)) hf)
              · have hf := ik_pos hc hf
                refine ik_goto C 71 dX7_falls_34 (by decide) ?_
                refine ik_iinc C [(2, .int (x2_16 + (1 : Int32))), (1, .int x1_10), (0, .ref h0)] 0 rfl rfl (by decide) rfl dX7_falls_71 ?_
                refine ik_goto C 16 dX7_falls_74 (by decide) ?_
                exact ik_sub [0, 1, 2] [(2, .int (x2_16 + (1 : Int32))), (1, .int x1_10), (0, .ref h0)] rfl (ih_16 mm_16 (x2_16 + (1 : Int32)) hf)
        exact hL_16 ik_fu mm_10 (0 : Int32) hf
  exact hL_10 ik_fu mm (r1 ||| r2) hf
theorem mv_X7_emptyGo : ik_V yX7_emptyGo RX7 cX7_emptyGo 2 none 0 := ⟨wl_21_7, wl_21_8, wl_1_5, wl_21_9, by decide +kernel⟩
set_option maxHeartbeats 4000000 in
set_option maxRecDepth 100000 in
theorem c_X7_emptyGo (l : Launch) (D : va_G) (cI cS : ClassId) (h0 h1 h2 h3 h4 h5 h6 h7 h8 h9 h10 h11 : Nat) (misKept : Int32) (mtaped : Int32) (msort : Int32) (mfrom : Int32) (mto : Int32) (mvalue : Int32) (mbad : Int32) (mm : Nat → Int32) (mkept : Nat → Int32) (mwas : Nat → Int32) (mother : Nat → Int32) (mfound : Nat → Int32) (mwarm : Nat → Int32) (mdrip : Nat → Int32) (mtape : Nat → Int32) (mbits : Nat → Int32) (msize : Nat → Int32) (mnumber : Nat → Int32) (mm_r : Nat → Int32) (hf : f_X7_emptyGo mm = some (mm_r)) : Met l yX7_emptyGo (ik_ws yX7_emptyGo cX7_emptyGo 2 none) ({ frames := 1, cells := 0, slots := 0, locals := 21 } : Room) (ik_P D cI cS [.ref h0] (wz_X7 cI cS h0 h1 h2 h3 h4 h5 h6 h7 h8 h9 h10 h11 misKept mtaped msort mfrom mto mvalue mbad mm mkept mwas mother mfound mwarm mdrip mtape mbits msize mnumber)) (ik_Q none D (wz_X7 cI cS h0 h1 h2 h3 h4 h5 h6 h7 h8 h9 h10 h11 misKept mtaped msort mfrom mto mvalue mbad mm_r mkept mwas mother mfound mwarm mdrip mtape mbits msize mnumber) (wz_X7 cI cS h0 h1 h2 h3 h4 h5 h6 h7 h8 h9 h10 h11 misKept mtaped msort mfrom mto mvalue mbad mm mkept mwas mother mfound mwarm mdrip mtape mbits msize mnumber)) 0 0 (ik_in (wz_X7 cI cS h0 h1 h2 h3 h4 h5 h6 h7 h8 h9 h10 h11 misKept mtaped msort mfrom mto mvalue mbad mm mkept mwas mother mfound mwarm mdrip mtape mbits msize mnumber)) := by
  refine ik_metW RX7 rfl (by decide) (Nat.le_of_ble_eq_true rfl) [(0, .ref h0)] rfl ?_
  intro p e s m below meth c C hr hlk
  unfold f_X7_emptyGo at hf
  refine ik_iconst (v := (0 : Int32)) C (by decide) dX7_emptyGo_0 ?_
  refine ik_istore_n C [(1, .int (0 : Int32)), (0, .ref h0)] rfl (by decide) rfl dX7_emptyGo_1 ?_
  have hL_2 : ∀ (n_2 : Nat) (mm_2 : Nat → Int32) (x1_2 : Int32), ik_lp2 (b_X7_emptyGo_2) n_2 mm_2 x1_2 = some (mm_r) → ik_G p l e ({ frames := 1, cells := 0, slots := 0, locals := 21 } : Room) s m ([.ref h0] : List Value).toArray below meth c D (ik_in (wz_X7 cI cS h0 h1 h2 h3 h4 h5 h6 h7 h8 h9 h10 h11 misKept mtaped msort mfrom mto mvalue mbad mm mkept mwas mother mfound mwarm mdrip mtape mbits msize mnumber)) (ik_in (wz_X7 cI cS h0 h1 h2 h3 h4 h5 h6 h7 h8 h9 h10 h11 misKept mtaped msort mfrom mto mvalue mbad mm mkept mwas mother mfound mwarm mdrip mtape mbits msize mnumber)) 2 0 0 (MQ below (ik_Q none D (wz_X7 cI cS h0 h1 h2 h3 h4 h5 h6 h7 h8 h9 h10 h11 misKept mtaped msort mfrom mto mvalue mbad mm_r mkept mwas mother mfound mwarm mdrip mtape mbits msize mnumber) (wz_X7 cI cS h0 h1 h2 h3 h4 h5 h6 h7 h8 h9 h10 h11 misKept mtaped msort mfrom mto mvalue mbad mm mkept mwas mother mfound mwarm mdrip mtape mbits msize mnumber)) ([.ref h0] : List Value).toArray s 0 0 (ik_in (wz_X7 cI cS h0 h1 h2 h3 h4 h5 h6 h7 h8 h9 h10 h11 misKept mtaped msort mfrom mto mvalue mbad mm mkept mwas mother mfound mwarm mdrip mtape mbits msize mnumber))) 2 [(1, .int x1_2), (0, .ref h0)] [] (wz_X7 cI cS h0 h1 h2 h3 h4 h5 h6 h7 h8 h9 h10 h11 misKept mtaped msort mfrom mto mvalue mbad mm_2 mkept mwas mother mfound mwarm mdrip mtape mbits msize mnumber) := by
    intro n_2
    induction n_2 with
    | zero => intro _ _ hf; exact nomatch hf
    | succ n_2 ih_2 =>
      intro mm_2 x1_2 hf
      replace hf : b_X7_emptyGo_2 (ik_lp2 (b_X7_emptyGo_2) n_2) mm_2 x1_2 = some (mm_r) := hf
      unfold b_X7_emptyGo_2 at hf
      refine ik_iload_n C 0 rfl rfl dX7_emptyGo_2 ?_
      refine ik_aload_n C 1 rfl rfl dX7_emptyGo_3 ?_
      refine ik_get C inlX7 0 rfl rfl 0 (by decide) wl_4_12 rfl (v := .ref h1) rfl dX7_emptyGo_4 ?_
      refine ik_iconst (v := (5 : Int32)) C (by decide) dX7_emptyGo_7 ?_
      refine ik_iald C 1 rfl (ik_vin (by decide)) dX7_emptyGo_8 ?_
      refine ik_icmp_ge C 40 dX7_emptyGo_9 (by decide) (fun hc => ?_) (fun hc => ?_)
      · have hf := ik_pos hc hf
        obtain rfl := Option.some.inj hf
        exact ik_vretW C hr hlk dX7_emptyGo_40
      · have hf := ik_neg hc hf
        refine ik_aload_n C 1 rfl rfl dX7_emptyGo_12 ?_
        refine ik_iload_n C 0 rfl rfl dX7_emptyGo_13 ?_
        obtain ⟨r1, hc1, hf⟩ := ik_b1s hf
        have hM := (c_X7_grains l D cI cS h0 h1 h2 h3 h4 h5 h6 h7 h8 h9 h10 h11 misKept mtaped msort mfrom mto mvalue mbad mm_2 mkept mwas mother mfound mwarm mdrip mtape mbits msize mnumber x1_2 r1 hc1)
        refine ik_goR (ik_runV (st := []) (As := [.int x1_2]) C hM mv_X7_grains wl_10_1 ⟨rfl, rfl, Nat.le_of_ble_eq_true rfl, Nat.le_of_ble_eq_true rfl⟩ [0, 1, 2, 3, 4, 5, 6, 7, 8, 9, 10, 11] rfl (by decide +kernel) 0 rfl rfl rfl rfl (Nat.le_of_ble_eq_true rfl) dX7_emptyGo_14 ⟨Nat.zero_le _, Nat.zero_le _⟩) rfl ?_
        refine ik_if_ne C 34 dX7_emptyGo_17 (by decide) (fun hc => ?_) (fun hc => ?_)
        · have hf := ik_neg hc hf
          refine ik_iinc C [(1, .int (x1_2 + (1 : Int32))), (0, .ref h0)] 0 rfl rfl (by decide) rfl dX7_emptyGo_34 ?_
          refine ik_goto C 2 dX7_emptyGo_37 (by decide) ?_
          exact ik_sub [0, 1] [(1, .int (x1_2 + (1 : Int32))), (0, .ref h0)] rfl (ih_2 mm_2 (x1_2 + (1 : Int32)) hf)
        · have hf := ik_pos hc hf
          refine ik_aload_n C 1 rfl rfl dX7_emptyGo_20 ?_
          refine ik_get C inlX7 0 rfl rfl 0 (by decide) wl_4_12 rfl (v := .ref h1) rfl dX7_emptyGo_21 ?_
          refine ik_bipush (v := (24 : Int32)) C (by decide) dX7_emptyGo_24 ?_
          refine ik_iconst (v := (3 : Int32)) C (by decide) dX7_emptyGo_26 ?_
          refine ik_iload_n C 0 rfl rfl dX7_emptyGo_27 ?_
          refine ik_imul C dX7_emptyGo_28 ?_
          refine ik_iadd C dX7_emptyGo_29 ?_
          refine ik_iconst (v := (1 : Int32)) C (by decide) dX7_emptyGo_30 ?_
          refine ik_iadd C dX7_emptyGo_31 ?_
          refine ik_iconst (v := (-1 : Int32)) C (by decide) dX7_emptyGo_32 ?_
          have hg := ik_gdi hf
          have hf := ik_gdk hf
          refine ik_iast C 1 rfl hg (wz_X7 cI cS h0 h1 h2 h3 h4 h5 h6 h7 h8 h9 h10 h11 misKept mtaped msort mfrom mto mvalue mbad (upd mm_2 ((((24 : Int32) + ((3 : Int32) * x1_2)) + (1 : Int32))).toNatClampNeg (-1 : Int32)) mkept mwas mother mfound mwarm mdrip mtape mbits msize mnumber) rfl dX7_emptyGo_33 ?_
          refine ik_iinc C [(1, .int (x1_2 + (1 : Int32))), (0, .ref h0)] 0 rfl rfl (by decide) rfl dX7_emptyGo_34 ?_
          refine ik_goto C 2 dX7_emptyGo_37 (by decide) ?_
          exact ik_sub [0, 1] [(1, .int (x1_2 + (1 : Int32))), (0, .ref h0)] rfl (ih_2 (upd mm_2 ((((24 : Int32) + ((3 : Int32) * x1_2)) + (1 : Int32))).toNatClampNeg (-1 : Int32)) (x1_2 + (1 : Int32)) hf)
  exact hL_2 ik_fu mm (0 : Int32) hf
theorem mv_X7_hour : ik_V yX7_hour RX7 cX7_hour 2 none 0 := ⟨wl_20_19, wl_20_20, wl_1_5, wl_20_21, by decide +kernel⟩
set_option maxHeartbeats 4000000 in
set_option maxRecDepth 100000 in
theorem c_X7_hour (l : Launch) (D : va_G) (cI cS : ClassId) (h0 h1 h2 h3 h4 h5 h6 h7 h8 h9 h10 h11 : Nat) (misKept : Int32) (mtaped : Int32) (msort : Int32) (mfrom : Int32) (mto : Int32) (mvalue : Int32) (mbad : Int32) (mm : Nat → Int32) (mkept : Nat → Int32) (mwas : Nat → Int32) (mother : Nat → Int32) (mfound : Nat → Int32) (mwarm : Nat → Int32) (mdrip : Nat → Int32) (mtape : Nat → Int32) (mbits : Nat → Int32) (msize : Nat → Int32) (mnumber : Nat → Int32) (mm_r : Nat → Int32) (mwarm_r : Nat → Int32) (mdrip_r : Nat → Int32) (hf : f_X7_hour mm mwarm mdrip = some (mm_r, mwarm_r, mdrip_r)) : Met l yX7_hour (ik_ws yX7_hour cX7_hour 2 none) ({ frames := 7, cells := 0, slots := 0, locals := 159 } : Room) (ik_P D cI cS [.ref h0] (wz_X7 cI cS h0 h1 h2 h3 h4 h5 h6 h7 h8 h9 h10 h11 misKept mtaped msort mfrom mto mvalue mbad mm mkept mwas mother mfound mwarm mdrip mtape mbits msize mnumber)) (ik_Q none D (wz_X7 cI cS h0 h1 h2 h3 h4 h5 h6 h7 h8 h9 h10 h11 misKept mtaped msort mfrom mto mvalue mbad mm_r mkept mwas mother mfound mwarm_r mdrip_r mtape mbits msize mnumber) (wz_X7 cI cS h0 h1 h2 h3 h4 h5 h6 h7 h8 h9 h10 h11 misKept mtaped msort mfrom mto mvalue mbad mm mkept mwas mother mfound mwarm mdrip mtape mbits msize mnumber)) 0 0 (ik_in (wz_X7 cI cS h0 h1 h2 h3 h4 h5 h6 h7 h8 h9 h10 h11 misKept mtaped msort mfrom mto mvalue mbad mm mkept mwas mother mfound mwarm mdrip mtape mbits msize mnumber)) := by
  refine ik_metW RX7 rfl (by decide) (Nat.le_of_ble_eq_true rfl) [(0, .ref h0)] rfl ?_
  intro p e s m below meth c C hr hlk
  unfold f_X7_hour at hf
  refine ik_iconst (v := (0 : Int32)) C (by decide) dX7_hour_0 ?_
  refine ik_istore_n C [(1, .int (0 : Int32)), (0, .ref h0)] rfl (by decide) rfl dX7_hour_1 ?_
  have hL_2 : ∀ (n_2 : Nat) (mwarm_2 : Nat → Int32) (x1_2 : Int32), ik_lp2 (b_X7_hour_2 mm mdrip) n_2 mwarm_2 x1_2 = some (mm_r, mwarm_r, mdrip_r) → ik_G p l e ({ frames := 7, cells := 0, slots := 0, locals := 159 } : Room) s m ([.ref h0] : List Value).toArray below meth c D (ik_in (wz_X7 cI cS h0 h1 h2 h3 h4 h5 h6 h7 h8 h9 h10 h11 misKept mtaped msort mfrom mto mvalue mbad mm mkept mwas mother mfound mwarm mdrip mtape mbits msize mnumber)) (ik_in (wz_X7 cI cS h0 h1 h2 h3 h4 h5 h6 h7 h8 h9 h10 h11 misKept mtaped msort mfrom mto mvalue mbad mm mkept mwas mother mfound mwarm mdrip mtape mbits msize mnumber)) 2 0 0 (MQ below (ik_Q none D (wz_X7 cI cS h0 h1 h2 h3 h4 h5 h6 h7 h8 h9 h10 h11 misKept mtaped msort mfrom mto mvalue mbad mm_r mkept mwas mother mfound mwarm_r mdrip_r mtape mbits msize mnumber) (wz_X7 cI cS h0 h1 h2 h3 h4 h5 h6 h7 h8 h9 h10 h11 misKept mtaped msort mfrom mto mvalue mbad mm mkept mwas mother mfound mwarm mdrip mtape mbits msize mnumber)) ([.ref h0] : List Value).toArray s 0 0 (ik_in (wz_X7 cI cS h0 h1 h2 h3 h4 h5 h6 h7 h8 h9 h10 h11 misKept mtaped msort mfrom mto mvalue mbad mm mkept mwas mother mfound mwarm mdrip mtape mbits msize mnumber))) 2 [(1, .int x1_2), (0, .ref h0)] [] (wz_X7 cI cS h0 h1 h2 h3 h4 h5 h6 h7 h8 h9 h10 h11 misKept mtaped msort mfrom mto mvalue mbad mm mkept mwas mother mfound mwarm_2 mdrip mtape mbits msize mnumber) := by
    intro n_2
    induction n_2 with
    | zero => intro _ _ hf; exact nomatch hf
    | succ n_2 ih_2 =>
      intro mwarm_2 x1_2 hf
      replace hf : b_X7_hour_2 mm mdrip (ik_lp2 (b_X7_hour_2 mm mdrip) n_2) mwarm_2 x1_2 = some (mm_r, mwarm_r, mdrip_r) := hf
      unfold b_X7_hour_2 at hf
      refine ik_iload_n C 0 rfl rfl dX7_hour_2 ?_
      refine ik_aload_n C 1 rfl rfl dX7_hour_3 ?_
      refine ik_get C inlX7 0 rfl rfl 0 (by decide) wl_4_12 rfl (v := .ref h1) rfl dX7_hour_4 ?_
      refine ik_iconst (v := (5 : Int32)) C (by decide) dX7_hour_7 ?_
      refine ik_iald C 1 rfl (ik_vin (by decide)) dX7_hour_8 ?_
      refine ik_icmp_ge C 45 dX7_hour_9 (by decide) (fun hc => ?_) (fun hc => ?_)
      · have hf := ik_pos hc hf
        refine ik_iconst (v := (0 : Int32)) C (by decide) dX7_hour_45 ?_
        refine ik_istore_n C [(1, .int (0 : Int32)), (0, .ref h0)] rfl (by decide) rfl dX7_hour_46 ?_
        have hL_47 : ∀ (n_47 : Nat) (mdrip_47 : Nat → Int32) (x1_47 : Int32), ik_lp2 (b_X7_hour_47 mm mwarm_2) n_47 mdrip_47 x1_47 = some (mm_r, mwarm_r, mdrip_r) → ik_G p l e ({ frames := 7, cells := 0, slots := 0, locals := 159 } : Room) s m ([.ref h0] : List Value).toArray below meth c D (ik_in (wz_X7 cI cS h0 h1 h2 h3 h4 h5 h6 h7 h8 h9 h10 h11 misKept mtaped msort mfrom mto mvalue mbad mm mkept mwas mother mfound mwarm mdrip mtape mbits msize mnumber)) (ik_in (wz_X7 cI cS h0 h1 h2 h3 h4 h5 h6 h7 h8 h9 h10 h11 misKept mtaped msort mfrom mto mvalue mbad mm mkept mwas mother mfound mwarm mdrip mtape mbits msize mnumber)) 2 0 0 (MQ below (ik_Q none D (wz_X7 cI cS h0 h1 h2 h3 h4 h5 h6 h7 h8 h9 h10 h11 misKept mtaped msort mfrom mto mvalue mbad mm_r mkept mwas mother mfound mwarm_r mdrip_r mtape mbits msize mnumber) (wz_X7 cI cS h0 h1 h2 h3 h4 h5 h6 h7 h8 h9 h10 h11 misKept mtaped msort mfrom mto mvalue mbad mm mkept mwas mother mfound mwarm mdrip mtape mbits msize mnumber)) ([.ref h0] : List Value).toArray s 0 0 (ik_in (wz_X7 cI cS h0 h1 h2 h3 h4 h5 h6 h7 h8 h9 h10 h11 misKept mtaped msort mfrom mto mvalue mbad mm mkept mwas mother mfound mwarm mdrip mtape mbits msize mnumber))) 47 [(1, .int x1_47), (0, .ref h0)] [] (wz_X7 cI cS h0 h1 h2 h3 h4 h5 h6 h7 h8 h9 h10 h11 misKept mtaped msort mfrom mto mvalue mbad mm mkept mwas mother mfound mwarm_2 mdrip_47 mtape mbits msize mnumber) := by
          intro n_47
          induction n_47 with
          | zero => intro _ _ hf; exact nomatch hf
          | succ n_47 ih_47 =>
            intro mdrip_47 x1_47 hf
            replace hf : b_X7_hour_47 mm mwarm_2 (ik_lp2 (b_X7_hour_47 mm mwarm_2) n_47) mdrip_47 x1_47 = some (mm_r, mwarm_r, mdrip_r) := hf
            unfold b_X7_hour_47 at hf
            refine ik_iload_n C 0 rfl rfl dX7_hour_47 ?_
            refine ik_bipush (v := (8 : Int32)) C (by decide) dX7_hour_48 ?_
            refine ik_icmp_ge C 66 dX7_hour_50 (by decide) (fun hc => ?_) (fun hc => ?_)
            · have hf := ik_pos hc hf
              refine ik_iconst (v := (0 : Int32)) C (by decide) dX7_hour_66 ?_
              refine ik_istore_n C [(1, .int (0 : Int32)), (0, .ref h0)] rfl (by decide) rfl dX7_hour_67 ?_
              have hL_68 : ∀ (n_68 : Nat) (mm_68 : Nat → Int32) (mdrip_68 : Nat → Int32) (x1_68 : Int32), ik_lp3 (b_X7_hour_68 mwarm_2) n_68 mm_68 mdrip_68 x1_68 = some (mm_r, mwarm_r, mdrip_r) → ik_G p l e ({ frames := 7, cells := 0, slots := 0, locals := 159 } : Room) s m ([.ref h0] : List Value).toArray below meth c D (ik_in (wz_X7 cI cS h0 h1 h2 h3 h4 h5 h6 h7 h8 h9 h10 h11 misKept mtaped msort mfrom mto mvalue mbad mm mkept mwas mother mfound mwarm mdrip mtape mbits msize mnumber)) (ik_in (wz_X7 cI cS h0 h1 h2 h3 h4 h5 h6 h7 h8 h9 h10 h11 misKept mtaped msort mfrom mto mvalue mbad mm mkept mwas mother mfound mwarm mdrip mtape mbits msize mnumber)) 2 0 0 (MQ below (ik_Q none D (wz_X7 cI cS h0 h1 h2 h3 h4 h5 h6 h7 h8 h9 h10 h11 misKept mtaped msort mfrom mto mvalue mbad mm_r mkept mwas mother mfound mwarm_r mdrip_r mtape mbits msize mnumber) (wz_X7 cI cS h0 h1 h2 h3 h4 h5 h6 h7 h8 h9 h10 h11 misKept mtaped msort mfrom mto mvalue mbad mm mkept mwas mother mfound mwarm mdrip mtape mbits msize mnumber)) ([.ref h0] : List Value).toArray s 0 0 (ik_in (wz_X7 cI cS h0 h1 h2 h3 h4 h5 h6 h7 h8 h9 h10 h11 misKept mtaped msort mfrom mto mvalue mbad mm mkept mwas mother mfound mwarm mdrip mtape mbits msize mnumber))) 68 [(1, .int x1_68), (0, .ref h0)] [] (wz_X7 cI cS h0 h1 h2 h3 h4 h5 h6 h7 h8 h9 h10 h11 misKept mtaped msort mfrom mto mvalue mbad mm_68 mkept mwas mother mfound mwarm_2 mdrip_68 mtape mbits msize mnumber) := by
                intro n_68
                induction n_68 with
                | zero => intro _ _ _ hf; exact nomatch hf
                | succ n_68 ih_68 =>
                  intro mm_68 mdrip_68 x1_68 hf
                  replace hf : b_X7_hour_68 mwarm_2 (ik_lp3 (b_X7_hour_68 mwarm_2) n_68) mm_68 mdrip_68 x1_68 = some (mm_r, mwarm_r, mdrip_r) := hf
                  unfold b_X7_hour_68 at hf
                  refine ik_iload_n C 0 rfl rfl dX7_hour_68 ?_
                  refine ik_aload_n C 1 rfl rfl dX7_hour_69 ?_
                  refine ik_get C inlX7 0 rfl rfl 0 (by decide) wl_4_12 rfl (v := .ref h1) rfl dX7_hour_70 ?_
                  refine ik_iconst (v := (5 : Int32)) C (by decide) dX7_hour_73 ?_
                  refine ik_iald C 1 rfl (ik_vin (by decide)) dX7_hour_74 ?_
                  refine ik_icmp_ge C 97 dX7_hour_75 (by decide) (fun hc => ?_) (fun hc => ?_)
                  · have hf := ik_pos hc hf
                    refine ik_iconst (v := (0 : Int32)) C (by decide) dX7_hour_97 ?_
                    refine ik_istore_n C [(1, .int (0 : Int32)), (0, .ref h0)] rfl (by decide) rfl dX7_hour_98 ?_
                    have hL_99 : ∀ (n_99 : Nat) (mm_99 : Nat → Int32) (x1_99 : Int32), ik_lp2 (b_X7_hour_99 mwarm_2 mdrip_68) n_99 mm_99 x1_99 = some (mm_r, mwarm_r, mdrip_r) → ik_G p l e ({ frames := 7, cells := 0, slots := 0, locals := 159 } : Room) s m ([.ref h0] : List Value).toArray below meth c D (ik_in (wz_X7 cI cS h0 h1 h2 h3 h4 h5 h6 h7 h8 h9 h10 h11 misKept mtaped msort mfrom mto mvalue mbad mm mkept mwas mother mfound mwarm mdrip mtape mbits msize mnumber)) (ik_in (wz_X7 cI cS h0 h1 h2 h3 h4 h5 h6 h7 h8 h9 h10 h11 misKept mtaped msort mfrom mto mvalue mbad mm mkept mwas mother mfound mwarm mdrip mtape mbits msize mnumber)) 2 0 0 (MQ below (ik_Q none D (wz_X7 cI cS h0 h1 h2 h3 h4 h5 h6 h7 h8 h9 h10 h11 misKept mtaped msort mfrom mto mvalue mbad mm_r mkept mwas mother mfound mwarm_r mdrip_r mtape mbits msize mnumber) (wz_X7 cI cS h0 h1 h2 h3 h4 h5 h6 h7 h8 h9 h10 h11 misKept mtaped msort mfrom mto mvalue mbad mm mkept mwas mother mfound mwarm mdrip mtape mbits msize mnumber)) ([.ref h0] : List Value).toArray s 0 0 (ik_in (wz_X7 cI cS h0 h1 h2 h3 h4 h5 h6 h7 h8 h9 h10 h11 misKept mtaped msort mfrom mto mvalue mbad mm mkept mwas mother mfound mwarm mdrip mtape mbits msize mnumber))) 99 [(1, .int x1_99), (0, .ref h0)] [] (wz_X7 cI cS h0 h1 h2 h3 h4 h5 h6 h7 h8 h9 h10 h11 misKept mtaped msort mfrom mto mvalue mbad mm_99 mkept mwas mother mfound mwarm_2 mdrip_68 mtape mbits msize mnumber) := by
                      intro n_99
                      induction n_99 with
                      | zero => intro _ _ hf; exact nomatch hf
                      | succ n_99 ih_99 =>
                        intro mm_99 x1_99 hf
                        replace hf : b_X7_hour_99 mwarm_2 mdrip_68 (ik_lp2 (b_X7_hour_99 mwarm_2 mdrip_68) n_99) mm_99 x1_99 = some (mm_r, mwarm_r, mdrip_r) := hf
                        unfold b_X7_hour_99 at hf
                        refine ik_iload_n C 0 rfl rfl dX7_hour_99 ?_
                        refine ik_bipush (v := (8 : Int32)) C (by decide) dX7_hour_100 ?_
                        refine ik_icmp_ge C 116 dX7_hour_102 (by decide) (fun hc => ?_) (fun hc => ?_)
                        · have hf := ik_pos hc hf
                          refine ik_aload_n C 1 rfl rfl dX7_hour_116 ?_
                          obtain ⟨g1, hc1, hf⟩ := ik_b1s hf
                          have hM := (c_X7_emptyGo l D cI cS h0 h1 h2 h3 h4 h5 h6 h7 h8 h9 h10 h11 misKept mtaped msort mfrom mto mvalue mbad mm_99 mkept mwas mother mfound mwarm_2 mdrip_68 mtape mbits msize mnumber g1 hc1)
                          refine ik_goW (v := none) (wc := (wz_X7 cI cS h0 h1 h2 h3 h4 h5 h6 h7 h8 h9 h10 h11 misKept mtaped msort mfrom mto mvalue mbad mm_99 mkept mwas mother mfound mwarm_2 mdrip_68 mtape mbits msize mnumber)) (w1 := (wz_X7 cI cS h0 h1 h2 h3 h4 h5 h6 h7 h8 h9 h10 h11 misKept mtaped msort mfrom mto mvalue mbad g1 mkept mwas mother mfound mwarm_2 mdrip_68 mtape mbits msize mnumber)) [0, 1, 2, 3, 4, 5, 6, 7, 8, 9, 10, 11] [] 12 rfl rfl (wz_X7 cI cS h0 h1 h2 h3 h4 h5 h6 h7 h8 h9 h10 h11 misKept mtaped msort mfrom mto mvalue mbad g1 mkept mwas mother mfound mwarm_2 mdrip_68 mtape mbits msize mnumber) rfl [] rfl rfl rfl (by decide +kernel) (ik_runV (st := []) (As := []) C hM mv_X7_emptyGo wl_21_6 ⟨rfl, rfl, Nat.le_of_ble_eq_true rfl, Nat.le_of_ble_eq_true rfl⟩ [0, 1, 2, 3, 4, 5, 6, 7, 8, 9, 10, 11] rfl (by decide +kernel) 0 rfl rfl rfl rfl (Nat.le_of_ble_eq_true rfl) dX7_hour_117 ⟨Nat.zero_le _, Nat.zero_le _⟩) rfl ?_
                          refine ik_aload_n C 1 rfl rfl dX7_hour_120 ?_
                          obtain ⟨g2, hc2, hf⟩ := ik_b1s hf
                          have hM := (c_X7_falls l D cI cS h0 h1 h2 h3 h4 h5 h6 h7 h8 h9 h10 h11 misKept mtaped msort mfrom mto mvalue mbad g1 mkept mwas mother mfound mwarm_2 mdrip_68 mtape mbits msize mnumber g2 hc2)
                          refine ik_goW (v := none) (wc := (wz_X7 cI cS h0 h1 h2 h3 h4 h5 h6 h7 h8 h9 h10 h11 misKept mtaped msort mfrom mto mvalue mbad g1 mkept mwas mother mfound mwarm_2 mdrip_68 mtape mbits msize mnumber)) (w1 := (wz_X7 cI cS h0 h1 h2 h3 h4 h5 h6 h7 h8 h9 h10 h11 misKept mtaped msort mfrom mto mvalue mbad g2 mkept mwas mother mfound mwarm_2 mdrip_68 mtape mbits msize mnumber)) [0, 1, 2, 3, 4, 5, 6, 7, 8, 9, 10, 11] [] 12 rfl rfl (wz_X7 cI cS h0 h1 h2 h3 h4 h5 h6 h7 h8 h9 h10 h11 misKept mtaped msort mfrom mto mvalue mbad g2 mkept mwas mother mfound mwarm_2 mdrip_68 mtape mbits msize mnumber) rfl [] rfl rfl rfl (by decide +kernel) (ik_runV (st := []) (As := []) C hM mv_X7_falls wl_21_10 ⟨rfl, rfl, Nat.le_of_ble_eq_true rfl, Nat.le_of_ble_eq_true rfl⟩ [0, 1, 2, 3, 4, 5, 6, 7, 8, 9, 10, 11] rfl (by decide +kernel) 0 rfl rfl rfl rfl (Nat.le_of_ble_eq_true rfl) dX7_hour_121 ⟨Nat.zero_le _, Nat.zero_le _⟩) rfl ?_
                          refine ik_aload_n C 1 rfl rfl dX7_hour_124 ?_
                          refine ik_get C inlX7 0 rfl rfl 0 (by decide) wl_4_12 rfl (v := .ref h1) rfl dX7_hour_125 ?_
                          refine ik_iconst (v := (0 : Int32)) C (by decide) dX7_hour_128 ?_
                          refine ik_dup2 C rfl rfl dX7_hour_129 ?_
                          refine ik_iald C 1 rfl (ik_vin (by decide)) dX7_hour_130 ?_
                          refine ik_iconst (v := (1 : Int32)) C (by decide) dX7_hour_131 ?_
                          refine ik_iadd C dX7_hour_132 ?_
                          refine ik_iast C 1 rfl (ik_vin (by decide)) (wz_X7 cI cS h0 h1 h2 h3 h4 h5 h6 h7 h8 h9 h10 h11 misKept mtaped msort mfrom mto mvalue mbad (upd g2 ((0 : Int32)).toNatClampNeg ((g2 ((0 : Int32)).toNatClampNeg) + (1 : Int32))) mkept mwas mother mfound mwarm_2 mdrip_68 mtape mbits msize mnumber) rfl dX7_hour_133 ?_
                          obtain ⟨rfl, rfl, rfl⟩ := ik_e3 hf
                          exact ik_vretW C hr hlk dX7_hour_134
                        · have hf := ik_neg hc hf
                          refine ik_aload_n C 1 rfl rfl dX7_hour_105 ?_
                          refine ik_iload_n C 0 rfl rfl dX7_hour_106 ?_
                          obtain ⟨g1, hc1, hf⟩ := ik_b1s hf
                          have hM := (c_X7_freezes l D cI cS h0 h1 h2 h3 h4 h5 h6 h7 h8 h9 h10 h11 misKept mtaped msort mfrom mto mvalue mbad mm_99 mkept mwas mother mfound mwarm_2 mdrip_68 mtape mbits msize mnumber x1_99 g1 hc1)
                          refine ik_goW (v := none) (wc := (wz_X7 cI cS h0 h1 h2 h3 h4 h5 h6 h7 h8 h9 h10 h11 misKept mtaped msort mfrom mto mvalue mbad mm_99 mkept mwas mother mfound mwarm_2 mdrip_68 mtape mbits msize mnumber)) (w1 := (wz_X7 cI cS h0 h1 h2 h3 h4 h5 h6 h7 h8 h9 h10 h11 misKept mtaped msort mfrom mto mvalue mbad g1 mkept mwas mother mfound mwarm_2 mdrip_68 mtape mbits msize mnumber)) [0, 1, 2, 3, 4, 5, 6, 7, 8, 9, 10, 11] [] 12 rfl rfl (wz_X7 cI cS h0 h1 h2 h3 h4 h5 h6 h7 h8 h9 h10 h11 misKept mtaped msort mfrom mto mvalue mbad g1 mkept mwas mother mfound mwarm_2 mdrip_68 mtape mbits msize mnumber) rfl [] rfl rfl rfl (by decide +kernel) (ik_runV (st := []) (As := [.int x1_99]) C hM mv_X7_freezes wl_21_2 ⟨rfl, rfl, Nat.le_of_ble_eq_true rfl, Nat.le_of_ble_eq_true rfl⟩ [0, 1, 2, 3, 4, 5, 6, 7, 8, 9, 10, 11] rfl (by decide +kernel) 0 rfl rfl rfl rfl (Nat.le_of_ble_eq_true rfl) dX7_hour_107 ⟨Nat.zero_le _, Nat.zero_le _⟩) rfl ?_
                          refine ik_iinc C [(1, .int (x1_99 + (1 : Int32))), (0, .ref h0)] 0 rfl rfl (by decide) rfl dX7_hour_110 ?_
                          refine ik_goto C 99 dX7_hour_113 (by decide) ?_
                          exact ik_sub [0, 1] [(1, .int (x1_99 + (1 : Int32))), (0, .ref h0)] rfl (ih_99 g1 (x1_99 + (1 : Int32)) hf)
                    exact hL_99 ik_fu mm_68 (0 : Int32) hf
                  · have hf := ik_neg hc hf
                    refine ik_aload_n C 1 rfl rfl dX7_hour_78 ?_
                    refine ik_iload_n C 0 rfl rfl dX7_hour_79 ?_
                    obtain ⟨r1, hc1, hf⟩ := ik_b1s hf
                    have hM := (c_X7_isGone l D cI cS h0 h1 h2 h3 h4 h5 h6 h7 h8 h9 h10 h11 misKept mtaped msort mfrom mto mvalue mbad mm_68 mkept mwas mother mfound mwarm_2 mdrip_68 mtape mbits msize mnumber x1_68 r1 hc1)
                    refine ik_goR (ik_runV (st := []) (As := [.int x1_68]) C hM mv_X7_isGone wl_10_5 ⟨rfl, rfl, Nat.le_of_ble_eq_true rfl, Nat.le_of_ble_eq_true rfl⟩ [0, 1, 2, 3, 4, 5, 6, 7, 8, 9, 10, 11] rfl (by decide +kernel) 0 rfl rfl rfl rfl (Nat.le_of_ble_eq_true rfl) dX7_hour_80 ⟨Nat.zero_le _, Nat.zero_le _⟩) rfl ?_
                    refine ik_if_ne C 91 dX7_hour_83 (by decide) (fun hc => ?_) (fun hc => ?_)
                    · have hf := ik_neg hc hf
                      refine ik_iinc C [(1, .int (x1_68 + (1 : Int32))), (0, .ref h0)] 0 rfl rfl (by decide) rfl dX7_hour_91 ?_
                      refine ik_goto C 68 dX7_hour_94 (by decide) ?_
                      exact ik_sub [0, 1] [(1, .int (x1_68 + (1 : Int32))), (0, .ref h0)] rfl (ih_68 mm_68 mdrip_68 (x1_68 + (1 : Int32)) hf)
                    · have hf := ik_pos hc hf
                      refine ik_aload_n C 1 rfl rfl dX7_hour_86 ?_
                      refine ik_iload_n C 0 rfl rfl dX7_hour_87 ?_
                      obtain ⟨g2, g3, hc3, hf⟩ := ik_b2s hf
                      have hM := (c_X7_melts l D cI cS h0 h1 h2 h3 h4 h5 h6 h7 h8 h9 h10 h11 misKept mtaped msort mfrom mto mvalue mbad mm_68 mkept mwas mother mfound mwarm_2 mdrip_68 mtape mbits msize mnumber x1_68 g2 g3 hc3)
                      refine ik_goW (v := none) (wc := (wz_X7 cI cS h0 h1 h2 h3 h4 h5 h6 h7 h8 h9 h10 h11 misKept mtaped msort mfrom mto mvalue mbad mm_68 mkept mwas mother mfound mwarm_2 mdrip_68 mtape mbits msize mnumber)) (w1 := (wz_X7 cI cS h0 h1 h2 h3 h4 h5 h6 h7 h8 h9 h10 h11 misKept mtaped msort mfrom mto mvalue mbad g2 mkept mwas mother mfound mwarm_2 g3 mtape mbits msize mnumber)) [0, 1, 2, 3, 4, 5, 6, 7, 8, 9, 10, 11] [] 12 rfl rfl (wz_X7 cI cS h0 h1 h2 h3 h4 h5 h6 h7 h8 h9 h10 h11 misKept mtaped msort mfrom mto mvalue mbad g2 mkept mwas mother mfound mwarm_2 g3 mtape mbits msize mnumber) rfl [] rfl rfl rfl (by decide +kernel) (ik_runV (st := []) (As := [.int x1_68]) C hM mv_X7_melts wl_20_22 ⟨rfl, rfl, Nat.le_of_ble_eq_true rfl, Nat.le_of_ble_eq_true rfl⟩ [0, 1, 2, 3, 4, 5, 6, 7, 8, 9, 10, 11] rfl (by decide +kernel) 0 rfl rfl rfl rfl (Nat.le_of_ble_eq_true rfl) dX7_hour_88 ⟨Nat.zero_le _, Nat.zero_le _⟩) rfl ?_
                      refine ik_iinc C [(1, .int (x1_68 + (1 : Int32))), (0, .ref h0)] 0 rfl rfl (by decide) rfl dX7_hour_91 ?_
                      refine ik_goto C 68 dX7_hour_94 (by decide) ?_
                      exact ik_sub [0, 1] [(1, .int (x1_68 + (1 : Int32))), (0, .ref h0)] rfl (ih_68 g2 g3 (x1_68 + (1 : Int32)) hf)
              exact hL_68 ik_fu mm mdrip_47 (0 : Int32) hf
            · have hf := ik_neg hc hf
              refine ik_aload_n C 1 rfl rfl dX7_hour_53 ?_
              refine ik_get C inlX7 0 rfl rfl 7 (by decide) wl_4_18 rfl (v := .ref h7) rfl dX7_hour_54 ?_
              refine ik_iload_n C 0 rfl rfl dX7_hour_57 ?_
              refine ik_iconst (v := (0 : Int32)) C (by decide) dX7_hour_58 ?_
              have hg := ik_gdi hf
              have hf := ik_gdk hf
              refine ik_iast C 7 rfl hg (wz_X7 cI cS h0 h1 h2 h3 h4 h5 h6 h7 h8 h9 h10 h11 misKept mtaped msort mfrom mto mvalue mbad mm mkept mwas mother mfound mwarm_2 (upd mdrip_47 (x1_47).toNatClampNeg (0 : Int32)) mtape mbits msize mnumber) rfl dX7_hour_59 ?_
              refine ik_iinc C [(1, .int (x1_47 + (1 : Int32))), (0, .ref h0)] 0 rfl rfl (by decide) rfl dX7_hour_60 ?_
              refine ik_goto C 47 dX7_hour_63 (by decide) ?_
              exact ik_sub [0, 1] [(1, .int (x1_47 + (1 : Int32))), (0, .ref h0)] rfl (ih_47 (upd mdrip_47 (x1_47).toNatClampNeg (0 : Int32)) (x1_47 + (1 : Int32)) hf)
        exact hL_47 ik_fu mdrip (0 : Int32) hf
      · have hf := ik_neg hc hf
        refine ik_aload_n C 1 rfl rfl dX7_hour_12 ?_
        refine ik_get C inlX7 0 rfl rfl 6 (by decide) wl_4_17 rfl (v := .ref h6) rfl dX7_hour_13 ?_
        refine ik_iload_n C 0 rfl rfl dX7_hour_16 ?_
        refine ik_aload_n C 1 rfl rfl dX7_hour_17 ?_
        refine ik_iload_n C 0 rfl rfl dX7_hour_18 ?_
        obtain ⟨r1, hc1, hf⟩ := ik_b1s hf
        have hM := (c_X7_isGone l D cI cS h0 h1 h2 h3 h4 h5 h6 h7 h8 h9 h10 h11 misKept mtaped msort mfrom mto mvalue mbad mm mkept mwas mother mfound mwarm_2 mdrip mtape mbits msize mnumber x1_2 r1 hc1)
        refine ik_goR (ik_runV (st := [.int x1_2, .ref h6]) (As := [.int x1_2]) C hM mv_X7_isGone wl_10_5 ⟨rfl, rfl, Nat.le_of_ble_eq_true rfl, Nat.le_of_ble_eq_true rfl⟩ [0, 1, 2, 3, 4, 5, 6, 7, 8, 9, 10, 11] rfl (by decide +kernel) 0 rfl rfl rfl rfl (Nat.le_of_ble_eq_true rfl) dX7_hour_19 ⟨Nat.zero_le _, Nat.zero_le _⟩) rfl ?_
        refine ik_if_eq C 29 dX7_hour_22 (by decide) (fun hc => ?_) (fun hc => ?_)
        · have hf := ik_pos hc hf
          refine ik_aload_n C 1 rfl rfl dX7_hour_29 ?_
          refine ik_aload_n C 1 rfl rfl dX7_hour_30 ?_
          refine ik_iload_n C 0 rfl rfl dX7_hour_31 ?_
          obtain ⟨r2, hc2, hf⟩ := ik_b1s hf
          have hM := (c_X7_cellOf l D cI cS h0 h1 h2 h3 h4 h5 h6 h7 h8 h9 h10 h11 misKept mtaped msort mfrom mto mvalue mbad mm mkept mwas mother mfound mwarm_2 mdrip mtape mbits msize mnumber x1_2 r2 hc2)
          refine ik_goR (ik_runV (st := [.ref h0, .int x1_2, .ref h6]) (As := [.int x1_2]) C hM mv_X7_cellOf wl_7_16 ⟨rfl, rfl, Nat.le_of_ble_eq_true rfl, Nat.le_of_ble_eq_true rfl⟩ [0, 1, 2, 3, 4, 5, 6, 7, 8, 9, 10, 11] rfl (by decide +kernel) 0 rfl rfl rfl rfl (Nat.le_of_ble_eq_true rfl) dX7_hour_32 ⟨Nat.zero_le _, Nat.zero_le _⟩) rfl ?_
          obtain ⟨r3, hc3, hf⟩ := ik_b1s hf
          have hM := (c_X7_warmthOf l D cI cS h0 h1 h2 h3 h4 h5 h6 h7 h8 h9 h10 h11 misKept mtaped msort mfrom mto mvalue mbad mm mkept mwas mother mfound mwarm_2 mdrip mtape mbits msize mnumber r2 r3 hc3)
          refine ik_goR (ik_runV (st := [.int x1_2, .ref h6]) (As := [.int r2]) C hM mv_X7_warmthOf wl_14_12 ⟨rfl, rfl, Nat.le_of_ble_eq_true rfl, Nat.le_of_ble_eq_true rfl⟩ [0, 1, 2, 3, 4, 5, 6, 7, 8, 9, 10, 11] rfl (by decide +kernel) 0 rfl rfl rfl rfl (Nat.le_of_ble_eq_true rfl) dX7_hour_35 ⟨Nat.zero_le _, Nat.zero_le _⟩) rfl ?_
          have hg := ik_gdi hf
          have hf := ik_gdk hf
          refine ik_iast C 6 rfl hg (wz_X7 cI cS h0 h1 h2 h3 h4 h5 h6 h7 h8 h9 h10 h11 misKept mtaped msort mfrom mto mvalue mbad mm mkept mwas mother mfound (upd mwarm_2 (x1_2).toNatClampNeg r3) mdrip mtape mbits msize mnumber) rfl dX7_hour_38 ?_
          refine ik_iinc C [(1, .int (x1_2 + (1 : Int32))), (0, .ref h0)] 0 rfl rfl (by decide) rfl dX7_hour_39 ?_
          refine ik_goto C 2 dX7_hour_42 (by decide) ?_
          exact ik_sub [0, 1] [(1, .int (x1_2 + (1 : Int32))), (0, .ref h0)] rfl (ih_2 (upd mwarm_2 (x1_2).toNatClampNeg r3) (x1_2 + (1 : Int32)) hf)
        · have hf := ik_neg hc hf
          refine ik_iconst (v := (0 : Int32)) C (by decide) dX7_hour_25 ?_
          refine ik_goto C 38 dX7_hour_26 (by decide) ?_
          have hg := ik_gdi hf
          have hf := ik_gdk hf
          refine ik_iast C 6 rfl hg (wz_X7 cI cS h0 h1 h2 h3 h4 h5 h6 h7 h8 h9 h10 h11 misKept mtaped msort mfrom mto mvalue mbad mm mkept mwas mother mfound (upd mwarm_2 (x1_2).toNatClampNeg (0 : Int32)) mdrip mtape mbits msize mnumber) rfl dX7_hour_38 ?_
          refine ik_iinc C [(1, .int (x1_2 + (1 : Int32))), (0, .ref h0)] 0 rfl rfl (by decide) rfl dX7_hour_39 ?_
          refine ik_goto C 2 dX7_hour_42 (by decide) ?_
          exact ik_sub [0, 1] [(1, .int (x1_2 + (1 : Int32))), (0, .ref h0)] rfl (ih_2 (upd mwarm_2 (x1_2).toNatClampNeg (0 : Int32)) (x1_2 + (1 : Int32)) hf)
  exact hL_2 ik_fu mwarm (0 : Int32) hf
theorem mv_X7_goneNow : ik_V yX7_goneNow RX7 cX7_goneNow 3 (some .int) 0 := ⟨wl_20_15, wl_20_16, wl_1_5, wl_20_17, by decide +kernel⟩
set_option maxHeartbeats 4000000 in
set_option maxRecDepth 100000 in
theorem c_X7_goneNow (l : Launch) (D : va_G) (cI cS : ClassId) (h0 h1 h2 h3 h4 h5 h6 h7 h8 h9 h10 h11 : Nat) (misKept : Int32) (mtaped : Int32) (msort : Int32) (mfrom : Int32) (mto : Int32) (mvalue : Int32) (mbad : Int32) (mm : Nat → Int32) (mkept : Nat → Int32) (mwas : Nat → Int32) (mother : Nat → Int32) (mfound : Nat → Int32) (mwarm : Nat → Int32) (mdrip : Nat → Int32) (mtape : Nat → Int32) (mbits : Nat → Int32) (msize : Nat → Int32) (mnumber : Nat → Int32) (R : Int32) (hf : f_X7_goneNow mm = some (R)) : Met l yX7_goneNow (ik_ws yX7_goneNow cX7_goneNow 3 (some .int)) ({ frames := 2, cells := 0, slots := 0, locals := 42 } : Room) (ik_P D cI cS [.ref h0] (wz_X7 cI cS h0 h1 h2 h3 h4 h5 h6 h7 h8 h9 h10 h11 misKept mtaped msort mfrom mto mvalue mbad mm mkept mwas mother mfound mwarm mdrip mtape mbits msize mnumber)) (ik_R (some (.int R))) 0 0 ik_no := by
  refine ik_metR RX7 rfl (by decide) (Nat.le_of_ble_eq_true rfl) [(0, .ref h0)] rfl ?_
  intro p e s m below meth c C hr hlk
  unfold f_X7_goneNow at hf
  refine ik_iconst (v := (0 : Int32)) C (by decide) dX7_goneNow_0 ?_
  refine ik_istore_n C [(1, .int (0 : Int32)), (0, .ref h0)] rfl (by decide) rfl dX7_goneNow_1 ?_
  refine ik_iconst (v := (0 : Int32)) C (by decide) dX7_goneNow_2 ?_
  refine ik_istore_n C [(2, .int (0 : Int32)), (1, .int (0 : Int32)), (0, .ref h0)] rfl (by decide) rfl dX7_goneNow_3 ?_
  have hL_4 : ∀ (n_4 : Nat) (x1_4 : Int32) (x2_4 : Int32), ik_lp2 (b_X7_goneNow_4 mm) n_4 x1_4 x2_4 = some (R) → ik_G p l e ({ frames := 2, cells := 0, slots := 0, locals := 42 } : Room) s m ([.ref h0] : List Value).toArray below meth c D ik_no (fun _ => True) 3 0 0 (MQ below (ik_R (some (.int R))) ([.ref h0] : List Value).toArray s 0 0 ik_no) 4 [(2, .int x2_4), (1, .int x1_4), (0, .ref h0)] [] (wz_X7 cI cS h0 h1 h2 h3 h4 h5 h6 h7 h8 h9 h10 h11 misKept mtaped msort mfrom mto mvalue mbad mm mkept mwas mother mfound mwarm mdrip mtape mbits msize mnumber) := by
    intro n_4
    induction n_4 with
    | zero => intro _ _ hf; exact nomatch hf
    | succ n_4 ih_4 =>
      intro x1_4 x2_4 hf
      replace hf : b_X7_goneNow_4 mm (ik_lp2 (b_X7_goneNow_4 mm) n_4) x1_4 x2_4 = some (R) := hf
      unfold b_X7_goneNow_4 at hf
      refine ik_iload_n C 0 rfl rfl dX7_goneNow_4 ?_
      refine ik_aload_n C 2 rfl rfl dX7_goneNow_5 ?_
      refine ik_get C inlX7 0 rfl rfl 0 (by decide) wl_4_12 rfl (v := .ref h1) rfl dX7_goneNow_6 ?_
      refine ik_iconst (v := (5 : Int32)) C (by decide) dX7_goneNow_9 ?_
      refine ik_iald C 1 rfl (ik_vin (by decide)) dX7_goneNow_10 ?_
      refine ik_icmp_ge C 38 dX7_goneNow_11 (by decide) (fun hc => ?_) (fun hc => ?_)
      · have hf := ik_pos hc hf
        refine ik_iload_n C 1 rfl rfl dX7_goneNow_38 ?_
        obtain rfl := Option.some.inj hf
        exact ik_iretR C hr hlk dX7_goneNow_39
      · have hf := ik_neg hc hf
        refine ik_iload_n C 1 rfl rfl dX7_goneNow_14 ?_
        refine ik_aload_n C 2 rfl rfl dX7_goneNow_15 ?_
        refine ik_iload_n C 0 rfl rfl dX7_goneNow_16 ?_
        obtain ⟨r1, hc1, hf⟩ := ik_b1s hf
        have hM := (c_X7_isGone l D cI cS h0 h1 h2 h3 h4 h5 h6 h7 h8 h9 h10 h11 misKept mtaped msort mfrom mto mvalue mbad mm mkept mwas mother mfound mwarm mdrip mtape mbits msize mnumber x2_4 r1 hc1)
        refine ik_goR (ik_runV (st := [.int x1_4]) (As := [.int x2_4]) C hM mv_X7_isGone wl_10_5 ⟨rfl, rfl, Nat.le_of_ble_eq_true rfl, Nat.le_of_ble_eq_true rfl⟩ [0, 1, 2, 3, 4, 5, 6, 7, 8, 9, 10, 11] rfl (by decide +kernel) 0 rfl rfl rfl rfl (Nat.le_of_ble_eq_true rfl) dX7_goneNow_17 ⟨Nat.zero_le _, Nat.zero_le _⟩) rfl ?_
        refine ik_if_eq C 29 dX7_goneNow_20 (by decide) (fun hc => ?_) (fun hc => ?_)
        · have hf := ik_pos hc hf
          refine ik_iconst (v := (0 : Int32)) C (by decide) dX7_goneNow_29 ?_
          refine ik_ior C dX7_goneNow_30 ?_
          refine ik_istore_n C [(1, .int (x1_4 ||| (0 : Int32))), (2, .int x2_4), (0, .ref h0)] rfl (by decide) rfl dX7_goneNow_31 ?_
          refine ik_iinc C [(2, .int (x2_4 + (1 : Int32))), (1, .int (x1_4 ||| (0 : Int32))), (0, .ref h0)] 1 rfl rfl (by decide) rfl dX7_goneNow_32 ?_
          refine ik_goto C 4 dX7_goneNow_35 (by decide) ?_
          exact ik_sub [0, 1, 2] [(2, .int (x2_4 + (1 : Int32))), (1, .int (x1_4 ||| (0 : Int32))), (0, .ref h0)] rfl (ih_4 (x1_4 ||| (0 : Int32)) (x2_4 + (1 : Int32)) hf)
        · have hf := ik_neg hc hf
          refine ik_iconst (v := (1 : Int32)) C (by decide) dX7_goneNow_23 ?_
          refine ik_iload_n C 0 rfl rfl dX7_goneNow_24 ?_
          refine ik_ishl C dX7_goneNow_25 ?_
          refine ik_goto C 30 dX7_goneNow_26 (by decide) ?_
          refine ik_ior C dX7_goneNow_30 ?_
          refine ik_istore_n C [(1, .int (x1_4 ||| ((1 : Int32) <<< (x2_4 &&& 31)))), (2, .int x2_4), (0, .ref h0)] rfl (by decide) rfl dX7_goneNow_31 ?_
          refine ik_iinc C [(2, .int (x2_4 + (1 : Int32))), (1, .int (x1_4 ||| ((1 : Int32) <<< (x2_4 &&& 31)))), (0, .ref h0)] 1 rfl rfl (by decide) rfl dX7_goneNow_32 ?_
          refine ik_goto C 4 dX7_goneNow_35 (by decide) ?_
          exact ik_sub [0, 1, 2] [(2, .int (x2_4 + (1 : Int32))), (1, .int (x1_4 ||| ((1 : Int32) <<< (x2_4 &&& 31)))), (0, .ref h0)] rfl (ih_4 (x1_4 ||| ((1 : Int32) <<< (x2_4 &&& 31))) (x2_4 + (1 : Int32)) hf)
  exact hL_4 ik_fu (0 : Int32) (0 : Int32) hf
theorem mv_X7_hours : ik_V yX7_hours RX7 cX7_hours 4 (some .int) 1 := ⟨wl_20_10, wl_20_11, wl_1_5, wl_20_12, by decide +kernel⟩
set_option maxHeartbeats 4000000 in
set_option maxRecDepth 100000 in
theorem c_X7_hours (l : Launch) (D : va_G) (cI cS : ClassId) (h0 h1 h2 h3 h4 h5 h6 h7 h8 h9 h10 h11 : Nat) (misKept : Int32) (mtaped : Int32) (msort : Int32) (mfrom : Int32) (mto : Int32) (mvalue : Int32) (mbad : Int32) (mm : Nat → Int32) (mkept : Nat → Int32) (mwas : Nat → Int32) (mother : Nat → Int32) (mfound : Nat → Int32) (mwarm : Nat → Int32) (mdrip : Nat → Int32) (mtape : Nat → Int32) (mbits : Nat → Int32) (msize : Nat → Int32) (mnumber : Nat → Int32) (x1 : Int32) (R : Int32) (mm_r : Nat → Int32) (mfound_r : Nat → Int32) (mwarm_r : Nat → Int32) (mdrip_r : Nat → Int32) (hf : f_X7_hours mm mfound mwarm mdrip x1 = some (R, mm_r, mfound_r, mwarm_r, mdrip_r)) : Met l yX7_hours (ik_ws yX7_hours cX7_hours 4 (some .int)) ({ frames := 8, cells := 0, slots := 0, locals := 180 } : Room) (ik_P D cI cS [.ref h0, .int x1] (wz_X7 cI cS h0 h1 h2 h3 h4 h5 h6 h7 h8 h9 h10 h11 misKept mtaped msort mfrom mto mvalue mbad mm mkept mwas mother mfound mwarm mdrip mtape mbits msize mnumber)) (ik_Q (some (.int R)) D (wz_X7 cI cS h0 h1 h2 h3 h4 h5 h6 h7 h8 h9 h10 h11 misKept mtaped msort mfrom mto mvalue mbad mm_r mkept mwas mother mfound_r mwarm_r mdrip_r mtape mbits msize mnumber) (wz_X7 cI cS h0 h1 h2 h3 h4 h5 h6 h7 h8 h9 h10 h11 misKept mtaped msort mfrom mto mvalue mbad mm mkept mwas mother mfound mwarm mdrip mtape mbits msize mnumber)) 0 0 (ik_in (wz_X7 cI cS h0 h1 h2 h3 h4 h5 h6 h7 h8 h9 h10 h11 misKept mtaped msort mfrom mto mvalue mbad mm mkept mwas mother mfound mwarm mdrip mtape mbits msize mnumber)) := by
  refine ik_metW RX7 rfl (by decide) (Nat.le_of_ble_eq_true rfl) [(0, .ref h0), (1, .int x1)] rfl ?_
  intro p e s m below meth c C hr hlk
  unfold f_X7_hours at hf
  refine ik_iload_n C 1 rfl rfl dX7_hours_0 ?_
  refine ik_i2l C dX7_hours_1 ?_
  refine ik_lconst (v := (1 : Int64)) C (by decide) dX7_hours_2 ?_
  refine ik_ldc2 C wl_20_13 dX7_hours_3 ?_
  obtain ⟨r1, hc1, hf⟩ := ik_b1s hf
  have hM := (c_X7_in l D cI cS (x1).toInt64 (1 : Int64) (48 : Int64) r1 hc1)
  refine ik_goR (ik_runS (st := []) (As := [.long (x1).toInt64, .long (1 : Int64), .long (48 : Int64)]) C hM ms_X7_in wl_6_21 ⟨rfl, rfl, Nat.le_of_ble_eq_true rfl, Nat.le_of_ble_eq_true rfl⟩ [] rfl (by decide +kernel) rfl rfl (Nat.le_of_ble_eq_true rfl) dX7_hours_6 ⟨Nat.zero_le _, Nat.zero_le _⟩) rfl ?_
  refine ik_if_ne C 19 dX7_hours_9 (by decide) (fun hc => ?_) (fun hc => ?_)
  · have hf := ik_neg hc hf
    refine ik_aload_n C 0 rfl rfl dX7_hours_19 ?_
    refine ik_get C inlX7 0 rfl rfl 0 (by decide) wl_4_12 rfl (v := .ref h1) rfl dX7_hours_20 ?_
    refine ik_iconst (v := (0 : Int32)) C (by decide) dX7_hours_23 ?_
    refine ik_iald C 1 rfl (ik_vin (by decide)) dX7_hours_24 ?_
    refine ik_iload_n C 1 rfl rfl dX7_hours_25 ?_
    refine ik_iadd C dX7_hours_26 ?_
    refine ik_sipush (v := (9999 : Int32)) C (by decide) dX7_hours_27 ?_
    refine ik_icmp_le C 40 dX7_hours_30 (by decide) (fun hc => ?_) (fun hc => ?_)
    · have hf := ik_pos hc hf
      refine ik_aload_n C 0 rfl rfl dX7_hours_40 ?_
      obtain ⟨r2, hc2, hf⟩ := ik_b1s hf
      have hM := (c_X7_goneNow l D cI cS h0 h1 h2 h3 h4 h5 h6 h7 h8 h9 h10 h11 misKept mtaped msort mfrom mto mvalue mbad mm mkept mwas mother mfound mwarm mdrip mtape mbits msize mnumber r2 hc2)
      refine ik_goR (ik_runV (st := []) (As := []) C hM mv_X7_goneNow wl_20_14 ⟨rfl, rfl, Nat.le_of_ble_eq_true rfl, Nat.le_of_ble_eq_true rfl⟩ [0, 1, 2, 3, 4, 5, 6, 7, 8, 9, 10, 11] rfl (by decide +kernel) 0 rfl rfl rfl rfl (Nat.le_of_ble_eq_true rfl) dX7_hours_41 ⟨Nat.zero_le _, Nat.zero_le _⟩) rfl ?_
      refine ik_istore_n C [(2, .int r2), (0, .ref h0), (1, .int x1)] rfl (by decide) rfl dX7_hours_44 ?_
      refine ik_iconst (v := (0 : Int32)) C (by decide) dX7_hours_45 ?_
      refine ik_istore_n C [(3, .int (0 : Int32)), (2, .int r2), (0, .ref h0), (1, .int x1)] rfl (by decide) rfl dX7_hours_46 ?_
      have hL_47 : ∀ (n_47 : Nat) (mm_47 : Nat → Int32) (mwarm_47 : Nat → Int32) (mdrip_47 : Nat → Int32) (x3_47 : Int32), ik_lp4 (b_X7_hours_47 mfound x1 r2) n_47 mm_47 mwarm_47 mdrip_47 x3_47 = some (R, mm_r, mfound_r, mwarm_r, mdrip_r) → ik_G p l e ({ frames := 8, cells := 0, slots := 0, locals := 180 } : Room) s m ([.ref h0, .int x1] : List Value).toArray below meth c D (ik_in (wz_X7 cI cS h0 h1 h2 h3 h4 h5 h6 h7 h8 h9 h10 h11 misKept mtaped msort mfrom mto mvalue mbad mm mkept mwas mother mfound mwarm mdrip mtape mbits msize mnumber)) (ik_in (wz_X7 cI cS h0 h1 h2 h3 h4 h5 h6 h7 h8 h9 h10 h11 misKept mtaped msort mfrom mto mvalue mbad mm mkept mwas mother mfound mwarm mdrip mtape mbits msize mnumber)) 4 0 0 (MQ below (ik_Q (some (.int R)) D (wz_X7 cI cS h0 h1 h2 h3 h4 h5 h6 h7 h8 h9 h10 h11 misKept mtaped msort mfrom mto mvalue mbad mm_r mkept mwas mother mfound_r mwarm_r mdrip_r mtape mbits msize mnumber) (wz_X7 cI cS h0 h1 h2 h3 h4 h5 h6 h7 h8 h9 h10 h11 misKept mtaped msort mfrom mto mvalue mbad mm mkept mwas mother mfound mwarm mdrip mtape mbits msize mnumber)) ([.ref h0, .int x1] : List Value).toArray s 0 0 (ik_in (wz_X7 cI cS h0 h1 h2 h3 h4 h5 h6 h7 h8 h9 h10 h11 misKept mtaped msort mfrom mto mvalue mbad mm mkept mwas mother mfound mwarm mdrip mtape mbits msize mnumber))) 47 [(3, .int x3_47), (2, .int r2), (0, .ref h0), (1, .int x1)] [] (wz_X7 cI cS h0 h1 h2 h3 h4 h5 h6 h7 h8 h9 h10 h11 misKept mtaped msort mfrom mto mvalue mbad mm_47 mkept mwas mother mfound mwarm_47 mdrip_47 mtape mbits msize mnumber) := by
        intro n_47
        induction n_47 with
        | zero => intro _ _ _ _ hf; exact nomatch hf
        | succ n_47 ih_47 =>
          intro mm_47 mwarm_47 mdrip_47 x3_47 hf
          replace hf : b_X7_hours_47 mfound x1 r2 (ik_lp4 (b_X7_hours_47 mfound x1 r2) n_47) mm_47 mwarm_47 mdrip_47 x3_47 = some (R, mm_r, mfound_r, mwarm_r, mdrip_r) := hf
          unfold b_X7_hours_47 at hf
          refine ik_iload_n C 0 rfl rfl dX7_hours_47 ?_
          refine ik_iload_n C 3 rfl rfl dX7_hours_48 ?_
          refine ik_icmp_ge C 62 dX7_hours_49 (by decide) (fun hc => ?_) (fun hc => ?_)
          · have hf := ik_pos hc hf
            refine ik_aload_n C 2 rfl rfl dX7_hours_62 ?_
            obtain ⟨r3, hc3, hf⟩ := ik_b1s hf
            have hM := (c_X7_goneNow l D cI cS h0 h1 h2 h3 h4 h5 h6 h7 h8 h9 h10 h11 misKept mtaped msort mfrom mto mvalue mbad mm_47 mkept mwas mother mfound mwarm_47 mdrip_47 mtape mbits msize mnumber r3 hc3)
            refine ik_goR (ik_runV (st := []) (As := []) C hM mv_X7_goneNow wl_20_14 ⟨rfl, rfl, Nat.le_of_ble_eq_true rfl, Nat.le_of_ble_eq_true rfl⟩ [0, 1, 2, 3, 4, 5, 6, 7, 8, 9, 10, 11] rfl (by decide +kernel) 0 rfl rfl rfl rfl (Nat.le_of_ble_eq_true rfl) dX7_hours_63 ⟨Nat.zero_le _, Nat.zero_le _⟩) rfl ?_
            refine ik_iload_n C 1 rfl rfl dX7_hours_66 ?_
            refine ik_iconst (v := (-1 : Int32)) C (by decide) dX7_hours_67 ?_
            refine ik_ixor C dX7_hours_68 ?_
            refine ik_iand C dX7_hours_69 ?_
            obtain ⟨r4, hc4, hf⟩ := ik_b1s hf
            have hM := (c_X7_many l D cI cS (r3 &&& (r2 ^^^ (-1 : Int32))) r4 hc4)
            refine ik_goR (ik_runS (st := []) (As := [.int (r3 &&& (r2 ^^^ (-1 : Int32)))]) C hM ms_X7_many wl_21_22 ⟨rfl, rfl, Nat.le_of_ble_eq_true rfl, Nat.le_of_ble_eq_true rfl⟩ [] rfl (by decide +kernel) rfl rfl (Nat.le_of_ble_eq_true rfl) dX7_hours_70 ⟨Nat.zero_le _, Nat.zero_le _⟩) rfl ?_
            obtain ⟨rfl, rfl, rfl, rfl, rfl⟩ := ik_e5 hf
            exact ik_iretW C hr hlk dX7_hours_73
          · have hf := ik_neg hc hf
            refine ik_aload_n C 2 rfl rfl dX7_hours_52 ?_
            obtain ⟨g3, g4, g5, hc5, hf⟩ := ik_b3s hf
            have hM := (c_X7_hour l D cI cS h0 h1 h2 h3 h4 h5 h6 h7 h8 h9 h10 h11 misKept mtaped msort mfrom mto mvalue mbad mm_47 mkept mwas mother mfound mwarm_47 mdrip_47 mtape mbits msize mnumber g3 g4 g5 hc5)
            refine ik_goW (v := none) (wc := (wz_X7 cI cS h0 h1 h2 h3 h4 h5 h6 h7 h8 h9 h10 h11 misKept mtaped msort mfrom mto mvalue mbad mm_47 mkept mwas mother mfound mwarm_47 mdrip_47 mtape mbits msize mnumber)) (w1 := (wz_X7 cI cS h0 h1 h2 h3 h4 h5 h6 h7 h8 h9 h10 h11 misKept mtaped msort mfrom mto mvalue mbad g3 mkept mwas mother mfound g4 g5 mtape mbits msize mnumber)) [0, 1, 2, 3, 4, 5, 6, 7, 8, 9, 10, 11] [] 12 rfl rfl (wz_X7 cI cS h0 h1 h2 h3 h4 h5 h6 h7 h8 h9 h10 h11 misKept mtaped msort mfrom mto mvalue mbad g3 mkept mwas mother mfound g4 g5 mtape mbits msize mnumber) rfl [] rfl rfl rfl (by decide +kernel) (ik_runV (st := []) (As := []) C hM mv_X7_hour wl_20_18 ⟨rfl, rfl, Nat.le_of_ble_eq_true rfl, Nat.le_of_ble_eq_true rfl⟩ [0, 1, 2, 3, 4, 5, 6, 7, 8, 9, 10, 11] rfl (by decide +kernel) 0 rfl rfl rfl rfl (Nat.le_of_ble_eq_true rfl) dX7_hours_53 ⟨Nat.zero_le _, Nat.zero_le _⟩) rfl ?_
            refine ik_iinc C [(3, .int (x3_47 + (1 : Int32))), (2, .int r2), (0, .ref h0), (1, .int x1)] 0 rfl rfl (by decide) rfl dX7_hours_56 ?_
            refine ik_goto C 47 dX7_hours_59 (by decide) ?_
            exact ik_sub [0, 1, 2, 3] [(3, .int (x3_47 + (1 : Int32))), (2, .int r2), (0, .ref h0), (1, .int x1)] rfl (ih_47 g3 g4 g5 (x3_47 + (1 : Int32)) hf)
      exact hL_47 ik_fu mm mwarm mdrip (0 : Int32) hf
    · have hf := ik_neg hc hf
      refine ik_aload_n C 0 rfl rfl dX7_hours_33 ?_
      refine ik_ldc C wl_6_16 dX7_hours_34 ?_
      obtain ⟨r2, g3, hc3, hf⟩ := ik_b2s hf
      have hM := (c_X7_finds l D cI cS h0 h1 h2 h3 h4 h5 h6 h7 h8 h9 h10 h11 misKept mtaped msort mfrom mto mvalue mbad mm mkept mwas mother mfound mwarm mdrip mtape mbits msize mnumber (-1000005 : Int32) r2 g3 hc3)
      refine ik_goW (v := (some (.int r2))) (wc := (wz_X7 cI cS h0 h1 h2 h3 h4 h5 h6 h7 h8 h9 h10 h11 misKept mtaped msort mfrom mto mvalue mbad mm mkept mwas mother mfound mwarm mdrip mtape mbits msize mnumber)) (w1 := (wz_X7 cI cS h0 h1 h2 h3 h4 h5 h6 h7 h8 h9 h10 h11 misKept mtaped msort mfrom mto mvalue mbad mm mkept mwas mother g3 mwarm mdrip mtape mbits msize mnumber)) [0, 1, 2, 3, 4, 5, 6, 7, 8, 9, 10, 11] [] 12 rfl rfl (wz_X7 cI cS h0 h1 h2 h3 h4 h5 h6 h7 h8 h9 h10 h11 misKept mtaped msort mfrom mto mvalue mbad mm mkept mwas mother g3 mwarm mdrip mtape mbits msize mnumber) rfl [] rfl rfl rfl (by decide +kernel) (ik_runV (st := []) (As := [.int (-1000005 : Int32)]) C hM mv_X7_finds wl_7_8 ⟨rfl, rfl, Nat.le_of_ble_eq_true rfl, Nat.le_of_ble_eq_true rfl⟩ [0, 1, 2, 3, 4, 5, 6, 7, 8, 9, 10, 11] rfl (by decide +kernel) 0 rfl rfl rfl rfl (Nat.le_of_ble_eq_true rfl) dX7_hours_36 ⟨Nat.zero_le _, Nat.zero_le _⟩) rfl ?_
      obtain ⟨rfl, rfl, rfl, rfl, rfl⟩ := ik_e5 hf
      exact ik_iretW C hr hlk dX7_hours_39
  · have hf := ik_pos hc hf
    refine ik_aload_n C 0 rfl rfl dX7_hours_12 ?_
    refine ik_ldc C wl_6_14 dX7_hours_13 ?_
    obtain ⟨r2, g3, hc3, hf⟩ := ik_b2s hf
    have hM := (c_X7_finds l D cI cS h0 h1 h2 h3 h4 h5 h6 h7 h8 h9 h10 h11 misKept mtaped msort mfrom mto mvalue mbad mm mkept mwas mother mfound mwarm mdrip mtape mbits msize mnumber (-1000001 : Int32) r2 g3 hc3)
    refine ik_goW (v := (some (.int r2))) (wc := (wz_X7 cI cS h0 h1 h2 h3 h4 h5 h6 h7 h8 h9 h10 h11 misKept mtaped msort mfrom mto mvalue mbad mm mkept mwas mother mfound mwarm mdrip mtape mbits msize mnumber)) (w1 := (wz_X7 cI cS h0 h1 h2 h3 h4 h5 h6 h7 h8 h9 h10 h11 misKept mtaped msort mfrom mto mvalue mbad mm mkept mwas mother g3 mwarm mdrip mtape mbits msize mnumber)) [0, 1, 2, 3, 4, 5, 6, 7, 8, 9, 10, 11] [] 12 rfl rfl (wz_X7 cI cS h0 h1 h2 h3 h4 h5 h6 h7 h8 h9 h10 h11 misKept mtaped msort mfrom mto mvalue mbad mm mkept mwas mother g3 mwarm mdrip mtape mbits msize mnumber) rfl [] rfl rfl rfl (by decide +kernel) (ik_runV (st := []) (As := [.int (-1000001 : Int32)]) C hM mv_X7_finds wl_7_8 ⟨rfl, rfl, Nat.le_of_ble_eq_true rfl, Nat.le_of_ble_eq_true rfl⟩ [0, 1, 2, 3, 4, 5, 6, 7, 8, 9, 10, 11] rfl (by decide +kernel) 0 rfl rfl rfl rfl (Nat.le_of_ble_eq_true rfl) dX7_hours_15 ⟨Nat.zero_le _, Nat.zero_le _⟩) rfl ?_
    obtain ⟨rfl, rfl, rfl, rfl, rfl⟩ := ik_e5 hf
    exact ik_iretW C hr hlk dX7_hours_18
theorem mv_X7_fall : ik_V yX7_fall RX7 cX7_fall 2 (some .int) 0 := ⟨wl_22_7, wl_22_8, wl_1_5, wl_22_9, by decide +kernel⟩
set_option maxHeartbeats 4000000 in
set_option maxRecDepth 100000 in
theorem c_X7_fall (l : Launch) (D : va_G) (cI cS : ClassId) (h0 h1 h2 h3 h4 h5 h6 h7 h8 h9 h10 h11 : Nat) (misKept : Int32) (mtaped : Int32) (msort : Int32) (mfrom : Int32) (mto : Int32) (mvalue : Int32) (mbad : Int32) (mm : Nat → Int32) (mkept : Nat → Int32) (mwas : Nat → Int32) (mother : Nat → Int32) (mfound : Nat → Int32) (mwarm : Nat → Int32) (mdrip : Nat → Int32) (mtape : Nat → Int32) (mbits : Nat → Int32) (msize : Nat → Int32) (mnumber : Nat → Int32) (R : Int32) (mm_r : Nat → Int32) (hf : f_X7_fall mm = some (R, mm_r)) : Met l yX7_fall (ik_ws yX7_fall cX7_fall 2 (some .int)) ({ frames := 7, cells := 0, slots := 0, locals := 159 } : Room) (ik_P D cI cS [.ref h0] (wz_X7 cI cS h0 h1 h2 h3 h4 h5 h6 h7 h8 h9 h10 h11 misKept mtaped msort mfrom mto mvalue mbad mm mkept mwas mother mfound mwarm mdrip mtape mbits msize mnumber)) (ik_Q (some (.int R)) D (wz_X7 cI cS h0 h1 h2 h3 h4 h5 h6 h7 h8 h9 h10 h11 misKept mtaped msort mfrom mto mvalue mbad mm_r mkept mwas mother mfound mwarm mdrip mtape mbits msize mnumber) (wz_X7 cI cS h0 h1 h2 h3 h4 h5 h6 h7 h8 h9 h10 h11 misKept mtaped msort mfrom mto mvalue mbad mm mkept mwas mother mfound mwarm mdrip mtape mbits msize mnumber)) 0 0 (ik_in (wz_X7 cI cS h0 h1 h2 h3 h4 h5 h6 h7 h8 h9 h10 h11 misKept mtaped msort mfrom mto mvalue mbad mm mkept mwas mother mfound mwarm mdrip mtape mbits msize mnumber)) := by
  refine ik_metW RX7 rfl (by decide) (Nat.le_of_ble_eq_true rfl) [(0, .ref h0)] rfl ?_
  intro p e s m below meth c C hr hlk
  unfold f_X7_fall at hf
  refine ik_aload_n C 0 rfl rfl dX7_fall_0 ?_
  obtain ⟨r1, hc1, hf⟩ := ik_b1s hf
  have hM := (c_X7_goneNow l D cI cS h0 h1 h2 h3 h4 h5 h6 h7 h8 h9 h10 h11 misKept mtaped msort mfrom mto mvalue mbad mm mkept mwas mother mfound mwarm mdrip mtape mbits msize mnumber r1 hc1)
  refine ik_goR (ik_runV (st := []) (As := []) C hM mv_X7_goneNow wl_20_14 ⟨rfl, rfl, Nat.le_of_ble_eq_true rfl, Nat.le_of_ble_eq_true rfl⟩ [0, 1, 2, 3, 4, 5, 6, 7, 8, 9, 10, 11] rfl (by decide +kernel) 0 rfl rfl rfl rfl (Nat.le_of_ble_eq_true rfl) dX7_fall_1 ⟨Nat.zero_le _, Nat.zero_le _⟩) rfl ?_
  refine ik_istore_n C [(1, .int r1), (0, .ref h0)] rfl (by decide) rfl dX7_fall_4 ?_
  refine ik_aload_n C 1 rfl rfl dX7_fall_5 ?_
  obtain ⟨g2, hc2, hf⟩ := ik_b1s hf
  have hM := (c_X7_falls l D cI cS h0 h1 h2 h3 h4 h5 h6 h7 h8 h9 h10 h11 misKept mtaped msort mfrom mto mvalue mbad mm mkept mwas mother mfound mwarm mdrip mtape mbits msize mnumber g2 hc2)
  refine ik_goW (v := none) (wc := (wz_X7 cI cS h0 h1 h2 h3 h4 h5 h6 h7 h8 h9 h10 h11 misKept mtaped msort mfrom mto mvalue mbad mm mkept mwas mother mfound mwarm mdrip mtape mbits msize mnumber)) (w1 := (wz_X7 cI cS h0 h1 h2 h3 h4 h5 h6 h7 h8 h9 h10 h11 misKept mtaped msort mfrom mto mvalue mbad g2 mkept mwas mother mfound mwarm mdrip mtape mbits msize mnumber)) [0, 1, 2, 3, 4, 5, 6, 7, 8, 9, 10, 11] [] 12 rfl rfl (wz_X7 cI cS h0 h1 h2 h3 h4 h5 h6 h7 h8 h9 h10 h11 misKept mtaped msort mfrom mto mvalue mbad g2 mkept mwas mother mfound mwarm mdrip mtape mbits msize mnumber) rfl [] rfl rfl rfl (by decide +kernel) (ik_runV (st := []) (As := []) C hM mv_X7_falls wl_21_10 ⟨rfl, rfl, Nat.le_of_ble_eq_true rfl, Nat.le_of_ble_eq_true rfl⟩ [0, 1, 2, 3, 4, 5, 6, 7, 8, 9, 10, 11] rfl (by decide +kernel) 0 rfl rfl rfl rfl (Nat.le_of_ble_eq_true rfl) dX7_fall_6 ⟨Nat.zero_le _, Nat.zero_le _⟩) rfl ?_
  refine ik_aload_n C 1 rfl rfl dX7_fall_9 ?_
  obtain ⟨r3, hc3, hf⟩ := ik_b1s hf
  have hM := (c_X7_goneNow l D cI cS h0 h1 h2 h3 h4 h5 h6 h7 h8 h9 h10 h11 misKept mtaped msort mfrom mto mvalue mbad g2 mkept mwas mother mfound mwarm mdrip mtape mbits msize mnumber r3 hc3)
  refine ik_goR (ik_runV (st := []) (As := []) C hM mv_X7_goneNow wl_20_14 ⟨rfl, rfl, Nat.le_of_ble_eq_true rfl, Nat.le_of_ble_eq_true rfl⟩ [0, 1, 2, 3, 4, 5, 6, 7, 8, 9, 10, 11] rfl (by decide +kernel) 0 rfl rfl rfl rfl (Nat.le_of_ble_eq_true rfl) dX7_fall_10 ⟨Nat.zero_le _, Nat.zero_le _⟩) rfl ?_
  refine ik_iload_n C 0 rfl rfl dX7_fall_13 ?_
  refine ik_iconst (v := (-1 : Int32)) C (by decide) dX7_fall_14 ?_
  refine ik_ixor C dX7_fall_15 ?_
  refine ik_iand C dX7_fall_16 ?_
  obtain ⟨r4, hc4, hf⟩ := ik_b1s hf
  have hM := (c_X7_many l D cI cS (r3 &&& (r1 ^^^ (-1 : Int32))) r4 hc4)
  refine ik_goR (ik_runS (st := []) (As := [.int (r3 &&& (r1 ^^^ (-1 : Int32)))]) C hM ms_X7_many wl_21_22 ⟨rfl, rfl, Nat.le_of_ble_eq_true rfl, Nat.le_of_ble_eq_true rfl⟩ [] rfl (by decide +kernel) rfl rfl (Nat.le_of_ble_eq_true rfl) dX7_fall_17 ⟨Nat.zero_le _, Nat.zero_le _⟩) rfl ?_
  obtain ⟨rfl, rfl⟩ := ik_e2 hf
  exact ik_iretW C hr hlk dX7_fall_20
theorem mv_X7_loose : ik_V yX7_loose RX7 cX7_loose 1 (some .int) 0 := ⟨wl_22_16, wl_22_17, wl_1_5, wl_22_18, by decide +kernel⟩
set_option maxHeartbeats 4000000 in
set_option maxRecDepth 100000 in
theorem c_X7_loose (l : Launch) (D : va_G) (cI cS : ClassId) (h0 h1 h2 h3 h4 h5 h6 h7 h8 h9 h10 h11 : Nat) (misKept : Int32) (mtaped : Int32) (msort : Int32) (mfrom : Int32) (mto : Int32) (mvalue : Int32) (mbad : Int32) (mm : Nat → Int32) (mkept : Nat → Int32) (mwas : Nat → Int32) (mother : Nat → Int32) (mfound : Nat → Int32) (mwarm : Nat → Int32) (mdrip : Nat → Int32) (mtape : Nat → Int32) (mbits : Nat → Int32) (msize : Nat → Int32) (mnumber : Nat → Int32) (R : Int32) (hf : f_X7_loose mm = some (R)) : Met l yX7_loose (ik_ws yX7_loose cX7_loose 1 (some .int)) ({ frames := 6, cells := 0, slots := 0, locals := 137 } : Room) (ik_P D cI cS [.ref h0] (wz_X7 cI cS h0 h1 h2 h3 h4 h5 h6 h7 h8 h9 h10 h11 misKept mtaped msort mfrom mto mvalue mbad mm mkept mwas mother mfound mwarm mdrip mtape mbits msize mnumber)) (ik_R (some (.int R))) 0 0 ik_no := by
  refine ik_metR RX7 rfl (by decide) (Nat.le_of_ble_eq_true rfl) [(0, .ref h0)] rfl ?_
  intro p e s m below meth c C hr hlk
  unfold f_X7_loose at hf
  refine ik_aload_n C 0 rfl rfl dX7_loose_0 ?_
  obtain ⟨r1, hc1, hf⟩ := ik_b1s hf
  have hM := (c_X7_looseNow l D cI cS h0 h1 h2 h3 h4 h5 h6 h7 h8 h9 h10 h11 misKept mtaped msort mfrom mto mvalue mbad mm mkept mwas mother mfound mwarm mdrip mtape mbits msize mnumber r1 hc1)
  refine ik_goR (ik_runV (st := []) (As := []) C hM mv_X7_looseNow wl_21_14 ⟨rfl, rfl, Nat.le_of_ble_eq_true rfl, Nat.le_of_ble_eq_true rfl⟩ [0, 1, 2, 3, 4, 5, 6, 7, 8, 9, 10, 11] rfl (by decide +kernel) 0 rfl rfl rfl rfl (Nat.le_of_ble_eq_true rfl) dX7_loose_1 ⟨Nat.zero_le _, Nat.zero_le _⟩) rfl ?_
  obtain rfl := Option.some.inj hf
  exact ik_iretR C hr hlk dX7_loose_4
theorem mv_X7_weak : ik_V yX7_weak RX7 cX7_weak 1 (some .int) 0 := ⟨wl_23_1, wl_23_2, wl_1_5, wl_23_3, by decide +kernel⟩
set_option maxHeartbeats 4000000 in
set_option maxRecDepth 100000 in
theorem c_X7_weak (l : Launch) (D : va_G) (cI cS : ClassId) (h0 h1 h2 h3 h4 h5 h6 h7 h8 h9 h10 h11 : Nat) (misKept : Int32) (mtaped : Int32) (msort : Int32) (mfrom : Int32) (mto : Int32) (mvalue : Int32) (mbad : Int32) (mm : Nat → Int32) (mkept : Nat → Int32) (mwas : Nat → Int32) (mother : Nat → Int32) (mfound : Nat → Int32) (mwarm : Nat → Int32) (mdrip : Nat → Int32) (mtape : Nat → Int32) (mbits : Nat → Int32) (msize : Nat → Int32) (mnumber : Nat → Int32) (R : Int32) (hf : f_X7_weak mm = some (R)) : Met l yX7_weak (ik_ws yX7_weak cX7_weak 1 (some .int)) ({ frames := 4, cells := 0, slots := 0, locals := 88 } : Room) (ik_P D cI cS [.ref h0] (wz_X7 cI cS h0 h1 h2 h3 h4 h5 h6 h7 h8 h9 h10 h11 misKept mtaped msort mfrom mto mvalue mbad mm mkept mwas mother mfound mwarm mdrip mtape mbits msize mnumber)) (ik_R (some (.int R))) 0 0 ik_no := by
  refine ik_metR RX7 rfl (by decide) (Nat.le_of_ble_eq_true rfl) [(0, .ref h0)] rfl ?_
  intro p e s m below meth c C hr hlk
  unfold f_X7_weak at hf
  refine ik_aload_n C 0 rfl rfl dX7_weak_0 ?_
  obtain ⟨r1, hc1, hf⟩ := ik_b1s hf
  have hM := (c_X7_weakNow l D cI cS h0 h1 h2 h3 h4 h5 h6 h7 h8 h9 h10 h11 misKept mtaped msort mfrom mto mvalue mbad mm mkept mwas mother mfound mwarm mdrip mtape mbits msize mnumber r1 hc1)
  refine ik_goR (ik_runV (st := []) (As := []) C hM mv_X7_weakNow wl_21_18 ⟨rfl, rfl, Nat.le_of_ble_eq_true rfl, Nat.le_of_ble_eq_true rfl⟩ [0, 1, 2, 3, 4, 5, 6, 7, 8, 9, 10, 11] rfl (by decide +kernel) 0 rfl rfl rfl rfl (Nat.le_of_ble_eq_true rfl) dX7_weak_1 ⟨Nat.zero_le _, Nat.zero_le _⟩) rfl ?_
  obtain rfl := Option.some.inj hf
  exact ik_iretR C hr hlk dX7_weak_4
theorem mv_X7_allGrains : ik_V yX7_allGrains RX7 cX7_allGrains 3 (some .int) 0 := ⟨wl_25_2, wl_25_3, wl_1_5, wl_25_4, by decide +kernel⟩
set_option maxHeartbeats 4000000 in
set_option maxRecDepth 100000 in
theorem c_X7_allGrains (l : Launch) (D : va_G) (cI cS : ClassId) (h0 h1 h2 h3 h4 h5 h6 h7 h8 h9 h10 h11 : Nat) (misKept : Int32) (mtaped : Int32) (msort : Int32) (mfrom : Int32) (mto : Int32) (mvalue : Int32) (mbad : Int32) (mm : Nat → Int32) (mkept : Nat → Int32) (mwas : Nat → Int32) (mother : Nat → Int32) (mfound : Nat → Int32) (mwarm : Nat → Int32) (mdrip : Nat → Int32) (mtape : Nat → Int32) (mbits : Nat → Int32) (msize : Nat → Int32) (mnumber : Nat → Int32) (R : Int32) (hf : f_X7_allGrains mm = some (R)) : Met l yX7_allGrains (ik_ws yX7_allGrains cX7_allGrains 3 (some .int)) ({ frames := 1, cells := 0, slots := 0, locals := 21 } : Room) (ik_P D cI cS [.ref h0] (wz_X7 cI cS h0 h1 h2 h3 h4 h5 h6 h7 h8 h9 h10 h11 misKept mtaped msort mfrom mto mvalue mbad mm mkept mwas mother mfound mwarm mdrip mtape mbits msize mnumber)) (ik_R (some (.int R))) 0 0 ik_no := by
  refine ik_metR RX7 rfl (by decide) (Nat.le_of_ble_eq_true rfl) [(0, .ref h0)] rfl ?_
  intro p e s m below meth c C hr hlk
  unfold f_X7_allGrains at hf
  refine ik_iconst (v := (0 : Int32)) C (by decide) dX7_allGrains_0 ?_
  refine ik_istore_n C [(1, .int (0 : Int32)), (0, .ref h0)] rfl (by decide) rfl dX7_allGrains_1 ?_
  refine ik_iconst (v := (0 : Int32)) C (by decide) dX7_allGrains_2 ?_
  refine ik_istore_n C [(2, .int (0 : Int32)), (1, .int (0 : Int32)), (0, .ref h0)] rfl (by decide) rfl dX7_allGrains_3 ?_
  have hL_4 : ∀ (n_4 : Nat) (x1_4 : Int32) (x2_4 : Int32), ik_lp2 (b_X7_allGrains_4 mm) n_4 x1_4 x2_4 = some (R) → ik_G p l e ({ frames := 1, cells := 0, slots := 0, locals := 21 } : Room) s m ([.ref h0] : List Value).toArray below meth c D ik_no (fun _ => True) 3 0 0 (MQ below (ik_R (some (.int R))) ([.ref h0] : List Value).toArray s 0 0 ik_no) 4 [(2, .int x2_4), (1, .int x1_4), (0, .ref h0)] [] (wz_X7 cI cS h0 h1 h2 h3 h4 h5 h6 h7 h8 h9 h10 h11 misKept mtaped msort mfrom mto mvalue mbad mm mkept mwas mother mfound mwarm mdrip mtape mbits msize mnumber) := by
    intro n_4
    induction n_4 with
    | zero => intro _ _ hf; exact nomatch hf
    | succ n_4 ih_4 =>
      intro x1_4 x2_4 hf
      replace hf : b_X7_allGrains_4 mm (ik_lp2 (b_X7_allGrains_4 mm) n_4) x1_4 x2_4 = some (R) := hf
      unfold b_X7_allGrains_4 at hf
      refine ik_iload_n C 0 rfl rfl dX7_allGrains_4 ?_
      refine ik_aload_n C 2 rfl rfl dX7_allGrains_5 ?_
      refine ik_get C inlX7 0 rfl rfl 0 (by decide) wl_4_12 rfl (v := .ref h1) rfl dX7_allGrains_6 ?_
      refine ik_iconst (v := (5 : Int32)) C (by decide) dX7_allGrains_9 ?_
      refine ik_iald C 1 rfl (ik_vin (by decide)) dX7_allGrains_10 ?_
      refine ik_icmp_ge C 28 dX7_allGrains_11 (by decide) (fun hc => ?_) (fun hc => ?_)
      · have hf := ik_pos hc hf
        refine ik_iload_n C 1 rfl rfl dX7_allGrains_28 ?_
        obtain rfl := Option.some.inj hf
        exact ik_iretR C hr hlk dX7_allGrains_29
      · have hf := ik_neg hc hf
        refine ik_iload_n C 1 rfl rfl dX7_allGrains_14 ?_
        refine ik_aload_n C 2 rfl rfl dX7_allGrains_15 ?_
        refine ik_iload_n C 0 rfl rfl dX7_allGrains_16 ?_
        obtain ⟨r1, hc1, hf⟩ := ik_b1s hf
        have hM := (c_X7_grains l D cI cS h0 h1 h2 h3 h4 h5 h6 h7 h8 h9 h10 h11 misKept mtaped msort mfrom mto mvalue mbad mm mkept mwas mother mfound mwarm mdrip mtape mbits msize mnumber x2_4 r1 hc1)
        refine ik_goR (ik_runV (st := [.int x1_4]) (As := [.int x2_4]) C hM mv_X7_grains wl_10_1 ⟨rfl, rfl, Nat.le_of_ble_eq_true rfl, Nat.le_of_ble_eq_true rfl⟩ [0, 1, 2, 3, 4, 5, 6, 7, 8, 9, 10, 11] rfl (by decide +kernel) 0 rfl rfl rfl rfl (Nat.le_of_ble_eq_true rfl) dX7_allGrains_17 ⟨Nat.zero_le _, Nat.zero_le _⟩) rfl ?_
        refine ik_iadd C dX7_allGrains_20 ?_
        refine ik_istore_n C [(1, .int (x1_4 + r1)), (2, .int x2_4), (0, .ref h0)] rfl (by decide) rfl dX7_allGrains_21 ?_
        refine ik_iinc C [(2, .int (x2_4 + (1 : Int32))), (1, .int (x1_4 + r1)), (0, .ref h0)] 1 rfl rfl (by decide) rfl dX7_allGrains_22 ?_
        refine ik_goto C 4 dX7_allGrains_25 (by decide) ?_
        exact ik_sub [0, 1, 2] [(2, .int (x2_4 + (1 : Int32))), (1, .int (x1_4 + r1)), (0, .ref h0)] rfl (ih_4 (x1_4 + r1) (x2_4 + (1 : Int32)) hf)
  exact hL_4 ik_fu (0 : Int32) (0 : Int32) hf
theorem mv_X7_ahead : ik_V yX7_ahead RX7 cX7_ahead 5 (some .int) 2 := ⟨wl_24_17, wl_24_18, wl_1_5, wl_24_19, by decide +kernel⟩
set_option maxHeartbeats 4000000 in
set_option maxRecDepth 100000 in
theorem c_X7_ahead (l : Launch) (D : va_G) (cI cS : ClassId) (h0 h1 h2 h3 h4 h5 h6 h7 h8 h9 h10 h11 : Nat) (misKept : Int32) (mtaped : Int32) (msort : Int32) (mfrom : Int32) (mto : Int32) (mvalue : Int32) (mbad : Int32) (mm : Nat → Int32) (mkept : Nat → Int32) (mwas : Nat → Int32) (mother : Nat → Int32) (mfound : Nat → Int32) (mwarm : Nat → Int32) (mdrip : Nat → Int32) (mtape : Nat → Int32) (mbits : Nat → Int32) (msize : Nat → Int32) (mnumber : Nat → Int32) (x1 : Int32) (x2 : Int32) (R : Int32) (mm_r : Nat → Int32) (mwas_r : Nat → Int32) (mfound_r : Nat → Int32) (mwarm_r : Nat → Int32) (mdrip_r : Nat → Int32) (hf : f_X7_ahead mm mwas mfound mwarm mdrip x1 x2 = some (R, mm_r, mwas_r, mfound_r, mwarm_r, mdrip_r)) : Met l yX7_ahead (ik_ws yX7_ahead cX7_ahead 5 (some .int)) ({ frames := 8, cells := 0, slots := 0, locals := 180 } : Room) (ik_P D cI cS [.ref h0, .int x1, .int x2] (wz_X7 cI cS h0 h1 h2 h3 h4 h5 h6 h7 h8 h9 h10 h11 misKept mtaped msort mfrom mto mvalue mbad mm mkept mwas mother mfound mwarm mdrip mtape mbits msize mnumber)) (ik_Q (some (.int R)) D (wz_X7 cI cS h0 h1 h2 h3 h4 h5 h6 h7 h8 h9 h10 h11 misKept mtaped msort mfrom mto mvalue mbad mm_r mkept mwas_r mother mfound_r mwarm_r mdrip_r mtape mbits msize mnumber) (wz_X7 cI cS h0 h1 h2 h3 h4 h5 h6 h7 h8 h9 h10 h11 misKept mtaped msort mfrom mto mvalue mbad mm mkept mwas mother mfound mwarm mdrip mtape mbits msize mnumber)) 0 0 (ik_in (wz_X7 cI cS h0 h1 h2 h3 h4 h5 h6 h7 h8 h9 h10 h11 misKept mtaped msort mfrom mto mvalue mbad mm mkept mwas mother mfound mwarm mdrip mtape mbits msize mnumber)) := by
  refine ik_metW RX7 rfl (by decide) (Nat.le_of_ble_eq_true rfl) [(0, .ref h0), (1, .int x1), (2, .int x2)] rfl ?_
  intro p e s m below meth c C hr hlk
  unfold f_X7_ahead at hf
  refine ik_iload_n C 1 rfl rfl dX7_ahead_0 ?_
  refine ik_i2l C dX7_ahead_1 ?_
  refine ik_lconst (v := (0 : Int64)) C (by decide) dX7_ahead_2 ?_
  refine ik_ldc2 C wl_24_20 dX7_ahead_3 ?_
  obtain ⟨r1, hc1, hf⟩ := ik_b1s hf
  have hM := (c_X7_in l D cI cS (x1).toInt64 (0 : Int64) (96 : Int64) r1 hc1)
  refine ik_goR (ik_runS (st := []) (As := [.long (x1).toInt64, .long (0 : Int64), .long (96 : Int64)]) C hM ms_X7_in wl_6_21 ⟨rfl, rfl, Nat.le_of_ble_eq_true rfl, Nat.le_of_ble_eq_true rfl⟩ [] rfl (by decide +kernel) rfl rfl (Nat.le_of_ble_eq_true rfl) dX7_ahead_6 ⟨Nat.zero_le _, Nat.zero_le _⟩) rfl ?_
  refine ik_if_eq C 24 dX7_ahead_9 (by decide) (fun hc => ?_) (fun hc => ?_)
  · have hf := ik_pos hc hf
    refine ik_aload_n C 0 rfl rfl dX7_ahead_24 ?_
    refine ik_ldc C wl_6_14 dX7_ahead_25 ?_
    obtain ⟨r2, g3, hc3, hf⟩ := ik_b2s hf
    have hM := (c_X7_finds l D cI cS h0 h1 h2 h3 h4 h5 h6 h7 h8 h9 h10 h11 misKept mtaped msort mfrom mto mvalue mbad mm mkept mwas mother mfound mwarm mdrip mtape mbits msize mnumber (-1000001 : Int32) r2 g3 hc3)
    refine ik_goW (v := (some (.int r2))) (wc := (wz_X7 cI cS h0 h1 h2 h3 h4 h5 h6 h7 h8 h9 h10 h11 misKept mtaped msort mfrom mto mvalue mbad mm mkept mwas mother mfound mwarm mdrip mtape mbits msize mnumber)) (w1 := (wz_X7 cI cS h0 h1 h2 h3 h4 h5 h6 h7 h8 h9 h10 h11 misKept mtaped msort mfrom mto mvalue mbad mm mkept mwas mother g3 mwarm mdrip mtape mbits msize mnumber)) [0, 1, 2, 3, 4, 5, 6, 7, 8, 9, 10, 11] [] 12 rfl rfl (wz_X7 cI cS h0 h1 h2 h3 h4 h5 h6 h7 h8 h9 h10 h11 misKept mtaped msort mfrom mto mvalue mbad mm mkept mwas mother g3 mwarm mdrip mtape mbits msize mnumber) rfl [] rfl rfl rfl (by decide +kernel) (ik_runV (st := []) (As := [.int (-1000001 : Int32)]) C hM mv_X7_finds wl_7_8 ⟨rfl, rfl, Nat.le_of_ble_eq_true rfl, Nat.le_of_ble_eq_true rfl⟩ [0, 1, 2, 3, 4, 5, 6, 7, 8, 9, 10, 11] rfl (by decide +kernel) 0 rfl rfl rfl rfl (Nat.le_of_ble_eq_true rfl) dX7_ahead_27 ⟨Nat.zero_le _, Nat.zero_le _⟩) rfl ?_
    obtain ⟨rfl, rfl, rfl, rfl, rfl, rfl⟩ := ik_e6 hf
    exact ik_iretW C hr hlk dX7_ahead_30
  · have hf := ik_neg hc hf
    refine ik_iload_n C 2 rfl rfl dX7_ahead_12 ?_
    refine ik_i2l C dX7_ahead_13 ?_
    refine ik_lconst (v := (0 : Int64)) C (by decide) dX7_ahead_14 ?_
    refine ik_ldc2 C wl_24_21 dX7_ahead_15 ?_
    obtain ⟨r2, hc2, hf⟩ := ik_b1s hf
    have hM := (c_X7_in l D cI cS (x2).toInt64 (0 : Int64) (4 : Int64) r2 hc2)
    refine ik_goR (ik_runS (st := []) (As := [.long (x2).toInt64, .long (0 : Int64), .long (4 : Int64)]) C hM ms_X7_in wl_6_21 ⟨rfl, rfl, Nat.le_of_ble_eq_true rfl, Nat.le_of_ble_eq_true rfl⟩ [] rfl (by decide +kernel) rfl rfl (Nat.le_of_ble_eq_true rfl) dX7_ahead_18 ⟨Nat.zero_le _, Nat.zero_le _⟩) rfl ?_
    refine ik_if_ne C 31 dX7_ahead_21 (by decide) (fun hc => ?_) (fun hc => ?_)
    · have hf := ik_neg hc hf
      refine ik_aload_n C 0 rfl rfl dX7_ahead_31 ?_
      refine ik_get C inlX7 0 rfl rfl 0 (by decide) wl_4_12 rfl (v := .ref h1) rfl dX7_ahead_32 ?_
      refine ik_iconst (v := (0 : Int32)) C (by decide) dX7_ahead_35 ?_
      refine ik_iald C 1 rfl (ik_vin (by decide)) dX7_ahead_36 ?_
      refine ik_iload_n C 1 rfl rfl dX7_ahead_37 ?_
      refine ik_iadd C dX7_ahead_38 ?_
      refine ik_sipush (v := (9999 : Int32)) C (by decide) dX7_ahead_39 ?_
      refine ik_icmp_le C 52 dX7_ahead_42 (by decide) (fun hc => ?_) (fun hc => ?_)
      · have hf := ik_pos hc hf
        refine ik_aload_n C 0 rfl rfl dX7_ahead_52 ?_
        refine ik_get C inlX7 0 rfl rfl 0 (by decide) wl_4_12 rfl (v := .ref h1) rfl dX7_ahead_53 ?_
        refine ik_aload_n C 0 rfl rfl dX7_ahead_56 ?_
        refine ik_get C inlX7 0 rfl rfl 2 (by decide) wl_4_14 rfl (v := .ref h3) rfl dX7_ahead_57 ?_
        obtain ⟨g3, hc3, hf⟩ := ik_b1s hf
        have hM := (c_X7_row l D cI cS h1 h3 mm mwas g3 hc3)
        refine ik_goW (v := none) (wc := (wz_row cI cS h1 h3 mm mwas)) (w1 := (wz_row cI cS h1 h3 mm g3)) [1, 3] [0, 2, 4, 5, 6, 7, 8, 9, 10, 11] 12 rfl rfl (wz_X7 cI cS h0 h1 h2 h3 h4 h5 h6 h7 h8 h9 h10 h11 misKept mtaped msort mfrom mto mvalue mbad mm mkept g3 mother mfound mwarm mdrip mtape mbits msize mnumber) rfl [(h0, .inr (7, [.ref h1, .ref h2, .ref h3, .ref h4, .int misKept, .ref h5, .ref h6, .ref h7, .ref h8, .int mtaped, .int msort, .int mfrom, .int mto, .int mvalue, .int mbad, .ref h9, .ref h10, .ref h11])), (h2, .inl (cI, 82, .inl mkept)), (h4, .inl (cI, 82, .inl mother)), (h5, .inl (cI, 7, .inl mfound)), (h6, .inl (cI, 16, .inl mwarm)), (h7, .inl (cI, 8, .inl mdrip)), (h8, .inl (cI, 120, .inl mtape)), (h9, .inl (cI, 4, .inl mbits)), (h10, .inl (cI, 4, .inl msize)), (h11, .inl (cI, 160, .inl mnumber))] rfl rfl rfl (by decide +kernel) (ik_runS (st := []) (As := [.ref h1, .ref h3]) C hM ms_X7_row wl_24_22 ⟨rfl, rfl, Nat.le_of_ble_eq_true rfl, Nat.le_of_ble_eq_true rfl⟩ [1, 3] rfl (by decide +kernel) rfl rfl (Nat.le_of_ble_eq_true rfl) dX7_ahead_60 ⟨Nat.zero_le _, Nat.zero_le _⟩) rfl ?_
        refine ik_aload_n C 0 rfl rfl dX7_ahead_63 ?_
        obtain ⟨r4, hc4, hf⟩ := ik_b1s hf
        have hM := (c_X7_goneNow l D cI cS h0 h1 h2 h3 h4 h5 h6 h7 h8 h9 h10 h11 misKept mtaped msort mfrom mto mvalue mbad mm mkept g3 mother mfound mwarm mdrip mtape mbits msize mnumber r4 hc4)
        refine ik_goR (ik_runV (st := []) (As := []) C hM mv_X7_goneNow wl_20_14 ⟨rfl, rfl, Nat.le_of_ble_eq_true rfl, Nat.le_of_ble_eq_true rfl⟩ [0, 1, 2, 3, 4, 5, 6, 7, 8, 9, 10, 11] rfl (by decide +kernel) 0 rfl rfl rfl rfl (Nat.le_of_ble_eq_true rfl) dX7_ahead_64 ⟨Nat.zero_le _, Nat.zero_le _⟩) rfl ?_
        refine ik_istore_n C [(3, .int r4), (0, .ref h0), (1, .int x1), (2, .int x2)] rfl (by decide) rfl dX7_ahead_67 ?_
        refine ik_iconst (v := (0 : Int32)) C (by decide) dX7_ahead_68 ?_
        refine ik_istore C [(4, .int (0 : Int32)), (3, .int r4), (0, .ref h0), (1, .int x1), (2, .int x2)] (by decide) rfl dX7_ahead_69 ?_
        have hL_71 : ∀ (n_71 : Nat) (mm_71 : Nat → Int32) (mwarm_71 : Nat → Int32) (mdrip_71 : Nat → Int32) (x4_71 : Int32), ik_lp4 (b_X7_ahead_71 mfound x1 x2 g3 r4) n_71 mm_71 mwarm_71 mdrip_71 x4_71 = some (R, mm_r, mwas_r, mfound_r, mwarm_r, mdrip_r) → ik_G p l e ({ frames := 8, cells := 0, slots := 0, locals := 180 } : Room) s m ([.ref h0, .int x1, .int x2] : List Value).toArray below meth c D (ik_in (wz_X7 cI cS h0 h1 h2 h3 h4 h5 h6 h7 h8 h9 h10 h11 misKept mtaped msort mfrom mto mvalue mbad mm mkept mwas mother mfound mwarm mdrip mtape mbits msize mnumber)) (ik_in (wz_X7 cI cS h0 h1 h2 h3 h4 h5 h6 h7 h8 h9 h10 h11 misKept mtaped msort mfrom mto mvalue mbad mm mkept mwas mother mfound mwarm mdrip mtape mbits msize mnumber)) 5 0 0 (MQ below (ik_Q (some (.int R)) D (wz_X7 cI cS h0 h1 h2 h3 h4 h5 h6 h7 h8 h9 h10 h11 misKept mtaped msort mfrom mto mvalue mbad mm_r mkept mwas_r mother mfound_r mwarm_r mdrip_r mtape mbits msize mnumber) (wz_X7 cI cS h0 h1 h2 h3 h4 h5 h6 h7 h8 h9 h10 h11 misKept mtaped msort mfrom mto mvalue mbad mm mkept mwas mother mfound mwarm mdrip mtape mbits msize mnumber)) ([.ref h0, .int x1, .int x2] : List Value).toArray s 0 0 (ik_in (wz_X7 cI cS h0 h1 h2 h3 h4 h5 h6 h7 h8 h9 h10 h11 misKept mtaped msort mfrom mto mvalue mbad mm mkept mwas mother mfound mwarm mdrip mtape mbits msize mnumber))) 71 [(4, .int x4_71), (3, .int r4), (0, .ref h0), (1, .int x1), (2, .int x2)] [] (wz_X7 cI cS h0 h1 h2 h3 h4 h5 h6 h7 h8 h9 h10 h11 misKept mtaped msort mfrom mto mvalue mbad mm_71 mkept g3 mother mfound mwarm_71 mdrip_71 mtape mbits msize mnumber) := by
          intro n_71
          induction n_71 with
          | zero => intro _ _ _ _ hf; exact nomatch hf
          | succ n_71 ih_71 =>
            intro mm_71 mwarm_71 mdrip_71 x4_71 hf
            replace hf : b_X7_ahead_71 mfound x1 x2 g3 r4 (ik_lp4 (b_X7_ahead_71 mfound x1 x2 g3 r4) n_71) mm_71 mwarm_71 mdrip_71 x4_71 = some (R, mm_r, mwas_r, mfound_r, mwarm_r, mdrip_r) := hf
            unfold b_X7_ahead_71 at hf
            refine ik_iload C 0 rfl dX7_ahead_71 ?_
            refine ik_iload_n C 3 rfl rfl dX7_ahead_73 ?_
            refine ik_icmp_ge C 87 dX7_ahead_74 (by decide) (fun hc => ?_) (fun hc => ?_)
            · have hf := ik_pos hc hf
              refine ik_iload_n C 4 rfl rfl dX7_ahead_87 ?_
              refine ik_if_ne C 105 dX7_ahead_88 (by decide) (fun hc => ?_) (fun hc => ?_)
              · have hf := ik_neg hc hf
                refine ik_iload_n C 4 rfl rfl dX7_ahead_105 ?_
                refine ik_iconst (v := (1 : Int32)) C (by decide) dX7_ahead_106 ?_
                refine ik_icmp_ne C 117 dX7_ahead_107 (by decide) (fun hc => ?_) (fun hc => ?_)
                · have hf := ik_neg hc hf
                  refine ik_iload_n C 4 rfl rfl dX7_ahead_117 ?_
                  refine ik_iconst (v := (2 : Int32)) C (by decide) dX7_ahead_118 ?_
                  refine ik_icmp_ne C 131 dX7_ahead_119 (by decide) (fun hc => ?_) (fun hc => ?_)
                  · have hf := ik_neg hc hf
                    refine ik_iload_n C 4 rfl rfl dX7_ahead_131 ?_
                    refine ik_iconst (v := (3 : Int32)) C (by decide) dX7_ahead_132 ?_
                    refine ik_icmp_ne C 145 dX7_ahead_133 (by decide) (fun hc => ?_) (fun hc => ?_)
                    · have hf := ik_neg hc hf
                      refine ik_aload_n C 2 rfl rfl dX7_ahead_145 ?_
                      obtain ⟨r5, hc5, hf⟩ := ik_b1s hf
                      have hM := (c_X7_goneNow l D cI cS h0 h1 h2 h3 h4 h5 h6 h7 h8 h9 h10 h11 misKept mtaped msort mfrom mto mvalue mbad mm_71 mkept g3 mother mfound mwarm_71 mdrip_71 mtape mbits msize mnumber r5 hc5)
                      refine ik_goR (ik_runV (st := []) (As := []) C hM mv_X7_goneNow wl_20_14 ⟨rfl, rfl, Nat.le_of_ble_eq_true rfl, Nat.le_of_ble_eq_true rfl⟩ [0, 1, 2, 3, 4, 5, 6, 7, 8, 9, 10, 11] rfl (by decide +kernel) 0 rfl rfl rfl rfl (Nat.le_of_ble_eq_true rfl) dX7_ahead_146 ⟨Nat.zero_le _, Nat.zero_le _⟩) rfl ?_
                      refine ik_istore C [(4, .int r5), (3, .int r4), (0, .ref h0), (1, .int x1), (2, .int x2)] (by decide) rfl dX7_ahead_149 ?_
                      refine ik_aload_n C 2 rfl rfl dX7_ahead_151 ?_
                      refine ik_get C inlX7 0 rfl rfl 2 (by decide) wl_4_14 rfl (v := .ref h3) rfl dX7_ahead_152 ?_
                      refine ik_aload_n C 2 rfl rfl dX7_ahead_155 ?_
                      refine ik_get C inlX7 0 rfl rfl 0 (by decide) wl_4_12 rfl (v := .ref h1) rfl dX7_ahead_156 ?_
                      obtain ⟨g6, hc6, hf⟩ := ik_b1s hf
                      have hM := (c_X7_row l D cI cS h3 h1 g3 mm_71 g6 hc6)
                      refine ik_goW (v := none) (wc := (wz_row cI cS h3 h1 g3 mm_71)) (w1 := (wz_row cI cS h3 h1 g3 g6)) [3, 1] [0, 2, 4, 5, 6, 7, 8, 9, 10, 11] 12 rfl rfl (wz_X7 cI cS h0 h1 h2 h3 h4 h5 h6 h7 h8 h9 h10 h11 misKept mtaped msort mfrom mto mvalue mbad g6 mkept g3 mother mfound mwarm_71 mdrip_71 mtape mbits msize mnumber) rfl [(h0, .inr (7, [.ref h1, .ref h2, .ref h3, .ref h4, .int misKept, .ref h5, .ref h6, .ref h7, .ref h8, .int mtaped, .int msort, .int mfrom, .int mto, .int mvalue, .int mbad, .ref h9, .ref h10, .ref h11])), (h2, .inl (cI, 82, .inl mkept)), (h4, .inl (cI, 82, .inl mother)), (h5, .inl (cI, 7, .inl mfound)), (h6, .inl (cI, 16, .inl mwarm_71)), (h7, .inl (cI, 8, .inl mdrip_71)), (h8, .inl (cI, 120, .inl mtape)), (h9, .inl (cI, 4, .inl mbits)), (h10, .inl (cI, 4, .inl msize)), (h11, .inl (cI, 160, .inl mnumber))] rfl rfl rfl (by decide +kernel) (ik_runS (st := []) (As := [.ref h3, .ref h1]) C hM ms_X7_row wl_24_22 ⟨rfl, rfl, Nat.le_of_ble_eq_true rfl, Nat.le_of_ble_eq_true rfl⟩ [3, 1] rfl (by decide +kernel) rfl rfl (Nat.le_of_ble_eq_true rfl) dX7_ahead_159 ⟨Nat.zero_le _, Nat.zero_le _⟩) rfl ?_
                      refine ik_iload C 0 rfl dX7_ahead_162 ?_
                      obtain ⟨rfl, rfl, rfl, rfl, rfl, rfl⟩ := ik_e6 hf
                      exact ik_iretW C hr hlk dX7_ahead_164
                    · have hf := ik_pos hc hf
                      refine ik_aload_n C 2 rfl rfl dX7_ahead_136 ?_
                      refine ik_get C inlX7 0 rfl rfl 0 (by decide) wl_4_12 rfl (v := .ref h1) rfl dX7_ahead_137 ?_
                      refine ik_iconst (v := (3 : Int32)) C (by decide) dX7_ahead_140 ?_
                      refine ik_iald C 1 rfl (ik_vin (by decide)) dX7_ahead_141 ?_
                      refine ik_goto C 149 dX7_ahead_142 (by decide) ?_
                      refine ik_istore C [(4, .int (mm_71 ((3 : Int32)).toNatClampNeg)), (3, .int r4), (0, .ref h0), (1, .int x1), (2, .int x2)] (by decide) rfl dX7_ahead_149 ?_
                      refine ik_aload_n C 2 rfl rfl dX7_ahead_151 ?_
                      refine ik_get C inlX7 0 rfl rfl 2 (by decide) wl_4_14 rfl (v := .ref h3) rfl dX7_ahead_152 ?_
                      refine ik_aload_n C 2 rfl rfl dX7_ahead_155 ?_
                      refine ik_get C inlX7 0 rfl rfl 0 (by decide) wl_4_12 rfl (v := .ref h1) rfl dX7_ahead_156 ?_
                      obtain ⟨g5, hc5, hf⟩ := ik_b1s hf
                      have hM := (c_X7_row l D cI cS h3 h1 g3 mm_71 g5 hc5)
                      refine ik_goW (v := none) (wc := (wz_row cI cS h3 h1 g3 mm_71)) (w1 := (wz_row cI cS h3 h1 g3 g5)) [3, 1] [0, 2, 4, 5, 6, 7, 8, 9, 10, 11] 12 rfl rfl (wz_X7 cI cS h0 h1 h2 h3 h4 h5 h6 h7 h8 h9 h10 h11 misKept mtaped msort mfrom mto mvalue mbad g5 mkept g3 mother mfound mwarm_71 mdrip_71 mtape mbits msize mnumber) rfl [(h0, .inr (7, [.ref h1, .ref h2, .ref h3, .ref h4, .int misKept, .ref h5, .ref h6, .ref h7, .ref h8, .int mtaped, .int msort, .int mfrom, .int mto, .int mvalue, .int mbad, .ref h9, .ref h10, .ref h11])), (h2, .inl (cI, 82, .inl mkept)), (h4, .inl (cI, 82, .inl mother)), (h5, .inl (cI, 7, .inl mfound)), (h6, .inl (cI, 16, .inl mwarm_71)), (h7, .inl (cI, 8, .inl mdrip_71)), (h8, .inl (cI, 120, .inl mtape)), (h9, .inl (cI, 4, .inl mbits)), (h10, .inl (cI, 4, .inl msize)), (h11, .inl (cI, 160, .inl mnumber))] rfl rfl rfl (by decide +kernel) (ik_runS (st := []) (As := [.ref h3, .ref h1]) C hM ms_X7_row wl_24_22 ⟨rfl, rfl, Nat.le_of_ble_eq_true rfl, Nat.le_of_ble_eq_true rfl⟩ [3, 1] rfl (by decide +kernel) rfl rfl (Nat.le_of_ble_eq_true rfl) dX7_ahead_159 ⟨Nat.zero_le _, Nat.zero_le _⟩) rfl ?_
                      refine ik_iload C 0 rfl dX7_ahead_162 ?_
                      obtain ⟨rfl, rfl, rfl, rfl, rfl, rfl⟩ := ik_e6 hf
                      exact ik_iretW C hr hlk dX7_ahead_164
                  · have hf := ik_pos hc hf
                    refine ik_aload_n C 2 rfl rfl dX7_ahead_122 ?_
                    refine ik_get C inlX7 0 rfl rfl 0 (by decide) wl_4_12 rfl (v := .ref h1) rfl dX7_ahead_123 ?_
                    refine ik_iconst (v := (2 : Int32)) C (by decide) dX7_ahead_126 ?_
                    refine ik_iald C 1 rfl (ik_vin (by decide)) dX7_ahead_127 ?_
                    refine ik_goto C 149 dX7_ahead_128 (by decide) ?_
                    refine ik_istore C [(4, .int (mm_71 ((2 : Int32)).toNatClampNeg)), (3, .int r4), (0, .ref h0), (1, .int x1), (2, .int x2)] (by decide) rfl dX7_ahead_149 ?_
                    refine ik_aload_n C 2 rfl rfl dX7_ahead_151 ?_
                    refine ik_get C inlX7 0 rfl rfl 2 (by decide) wl_4_14 rfl (v := .ref h3) rfl dX7_ahead_152 ?_
                    refine ik_aload_n C 2 rfl rfl dX7_ahead_155 ?_
                    refine ik_get C inlX7 0 rfl rfl 0 (by decide) wl_4_12 rfl (v := .ref h1) rfl dX7_ahead_156 ?_
                    obtain ⟨g5, hc5, hf⟩ := ik_b1s hf
                    have hM := (c_X7_row l D cI cS h3 h1 g3 mm_71 g5 hc5)
                    refine ik_goW (v := none) (wc := (wz_row cI cS h3 h1 g3 mm_71)) (w1 := (wz_row cI cS h3 h1 g3 g5)) [3, 1] [0, 2, 4, 5, 6, 7, 8, 9, 10, 11] 12 rfl rfl (wz_X7 cI cS h0 h1 h2 h3 h4 h5 h6 h7 h8 h9 h10 h11 misKept mtaped msort mfrom mto mvalue mbad g5 mkept g3 mother mfound mwarm_71 mdrip_71 mtape mbits msize mnumber) rfl [(h0, .inr (7, [.ref h1, .ref h2, .ref h3, .ref h4, .int misKept, .ref h5, .ref h6, .ref h7, .ref h8, .int mtaped, .int msort, .int mfrom, .int mto, .int mvalue, .int mbad, .ref h9, .ref h10, .ref h11])), (h2, .inl (cI, 82, .inl mkept)), (h4, .inl (cI, 82, .inl mother)), (h5, .inl (cI, 7, .inl mfound)), (h6, .inl (cI, 16, .inl mwarm_71)), (h7, .inl (cI, 8, .inl mdrip_71)), (h8, .inl (cI, 120, .inl mtape)), (h9, .inl (cI, 4, .inl mbits)), (h10, .inl (cI, 4, .inl msize)), (h11, .inl (cI, 160, .inl mnumber))] rfl rfl rfl (by decide +kernel) (ik_runS (st := []) (As := [.ref h3, .ref h1]) C hM ms_X7_row wl_24_22 ⟨rfl, rfl, Nat.le_of_ble_eq_true rfl, Nat.le_of_ble_eq_true rfl⟩ [3, 1] rfl (by decide +kernel) rfl rfl (Nat.le_of_ble_eq_true rfl) dX7_ahead_159 ⟨Nat.zero_le _, Nat.zero_le _⟩) rfl ?_
                    refine ik_iload C 0 rfl dX7_ahead_162 ?_
                    obtain ⟨rfl, rfl, rfl, rfl, rfl, rfl⟩ := ik_e6 hf
                    exact ik_iretW C hr hlk dX7_ahead_164
                · have hf := ik_pos hc hf
                  refine ik_aload_n C 2 rfl rfl dX7_ahead_110 ?_
                  obtain ⟨r5, hc5, hf⟩ := ik_b1s hf
                  have hM := (c_X7_allGrains l D cI cS h0 h1 h2 h3 h4 h5 h6 h7 h8 h9 h10 h11 misKept mtaped msort mfrom mto mvalue mbad mm_71 mkept g3 mother mfound mwarm_71 mdrip_71 mtape mbits msize mnumber r5 hc5)
                  refine ik_goR (ik_runV (st := []) (As := []) C hM mv_X7_allGrains wl_25_1 ⟨rfl, rfl, Nat.le_of_ble_eq_true rfl, Nat.le_of_ble_eq_true rfl⟩ [0, 1, 2, 3, 4, 5, 6, 7, 8, 9, 10, 11] rfl (by decide +kernel) 0 rfl rfl rfl rfl (Nat.le_of_ble_eq_true rfl) dX7_ahead_111 ⟨Nat.zero_le _, Nat.zero_le _⟩) rfl ?_
                  refine ik_goto C 149 dX7_ahead_114 (by decide) ?_
                  refine ik_istore C [(4, .int r5), (3, .int r4), (0, .ref h0), (1, .int x1), (2, .int x2)] (by decide) rfl dX7_ahead_149 ?_
                  refine ik_aload_n C 2 rfl rfl dX7_ahead_151 ?_
                  refine ik_get C inlX7 0 rfl rfl 2 (by decide) wl_4_14 rfl (v := .ref h3) rfl dX7_ahead_152 ?_
                  refine ik_aload_n C 2 rfl rfl dX7_ahead_155 ?_
                  refine ik_get C inlX7 0 rfl rfl 0 (by decide) wl_4_12 rfl (v := .ref h1) rfl dX7_ahead_156 ?_
                  obtain ⟨g6, hc6, hf⟩ := ik_b1s hf
                  have hM := (c_X7_row l D cI cS h3 h1 g3 mm_71 g6 hc6)
                  refine ik_goW (v := none) (wc := (wz_row cI cS h3 h1 g3 mm_71)) (w1 := (wz_row cI cS h3 h1 g3 g6)) [3, 1] [0, 2, 4, 5, 6, 7, 8, 9, 10, 11] 12 rfl rfl (wz_X7 cI cS h0 h1 h2 h3 h4 h5 h6 h7 h8 h9 h10 h11 misKept mtaped msort mfrom mto mvalue mbad g6 mkept g3 mother mfound mwarm_71 mdrip_71 mtape mbits msize mnumber) rfl [(h0, .inr (7, [.ref h1, .ref h2, .ref h3, .ref h4, .int misKept, .ref h5, .ref h6, .ref h7, .ref h8, .int mtaped, .int msort, .int mfrom, .int mto, .int mvalue, .int mbad, .ref h9, .ref h10, .ref h11])), (h2, .inl (cI, 82, .inl mkept)), (h4, .inl (cI, 82, .inl mother)), (h5, .inl (cI, 7, .inl mfound)), (h6, .inl (cI, 16, .inl mwarm_71)), (h7, .inl (cI, 8, .inl mdrip_71)), (h8, .inl (cI, 120, .inl mtape)), (h9, .inl (cI, 4, .inl mbits)), (h10, .inl (cI, 4, .inl msize)), (h11, .inl (cI, 160, .inl mnumber))] rfl rfl rfl (by decide +kernel) (ik_runS (st := []) (As := [.ref h3, .ref h1]) C hM ms_X7_row wl_24_22 ⟨rfl, rfl, Nat.le_of_ble_eq_true rfl, Nat.le_of_ble_eq_true rfl⟩ [3, 1] rfl (by decide +kernel) rfl rfl (Nat.le_of_ble_eq_true rfl) dX7_ahead_159 ⟨Nat.zero_le _, Nat.zero_le _⟩) rfl ?_
                  refine ik_iload C 0 rfl dX7_ahead_162 ?_
                  obtain ⟨rfl, rfl, rfl, rfl, rfl, rfl⟩ := ik_e6 hf
                  exact ik_iretW C hr hlk dX7_ahead_164
              · have hf := ik_pos hc hf
                refine ik_aload_n C 2 rfl rfl dX7_ahead_91 ?_
                obtain ⟨r5, hc5, hf⟩ := ik_b1s hf
                have hM := (c_X7_goneNow l D cI cS h0 h1 h2 h3 h4 h5 h6 h7 h8 h9 h10 h11 misKept mtaped msort mfrom mto mvalue mbad mm_71 mkept g3 mother mfound mwarm_71 mdrip_71 mtape mbits msize mnumber r5 hc5)
                refine ik_goR (ik_runV (st := []) (As := []) C hM mv_X7_goneNow wl_20_14 ⟨rfl, rfl, Nat.le_of_ble_eq_true rfl, Nat.le_of_ble_eq_true rfl⟩ [0, 1, 2, 3, 4, 5, 6, 7, 8, 9, 10, 11] rfl (by decide +kernel) 0 rfl rfl rfl rfl (Nat.le_of_ble_eq_true rfl) dX7_ahead_92 ⟨Nat.zero_le _, Nat.zero_le _⟩) rfl ?_
                refine ik_iload_n C 1 rfl rfl dX7_ahead_95 ?_
                refine ik_iconst (v := (-1 : Int32)) C (by decide) dX7_ahead_96 ?_
                refine ik_ixor C dX7_ahead_97 ?_
                refine ik_iand C dX7_ahead_98 ?_
                obtain ⟨r6, hc6, hf⟩ := ik_b1s hf
                have hM := (c_X7_many l D cI cS (r5 &&& (r4 ^^^ (-1 : Int32))) r6 hc6)
                refine ik_goR (ik_runS (st := []) (As := [.int (r5 &&& (r4 ^^^ (-1 : Int32)))]) C hM ms_X7_many wl_21_22 ⟨rfl, rfl, Nat.le_of_ble_eq_true rfl, Nat.le_of_ble_eq_true rfl⟩ [] rfl (by decide +kernel) rfl rfl (Nat.le_of_ble_eq_true rfl) dX7_ahead_99 ⟨Nat.zero_le _, Nat.zero_le _⟩) rfl ?_
                refine ik_goto C 149 dX7_ahead_102 (by decide) ?_
                refine ik_istore C [(4, .int r6), (3, .int r4), (0, .ref h0), (1, .int x1), (2, .int x2)] (by decide) rfl dX7_ahead_149 ?_
                refine ik_aload_n C 2 rfl rfl dX7_ahead_151 ?_
                refine ik_get C inlX7 0 rfl rfl 2 (by decide) wl_4_14 rfl (v := .ref h3) rfl dX7_ahead_152 ?_
                refine ik_aload_n C 2 rfl rfl dX7_ahead_155 ?_
                refine ik_get C inlX7 0 rfl rfl 0 (by decide) wl_4_12 rfl (v := .ref h1) rfl dX7_ahead_156 ?_
                obtain ⟨g7, hc7, hf⟩ := ik_b1s hf
                have hM := (c_X7_row l D cI cS h3 h1 g3 mm_71 g7 hc7)
                refine ik_goW (v := none) (wc := (wz_row cI cS h3 h1 g3 mm_71)) (w1 := (wz_row cI cS h3 h1 g3 g7)) [3, 1] [0, 2, 4, 5, 6, 7, 8, 9, 10, 11] 12 rfl rfl (wz_X7 cI cS h0 h1 h2 h3 h4 h5 h6 h7 h8 h9 h10 h11 misKept mtaped msort mfrom mto mvalue mbad g7 mkept g3 mother mfound mwarm_71 mdrip_71 mtape mbits msize mnumber) rfl [(h0, .inr (7, [.ref h1, .ref h2, .ref h3, .ref h4, .int misKept, .ref h5, .ref h6, .ref h7, .ref h8, .int mtaped, .int msort, .int mfrom, .int mto, .int mvalue, .int mbad, .ref h9, .ref h10, .ref h11])), (h2, .inl (cI, 82, .inl mkept)), (h4, .inl (cI, 82, .inl mother)), (h5, .inl (cI, 7, .inl mfound)), (h6, .inl (cI, 16, .inl mwarm_71)), (h7, .inl (cI, 8, .inl mdrip_71)), (h8, .inl (cI, 120, .inl mtape)), (h9, .inl (cI, 4, .inl mbits)), (h10, .inl (cI, 4, .inl msize)), (h11, .inl (cI, 160, .inl mnumber))] rfl rfl rfl (by decide +kernel) (ik_runS (st := []) (As := [.ref h3, .ref h1]) C hM ms_X7_row wl_24_22 ⟨rfl, rfl, Nat.le_of_ble_eq_true rfl, Nat.le_of_ble_eq_true rfl⟩ [3, 1] rfl (by decide +kernel) rfl rfl (Nat.le_of_ble_eq_true rfl) dX7_ahead_159 ⟨Nat.zero_le _, Nat.zero_le _⟩) rfl ?_
                refine ik_iload C 0 rfl dX7_ahead_162 ?_
                obtain ⟨rfl, rfl, rfl, rfl, rfl, rfl⟩ := ik_e6 hf
                exact ik_iretW C hr hlk dX7_ahead_164
            · have hf := ik_neg hc hf
              refine ik_aload_n C 2 rfl rfl dX7_ahead_77 ?_
              obtain ⟨g5, g6, g7, hc7, hf⟩ := ik_b3s hf
              have hM := (c_X7_hour l D cI cS h0 h1 h2 h3 h4 h5 h6 h7 h8 h9 h10 h11 misKept mtaped msort mfrom mto mvalue mbad mm_71 mkept g3 mother mfound mwarm_71 mdrip_71 mtape mbits msize mnumber g5 g6 g7 hc7)
              refine ik_goW (v := none) (wc := (wz_X7 cI cS h0 h1 h2 h3 h4 h5 h6 h7 h8 h9 h10 h11 misKept mtaped msort mfrom mto mvalue mbad mm_71 mkept g3 mother mfound mwarm_71 mdrip_71 mtape mbits msize mnumber)) (w1 := (wz_X7 cI cS h0 h1 h2 h3 h4 h5 h6 h7 h8 h9 h10 h11 misKept mtaped msort mfrom mto mvalue mbad g5 mkept g3 mother mfound g6 g7 mtape mbits msize mnumber)) [0, 1, 2, 3, 4, 5, 6, 7, 8, 9, 10, 11] [] 12 rfl rfl (wz_X7 cI cS h0 h1 h2 h3 h4 h5 h6 h7 h8 h9 h10 h11 misKept mtaped msort mfrom mto mvalue mbad g5 mkept g3 mother mfound g6 g7 mtape mbits msize mnumber) rfl [] rfl rfl rfl (by decide +kernel) (ik_runV (st := []) (As := []) C hM mv_X7_hour wl_20_18 ⟨rfl, rfl, Nat.le_of_ble_eq_true rfl, Nat.le_of_ble_eq_true rfl⟩ [0, 1, 2, 3, 4, 5, 6, 7, 8, 9, 10, 11] rfl (by decide +kernel) 0 rfl rfl rfl rfl (Nat.le_of_ble_eq_true rfl) dX7_ahead_78 ⟨Nat.zero_le _, Nat.zero_le _⟩) rfl ?_
              refine ik_iinc C [(4, .int (x4_71 + (1 : Int32))), (3, .int r4), (0, .ref h0), (1, .int x1), (2, .int x2)] 0 rfl rfl (by decide) rfl dX7_ahead_81 ?_
              refine ik_goto C 71 dX7_ahead_84 (by decide) ?_
              exact ik_sub [0, 1, 2, 3, 4] [(4, .int (x4_71 + (1 : Int32))), (3, .int r4), (0, .ref h0), (1, .int x1), (2, .int x2)] rfl (ih_71 g5 g6 g7 (x4_71 + (1 : Int32)) hf)
        exact hL_71 ik_fu mm mwarm mdrip (0 : Int32) hf
      · have hf := ik_neg hc hf
        refine ik_aload_n C 0 rfl rfl dX7_ahead_45 ?_
        refine ik_ldc C wl_6_16 dX7_ahead_46 ?_
        obtain ⟨r3, g4, hc4, hf⟩ := ik_b2s hf
        have hM := (c_X7_finds l D cI cS h0 h1 h2 h3 h4 h5 h6 h7 h8 h9 h10 h11 misKept mtaped msort mfrom mto mvalue mbad mm mkept mwas mother mfound mwarm mdrip mtape mbits msize mnumber (-1000005 : Int32) r3 g4 hc4)
        refine ik_goW (v := (some (.int r3))) (wc := (wz_X7 cI cS h0 h1 h2 h3 h4 h5 h6 h7 h8 h9 h10 h11 misKept mtaped msort mfrom mto mvalue mbad mm mkept mwas mother mfound mwarm mdrip mtape mbits msize mnumber)) (w1 := (wz_X7 cI cS h0 h1 h2 h3 h4 h5 h6 h7 h8 h9 h10 h11 misKept mtaped msort mfrom mto mvalue mbad mm mkept mwas mother g4 mwarm mdrip mtape mbits msize mnumber)) [0, 1, 2, 3, 4, 5, 6, 7, 8, 9, 10, 11] [] 12 rfl rfl (wz_X7 cI cS h0 h1 h2 h3 h4 h5 h6 h7 h8 h9 h10 h11 misKept mtaped msort mfrom mto mvalue mbad mm mkept mwas mother g4 mwarm mdrip mtape mbits msize mnumber) rfl [] rfl rfl rfl (by decide +kernel) (ik_runV (st := []) (As := [.int (-1000005 : Int32)]) C hM mv_X7_finds wl_7_8 ⟨rfl, rfl, Nat.le_of_ble_eq_true rfl, Nat.le_of_ble_eq_true rfl⟩ [0, 1, 2, 3, 4, 5, 6, 7, 8, 9, 10, 11] rfl (by decide +kernel) 0 rfl rfl rfl rfl (Nat.le_of_ble_eq_true rfl) dX7_ahead_48 ⟨Nat.zero_le _, Nat.zero_le _⟩) rfl ?_
        obtain ⟨rfl, rfl, rfl, rfl, rfl, rfl⟩ := ik_e6 hf
        exact ik_iretW C hr hlk dX7_ahead_51
    · have hf := ik_pos hc hf
      refine ik_aload_n C 0 rfl rfl dX7_ahead_24 ?_
      refine ik_ldc C wl_6_14 dX7_ahead_25 ?_
      obtain ⟨r3, g4, hc4, hf⟩ := ik_b2s hf
      have hM := (c_X7_finds l D cI cS h0 h1 h2 h3 h4 h5 h6 h7 h8 h9 h10 h11 misKept mtaped msort mfrom mto mvalue mbad mm mkept mwas mother mfound mwarm mdrip mtape mbits msize mnumber (-1000001 : Int32) r3 g4 hc4)
      refine ik_goW (v := (some (.int r3))) (wc := (wz_X7 cI cS h0 h1 h2 h3 h4 h5 h6 h7 h8 h9 h10 h11 misKept mtaped msort mfrom mto mvalue mbad mm mkept mwas mother mfound mwarm mdrip mtape mbits msize mnumber)) (w1 := (wz_X7 cI cS h0 h1 h2 h3 h4 h5 h6 h7 h8 h9 h10 h11 misKept mtaped msort mfrom mto mvalue mbad mm mkept mwas mother g4 mwarm mdrip mtape mbits msize mnumber)) [0, 1, 2, 3, 4, 5, 6, 7, 8, 9, 10, 11] [] 12 rfl rfl (wz_X7 cI cS h0 h1 h2 h3 h4 h5 h6 h7 h8 h9 h10 h11 misKept mtaped msort mfrom mto mvalue mbad mm mkept mwas mother g4 mwarm mdrip mtape mbits msize mnumber) rfl [] rfl rfl rfl (by decide +kernel) (ik_runV (st := []) (As := [.int (-1000001 : Int32)]) C hM mv_X7_finds wl_7_8 ⟨rfl, rfl, Nat.le_of_ble_eq_true rfl, Nat.le_of_ble_eq_true rfl⟩ [0, 1, 2, 3, 4, 5, 6, 7, 8, 9, 10, 11] rfl (by decide +kernel) 0 rfl rfl rfl rfl (Nat.le_of_ble_eq_true rfl) dX7_ahead_27 ⟨Nat.zero_le _, Nat.zero_le _⟩) rfl ?_
      obtain ⟨rfl, rfl, rfl, rfl, rfl, rfl⟩ := ik_e6 hf
      exact ik_iretW C hr hlk dX7_ahead_30
