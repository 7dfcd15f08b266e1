theorem mv_X7_load : ik_V yX7_load RX7 cX7_load 3 (some .int) 1 := ⟨wl_46_18, wl_46_19, wl_1_5, wl_46_20, by decide +kernel⟩
set_option maxHeartbeats 4000000 in
set_option maxRecDepth 100000 in
theorem c_X7_load (l : Launch) (D : va_G) (cI cS : ClassId) (h0 h1 h2 h3 h4 h5 h6 h7 h8 h9 h10 h11 : Nat) (misKept : Int32) (mtaped : Int32) (msort : Int32) (mfrom : Int32) (mto : Int32) (mvalue : Int32) (mbad : Int32) (mm : Nat → Int32) (mkept : Nat → Int32) (mwas : Nat → Int32) (mother : Nat → Int32) (mfound : Nat → Int32) (mwarm : Nat → Int32) (mdrip : Nat → Int32) (mtape : Nat → Int32) (mbits : Nat → Int32) (msize : Nat → Int32) (mnumber : Nat → Int32) (x1 : Int32) (R : Int32) (mm_r : Nat → Int32) (mfound_r : Nat → Int32) (hf : f_X7_load mm mfound mbits msize mnumber x1 = some (R, mm_r, mfound_r)) : Met l yX7_load (ik_ws yX7_load cX7_load 3 (some .int)) ({ frames := 2, cells := 0, slots := 0, locals := 46 } : Room) (ik_P D cI cS [.ref h0, .int x1] (wz_X7 cI cS h0 h1 h2 h3 h4 h5 h6 h7 h8 h9 h10 h11 misKept mtaped msort mfrom mto mvalue mbad mm mkept mwas mother mfound mwarm mdrip mtape mbits msize mnumber)) (ik_Q (some (.int R)) D (wz_X7 cI cS h0 h1 h2 h3 h4 h5 h6 h7 h8 h9 h10 h11 misKept mtaped msort mfrom mto mvalue mbad mm_r mkept mwas mother mfound_r mwarm mdrip mtape mbits msize mnumber) (wz_X7 cI cS h0 h1 h2 h3 h4 h5 h6 h7 h8 h9 h10 h11 misKept mtaped msort mfrom mto mvalue mbad mm mkept mwas mother mfound mwarm mdrip mtape mbits msize mnumber)) 0 0 (ik_in (wz_X7 cI cS h0 h1 h2 h3 h4 h5 h6 h7 h8 h9 h10 h11 misKept mtaped msort mfrom mto mvalue mbad mm mkept mwas mother mfound mwarm mdrip mtape mbits msize mnumber)) := by
  refine ik_metW RX7 rfl (by decide) (Nat.le_of_ble_eq_true rfl) [(0, .ref h0), (1, .int x1)] rfl ?_
  intro p e s m below meth c C hr hlk
  unfold f_X7_load at hf
  refine ik_iload_n C 1 rfl rfl dX7_load_0 ?_
  obtain ⟨r1, hc1, hf⟩ := ik_b1s hf
  have hM := (c_X7_isSheet l D cI cS x1 r1 hc1)
  refine ik_goR (ik_runS (st := []) (As := [.int x1]) C hM ms_X7_isSheet wl_45_0 ⟨rfl, rfl, Nat.le_of_ble_eq_true rfl, Nat.le_of_ble_eq_true rfl⟩ [] rfl (by decide +kernel) rfl rfl (Nat.le_of_ble_eq_true rfl) dX7_load_1 ⟨Nat.zero_le _, Nat.zero_le _⟩) rfl ?_
  refine ik_if_ne C 14 dX7_load_4 (by decide) (fun hc => ?_) (fun hc => ?_)
  · have hf := ik_neg hc hf
    refine ik_aload_n C 0 rfl rfl dX7_load_14 ?_
    refine ik_get C inlX7 0 rfl rfl 15 (by decide) wl_4_20 rfl (v := .ref h9) rfl dX7_load_15 ?_
    refine ik_iload_n C 1 rfl rfl dX7_load_18 ?_
    have hg := ik_gdi hf
    have hf := ik_gdk hf
    refine ik_iald C 9 rfl hg dX7_load_19 ?_
    refine ik_if_ne C 31 dX7_load_20 (by decide) (fun hc => ?_) (fun hc => ?_)
    · have hf := ik_neg hc hf
      refine ik_iconst (v := (0 : Int32)) C (by decide) dX7_load_31 ?_
      refine ik_istore_n C [(2, .int (0 : Int32)), (0, .ref h0), (1, .int x1)] rfl (by decide) rfl dX7_load_32 ?_
      have hL_33 : ∀ (n_33 : Nat) (mm_33 : Nat → Int32) (x2_33 : Int32), ik_lp2 (b_X7_load_33 mfound msize mnumber x1) n_33 mm_33 x2_33 = some (R, mm_r, mfound_r) → ik_G p l e ({ frames := 2, cells := 0, slots := 0, locals := 46 } : Room) s m ([.ref h0, .int x1] : List Value).toArray below meth c D (ik_in (wz_X7 cI cS h0 h1 h2 h3 h4 h5 h6 h7 h8 h9 h10 h11 misKept mtaped msort mfrom mto mvalue mbad mm mkept mwas mother mfound mwarm mdrip mtape mbits msize mnumber)) (ik_in (wz_X7 cI cS h0 h1 h2 h3 h4 h5 h6 h7 h8 h9 h10 h11 misKept mtaped msort mfrom mto mvalue mbad mm mkept mwas mother mfound mwarm mdrip mtape mbits msize mnumber)) 3 0 0 (MQ below (ik_Q (some (.int R)) D (wz_X7 cI cS h0 h1 h2 h3 h4 h5 h6 h7 h8 h9 h10 h11 misKept mtaped msort mfrom mto mvalue mbad mm_r mkept mwas mother mfound_r mwarm mdrip mtape mbits msize mnumber) (wz_X7 cI cS h0 h1 h2 h3 h4 h5 h6 h7 h8 h9 h10 h11 misKept mtaped msort mfrom mto mvalue mbad mm mkept mwas mother mfound mwarm mdrip mtape mbits msize mnumber)) ([.ref h0, .int x1] : List Value).toArray s 0 0 (ik_in (wz_X7 cI cS h0 h1 h2 h3 h4 h5 h6 h7 h8 h9 h10 h11 misKept mtaped msort mfrom mto mvalue mbad mm mkept mwas mother mfound mwarm mdrip mtape mbits msize mnumber))) 33 [(2, .int x2_33), (0, .ref h0), (1, .int x1)] [] (wz_X7 cI cS h0 h1 h2 h3 h4 h5 h6 h7 h8 h9 h10 h11 misKept mtaped msort mfrom mto mvalue mbad mm_33 mkept mwas mother mfound mwarm mdrip mtape mbits msize mnumber) := by
        intro n_33
        induction n_33 with
        | zero => intro _ _ hf; exact nomatch hf
        | succ n_33 ih_33 =>
          intro mm_33 x2_33 hf
          replace hf : b_X7_load_33 mfound msize mnumber x1 (ik_lp2 (b_X7_load_33 mfound msize mnumber x1) n_33) mm_33 x2_33 = some (R, mm_r, mfound_r) := hf
          unfold b_X7_load_33 at hf
          refine ik_iload_n C 0 rfl rfl dX7_load_33 ?_
          refine ik_aload_n C 1 rfl rfl dX7_load_34 ?_
          refine ik_get C inlX7 0 rfl rfl 16 (by decide) wl_4_21 rfl (v := .ref h10) rfl dX7_load_35 ?_
          refine ik_iload_n C 2 rfl rfl dX7_load_38 ?_
          have hg := ik_gdi hf
          have hf := ik_gdk hf
          refine ik_iald C 10 rfl hg dX7_load_39 ?_
          refine ik_icmp_ge C 98 dX7_load_40 (by decide) (fun hc => ?_) (fun hc => ?_)
          · have hf := ik_pos hc hf
            refine ik_iload_n C 0 rfl rfl dX7_load_98 ?_
            obtain ⟨rfl, rfl, rfl⟩ := ik_e3 hf
            exact ik_iretW C hr hlk dX7_load_99
          · have hf := ik_neg hc hf
            refine ik_aload_n C 1 rfl rfl dX7_load_43 ?_
            refine ik_iload_n C 0 rfl rfl dX7_load_44 ?_
            obtain ⟨r2, hc2, hf⟩ := ik_b1s hf
            have hM := (c_X7_isBlock l D cI cS h0 h1 h2 h3 h4 h5 h6 h7 h8 h9 h10 h11 misKept mtaped msort mfrom mto mvalue mbad mm_33 mkept mwas mother mfound mwarm mdrip mtape mbits msize mnumber x2_33 r2 hc2)
            refine ik_goR (ik_runV (st := []) (As := [.int x2_33]) C hM mv_X7_isBlock wl_9_17 ⟨rfl, rfl, Nat.le_of_ble_eq_true rfl, Nat.le_of_ble_eq_true rfl⟩ [0, 1, 2, 3, 4, 5, 6, 7, 8, 9, 10, 11] rfl (by decide +kernel) 0 rfl rfl rfl rfl (Nat.le_of_ble_eq_true rfl) dX7_load_45 ⟨Nat.zero_le _, Nat.zero_le _⟩) rfl ?_
            refine ik_if_eq C 98 dX7_load_48 (by decide) (fun hc => ?_) (fun hc => ?_)
            · have hf := ik_pos hc hf
              refine ik_iload_n C 0 rfl rfl dX7_load_98 ?_
              obtain ⟨rfl, rfl, rfl⟩ := ik_e3 hf
              exact ik_iretW C hr hlk dX7_load_99
            · have hf := ik_neg hc hf
              refine ik_aload_n C 1 rfl rfl dX7_load_51 ?_
              refine ik_get C inlX7 0 rfl rfl 17 (by decide) wl_4_22 rfl (v := .ref h11) rfl dX7_load_52 ?_
              refine ik_bipush (v := (40 : Int32)) C (by decide) dX7_load_55 ?_
              refine ik_iload_n C 2 rfl rfl dX7_load_57 ?_
              refine ik_imul C dX7_load_58 ?_
              refine ik_iload_n C 0 rfl rfl dX7_load_59 ?_
              refine ik_iadd C dX7_load_60 ?_
              have hg := ik_gdi hf
              have hf := ik_gdk hf
              refine ik_iald C 11 rfl hg dX7_load_61 ?_
              obtain ⟨r3, hc3, hf⟩ := ik_b1s hf
              have hM := (c_X7_isSome l D cI cS (mnumber ((((40 : Int32) * x1) + x2_33)).toNatClampNeg) r3 hc3)
              refine ik_goR (ik_runS (st := []) (As := [.int (mnumber ((((40 : Int32) * x1) + x2_33)).toNatClampNeg)]) C hM ms_X7_isSome wl_7_4 ⟨rfl, rfl, Nat.le_of_ble_eq_true rfl, Nat.le_of_ble_eq_true rfl⟩ [] rfl (by decide +kernel) rfl rfl (Nat.le_of_ble_eq_true rfl) dX7_load_62 ⟨Nat.zero_le _, Nat.zero_le _⟩) rfl ?_
              refine ik_if_eq C 98 dX7_load_65 (by decide) (fun hc => ?_) (fun hc => ?_)
              · have hf := ik_pos hc hf
                refine ik_iload_n C 0 rfl rfl dX7_load_98 ?_
                obtain ⟨rfl, rfl, rfl⟩ := ik_e3 hf
                exact ik_iretW C hr hlk dX7_load_99
              · have hf := ik_neg hc hf
                refine ik_aload_n C 1 rfl rfl dX7_load_68 ?_
                refine ik_iload_n C 0 rfl rfl dX7_load_69 ?_
                obtain ⟨r4, hc4, hf⟩ := ik_b1s hf
                have hM := (c_X7_isGone l D cI cS h0 h1 h2 h3 h4 h5 h6 h7 h8 h9 h10 h11 misKept mtaped msort mfrom mto mvalue mbad mm_33 mkept mwas mother mfound mwarm mdrip mtape mbits msize mnumber x2_33 r4 hc4)
                refine ik_goR (ik_runV (st := []) (As := [.int x2_33]) C hM mv_X7_isGone wl_10_5 ⟨rfl, rfl, Nat.le_of_ble_eq_true rfl, Nat.le_of_ble_eq_true rfl⟩ [0, 1, 2, 3, 4, 5, 6, 7, 8, 9, 10, 11] rfl (by decide +kernel) 0 rfl rfl rfl rfl (Nat.le_of_ble_eq_true rfl) dX7_load_70 ⟨Nat.zero_le _, Nat.zero_le _⟩) rfl ?_
                refine ik_if_ne C 92 dX7_load_73 (by decide) (fun hc => ?_) (fun hc => ?_)
                · have hf := ik_neg hc hf
                  refine ik_iinc C [(2, .int (x2_33 + (1 : Int32))), (0, .ref h0), (1, .int x1)] 0 rfl rfl (by decide) rfl dX7_load_92 ?_
                  refine ik_goto C 33 dX7_load_95 (by decide) ?_
                  exact ik_sub [0, 1, 2] [(2, .int (x2_33 + (1 : Int32))), (0, .ref h0), (1, .int x1)] rfl (ih_33 mm_33 (x2_33 + (1 : Int32)) hf)
                · have hf := ik_pos hc hf
                  refine ik_aload_n C 1 rfl rfl dX7_load_76 ?_
                  refine ik_iload_n C 0 rfl rfl dX7_load_77 ?_
                  refine ik_aload_n C 1 rfl rfl dX7_load_78 ?_
                  refine ik_get C inlX7 0 rfl rfl 17 (by decide) wl_4_22 rfl (v := .ref h11) rfl dX7_load_79 ?_
                  refine ik_bipush (v := (40 : Int32)) C (by decide) dX7_load_82 ?_
                  refine ik_iload_n C 2 rfl rfl dX7_load_84 ?_
                  refine ik_imul C dX7_load_85 ?_
                  refine ik_iload_n C 0 rfl rfl dX7_load_86 ?_
                  refine ik_iadd C dX7_load_87 ?_
                  have hg := ik_gdi hf
                  have hf := ik_gdk hf
                  refine ik_iald C 11 rfl hg dX7_load_88 ?_
                  obtain ⟨g5, hc5, hf⟩ := ik_b1s hf
                  have hM := (c_X7_makes l D cI cS h0 h1 h2 h3 h4 h5 h6 h7 h8 h9 h10 h11 misKept mtaped msort mfrom mto mvalue mbad mm_33 mkept mwas mother mfound mwarm mdrip mtape mbits msize mnumber x2_33 (mnumber ((((40 : Int32) * x1) + x2_33)).toNatClampNeg) g5 hc5)
                  refine ik_goW (v := none) (wc := (wz_X7 cI cS h0 h1 h2 h3 h4 h5 h6 h7 h8 h9 h10 h11 misKept mtaped msort mfrom mto mvalue mbad mm_33 mkept mwas mother mfound mwarm mdrip mtape mbits msize mnumber)) (w1 := (wz_X7 cI cS h0 h1 h2 h3 h4 h5 h6 h7 h8 h9 h10 h11 misKept mtaped msort mfrom mto mvalue mbad g5 mkept mwas mother mfound mwarm mdrip mtape mbits msize mnumber)) [0, 1, 2, 3, 4, 5, 6, 7, 8, 9, 10, 11] [] 12 rfl rfl (wz_X7 cI cS h0 h1 h2 h3 h4 h5 h6 h7 h8 h9 h10 h11 misKept mtaped msort mfrom mto mvalue mbad g5 mkept mwas mother mfound mwarm mdrip mtape mbits msize mnumber) rfl [] rfl rfl rfl (by decide +kernel) (ik_runV (st := []) (As := [.int x2_33, .int (mnumber ((((40 : Int32) * x1) + x2_33)).toNatClampNeg)]) C hM mv_X7_makes wl_14_23 ⟨rfl, rfl, Nat.le_of_ble_eq_true rfl, Nat.le_of_ble_eq_true rfl⟩ [0, 1, 2, 3, 4, 5, 6, 7, 8, 9, 10, 11] rfl (by decide +kernel) 0 rfl rfl rfl rfl (Nat.le_of_ble_eq_true rfl) dX7_load_89 ⟨Nat.zero_le _, Nat.zero_le _⟩) rfl ?_
                  refine ik_iinc C [(2, .int (x2_33 + (1 : Int32))), (0, .ref h0), (1, .int x1)] 0 rfl rfl (by decide) rfl dX7_load_92 ?_
                  refine ik_goto C 33 dX7_load_95 (by decide) ?_
                  exact ik_sub [0, 1, 2] [(2, .int (x2_33 + (1 : Int32))), (0, .ref h0), (1, .int x1)] rfl (ih_33 g5 (x2_33 + (1 : Int32)) hf)
      exact hL_33 ik_fu mm (0 : Int32) hf
    · have hf := ik_pos hc hf
      refine ik_aload_n C 0 rfl rfl dX7_load_23 ?_
      refine ik_ldcw C wl_43_23 dX7_load_24 ?_
      obtain ⟨r2, g3, hc3, hf⟩ := ik_b2s hf
      have hM := (c_X7_finds l D cI cS h0 h1 h2 h3 h4 h5 h6 h7 h8 h9 h10 h11 misKept mtaped msort mfrom mto mvalue mbad mm mkept mwas mother mfound mwarm mdrip mtape mbits msize mnumber (-1000006 : Int32) r2 g3 hc3)
      refine ik_goW (v := (some (.int r2))) (wc := (wz_X7 cI cS h0 h1 h2 h3 h4 h5 h6 h7 h8 h9 h10 h11 misKept mtaped msort mfrom mto mvalue mbad mm mkept mwas mother mfound mwarm mdrip mtape mbits msize mnumber)) (w1 := (wz_X7 cI cS h0 h1 h2 h3 h4 h5 h6 h7 h8 h9 h10 h11 misKept mtaped msort mfrom mto mvalue mbad mm mkept mwas mother g3 mwarm mdrip mtape mbits msize mnumber)) [0, 1, 2, 3, 4, 5, 6, 7, 8, 9, 10, 11] [] 12 rfl rfl (wz_X7 cI cS h0 h1 h2 h3 h4 h5 h6 h7 h8 h9 h10 h11 misKept mtaped msort mfrom mto mvalue mbad mm mkept mwas mother g3 mwarm mdrip mtape mbits msize mnumber) rfl [] rfl rfl rfl (by decide +kernel) (ik_runV (st := []) (As := [.int (-1000006 : Int32)]) C hM mv_X7_finds wl_7_8 ⟨rfl, rfl, Nat.le_of_ble_eq_true rfl, Nat.le_of_ble_eq_true rfl⟩ [0, 1, 2, 3, 4, 5, 6, 7, 8, 9, 10, 11] rfl (by decide +kernel) 0 rfl rfl rfl rfl (Nat.le_of_ble_eq_true rfl) dX7_load_27 ⟨Nat.zero_le _, Nat.zero_le _⟩) rfl ?_
      obtain ⟨rfl, rfl, rfl⟩ := ik_e3 hf
      exact ik_iretW C hr hlk dX7_load_30
  · have hf := ik_pos hc hf
    refine ik_aload_n C 0 rfl rfl dX7_load_7 ?_
    refine ik_ldc C wl_6_14 dX7_load_8 ?_
    obtain ⟨r2, g3, hc3, hf⟩ := ik_b2s hf
    have hM := (c_X7_finds l D cI cS h0 h1 h2 h3 h4 h5 h6 h7 h8 h9 h10 h11 misKept mtaped msort mfrom mto mvalue mbad mm mkept mwas mother mfound mwarm mdrip mtape mbits msize mnumber (-1000001 : Int32) r2 g3 hc3)
    refine ik_goW (v := (some (.int r2))) (wc := (wz_X7 cI cS h0 h1 h2 h3 h4 h5 h6 h7 h8 h9 h10 h11 misKept mtaped msort mfrom mto mvalue mbad mm mkept mwas mother mfound mwarm mdrip mtape mbits msize mnumber)) (w1 := (wz_X7 cI cS h0 h1 h2 h3 h4 h5 h6 h7 h8 h9 h10 h11 misKept mtaped msort mfrom mto mvalue mbad mm mkept mwas mother g3 mwarm mdrip mtape mbits msize mnumber)) [0, 1, 2, 3, 4, 5, 6, 7, 8, 9, 10, 11] [] 12 rfl rfl (wz_X7 cI cS h0 h1 h2 h3 h4 h5 h6 h7 h8 h9 h10 h11 misKept mtaped msort mfrom mto mvalue mbad mm mkept mwas mother g3 mwarm mdrip mtape mbits msize mnumber) rfl [] rfl rfl rfl (by decide +kernel) (ik_runV (st := []) (As := [.int (-1000001 : Int32)]) C hM mv_X7_finds wl_7_8 ⟨rfl, rfl, Nat.le_of_ble_eq_true rfl, Nat.le_of_ble_eq_true rfl⟩ [0, 1, 2, 3, 4, 5, 6, 7, 8, 9, 10, 11] rfl (by decide +kernel) 0 rfl rfl rfl rfl (Nat.le_of_ble_eq_true rfl) dX7_load_10 ⟨Nat.zero_le _, Nat.zero_le _⟩) rfl ?_
    obtain ⟨rfl, rfl, rfl⟩ := ik_e3 hf
    exact ik_iretW C hr hlk dX7_load_13
theorem mv_X7_judge : ik_V yX7_judge RX7 cX7_judge 5 (some .int) 1 := ⟨wl_47_3, wl_47_4, wl_1_5, wl_47_5, by decide +kernel⟩
set_option maxHeartbeats 4000000 in
set_option maxRecDepth 100000 in
theorem c_X7_judge (l : Launch) (D : va_G) (cI cS : ClassId) (h0 h1 h2 h3 h4 h5 h6 h7 h8 h9 h10 h11 : Nat) (misKept : Int32) (mtaped : Int32) (msort : Int32) (mfrom : Int32) (mto : Int32) (mvalue : Int32) (mbad : Int32) (mm : Nat → Int32) (mkept : Nat → Int32) (mwas : Nat → Int32) (mother : Nat → Int32) (mfound : Nat → Int32) (mwarm : Nat → Int32) (mdrip : Nat → Int32) (mtape : Nat → Int32) (mbits : Nat → Int32) (msize : Nat → Int32) (mnumber : Nat → Int32) (x1 : Int32) (R : Int32) (mfound_r : Nat → Int32) (hf : f_X7_judge mm mfound mbits msize mnumber x1 = some (R, mfound_r)) : Met l yX7_judge (ik_ws yX7_judge cX7_judge 5 (some .int)) ({ frames := 4, cells := 0, slots := 0, locals := 91 } : Room) (ik_P D cI cS [.ref h0, .int x1] (wz_X7 cI cS h0 h1 h2 h3 h4 h5 h6 h7 h8 h9 h10 h11 misKept mtaped msort mfrom mto mvalue mbad mm mkept mwas mother mfound mwarm mdrip mtape mbits msize mnumber)) (ik_Q (some (.int R)) D (wz_X7 cI cS h0 h1 h2 h3 h4 h5 h6 h7 h8 h9 h10 h11 misKept mtaped msort mfrom mto mvalue mbad mm mkept mwas mother mfound_r mwarm mdrip mtape mbits msize mnumber) (wz_X7 cI cS h0 h1 h2 h3 h4 h5 h6 h7 h8 h9 h10 h11 misKept mtaped msort mfrom mto mvalue mbad mm mkept mwas mother mfound mwarm mdrip mtape mbits msize mnumber)) 0 0 (ik_in (wz_X7 cI cS h0 h1 h2 h3 h4 h5 h6 h7 h8 h9 h10 h11 misKept mtaped msort mfrom mto mvalue mbad mm mkept mwas mother mfound mwarm mdrip mtape mbits msize mnumber)) := by
  refine ik_metW RX7 rfl (by decide) (Nat.le_of_ble_eq_true rfl) [(0, .ref h0), (1, .int x1)] rfl ?_
  intro p e s m below meth c C hr hlk
  unfold f_X7_judge at hf
  refine ik_iload_n C 1 rfl rfl dX7_judge_0 ?_
  obtain ⟨r1, hc1, hf⟩ := ik_b1s hf
  have hM := (c_X7_isSheet l D cI cS x1 r1 hc1)
  refine ik_goR (ik_runS (st := []) (As := [.int x1]) C hM ms_X7_isSheet wl_45_0 ⟨rfl, rfl, Nat.le_of_ble_eq_true rfl, Nat.le_of_ble_eq_true rfl⟩ [] rfl (by decide +kernel) rfl rfl (Nat.le_of_ble_eq_true rfl) dX7_judge_1 ⟨Nat.zero_le _, Nat.zero_le _⟩) rfl ?_
  refine ik_if_ne C 14 dX7_judge_4 (by decide) (fun hc => ?_) (fun hc => ?_)
  · have hf := ik_neg hc hf
    refine ik_aload_n C 0 rfl rfl dX7_judge_14 ?_
    refine ik_get C inlX7 0 rfl rfl 15 (by decide) wl_4_20 rfl (v := .ref h9) rfl dX7_judge_15 ?_
    refine ik_iload_n C 1 rfl rfl dX7_judge_18 ?_
    have hg := ik_gdi hf
    have hf := ik_gdk hf
    refine ik_iald C 9 rfl hg dX7_judge_19 ?_
    refine ik_if_ne C 31 dX7_judge_20 (by decide) (fun hc => ?_) (fun hc => ?_)
    · have hf := ik_neg hc hf
      refine ik_iconst (v := (0 : Int32)) C (by decide) dX7_judge_31 ?_
      refine ik_istore_n C [(2, .int (0 : Int32)), (0, .ref h0), (1, .int x1)] rfl (by decide) rfl dX7_judge_32 ?_
      refine ik_iconst (v := (0 : Int32)) C (by decide) dX7_judge_33 ?_
      refine ik_istore_n C [(3, .int (0 : Int32)), (2, .int (0 : Int32)), (0, .ref h0), (1, .int x1)] rfl (by decide) rfl dX7_judge_34 ?_
      have hL_35 : ∀ (n_35 : Nat) (x2_35 : Int32) (x3_35 : Int32), ik_lp2 (b_X7_judge_35 mm mfound msize mnumber x1) n_35 x2_35 x3_35 = some (R, mfound_r) → ik_G p l e ({ frames := 4, cells := 0, slots := 0, locals := 91 } : Room) s m ([.ref h0, .int x1] : List Value).toArray below meth c D (ik_in (wz_X7 cI cS h0 h1 h2 h3 h4 h5 h6 h7 h8 h9 h10 h11 misKept mtaped msort mfrom mto mvalue mbad mm mkept mwas mother mfound mwarm mdrip mtape mbits msize mnumber)) (ik_in (wz_X7 cI cS h0 h1 h2 h3 h4 h5 h6 h7 h8 h9 h10 h11 misKept mtaped msort mfrom mto mvalue mbad mm mkept mwas mother mfound mwarm mdrip mtape mbits msize mnumber)) 5 0 0 (MQ below (ik_Q (some (.int R)) D (wz_X7 cI cS h0 h1 h2 h3 h4 h5 h6 h7 h8 h9 h10 h11 misKept mtaped msort mfrom mto mvalue mbad mm mkept mwas mother mfound_r mwarm mdrip mtape mbits msize mnumber) (wz_X7 cI cS h0 h1 h2 h3 h4 h5 h6 h7 h8 h9 h10 h11 misKept mtaped msort mfrom mto mvalue mbad mm mkept mwas mother mfound mwarm mdrip mtape mbits msize mnumber)) ([.ref h0, .int x1] : List Value).toArray s 0 0 (ik_in (wz_X7 cI cS h0 h1 h2 h3 h4 h5 h6 h7 h8 h9 h10 h11 misKept mtaped msort mfrom mto mvalue mbad mm mkept mwas mother mfound mwarm mdrip mtape mbits msize mnumber))) 35 [(3, .int x3_35), (2, .int x2_35), (0, .ref h0), (1, .int x1)] [] (wz_X7 cI cS h0 h1 h2 h3 h4 h5 h6 h7 h8 h9 h10 h11 misKept mtaped msort mfrom mto mvalue mbad mm mkept mwas mother mfound mwarm mdrip mtape mbits msize mnumber) := by
        intro n_35
        induction n_35 with
        | zero => intro _ _ hf; exact nomatch hf
        | succ n_35 ih_35 =>
          intro x2_35 x3_35 hf
          replace hf : b_X7_judge_35 mm mfound msize mnumber x1 (ik_lp2 (b_X7_judge_35 mm mfound msize mnumber x1) n_35) x2_35 x3_35 = some (R, mfound_r) := hf
          unfold b_X7_judge_35 at hf
          refine ik_iload_n C 0 rfl rfl dX7_judge_35 ?_
          refine ik_aload_n C 2 rfl rfl dX7_judge_36 ?_
          refine ik_get C inlX7 0 rfl rfl 16 (by decide) wl_4_21 rfl (v := .ref h10) rfl dX7_judge_37 ?_
          refine ik_iload_n C 3 rfl rfl dX7_judge_40 ?_
          have hg := ik_gdi hf
          have hf := ik_gdk hf
          refine ik_iald C 10 rfl hg dX7_judge_41 ?_
          refine ik_icmp_ge C 112 dX7_judge_42 (by decide) (fun hc => ?_) (fun hc => ?_)
          · have hf := ik_pos hc hf
            refine ik_iload_n C 1 rfl rfl dX7_judge_112 ?_
            refine ik_aload_n C 2 rfl rfl dX7_judge_113 ?_
            obtain ⟨r2, hc2, hf⟩ := ik_b1s hf
            have hM := (c_X7_there l D cI cS h0 h1 h2 h3 h4 h5 h6 h7 h8 h9 h10 h11 misKept mtaped msort mfrom mto mvalue mbad mm mkept mwas mother mfound mwarm mdrip mtape mbits msize mnumber r2 hc2)
            refine ik_goR (ik_runV (st := [.int x2_35]) (As := []) C hM mv_X7_there wl_30_15 ⟨rfl, rfl, Nat.le_of_ble_eq_true rfl, Nat.le_of_ble_eq_true rfl⟩ [0, 1, 2, 3, 4, 5, 6, 7, 8, 9, 10, 11] rfl (by decide +kernel) 0 rfl rfl rfl rfl (Nat.le_of_ble_eq_true rfl) dX7_judge_114 ⟨Nat.zero_le _, Nat.zero_le _⟩) rfl ?_
            refine ik_icmp_ne C 124 dX7_judge_117 (by decide) (fun hc => ?_) (fun hc => ?_)
            · have hf := ik_neg hc hf
              refine ik_bipush (v := (41 : Int32)) C (by decide) dX7_judge_124 ?_
              obtain ⟨rfl, rfl⟩ := ik_e2 hf
              exact ik_iretW C hr hlk dX7_judge_126
            · have hf := ik_pos hc hf
              refine ik_iconst (v := (0 : Int32)) C (by decide) dX7_judge_120 ?_
              refine ik_goto C 126 dX7_judge_121 (by decide) ?_
              obtain ⟨rfl, rfl⟩ := ik_e2 hf
              exact ik_iretW C hr hlk dX7_judge_126
          · have hf := ik_neg hc hf
            refine ik_aload_n C 2 rfl rfl dX7_judge_45 ?_
            refine ik_get C inlX7 0 rfl rfl 17 (by decide) wl_4_22 rfl (v := .ref h11) rfl dX7_judge_46 ?_
            refine ik_bipush (v := (40 : Int32)) C (by decide) dX7_judge_49 ?_
            refine ik_iload_n C 3 rfl rfl dX7_judge_51 ?_
            refine ik_imul C dX7_judge_52 ?_
            refine ik_iload_n C 0 rfl rfl dX7_judge_53 ?_
            refine ik_iadd C dX7_judge_54 ?_
            have hg := ik_gdi hf
            have hf := ik_gdk hf
            refine ik_iald C 11 rfl hg dX7_judge_55 ?_
            refine ik_istore C [(4, .int (mnumber ((((40 : Int32) * x1) + x3_35)).toNatClampNeg)), (3, .int x3_35), (2, .int x2_35), (0, .ref h0), (1, .int x1)] (by decide) rfl dX7_judge_56 ?_
            refine ik_aload_n C 3 rfl rfl dX7_judge_58 ?_
            refine ik_iload C 0 rfl dX7_judge_59 ?_
            obtain ⟨r2, hc2, hf⟩ := ik_b1s hf
            have hM := (c_X7_isBlock l D cI cS h0 h1 h2 h3 h4 h5 h6 h7 h8 h9 h10 h11 misKept mtaped msort mfrom mto mvalue mbad mm mkept mwas mother mfound mwarm mdrip mtape mbits msize mnumber (mnumber ((((40 : Int32) * x1) + x3_35)).toNatClampNeg) r2 hc2)
            refine ik_goR (ik_runV (st := []) (As := [.int (mnumber ((((40 : Int32) * x1) + x3_35)).toNatClampNeg)]) C hM mv_X7_isBlock wl_9_17 ⟨rfl, rfl, Nat.le_of_ble_eq_true rfl, Nat.le_of_ble_eq_true rfl⟩ [0, 1, 2, 3, 4, 5, 6, 7, 8, 9, 10, 11] rfl (by decide +kernel) 0 rfl rfl rfl rfl (Nat.le_of_ble_eq_true rfl) dX7_judge_61 ⟨Nat.zero_le _, Nat.zero_le _⟩) rfl ?_
            refine ik_if_eq C 95 dX7_judge_64 (by decide) (fun hc => ?_) (fun hc => ?_)
            · have hf := ik_pos hc hf
              refine ik_iconst (v := (1 : Int32)) C (by decide) dX7_judge_95 ?_
              refine ik_iload_n C 1 rfl rfl dX7_judge_96 ?_
              refine ik_iadd C dX7_judge_97 ?_
              obtain ⟨rfl, rfl⟩ := ik_e2 hf
              exact ik_iretW C hr hlk dX7_judge_98
            · have hf := ik_neg hc hf
              refine ik_aload_n C 3 rfl rfl dX7_judge_67 ?_
              refine ik_iload C 0 rfl dX7_judge_68 ?_
              obtain ⟨r3, hc3, hf⟩ := ik_b1s hf
              have hM := (c_X7_isGone l D cI cS h0 h1 h2 h3 h4 h5 h6 h7 h8 h9 h10 h11 misKept mtaped msort mfrom mto mvalue mbad mm mkept mwas mother mfound mwarm mdrip mtape mbits msize mnumber (mnumber ((((40 : Int32) * x1) + x3_35)).toNatClampNeg) r3 hc3)
              refine ik_goR (ik_runV (st := []) (As := [.int (mnumber ((((40 : Int32) * x1) + x3_35)).toNatClampNeg)]) C hM mv_X7_isGone wl_10_5 ⟨rfl, rfl, Nat.le_of_ble_eq_true rfl, Nat.le_of_ble_eq_true rfl⟩ [0, 1, 2, 3, 4, 5, 6, 7, 8, 9, 10, 11] rfl (by decide +kernel) 0 rfl rfl rfl rfl (Nat.le_of_ble_eq_true rfl) dX7_judge_70 ⟨Nat.zero_le _, Nat.zero_le _⟩) rfl ?_
              refine ik_if_ne C 95 dX7_judge_73 (by decide) (fun hc => ?_) (fun hc => ?_)
              · have hf := ik_neg hc hf
                refine ik_iconst (v := (1 : Int32)) C (by decide) dX7_judge_95 ?_
                refine ik_iload_n C 1 rfl rfl dX7_judge_96 ?_
                refine ik_iadd C dX7_judge_97 ?_
                obtain ⟨rfl, rfl⟩ := ik_e2 hf
                exact ik_iretW C hr hlk dX7_judge_98
              · have hf := ik_pos hc hf
                refine ik_iload_n C 2 rfl rfl dX7_judge_76 ?_
                refine ik_iload C 0 rfl dX7_judge_77 ?_
                obtain ⟨r4, hc4, hf⟩ := ik_b1s hf
                have hM := (c_X7_has l D cI cS x2_35 (mnumber ((((40 : Int32) * x1) + x3_35)).toNatClampNeg) r4 hc4)
                refine ik_goR (ik_runS (st := []) (As := [.int x2_35, .int (mnumber ((((40 : Int32) * x1) + x3_35)).toNatClampNeg)]) C hM ms_X7_has wl_11_0 ⟨rfl, rfl, Nat.le_of_ble_eq_true rfl, Nat.le_of_ble_eq_true rfl⟩ [] rfl (by decide +kernel) rfl rfl (Nat.le_of_ble_eq_true rfl) dX7_judge_79 ⟨Nat.zero_le _, Nat.zero_le _⟩) rfl ?_
                refine ik_if_ne C 95 dX7_judge_82 (by decide) (fun hc => ?_) (fun hc => ?_)
                · have hf := ik_neg hc hf
                  refine ik_iconst (v := (1 : Int32)) C (by decide) dX7_judge_95 ?_
                  refine ik_iload_n C 1 rfl rfl dX7_judge_96 ?_
                  refine ik_iadd C dX7_judge_97 ?_
                  obtain ⟨rfl, rfl⟩ := ik_e2 hf
                  exact ik_iretW C hr hlk dX7_judge_98
                · have hf := ik_pos hc hf
                  refine ik_aload_n C 3 rfl rfl dX7_judge_85 ?_
                  refine ik_iload C 0 rfl dX7_judge_86 ?_
                  refine ik_iload_n C 2 rfl rfl dX7_judge_88 ?_
                  obtain ⟨r5, hc5, hf⟩ := ik_b1s hf
                  have hM := (c_X7_standsBy l D cI cS h0 h1 h2 h3 h4 h5 h6 h7 h8 h9 h10 h11 misKept mtaped msort mfrom mto mvalue mbad mm mkept mwas mother mfound mwarm mdrip mtape mbits msize mnumber (mnumber ((((40 : Int32) * x1) + x3_35)).toNatClampNeg) x2_35 r5 hc5)
                  refine ik_goR (ik_runV (st := []) (As := [.int (mnumber ((((40 : Int32) * x1) + x3_35)).toNatClampNeg), .int x2_35]) C hM mv_X7_standsBy wl_10_13 ⟨rfl, rfl, Nat.le_of_ble_eq_true rfl, Nat.le_of_ble_eq_true rfl⟩ [0, 1, 2, 3, 4, 5, 6, 7, 8, 9, 10, 11] rfl (by decide +kernel) 0 rfl rfl rfl rfl (Nat.le_of_ble_eq_true rfl) dX7_judge_89 ⟨Nat.zero_le _, Nat.zero_le _⟩) rfl ?_
                  refine ik_if_ne C 99 dX7_judge_92 (by decide) (fun hc => ?_) (fun hc => ?_)
                  · have hf := ik_neg hc hf
                    refine ik_iload_n C 2 rfl rfl dX7_judge_99 ?_
                    refine ik_iconst (v := (1 : Int32)) C (by decide) dX7_judge_100 ?_
                    refine ik_iload C 0 rfl dX7_judge_101 ?_
                    refine ik_ishl C dX7_judge_103 ?_
                    refine ik_ior C dX7_judge_104 ?_
                    refine ik_istore_n C [(2, .int (x2_35 ||| ((1 : Int32) <<< ((mnumber ((((40 : Int32) * x1) + x3_35)).toNatClampNeg) &&& 31)))), (4, .int (mnumber ((((40 : Int32) * x1) + x3_35)).toNatClampNeg)), (3, .int x3_35), (0, .ref h0), (1, .int x1)] rfl (by decide) rfl dX7_judge_105 ?_
                    refine ik_iinc C [(3, .int (x3_35 + (1 : Int32))), (2, .int (x2_35 ||| ((1 : Int32) <<< ((mnumber ((((40 : Int32) * x1) + x3_35)).toNatClampNeg) &&& 31)))), (4, .int (mnumber ((((40 : Int32) * x1) + x3_35)).toNatClampNeg)), (0, .ref h0), (1, .int x1)] 2 rfl rfl (by decide) rfl dX7_judge_106 ?_
                    refine ik_goto C 35 dX7_judge_109 (by decide) ?_
                    exact ik_sub [0, 1, 3, 4] [(3, .int (x3_35 + (1 : Int32))), (2, .int (x2_35 ||| ((1 : Int32) <<< ((mnumber ((((40 : Int32) * x1) + x3_35)).toNatClampNeg) &&& 31)))), (0, .ref h0), (1, .int x1)] rfl (ih_35 (x2_35 ||| ((1 : Int32) <<< ((mnumber ((((40 : Int32) * x1) + x3_35)).toNatClampNeg) &&& 31))) (x3_35 + (1 : Int32)) hf)
                  · have hf := ik_pos hc hf
                    refine ik_iconst (v := (1 : Int32)) C (by decide) dX7_judge_95 ?_
                    refine ik_iload_n C 1 rfl rfl dX7_judge_96 ?_
                    refine ik_iadd C dX7_judge_97 ?_
                    obtain ⟨rfl, rfl⟩ := ik_e2 hf
                    exact ik_iretW C hr hlk dX7_judge_98
      exact hL_35 ik_fu (0 : Int32) (0 : Int32) hf
    · have hf := ik_pos hc hf
      refine ik_aload_n C 0 rfl rfl dX7_judge_23 ?_
      refine ik_ldcw C wl_43_23 dX7_judge_24 ?_
      obtain ⟨r2, g3, hc3, hf⟩ := ik_b2s hf
      have hM := (c_X7_finds l D cI cS h0 h1 h2 h3 h4 h5 h6 h7 h8 h9 h10 h11 misKept mtaped msort mfrom mto mvalue mbad mm mkept mwas mother mfound mwarm mdrip mtape mbits msize mnumber (-1000006 : Int32) r2 g3 hc3)
      refine ik_goW (v := (some (.int r2))) (wc := (wz_X7 cI cS h0 h1 h2 h3 h4 h5 h6 h7 h8 h9 h10 h11 misKept mtaped msort mfrom mto mvalue mbad mm mkept mwas mother mfound mwarm mdrip mtape mbits msize mnumber)) (w1 := (wz_X7 cI cS h0 h1 h2 h3 h4 h5 h6 h7 h8 h9 h10 h11 misKept mtaped msort mfrom mto mvalue mbad mm mkept mwas mother g3 mwarm mdrip mtape mbits msize mnumber)) [0, 1, 2, 3, 4, 5, 6, 7, 8, 9, 10, 11] [] 12 rfl rfl (wz_X7 cI cS h0 h1 h2 h3 h4 h5 h6 h7 h8 h9 h10 h11 misKept mtaped msort mfrom mto mvalue mbad mm mkept mwas mother g3 mwarm mdrip mtape mbits msize mnumber) rfl [] rfl rfl rfl (by decide +kernel) (ik_runV (st := []) (As := [.int (-1000006 : Int32)]) C hM mv_X7_finds wl_7_8 ⟨rfl, rfl, Nat.le_of_ble_eq_true rfl, Nat.le_of_ble_eq_true rfl⟩ [0, 1, 2, 3, 4, 5, 6, 7, 8, 9, 10, 11] rfl (by decide +kernel) 0 rfl rfl rfl rfl (Nat.le_of_ble_eq_true rfl) dX7_judge_27 ⟨Nat.zero_le _, Nat.zero_le _⟩) rfl ?_
      obtain ⟨rfl, rfl⟩ := ik_e2 hf
      exact ik_iretW C hr hlk dX7_judge_30
  · have hf := ik_pos hc hf
    refine ik_aload_n C 0 rfl rfl dX7_judge_7 ?_
    refine ik_ldc C wl_6_14 dX7_judge_8 ?_
    obtain ⟨r2, g3, hc3, hf⟩ := ik_b2s hf
    have hM := (c_X7_finds l D cI cS h0 h1 h2 h3 h4 h5 h6 h7 h8 h9 h10 h11 misKept mtaped msort mfrom mto mvalue mbad mm mkept mwas mother mfound mwarm mdrip mtape mbits msize mnumber (-1000001 : Int32) r2 g3 hc3)
    refine ik_goW (v := (some (.int r2))) (wc := (wz_X7 cI cS h0 h1 h2 h3 h4 h5 h6 h7 h8 h9 h10 h11 misKept mtaped msort mfrom mto mvalue mbad mm mkept mwas mother mfound mwarm mdrip mtape mbits msize mnumber)) (w1 := (wz_X7 cI cS h0 h1 h2 h3 h4 h5 h6 h7 h8 h9 h10 h11 misKept mtaped msort mfrom mto mvalue mbad mm mkept mwas mother g3 mwarm mdrip mtape mbits msize mnumber)) [0, 1, 2, 3, 4, 5, 6, 7, 8, 9, 10, 11] [] 12 rfl rfl (wz_X7 cI cS h0 h1 h2 h3 h4 h5 h6 h7 h8 h9 h10 h11 misKept mtaped msort mfrom mto mvalue mbad mm mkept mwas mother g3 mwarm mdrip mtape mbits msize mnumber) rfl [] rfl rfl rfl (by decide +kernel) (ik_runV (st := []) (As := [.int (-1000001 : Int32)]) C hM mv_X7_finds wl_7_8 ⟨rfl, rfl, Nat.le_of_ble_eq_true rfl, Nat.le_of_ble_eq_true rfl⟩ [0, 1, 2, 3, 4, 5, 6, 7, 8, 9, 10, 11] rfl (by decide +kernel) 0 rfl rfl rfl rfl (Nat.le_of_ble_eq_true rfl) dX7_judge_10 ⟨Nat.zero_le _, Nat.zero_le _⟩) rfl ?_
    obtain ⟨rfl, rfl⟩ := ik_e2 hf
    exact ik_iretW C hr hlk dX7_judge_13
theorem mv_X7_image : ik_V yX7_image RX7 cX7_image 1 (some .int) 0 := ⟨wl_47_12, wl_47_13, wl_1_5, wl_47_14, by decide +kernel⟩
set_option maxHeartbeats 4000000 in
set_option maxRecDepth 100000 in
theorem c_X7_image (l : Launch) (D : va_G) (cI cS : ClassId) (h0 h1 h2 h3 h4 h5 h6 h7 h8 h9 h10 h11 : Nat) (misKept : Int32) (mtaped : Int32) (msort : Int32) (mfrom : Int32) (mto : Int32) (mvalue : Int32) (mbad : Int32) (mm : Nat → Int32) (mkept : Nat → Int32) (mwas : Nat → Int32) (mother : Nat → Int32) (mfound : Nat → Int32) (mwarm : Nat → Int32) (mdrip : Nat → Int32) (mtape : Nat → Int32) (mbits : Nat → Int32) (msize : Nat → Int32) (mnumber : Nat → Int32) (R : Int32) (misKept_r : Int32) (mkept_r : Nat → Int32) (hf : f_X7_image misKept mm mkept = some (R, misKept_r, mkept_r)) : Met l yX7_image (ik_ws yX7_image cX7_image 1 (some .int)) ({ frames := 1, cells := 0, slots := 0, locals := 22 } : Room) (ik_P D cI cS [.ref h0] (wz_X7 cI cS h0 h1 h2 h3 h4 h5 h6 h7 h8 h9 h10 h11 misKept mtaped msort mfrom mto mvalue mbad mm mkept mwas mother mfound mwarm mdrip mtape mbits msize mnumber)) (ik_Q (some (.int R)) D (wz_X7 cI cS h0 h1 h2 h3 h4 h5 h6 h7 h8 h9 h10 h11 misKept_r mtaped msort mfrom mto mvalue mbad mm mkept_r mwas mother mfound mwarm mdrip mtape mbits msize mnumber) (wz_X7 cI cS h0 h1 h2 h3 h4 h5 h6 h7 h8 h9 h10 h11 misKept mtaped msort mfrom mto mvalue mbad mm mkept mwas mother mfound mwarm mdrip mtape mbits msize mnumber)) 0 0 (ik_in (wz_X7 cI cS h0 h1 h2 h3 h4 h5 h6 h7 h8 h9 h10 h11 misKept mtaped msort mfrom mto mvalue mbad mm mkept mwas mother mfound mwarm mdrip mtape mbits msize mnumber)) := by
  refine ik_metW RX7 rfl (by decide) (Nat.le_of_ble_eq_true rfl) [(0, .ref h0)] rfl ?_
  intro p e s m below meth c C hr hlk
  unfold f_X7_image at hf
  refine ik_aload_n C 0 rfl rfl dX7_image_0 ?_
  refine ik_get C inlX7 0 rfl rfl 0 (by decide) wl_4_12 rfl (v := .ref h1) rfl dX7_image_1 ?_
  refine ik_aload_n C 0 rfl rfl dX7_image_4 ?_
  refine ik_get C inlX7 0 rfl rfl 1 (by decide) wl_4_13 rfl (v := .ref h2) rfl dX7_image_5 ?_
  obtain ⟨g1, hc1, hf⟩ := ik_b1s hf
  have hM := (c_X7_row l D cI cS h1 h2 mm mkept g1 hc1)
  refine ik_goW (v := none) (wc := (wz_row cI cS h1 h2 mm mkept)) (w1 := (wz_row cI cS h1 h2 mm g1)) [1, 2] [0, 3, 4, 5, 6, 7, 8, 9, 10, 11] 12 rfl rfl (wz_X7 cI cS h0 h1 h2 h3 h4 h5 h6 h7 h8 h9 h10 h11 misKept mtaped msort mfrom mto mvalue mbad mm g1 mwas mother mfound mwarm mdrip mtape mbits msize mnumber) rfl [(h0, .inr (7, [.ref h1, .ref h2, .ref h3, .ref h4, .int misKept, .ref h5, .ref h6, .ref h7, .ref h8, .int mtaped, .int msort, .int mfrom, .int mto, .int mvalue, .int mbad, .ref h9, .ref h10, .ref h11])), (h3, .inl (cI, 82, .inl mwas)), (h4, .inl (cI, 82, .inl mother)), (h5, .inl (cI, 7, .inl mfound)), (h6, .inl (cI, 16, .inl mwarm)), (h7, .inl (cI, 8, .inl mdrip)), (h8, .inl (cI, 120, .inl mtape)), (h9, .inl (cI, 4, .inl mbits)), (h10, .inl (cI, 4, .inl msize)), (h11, .inl (cI, 160, .inl mnumber))] rfl rfl rfl (by decide +kernel) (ik_runS (st := []) (As := [.ref h1, .ref h2]) C hM ms_X7_row wl_24_22 ⟨rfl, rfl, Nat.le_of_ble_eq_true rfl, Nat.le_of_ble_eq_true rfl⟩ [1, 2] rfl (by decide +kernel) rfl rfl (Nat.le_of_ble_eq_true rfl) dX7_image_8 ⟨Nat.zero_le _, Nat.zero_le _⟩) rfl ?_
  refine ik_aload_n C 0 rfl rfl dX7_image_11 ?_
  refine ik_iconst (v := (1 : Int32)) C (by decide) dX7_image_12 ?_
  refine ik_put C inlX7 tyX7 tyX7_ok nmX7 0 rfl rfl 4 (by decide) wl_47_15 rfl (by decide) (by decide) (by decide) (Nat.le_of_ble_eq_true rfl) (wz_X7 cI cS h0 h1 h2 h3 h4 h5 h6 h7 h8 h9 h10 h11 (1 : Int32) mtaped msort mfrom mto mvalue mbad mm g1 mwas mother mfound mwarm mdrip mtape mbits msize mnumber) rfl dX7_image_13 ?_
  refine ik_iconst (v := (1 : Int32)) C (by decide) dX7_image_16 ?_
  obtain ⟨rfl, rfl, rfl⟩ := ik_e3 hf
  exact ik_iretW C hr hlk dX7_image_17
theorem mv_X7_undo : ik_V yX7_undo RX7 cX7_undo 1 (some .int) 0 := ⟨wl_47_21, wl_47_22, wl_1_5, wl_47_23, by decide +kernel⟩
set_option maxHeartbeats 4000000 in
set_option maxRecDepth 100000 in
theorem c_X7_undo (l : Launch) (D : va_G) (cI cS : ClassId) (h0 h1 h2 h3 h4 h5 h6 h7 h8 h9 h10 h11 : Nat) (misKept : Int32) (mtaped : Int32) (msort : Int32) (mfrom : Int32) (mto : Int32) (mvalue : Int32) (mbad : Int32) (mm : Nat → Int32) (mkept : Nat → Int32) (mwas : Nat → Int32) (mother : Nat → Int32) (mfound : Nat → Int32) (mwarm : Nat → Int32) (mdrip : Nat → Int32) (mtape : Nat → Int32) (mbits : Nat → Int32) (msize : Nat → Int32) (mnumber : Nat → Int32) (R : Int32) (mm_r : Nat → Int32) (mfound_r : Nat → Int32) (hf : f_X7_undo misKept mm mkept mfound = some (R, mm_r, mfound_r)) : Met l yX7_undo (ik_ws yX7_undo cX7_undo 1 (some .int)) ({ frames := 1, cells := 0, slots := 0, locals := 22 } : Room) (ik_P D cI cS [.ref h0] (wz_X7 cI cS h0 h1 h2 h3 h4 h5 h6 h7 h8 h9 h10 h11 misKept mtaped msort mfrom mto mvalue mbad mm mkept mwas mother mfound mwarm mdrip mtape mbits msize mnumber)) (ik_Q (some (.int R)) D (wz_X7 cI cS h0 h1 h2 h3 h4 h5 h6 h7 h8 h9 h10 h11 misKept mtaped msort mfrom mto mvalue mbad mm_r mkept mwas mother mfound_r mwarm mdrip mtape mbits msize mnumber) (wz_X7 cI cS h0 h1 h2 h3 h4 h5 h6 h7 h8 h9 h10 h11 misKept mtaped msort mfrom mto mvalue mbad mm mkept mwas mother mfound mwarm mdrip mtape mbits msize mnumber)) 0 0 (ik_in (wz_X7 cI cS h0 h1 h2 h3 h4 h5 h6 h7 h8 h9 h10 h11 misKept mtaped msort mfrom mto mvalue mbad mm mkept mwas mother mfound mwarm mdrip mtape mbits msize mnumber)) := by
  refine ik_metW RX7 rfl (by decide) (Nat.le_of_ble_eq_true rfl) [(0, .ref h0)] rfl ?_
  intro p e s m below meth c C hr hlk
  unfold f_X7_undo at hf
  refine ik_aload_n C 0 rfl rfl dX7_undo_0 ?_
  refine ik_get C inlX7 0 rfl rfl 4 (by decide) wl_47_15 rfl (v := .int misKept) rfl dX7_undo_1 ?_
  refine ik_if_ne C 14 dX7_undo_4 (by decide) (fun hc => ?_) (fun hc => ?_)
  · have hf := ik_neg hc hf
    refine ik_aload_n C 0 rfl rfl dX7_undo_14 ?_
    refine ik_get C inlX7 0 rfl rfl 1 (by decide) wl_4_13 rfl (v := .ref h2) rfl dX7_undo_15 ?_
    refine ik_aload_n C 0 rfl rfl dX7_undo_18 ?_
    refine ik_get C inlX7 0 rfl rfl 0 (by decide) wl_4_12 rfl (v := .ref h1) rfl dX7_undo_19 ?_
    obtain ⟨g1, hc1, hf⟩ := ik_b1s hf
    have hM := (c_X7_row l D cI cS h2 h1 mkept mm g1 hc1)
    refine ik_goW (v := none) (wc := (wz_row cI cS h2 h1 mkept mm)) (w1 := (wz_row cI cS h2 h1 mkept g1)) [2, 1] [0, 3, 4, 5, 6, 7, 8, 9, 10, 11] 12 rfl rfl (wz_X7 cI cS h0 h1 h2 h3 h4 h5 h6 h7 h8 h9 h10 h11 misKept mtaped msort mfrom mto mvalue mbad g1 mkept mwas mother mfound mwarm mdrip mtape mbits msize mnumber) rfl [(h0, .inr (7, [.ref h1, .ref h2, .ref h3, .ref h4, .int misKept, .ref h5, .ref h6, .ref h7, .ref h8, .int mtaped, .int msort, .int mfrom, .int mto, .int mvalue, .int mbad, .ref h9, .ref h10, .ref h11])), (h3, .inl (cI, 82, .inl mwas)), (h4, .inl (cI, 82, .inl mother)), (h5, .inl (cI, 7, .inl mfound)), (h6, .inl (cI, 16, .inl mwarm)), (h7, .inl (cI, 8, .inl mdrip)), (h8, .inl (cI, 120, .inl mtape)), (h9, .inl (cI, 4, .inl mbits)), (h10, .inl (cI, 4, .inl msize)), (h11, .inl (cI, 160, .inl mnumber))] rfl rfl rfl (by decide +kernel) (ik_runS (st := []) (As := [.ref h2, .ref h1]) C hM ms_X7_row wl_24_22 ⟨rfl, rfl, Nat.le_of_ble_eq_true rfl, Nat.le_of_ble_eq_true rfl⟩ [2, 1] rfl (by decide +kernel) rfl rfl (Nat.le_of_ble_eq_true rfl) dX7_undo_22 ⟨Nat.zero_le _, Nat.zero_le _⟩) rfl ?_
    refine ik_aload_n C 0 rfl rfl dX7_undo_25 ?_
    refine ik_get C inlX7 0 rfl rfl 0 (by decide) wl_4_12 rfl (v := .ref h1) rfl dX7_undo_26 ?_
    refine ik_iconst (v := (0 : Int32)) C (by decide) dX7_undo_29 ?_
    refine ik_iald C 1 rfl (ik_vin (by decide)) dX7_undo_30 ?_
    obtain ⟨rfl, rfl, rfl⟩ := ik_e3 hf
    exact ik_iretW C hr hlk dX7_undo_31
  · have hf := ik_pos hc hf
    refine ik_aload_n C 0 rfl rfl dX7_undo_7 ?_
    refine ik_ldc C wl_25_18 dX7_undo_8 ?_
    obtain ⟨r1, g2, hc2, hf⟩ := ik_b2s hf
    have hM := (c_X7_finds l D cI cS h0 h1 h2 h3 h4 h5 h6 h7 h8 h9 h10 h11 misKept mtaped msort mfrom mto mvalue mbad mm mkept mwas mother mfound mwarm mdrip mtape mbits msize mnumber (-1000004 : Int32) r1 g2 hc2)
    refine ik_goW (v := (some (.int r1))) (wc := (wz_X7 cI cS h0 h1 h2 h3 h4 h5 h6 h7 h8 h9 h10 h11 misKept mtaped msort mfrom mto mvalue mbad mm mkept mwas mother mfound mwarm mdrip mtape mbits msize mnumber)) (w1 := (wz_X7 cI cS h0 h1 h2 h3 h4 h5 h6 h7 h8 h9 h10 h11 misKept mtaped msort mfrom mto mvalue mbad mm mkept mwas mother g2 mwarm mdrip mtape mbits msize mnumber)) [0, 1, 2, 3, 4, 5, 6, 7, 8, 9, 10, 11] [] 12 rfl rfl (wz_X7 cI cS h0 h1 h2 h3 h4 h5 h6 h7 h8 h9 h10 h11 misKept mtaped msort mfrom mto mvalue mbad mm mkept mwas mother g2 mwarm mdrip mtape mbits msize mnumber) rfl [] rfl rfl rfl (by decide +kernel) (ik_runV (st := []) (As := [.int (-1000004 : Int32)]) C hM mv_X7_finds wl_7_8 ⟨rfl, rfl, Nat.le_of_ble_eq_true rfl, Nat.le_of_ble_eq_true rfl⟩ [0, 1, 2, 3, 4, 5, 6, 7, 8, 9, 10, 11] rfl (by decide +kernel) 0 rfl rfl rfl rfl (Nat.le_of_ble_eq_true rfl) dX7_undo_10 ⟨Nat.zero_le _, Nat.zero_le _⟩) rfl ?_
    obtain ⟨rfl, rfl, rfl⟩ := ik_e3 hf
    exact ik_iretW C hr hlk dX7_undo_13
theorem mv_X7_tear : ik_V yX7_tear RX7 cX7_tear 2 (some .int) 0 := ⟨wl_48_5, wl_48_6, wl_1_5, wl_48_7, by decide +kernel⟩
set_option maxHeartbeats 4000000 in
set_option maxRecDepth 100000 in
theorem c_X7_tear (l : Launch) (D : va_G) (cI cS : ClassId) (h0 h1 h2 h3 h4 h5 h6 h7 h8 h9 h10 h11 : Nat) (misKept : Int32) (mtaped : Int32) (msort : Int32) (mfrom : Int32) (mto : Int32) (mvalue : Int32) (mbad : Int32) (mm : Nat → Int32) (mkept : Nat → Int32) (mwas : Nat → Int32) (mother : Nat → Int32) (mfound : Nat → Int32) (mwarm : Nat → Int32) (mdrip : Nat → Int32) (mtape : Nat → Int32) (mbits : Nat → Int32) (msize : Nat → Int32) (mnumber : Nat → Int32) (R : Int32) (misKept_r : Int32) (hf : f_X7_tear misKept = some (R, misKept_r)) : Met l yX7_tear (ik_ws yX7_tear cX7_tear 2 (some .int)) ({ frames := 0, cells := 0, slots := 0, locals := 0 } : Room) (ik_P D cI cS [.ref h0] (wz_X7 cI cS h0 h1 h2 h3 h4 h5 h6 h7 h8 h9 h10 h11 misKept mtaped msort mfrom mto mvalue mbad mm mkept mwas mother mfound mwarm mdrip mtape mbits msize mnumber)) (ik_Q (some (.int R)) D (wz_X7 cI cS h0 h1 h2 h3 h4 h5 h6 h7 h8 h9 h10 h11 misKept_r mtaped msort mfrom mto mvalue mbad mm mkept mwas mother mfound mwarm mdrip mtape mbits msize mnumber) (wz_X7 cI cS h0 h1 h2 h3 h4 h5 h6 h7 h8 h9 h10 h11 misKept mtaped msort mfrom mto mvalue mbad mm mkept mwas mother mfound mwarm mdrip mtape mbits msize mnumber)) 0 0 (ik_in (wz_X7 cI cS h0 h1 h2 h3 h4 h5 h6 h7 h8 h9 h10 h11 misKept mtaped msort mfrom mto mvalue mbad mm mkept mwas mother mfound mwarm mdrip mtape mbits msize mnumber)) := by
  refine ik_metW RX7 rfl (by decide) (Nat.le_of_ble_eq_true rfl) [(0, .ref h0)] rfl ?_
  intro p e s m below meth c C hr hlk
  unfold f_X7_tear at hf
  refine ik_aload_n C 0 rfl rfl dX7_tear_0 ?_
  refine ik_get C inlX7 0 rfl rfl 4 (by decide) wl_47_15 rfl (v := .int misKept) rfl dX7_tear_1 ?_
  refine ik_if_eq C 11 dX7_tear_4 (by decide) (fun hc => ?_) (fun hc => ?_)
  · have hf := ik_pos hc hf
    refine ik_iconst (v := (0 : Int32)) C (by decide) dX7_tear_11 ?_
    refine ik_istore_n C [(1, .int (0 : Int32)), (0, .ref h0)] rfl (by decide) rfl dX7_tear_12 ?_
    refine ik_aload_n C 1 rfl rfl dX7_tear_13 ?_
    refine ik_iconst (v := (0 : Int32)) C (by decide) dX7_tear_14 ?_
    refine ik_put C inlX7 tyX7 tyX7_ok nmX7 0 rfl rfl 4 (by decide) wl_47_15 rfl (by decide) (by decide) (by decide) (Nat.le_of_ble_eq_true rfl) (wz_X7 cI cS h0 h1 h2 h3 h4 h5 h6 h7 h8 h9 h10 h11 (0 : Int32) mtaped msort mfrom mto mvalue mbad mm mkept mwas mother mfound mwarm mdrip mtape mbits msize mnumber) rfl dX7_tear_15 ?_
    refine ik_iload_n C 0 rfl rfl dX7_tear_18 ?_
    obtain ⟨rfl, rfl⟩ := ik_e2 hf
    exact ik_iretW C hr hlk dX7_tear_19
  · have hf := ik_neg hc hf
    refine ik_iconst (v := (1 : Int32)) C (by decide) dX7_tear_7 ?_
    refine ik_goto C 12 dX7_tear_8 (by decide) ?_
    refine ik_istore_n C [(1, .int (1 : Int32)), (0, .ref h0)] rfl (by decide) rfl dX7_tear_12 ?_
    refine ik_aload_n C 1 rfl rfl dX7_tear_13 ?_
    refine ik_iconst (v := (0 : Int32)) C (by decide) dX7_tear_14 ?_
    refine ik_put C inlX7 tyX7 tyX7_ok nmX7 0 rfl rfl 4 (by decide) wl_47_15 rfl (by decide) (by decide) (by decide) (Nat.le_of_ble_eq_true rfl) (wz_X7 cI cS h0 h1 h2 h3 h4 h5 h6 h7 h8 h9 h10 h11 (0 : Int32) mtaped msort mfrom mto mvalue mbad mm mkept mwas mother mfound mwarm mdrip mtape mbits msize mnumber) rfl dX7_tear_15 ?_
    refine ik_iload_n C 0 rfl rfl dX7_tear_18 ?_
    obtain ⟨rfl, rfl⟩ := ik_e2 hf
    exact ik_iretW C hr hlk dX7_tear_19
theorem mv_X7_count : ik_V yX7_count RX7 cX7_count 2 (some .int) 1 := ⟨wl_48_20, wl_48_21, wl_1_5, wl_48_22, by decide +kernel⟩
set_option maxHeartbeats 4000000 in
set_option maxRecDepth 100000 in
theorem c_X7_count (l : Launch) (D : va_G) (cI cS : ClassId) (h0 h1 h2 h3 h4 h5 h6 h7 h8 h9 h10 h11 : Nat) (misKept : Int32) (mtaped : Int32) (msort : Int32) (mfrom : Int32) (mto : Int32) (mvalue : Int32) (mbad : Int32) (mm : Nat → Int32) (mkept : Nat → Int32) (mwas : Nat → Int32) (mother : Nat → Int32) (mfound : Nat → Int32) (mwarm : Nat → Int32) (mdrip : Nat → Int32) (mtape : Nat → Int32) (mbits : Nat → Int32) (msize : Nat → Int32) (mnumber : Nat → Int32) (x1 : Int32) (R : Int32) (mfound_r : Nat → Int32) (hf : f_X7_count mtaped mm mfound x1 = some (R, mfound_r)) : Met l yX7_count (ik_ws yX7_count cX7_count 2 (some .int)) ({ frames := 3, cells := 0, slots := 0, locals := 64 } : Room) (ik_P D cI cS [.ref h0, .int x1] (wz_X7 cI cS h0 h1 h2 h3 h4 h5 h6 h7 h8 h9 h10 h11 misKept mtaped msort mfrom mto mvalue mbad mm mkept mwas mother mfound mwarm mdrip mtape mbits msize mnumber)) (ik_Q (some (.int R)) D (wz_X7 cI cS h0 h1 h2 h3 h4 h5 h6 h7 h8 h9 h10 h11 misKept mtaped msort mfrom mto mvalue mbad mm mkept mwas mother mfound_r mwarm mdrip mtape mbits msize mnumber) (wz_X7 cI cS h0 h1 h2 h3 h4 h5 h6 h7 h8 h9 h10 h11 misKept mtaped msort mfrom mto mvalue mbad mm mkept mwas mother mfound mwarm mdrip mtape mbits msize mnumber)) 0 0 (ik_in (wz_X7 cI cS h0 h1 h2 h3 h4 h5 h6 h7 h8 h9 h10 h11 misKept mtaped msort mfrom mto mvalue mbad mm mkept mwas mother mfound mwarm mdrip mtape mbits msize mnumber)) := by
  refine ik_metW RX7 rfl (by decide) (Nat.le_of_ble_eq_true rfl) [(0, .ref h0), (1, .int x1)] rfl ?_
  intro p e s m below meth c C hr hlk
  unfold f_X7_count at hf
  refine ik_iload_n C 1 rfl rfl dX7_count_0 ?_
  by_cases hn0 : x1 = (0 : Int32)
  · have hf := ik_pos hn0 hf
    refine ik_tcase C (0 : Int32) hn0 48 dX7_count_1 (by decide) (by decide) rfl (by decide) ?_
    refine ik_aload_n C 0 rfl rfl dX7_count_48 ?_
    refine ik_get C inlX7 0 rfl rfl 0 (by decide) wl_4_12 rfl (v := .ref h1) rfl dX7_count_49 ?_
    refine ik_iconst (v := (0 : Int32)) C (by decide) dX7_count_52 ?_
    refine ik_iald C 1 rfl (ik_vin (by decide)) dX7_count_53 ?_
    obtain ⟨rfl, rfl⟩ := ik_e2 hf
    exact ik_iretW C hr hlk dX7_count_54
  · have hf := ik_neg hn0 hf
    by_cases hn1 : x1 = (1 : Int32)
    · have hf := ik_pos hn1 hf
      refine ik_tcase C (1 : Int32) hn1 55 dX7_count_1 (by decide) (by decide) rfl (by decide) ?_
      refine ik_aload_n C 0 rfl rfl dX7_count_55 ?_
      refine ik_get C inlX7 0 rfl rfl 0 (by decide) wl_4_12 rfl (v := .ref h1) rfl dX7_count_56 ?_
      refine ik_iconst (v := (5 : Int32)) C (by decide) dX7_count_59 ?_
      refine ik_iald C 1 rfl (ik_vin (by decide)) dX7_count_60 ?_
      obtain ⟨rfl, rfl⟩ := ik_e2 hf
      exact ik_iretW C hr hlk dX7_count_61
    · have hf := ik_neg hn1 hf
      by_cases hn2 : x1 = (2 : Int32)
      · have hf := ik_pos hn2 hf
        refine ik_tcase C (2 : Int32) hn2 62 dX7_count_1 (by decide) (by decide) rfl (by decide) ?_
        refine ik_aload_n C 0 rfl rfl dX7_count_62 ?_
        obtain ⟨r1, hc1, hf⟩ := ik_b1s hf
        have hM := (c_X7_goneNow l D cI cS h0 h1 h2 h3 h4 h5 h6 h7 h8 h9 h10 h11 misKept mtaped msort mfrom mto mvalue mbad mm mkept mwas mother mfound mwarm mdrip mtape mbits msize mnumber r1 hc1)
        refine ik_goR (ik_runV (st := []) (As := []) C hM mv_X7_goneNow wl_20_14 ⟨rfl, rfl, Nat.le_of_ble_eq_true rfl, Nat.le_of_ble_eq_true rfl⟩ [0, 1, 2, 3, 4, 5, 6, 7, 8, 9, 10, 11] rfl (by decide +kernel) 0 rfl rfl rfl rfl (Nat.le_of_ble_eq_true rfl) dX7_count_63 ⟨Nat.zero_le _, Nat.zero_le _⟩) rfl ?_
        obtain ⟨r2, hc2, hf⟩ := ik_b1s hf
        have hM := (c_X7_many l D cI cS r1 r2 hc2)
        refine ik_goR (ik_runS (st := []) (As := [.int r1]) C hM ms_X7_many wl_21_22 ⟨rfl, rfl, Nat.le_of_ble_eq_true rfl, Nat.le_of_ble_eq_true rfl⟩ [] rfl (by decide +kernel) rfl rfl (Nat.le_of_ble_eq_true rfl) dX7_count_66 ⟨Nat.zero_le _, Nat.zero_le _⟩) rfl ?_
        obtain ⟨rfl, rfl⟩ := ik_e2 hf
        exact ik_iretW C hr hlk dX7_count_69
      · have hf := ik_neg hn2 hf
        by_cases hn3 : x1 = (3 : Int32)
        · have hf := ik_pos hn3 hf
          refine ik_tcase C (3 : Int32) hn3 70 dX7_count_1 (by decide) (by decide) rfl (by decide) ?_
          refine ik_aload_n C 0 rfl rfl dX7_count_70 ?_
          obtain ⟨r1, hc1, hf⟩ := ik_b1s hf
          have hM := (c_X7_allGrains l D cI cS h0 h1 h2 h3 h4 h5 h6 h7 h8 h9 h10 h11 misKept mtaped msort mfrom mto mvalue mbad mm mkept mwas mother mfound mwarm mdrip mtape mbits msize mnumber r1 hc1)
          refine ik_goR (ik_runV (st := []) (As := []) C hM mv_X7_allGrains wl_25_1 ⟨rfl, rfl, Nat.le_of_ble_eq_true rfl, Nat.le_of_ble_eq_true rfl⟩ [0, 1, 2, 3, 4, 5, 6, 7, 8, 9, 10, 11] rfl (by decide +kernel) 0 rfl rfl rfl rfl (Nat.le_of_ble_eq_true rfl) dX7_count_71 ⟨Nat.zero_le _, Nat.zero_le _⟩) rfl ?_
          obtain ⟨rfl, rfl⟩ := ik_e2 hf
          exact ik_iretW C hr hlk dX7_count_74
        · have hf := ik_neg hn3 hf
          by_cases hn4 : x1 = (4 : Int32)
          · have hf := ik_pos hn4 hf
            refine ik_tcase C (4 : Int32) hn4 75 dX7_count_1 (by decide) (by decide) rfl (by decide) ?_
            refine ik_aload_n C 0 rfl rfl dX7_count_75 ?_
            refine ik_get C inlX7 0 rfl rfl 0 (by decide) wl_4_12 rfl (v := .ref h1) rfl dX7_count_76 ?_
            refine ik_iconst (v := (2 : Int32)) C (by decide) dX7_count_79 ?_
            refine ik_iald C 1 rfl (ik_vin (by decide)) dX7_count_80 ?_
            obtain ⟨rfl, rfl⟩ := ik_e2 hf
            exact ik_iretW C hr hlk dX7_count_81
          · have hf := ik_neg hn4 hf
            by_cases hn5 : x1 = (5 : Int32)
            · have hf := ik_pos hn5 hf
              refine ik_tcase C (5 : Int32) hn5 82 dX7_count_1 (by decide) (by decide) rfl (by decide) ?_
              refine ik_aload_n C 0 rfl rfl dX7_count_82 ?_
              refine ik_get C inlX7 0 rfl rfl 0 (by decide) wl_4_12 rfl (v := .ref h1) rfl dX7_count_83 ?_
              refine ik_iconst (v := (3 : Int32)) C (by decide) dX7_count_86 ?_
              refine ik_iald C 1 rfl (ik_vin (by decide)) dX7_count_87 ?_
              obtain ⟨rfl, rfl⟩ := ik_e2 hf
              exact ik_iretW C hr hlk dX7_count_88
            · have hf := ik_neg hn5 hf
              by_cases hn6 : x1 = (6 : Int32)
              · have hf := ik_pos hn6 hf
                refine ik_tcase C (6 : Int32) hn6 89 dX7_count_1 (by decide) (by decide) rfl (by decide) ?_
                refine ik_aload_n C 0 rfl rfl dX7_count_89 ?_
                refine ik_get C inlX7 0 rfl rfl 9 (by decide) wl_35_3 rfl (v := .int mtaped) rfl dX7_count_90 ?_
                obtain ⟨rfl, rfl⟩ := ik_e2 hf
                exact ik_iretW C hr hlk dX7_count_93
              · have hf := ik_neg hn6 hf
                by_cases hn7 : x1 = (7 : Int32)
                · have hf := ik_pos hn7 hf
                  refine ik_tcase C (7 : Int32) hn7 94 dX7_count_1 (by decide) (by decide) rfl (by decide) ?_
                  refine ik_aload_n C 0 rfl rfl dX7_count_94 ?_
                  refine ik_get C inlX7 0 rfl rfl 0 (by decide) wl_4_12 rfl (v := .ref h1) rfl dX7_count_95 ?_
                  refine ik_iconst (v := (4 : Int32)) C (by decide) dX7_count_98 ?_
                  refine ik_iald C 1 rfl (ik_vin (by decide)) dX7_count_99 ?_
                  obtain ⟨rfl, rfl⟩ := ik_e2 hf
                  exact ik_iretW C hr hlk dX7_count_100
                · have hf := ik_neg hn7 hf
                  refine ik_tout C 101 dX7_count_1 (by have ehn0 : (x1).toInt ≠ 0 := fun h => hn0 (Int32.toInt_inj.mp h); have ehn1 : (x1).toInt ≠ 1 := fun h => hn1 (Int32.toInt_inj.mp h); have ehn2 : (x1).toInt ≠ 2 := fun h => hn2 (Int32.toInt_inj.mp h); have ehn3 : (x1).toInt ≠ 3 := fun h => hn3 (Int32.toInt_inj.mp h); have ehn4 : (x1).toInt ≠ 4 := fun h => hn4 (Int32.toInt_inj.mp h); have ehn5 : (x1).toInt ≠ 5 := fun h => hn5 (Int32.toInt_inj.mp h); have ehn6 : (x1).toInt ≠ 6 := fun h => hn6 (Int32.toInt_inj.mp h); have ehn7 : (x1).toInt ≠ 7 := fun h => hn7 (Int32.toInt_inj.mp h); omega) (by decide) ?_
                  refine ik_aload_n C 0 rfl rfl dX7_count_101 ?_
                  refine ik_ldc C wl_6_14 dX7_count_102 ?_
                  obtain ⟨r1, g2, hc2, hf⟩ := ik_b2s hf
                  have hM := (c_X7_finds l D cI cS h0 h1 h2 h3 h4 h5 h6 h7 h8 h9 h10 h11 misKept mtaped msort mfrom mto mvalue mbad mm mkept mwas mother mfound mwarm mdrip mtape mbits msize mnumber (-1000001 : Int32) r1 g2 hc2)
                  refine ik_goW (v := (some (.int r1))) (wc := (wz_X7 cI cS h0 h1 h2 h3 h4 h5 h6 h7 h8 h9 h10 h11 misKept mtaped msort mfrom mto mvalue mbad mm mkept mwas mother mfound mwarm mdrip mtape mbits msize mnumber)) (w1 := (wz_X7 cI cS h0 h1 h2 h3 h4 h5 h6 h7 h8 h9 h10 h11 misKept mtaped msort mfrom mto mvalue mbad mm mkept mwas mother g2 mwarm mdrip mtape mbits msize mnumber)) [0, 1, 2, 3, 4, 5, 6, 7, 8, 9, 10, 11] [] 12 rfl rfl (wz_X7 cI cS h0 h1 h2 h3 h4 h5 h6 h7 h8 h9 h10 h11 misKept mtaped msort mfrom mto mvalue mbad mm mkept mwas mother g2 mwarm mdrip mtape mbits msize mnumber) rfl [] rfl rfl rfl (by decide +kernel) (ik_runV (st := []) (As := [.int (-1000001 : Int32)]) C hM mv_X7_finds wl_7_8 ⟨rfl, rfl, Nat.le_of_ble_eq_true rfl, Nat.le_of_ble_eq_true rfl⟩ [0, 1, 2, 3, 4, 5, 6, 7, 8, 9, 10, 11] rfl (by decide +kernel) 0 rfl rfl rfl rfl (Nat.le_of_ble_eq_true rfl) dX7_count_104 ⟨Nat.zero_le _, Nat.zero_le _⟩) rfl ?_
                  obtain ⟨rfl, rfl⟩ := ik_e2 hf
                  exact ik_iretW C hr hlk dX7_count_107
theorem mv_X7_status : ik_V yX7_status RX7 cX7_status 4 (some .int) 1 := ⟨wl_49_4, wl_49_5, wl_1_5, wl_49_6, by decide +kernel⟩
set_option maxHeartbeats 4000000 in
set_option maxRecDepth 100000 in
theorem c_X7_status (l : Launch) (D : va_G) (cI cS : ClassId) (h0 h1 h2 h3 h4 h5 h6 h7 h8 h9 h10 h11 : Nat) (misKept : Int32) (mtaped : Int32) (msort : Int32) (mfrom : Int32) (mto : Int32) (mvalue : Int32) (mbad : Int32) (mm : Nat → Int32) (mkept : Nat → Int32) (mwas : Nat → Int32) (mother : Nat → Int32) (mfound : Nat → Int32) (mwarm : Nat → Int32) (mdrip : Nat → Int32) (mtape : Nat → Int32) (mbits : Nat → Int32) (msize : Nat → Int32) (mnumber : Nat → Int32) (x1 : Int32) (R : Int32) (mfound_r : Nat → Int32) (hf : f_X7_status mfound x1 = some (R, mfound_r)) : Met l yX7_status (ik_ws yX7_status cX7_status 4 (some .int)) ({ frames := 1, cells := 0, slots := 0, locals := 25 } : Room) (ik_P D cI cS [.ref h0, .int x1] (wz_X7 cI cS h0 h1 h2 h3 h4 h5 h6 h7 h8 h9 h10 h11 misKept mtaped msort mfrom mto mvalue mbad mm mkept mwas mother mfound mwarm mdrip mtape mbits msize mnumber)) (ik_Q (some (.int R)) D (wz_X7 cI cS h0 h1 h2 h3 h4 h5 h6 h7 h8 h9 h10 h11 misKept mtaped msort mfrom mto mvalue mbad mm mkept mwas mother mfound_r mwarm mdrip mtape mbits msize mnumber) (wz_X7 cI cS h0 h1 h2 h3 h4 h5 h6 h7 h8 h9 h10 h11 misKept mtaped msort mfrom mto mvalue mbad mm mkept mwas mother mfound mwarm mdrip mtape mbits msize mnumber)) 0 0 (ik_in (wz_X7 cI cS h0 h1 h2 h3 h4 h5 h6 h7 h8 h9 h10 h11 misKept mtaped msort mfrom mto mvalue mbad mm mkept mwas mother mfound mwarm mdrip mtape mbits msize mnumber)) := by
  refine ik_metW RX7 rfl (by decide) (Nat.le_of_ble_eq_true rfl) [(0, .ref h0), (1, .int x1)] rfl ?_
  intro p e s m below meth c C hr hlk
  unfold f_X7_status at hf
  refine ik_iload_n C 1 rfl rfl dX7_status_0 ?_
  refine ik_i2l C dX7_status_1 ?_
  refine ik_ldc2 C wl_49_7 dX7_status_2 ?_
  refine ik_ldc2 C wl_6_20 dX7_status_5 ?_
  obtain ⟨r1, hc1, hf⟩ := ik_b1s hf
  have hM := (c_X7_in l D cI cS (x1).toInt64 (-1 : Int64) (6 : Int64) r1 hc1)
  refine ik_goR (ik_runS (st := []) (As := [.long (x1).toInt64, .long (-1 : Int64), .long (6 : Int64)]) C hM ms_X7_in wl_6_21 ⟨rfl, rfl, Nat.le_of_ble_eq_true rfl, Nat.le_of_ble_eq_true rfl⟩ [] rfl (by decide +kernel) rfl rfl (Nat.le_of_ble_eq_true rfl) dX7_status_8 ⟨Nat.zero_le _, Nat.zero_le _⟩) rfl ?_
  refine ik_if_ne C 21 dX7_status_11 (by decide) (fun hc => ?_) (fun hc => ?_)
  · have hf := ik_neg hc hf
    refine ik_iconst (v := (0 : Int32)) C (by decide) dX7_status_21 ?_
    refine ik_istore_n C [(2, .int (0 : Int32)), (0, .ref h0), (1, .int x1)] rfl (by decide) rfl dX7_status_22 ?_
    refine ik_iconst (v := (0 : Int32)) C (by decide) dX7_status_23 ?_
    refine ik_istore_n C [(3, .int (0 : Int32)), (2, .int (0 : Int32)), (0, .ref h0), (1, .int x1)] rfl (by decide) rfl dX7_status_24 ?_
    have hL_25 : ∀ (n_25 : Nat) (x2_25 : Int32) (x3_25 : Int32), ik_lp2 (b_X7_status_25 mfound x1) n_25 x2_25 x3_25 = some (R, mfound_r) → ik_G p l e ({ frames := 1, cells := 0, slots := 0, locals := 25 } : Room) s m ([.ref h0, .int x1] : List Value).toArray below meth c D (ik_in (wz_X7 cI cS h0 h1 h2 h3 h4 h5 h6 h7 h8 h9 h10 h11 misKept mtaped msort mfrom mto mvalue mbad mm mkept mwas mother mfound mwarm mdrip mtape mbits msize mnumber)) (ik_in (wz_X7 cI cS h0 h1 h2 h3 h4 h5 h6 h7 h8 h9 h10 h11 misKept mtaped msort mfrom mto mvalue mbad mm mkept mwas mother mfound mwarm mdrip mtape mbits msize mnumber)) 4 0 0 (MQ below (ik_Q (some (.int R)) D (wz_X7 cI cS h0 h1 h2 h3 h4 h5 h6 h7 h8 h9 h10 h11 misKept mtaped msort mfrom mto mvalue mbad mm mkept mwas mother mfound_r mwarm mdrip mtape mbits msize mnumber) (wz_X7 cI cS h0 h1 h2 h3 h4 h5 h6 h7 h8 h9 h10 h11 misKept mtaped msort mfrom mto mvalue mbad mm mkept mwas mother mfound mwarm mdrip mtape mbits msize mnumber)) ([.ref h0, .int x1] : List Value).toArray s 0 0 (ik_in (wz_X7 cI cS h0 h1 h2 h3 h4 h5 h6 h7 h8 h9 h10 h11 misKept mtaped msort mfrom mto mvalue mbad mm mkept mwas mother mfound mwarm mdrip mtape mbits msize mnumber))) 25 [(3, .int x3_25), (2, .int x2_25), (0, .ref h0), (1, .int x1)] [] (wz_X7 cI cS h0 h1 h2 h3 h4 h5 h6 h7 h8 h9 h10 h11 misKept mtaped msort mfrom mto mvalue mbad mm mkept mwas mother mfound mwarm mdrip mtape mbits msize mnumber) := by
      intro n_25
      induction n_25 with
      | zero => intro _ _ hf; exact nomatch hf
      | succ n_25 ih_25 =>
        intro x2_25 x3_25 hf
        replace hf : b_X7_status_25 mfound x1 (ik_lp2 (b_X7_status_25 mfound x1) n_25) x2_25 x3_25 = some (R, mfound_r) := hf
        unfold b_X7_status_25 at hf
        refine ik_iload_n C 0 rfl rfl dX7_status_25 ?_
        refine ik_bipush (v := (7 : Int32)) C (by decide) dX7_status_26 ?_
        refine ik_icmp_ge C 59 dX7_status_28 (by decide) (fun hc => ?_) (fun hc => ?_)
        · have hf := ik_pos hc hf
          refine ik_iload_n C 1 rfl rfl dX7_status_59 ?_
          obtain ⟨rfl, rfl⟩ := ik_e2 hf
          exact ik_iretW C hr hlk dX7_status_60
        · have hf := ik_neg hc hf
          refine ik_iload_n C 1 rfl rfl dX7_status_31 ?_
          refine ik_iload_n C 3 rfl rfl dX7_status_32 ?_
          refine ik_if_lt C 41 dX7_status_33 (by decide) (fun hc => ?_) (fun hc => ?_)
          · have hf := ik_pos hc hf
            refine ik_aload_n C 2 rfl rfl dX7_status_41 ?_
            refine ik_get C inlX7 0 rfl rfl 5 (by decide) wl_4_16 rfl (v := .ref h5) rfl dX7_status_42 ?_
            refine ik_iload_n C 0 rfl rfl dX7_status_45 ?_
            have hg := ik_gdi hf
            have hf := ik_gdk hf
            refine ik_iald C 5 rfl hg dX7_status_46 ?_
            refine ik_goto C 51 dX7_status_47 (by decide) ?_
            refine ik_iadd C dX7_status_51 ?_
            refine ik_istore_n C [(2, .int (x2_25 + (mfound (x3_25).toNatClampNeg))), (3, .int x3_25), (0, .ref h0), (1, .int x1)] rfl (by decide) rfl dX7_status_52 ?_
            refine ik_iinc C [(3, .int (x3_25 + (1 : Int32))), (2, .int (x2_25 + (mfound (x3_25).toNatClampNeg))), (0, .ref h0), (1, .int x1)] 1 rfl rfl (by decide) rfl dX7_status_53 ?_
            refine ik_goto C 25 dX7_status_56 (by decide) ?_
            exact ik_sub [0, 1, 2, 3] [(3, .int (x3_25 + (1 : Int32))), (2, .int (x2_25 + (mfound (x3_25).toNatClampNeg))), (0, .ref h0), (1, .int x1)] rfl (ih_25 (x2_25 + (mfound (x3_25).toNatClampNeg)) (x3_25 + (1 : Int32)) hf)
          · have hf := ik_neg hc hf
            refine ik_iload_n C 3 rfl rfl dX7_status_36 ?_
            refine ik_iload_n C 0 rfl rfl dX7_status_37 ?_
            refine ik_icmp_ne C 50 dX7_status_38 (by decide) (fun hc => ?_) (fun hc => ?_)
            · have hf := ik_neg hc hf
              refine ik_iconst (v := (0 : Int32)) C (by decide) dX7_status_50 ?_
              refine ik_iadd C dX7_status_51 ?_
              refine ik_istore_n C [(2, .int (x2_25 + (0 : Int32))), (3, .int x3_25), (0, .ref h0), (1, .int x1)] rfl (by decide) rfl dX7_status_52 ?_
              refine ik_iinc C [(3, .int (x3_25 + (1 : Int32))), (2, .int (x2_25 + (0 : Int32))), (0, .ref h0), (1, .int x1)] 1 rfl rfl (by decide) rfl dX7_status_53 ?_
              refine ik_goto C 25 dX7_status_56 (by decide) ?_
              exact ik_sub [0, 1, 2, 3] [(3, .int (x3_25 + (1 : Int32))), (2, .int (x2_25 + (0 : Int32))), (0, .ref h0), (1, .int x1)] rfl (ih_25 (x2_25 + (0 : Int32)) (x3_25 + (1 : Int32)) hf)
            · have hf := ik_pos hc hf
              refine ik_aload_n C 2 rfl rfl dX7_status_41 ?_
              refine ik_get C inlX7 0 rfl rfl 5 (by decide) wl_4_16 rfl (v := .ref h5) rfl dX7_status_42 ?_
              refine ik_iload_n C 0 rfl rfl dX7_status_45 ?_
              have hg := ik_gdi hf
              have hf := ik_gdk hf
              refine ik_iald C 5 rfl hg dX7_status_46 ?_
              refine ik_goto C 51 dX7_status_47 (by decide) ?_
              refine ik_iadd C dX7_status_51 ?_
              refine ik_istore_n C [(2, .int (x2_25 + (mfound (x3_25).toNatClampNeg))), (3, .int x3_25), (0, .ref h0), (1, .int x1)] rfl (by decide) rfl dX7_status_52 ?_
              refine ik_iinc C [(3, .int (x3_25 + (1 : Int32))), (2, .int (x2_25 + (mfound (x3_25).toNatClampNeg))), (0, .ref h0), (1, .int x1)] 1 rfl rfl (by decide) rfl dX7_status_53 ?_
              refine ik_goto C 25 dX7_status_56 (by decide) ?_
              exact ik_sub [0, 1, 2, 3] [(3, .int (x3_25 + (1 : Int32))), (2, .int (x2_25 + (mfound (x3_25).toNatClampNeg))), (0, .ref h0), (1, .int x1)] rfl (ih_25 (x2_25 + (mfound (x3_25).toNatClampNeg)) (x3_25 + (1 : Int32)) hf)
    exact hL_25 ik_fu (0 : Int32) (0 : Int32) hf
  · have hf := ik_pos hc hf
    refine ik_aload_n C 0 rfl rfl dX7_status_14 ?_
    refine ik_ldc C wl_6_14 dX7_status_15 ?_
    obtain ⟨r2, g3, hc3, hf⟩ := ik_b2s hf
    have hM := (c_X7_finds l D cI cS h0 h1 h2 h3 h4 h5 h6 h7 h8 h9 h10 h11 misKept mtaped msort mfrom mto mvalue mbad mm mkept mwas mother mfound mwarm mdrip mtape mbits msize mnumber (-1000001 : Int32) r2 g3 hc3)
    refine ik_goW (v := (some (.int r2))) (wc := (wz_X7 cI cS h0 h1 h2 h3 h4 h5 h6 h7 h8 h9 h10 h11 misKept mtaped msort mfrom mto mvalue mbad mm mkept mwas mother mfound mwarm mdrip mtape mbits msize mnumber)) (w1 := (wz_X7 cI cS h0 h1 h2 h3 h4 h5 h6 h7 h8 h9 h10 h11 misKept mtaped msort mfrom mto mvalue mbad mm mkept mwas mother g3 mwarm mdrip mtape mbits msize mnumber)) [0, 1, 2, 3, 4, 5, 6, 7, 8, 9, 10, 11] [] 12 rfl rfl (wz_X7 cI cS h0 h1 h2 h3 h4 h5 h6 h7 h8 h9 h10 h11 misKept mtaped msort mfrom mto mvalue mbad mm mkept mwas mother g3 mwarm mdrip mtape mbits msize mnumber) rfl [] rfl rfl rfl (by decide +kernel) (ik_runV (st := []) (As := [.int (-1000001 : Int32)]) C hM mv_X7_finds wl_7_8 ⟨rfl, rfl, Nat.le_of_ble_eq_true rfl, Nat.le_of_ble_eq_true rfl⟩ [0, 1, 2, 3, 4, 5, 6, 7, 8, 9, 10, 11] rfl (by decide +kernel) 0 rfl rfl rfl rfl (Nat.le_of_ble_eq_true rfl) dX7_status_17 ⟨Nat.zero_le _, Nat.zero_le _⟩) rfl ?_
    obtain ⟨rfl, rfl⟩ := ik_e2 hf
    exact ik_iretW C hr hlk dX7_status_20
theorem ms_J6_bitCount_0f7a4 : ik_S yJ6_bitCount_0f7a4 RJ6 cJ6_bitCount_0f7a4 1 (some .int) 1 := ⟨wl_48_13, wl_48_14, wl_48_15, by decide +kernel⟩
set_option maxHeartbeats 4000000 in
set_option maxRecDepth 100000 in
theorem c_J6_bitCount_0f7a4 (l : Launch) (D : va_G) (cI cS : ClassId) (x0 : Int32) (R : Int32) (hf : f_J6_bitCount_0f7a4 x0 = some (R)) : Met l yJ6_bitCount_0f7a4 (ik_ws yJ6_bitCount_0f7a4 cJ6_bitCount_0f7a4 1 (some .int)) ({ frames := 0, cells := 0, slots := 0, locals := 0 } : Room) (ik_P D cI cS [.int x0] (wz_none cI cS)) (ik_R (some (.int R))) 0 0 ik_no := by
  refine ik_metR RJ6 rfl (by decide) (Nat.le_of_ble_eq_true rfl) [(0, .int x0)] rfl ?_
  intro p e s m below meth c C hr hlk
  unfold f_J6_bitCount_0f7a4 at hf
  refine ik_iload_n C 0 rfl rfl dJ6_bitCount_0f7a4_0 ?_
  refine ik_iload_n C 0 rfl rfl dJ6_bitCount_0f7a4_1 ?_
  refine ik_iconst (v := (1 : Int32)) C (by decide) dJ6_bitCount_0f7a4_2 ?_
  refine ik_iushr C dJ6_bitCount_0f7a4_3 ?_
  refine ik_ldcw C wl_48_16 dJ6_bitCount_0f7a4_4 ?_
  refine ik_iand C dJ6_bitCount_0f7a4_7 ?_
  refine ik_isub C dJ6_bitCount_0f7a4_8 ?_
  refine ik_istore_n C [(0, .int (x0 - ((ik_us x0 (1 : Int32)) &&& (1431655765 : Int32))))] rfl (by decide) rfl dJ6_bitCount_0f7a4_9 ?_
  refine ik_iload_n C 0 rfl rfl dJ6_bitCount_0f7a4_10 ?_
  refine ik_ldcw C wl_48_17 dJ6_bitCount_0f7a4_11 ?_
  refine ik_iand C dJ6_bitCount_0f7a4_14 ?_
  refine ik_iload_n C 0 rfl rfl dJ6_bitCount_0f7a4_15 ?_
  refine ik_iconst (v := (2 : Int32)) C (by decide) dJ6_bitCount_0f7a4_16 ?_
  refine ik_iushr C dJ6_bitCount_0f7a4_17 ?_
  refine ik_ldcw C wl_48_17 dJ6_bitCount_0f7a4_18 ?_
  refine ik_iand C dJ6_bitCount_0f7a4_21 ?_
  refine ik_iadd C dJ6_bitCount_0f7a4_22 ?_
  obtain ⟨n1, hv1, hf⟩ := ik_nvs hf
  refine ik_nm hv1 ?_
  refine ik_istore_n C [(0, .int n1)] rfl (by decide) rfl dJ6_bitCount_0f7a4_23 ?_
  refine ik_iload_n C 0 rfl rfl dJ6_bitCount_0f7a4_24 ?_
  refine ik_iload_n C 0 rfl rfl dJ6_bitCount_0f7a4_25 ?_
  refine ik_iconst (v := (4 : Int32)) C (by decide) dJ6_bitCount_0f7a4_26 ?_
  refine ik_iushr C dJ6_bitCount_0f7a4_27 ?_
  refine ik_iadd C dJ6_bitCount_0f7a4_28 ?_
  refine ik_ldcw C wl_48_18 dJ6_bitCount_0f7a4_29 ?_
  refine ik_iand C dJ6_bitCount_0f7a4_32 ?_
  refine ik_istore_n C [(0, .int ((n1 + (ik_us n1 (4 : Int32))) &&& (252645135 : Int32)))] rfl (by decide) rfl dJ6_bitCount_0f7a4_33 ?_
  refine ik_iload_n C 0 rfl rfl dJ6_bitCount_0f7a4_34 ?_
  refine ik_iload_n C 0 rfl rfl dJ6_bitCount_0f7a4_35 ?_
  refine ik_bipush (v := (8 : Int32)) C (by decide) dJ6_bitCount_0f7a4_36 ?_
  refine ik_iushr C dJ6_bitCount_0f7a4_38 ?_
  refine ik_iadd C dJ6_bitCount_0f7a4_39 ?_
  obtain ⟨n2, hv2, hf⟩ := ik_nvs hf
  refine ik_nm hv2 ?_
  refine ik_istore_n C [(0, .int n2)] rfl (by decide) rfl dJ6_bitCount_0f7a4_40 ?_
  refine ik_iload_n C 0 rfl rfl dJ6_bitCount_0f7a4_41 ?_
  refine ik_iload_n C 0 rfl rfl dJ6_bitCount_0f7a4_42 ?_
  refine ik_bipush (v := (16 : Int32)) C (by decide) dJ6_bitCount_0f7a4_43 ?_
  refine ik_iushr C dJ6_bitCount_0f7a4_45 ?_
  refine ik_iadd C dJ6_bitCount_0f7a4_46 ?_
  refine ik_istore_n C [(0, .int (n2 + (ik_us n2 (16 : Int32))))] rfl (by decide) rfl dJ6_bitCount_0f7a4_47 ?_
  refine ik_iload_n C 0 rfl rfl dJ6_bitCount_0f7a4_48 ?_
  refine ik_bipush (v := (63 : Int32)) C (by decide) dJ6_bitCount_0f7a4_49 ?_
  refine ik_iand C dJ6_bitCount_0f7a4_51 ?_
  obtain rfl := Option.some.inj hf
  exact ik_iretR C hr hlk dJ6_bitCount_0f7a4_52
theorem ms_J7_fill_53178 : ik_S yJ7_fill_53178 RJ7 cJ7_fill_53178 4 none 2 := ⟨wl_3_7, wl_3_8, wl_3_9, by decide +kernel⟩
set_option maxHeartbeats 4000000 in
set_option maxRecDepth 100000 in
theorem c_J7_fill_53178 (l : Launch) (D : va_G) (cI cS : ClassId) (h0 : Nat) (xn : Nat) (a : Nat → Int32) (x1 : Int32) (a_r : Nat → Int32) (hf : f_J7_fill_53178 a xn x1 = some (a_r)) : Met l yJ7_fill_53178 (ik_ws yJ7_fill_53178 cJ7_fill_53178 4 none) ({ frames := 0, cells := 0, slots := 0, locals := 0 } : Room) (ik_P D cI cS [.ref h0, .int x1] (wz_fill cI cS h0 xn a)) (ik_Q none D (wz_fill cI cS h0 xn a_r) (wz_fill cI cS h0 xn a)) 0 0 (ik_in (wz_fill cI cS h0 xn a)) := by
  refine ik_metW RJ7 rfl (by decide) (Nat.le_of_ble_eq_true rfl) [(0, .ref h0), (1, .int x1)] rfl ?_
  intro p e s m below meth c C hr hlk
  unfold f_J7_fill_53178 at hf
  refine ik_iconst (v := (0 : Int32)) C (by decide) dJ7_fill_53178_0 ?_
  refine ik_istore_n C [(2, .int (0 : Int32)), (0, .ref h0), (1, .int x1)] rfl (by decide) rfl dJ7_fill_53178_1 ?_
  refine ik_aload_n C 1 rfl rfl dJ7_fill_53178_2 ?_
  refine ik_alen (v := (Int32.ofNat xn)) C 0 rfl rfl dJ7_fill_53178_3 ?_
  refine ik_istore_n C [(3, .int (Int32.ofNat xn)), (2, .int (0 : Int32)), (0, .ref h0), (1, .int x1)] rfl (by decide) rfl dJ7_fill_53178_4 ?_
  have hL_5 : ∀ (n_5 : Nat) (a_5 : Nat → Int32) (x2_5 : Int32), ik_lp2 (b_J7_fill_53178_5 xn x1) n_5 a_5 x2_5 = some (a_r) → ik_G p l e ({ frames := 0, cells := 0, slots := 0, locals := 0 } : Room) s m ([.ref h0, .int x1] : List Value).toArray below meth c D (ik_in (wz_fill cI cS h0 xn a)) (ik_in (wz_fill cI cS h0 xn a)) 4 0 0 (MQ below (ik_Q none D (wz_fill cI cS h0 xn a_r) (wz_fill cI cS h0 xn a)) ([.ref h0, .int x1] : List Value).toArray s 0 0 (ik_in (wz_fill cI cS h0 xn a))) 5 [(3, .int (Int32.ofNat xn)), (2, .int x2_5), (0, .ref h0), (1, .int x1)] [] (wz_fill cI cS h0 xn a_5) := by
    intro n_5
    induction n_5 with
    | zero => intro _ _ hf; exact nomatch hf
    | succ n_5 ih_5 =>
      intro a_5 x2_5 hf
      replace hf : b_J7_fill_53178_5 xn x1 (ik_lp2 (b_J7_fill_53178_5 xn x1) n_5) a_5 x2_5 = some (a_r) := hf
      unfold b_J7_fill_53178_5 at hf
      refine ik_iload_n C 1 rfl rfl dJ7_fill_53178_5 ?_
      refine ik_iload_n C 0 rfl rfl dJ7_fill_53178_6 ?_
      refine ik_icmp_ge C 20 dJ7_fill_53178_7 (by decide) (fun hc => ?_) (fun hc => ?_)
      · have hf := ik_pos hc hf
        obtain rfl := Option.some.inj hf
        exact ik_vretW C hr hlk dJ7_fill_53178_20
      · have hf := ik_neg hc hf
        refine ik_aload_n C 2 rfl rfl dJ7_fill_53178_10 ?_
        refine ik_iload_n C 1 rfl rfl dJ7_fill_53178_11 ?_
        refine ik_iload_n C 3 rfl rfl dJ7_fill_53178_12 ?_
        have hg := ik_gdi hf
        have hf := ik_gdk hf
        refine ik_iast C 0 rfl hg (wz_fill cI cS h0 xn (upd a_5 (x2_5).toNatClampNeg x1)) rfl dJ7_fill_53178_13 ?_
        refine ik_iinc C [(2, .int (x2_5 + (1 : Int32))), (3, .int (Int32.ofNat xn)), (0, .ref h0), (1, .int x1)] 1 rfl rfl (by decide) rfl dJ7_fill_53178_14 ?_
        refine ik_goto C 5 dJ7_fill_53178_17 (by decide) ?_
        exact ik_sub [1, 0, 2, 3] [(3, .int (Int32.ofNat xn)), (2, .int (x2_5 + (1 : Int32))), (0, .ref h0), (1, .int x1)] rfl (ih_5 (upd a_5 (x2_5).toNatClampNeg x1) (x2_5 + (1 : Int32)) hf)
  exact hL_5 ik_fu a (0 : Int32) hf
theorem mv_X0_warmthAt : ik_V yX0_warmthAt RX0 cX0_warmthAt 4 (some .int) 1 := ⟨wl_13_10, wl_13_11, wl_2_16, wl_13_12, by decide +kernel⟩
set_option maxHeartbeats 4000000 in
set_option maxRecDepth 100000 in
theorem c_X0_warmthAt (l : Launch) (D : va_G) (cI cS : ClassId) (c0 c1 c2 : Nat) (lit : Int32) (cold : Int32) (ccell : Nat → Int32) (cpow : Nat → Int32) (x1 : Int32) (R : Int32) (hf : f_X0_warmthAt lit cold ccell cpow x1 = some (R)) : Met l yX0_warmthAt (ik_ws yX0_warmthAt cX0_warmthAt 4 (some .int)) ({ frames := 2, cells := 0, slots := 0, locals := 42 } : Room) (ik_P D cI cS [.ref c0, .int x1] (wz_X0 cI cS c0 c1 c2 lit cold ccell cpow)) (ik_R (some (.int R))) 0 0 ik_no := by
  refine ik_metR RX0 rfl (by decide) (Nat.le_of_ble_eq_true rfl) [(0, .ref c0), (1, .int x1)] rfl ?_
  intro p e s m below meth c C hr hlk
  unfold f_X0_warmthAt at hf
  refine ik_aload_n C 0 rfl rfl dX0_warmthAt_0 ?_
  refine ik_get C inlX0 0 rfl rfl 3 (by decide) wl_3_15 rfl (v := .int cold) rfl dX0_warmthAt_1 ?_
  refine ik_istore_n C [(2, .int cold), (0, .ref c0), (1, .int x1)] rfl (by decide) rfl dX0_warmthAt_4 ?_
  refine ik_iconst (v := (0 : Int32)) C (by decide) dX0_warmthAt_5 ?_
  refine ik_istore_n C [(3, .int (0 : Int32)), (2, .int cold), (0, .ref c0), (1, .int x1)] rfl (by decide) rfl dX0_warmthAt_6 ?_
  have hL_7 : ∀ (n_7 : Nat) (x2_7 : Int32) (x3_7 : Int32), ik_lp2 (b_X0_warmthAt_7 lit ccell cpow x1) n_7 x2_7 x3_7 = some (R) → ik_G p l e ({ frames := 2, cells := 0, slots := 0, locals := 42 } : Room) s m ([.ref c0, .int x1] : List Value).toArray below meth c D ik_no (fun _ => True) 4 0 0 (MQ below (ik_R (some (.int R))) ([.ref c0, .int x1] : List Value).toArray s 0 0 ik_no) 7 [(3, .int x3_7), (2, .int x2_7), (0, .ref c0), (1, .int x1)] [] (wz_X0 cI cS c0 c1 c2 lit cold ccell cpow) := by
    intro n_7
    induction n_7 with
    | zero => intro _ _ hf; exact nomatch hf
    | succ n_7 ih_7 =>
      intro x2_7 x3_7 hf
      replace hf : b_X0_warmthAt_7 lit ccell cpow x1 (ik_lp2 (b_X0_warmthAt_7 lit ccell cpow x1) n_7) x2_7 x3_7 = some (R) := hf
      unfold b_X0_warmthAt_7 at hf
      refine ik_iload_n C 0 rfl rfl dX0_warmthAt_7 ?_
      refine ik_bipush (v := (6 : Int32)) C (by decide) dX0_warmthAt_8 ?_
      refine ik_icmp_ge C 49 dX0_warmthAt_10 (by decide) (fun hc => ?_) (fun hc => ?_)
      · have hf := ik_pos hc hf
        refine ik_iload_n C 1 rfl rfl dX0_warmthAt_49 ?_
        obtain rfl := Option.some.inj hf
        exact ik_iretR C hr hlk dX0_warmthAt_50
      · have hf := ik_neg hc hf
        refine ik_aload_n C 2 rfl rfl dX0_warmthAt_13 ?_
        refine ik_iload_n C 0 rfl rfl dX0_warmthAt_14 ?_
        obtain ⟨r1, hc1, hf⟩ := ik_b1s hf
        have hM := (c_X0_isLit l D cI cS c0 c1 c2 lit cold ccell cpow x3_7 r1 hc1)
        refine ik_goR (ik_runV (st := []) (As := [.int x3_7]) C hM mv_X0_isLit wl_13_13 ⟨rfl, rfl, Nat.le_of_ble_eq_true rfl, Nat.le_of_ble_eq_true rfl⟩ [0, 1, 2] rfl (by decide +kernel) 0 rfl rfl rfl rfl (Nat.le_of_ble_eq_true rfl) dX0_warmthAt_15 ⟨Nat.zero_le _, Nat.zero_le _⟩) rfl ?_
        refine ik_if_eq C 43 dX0_warmthAt_18 (by decide) (fun hc => ?_) (fun hc => ?_)
        · have hf := ik_pos hc hf
          refine ik_iinc C [(3, .int (x3_7 + (1 : Int32))), (2, .int x2_7), (0, .ref c0), (1, .int x1)] 0 rfl rfl (by decide) rfl dX0_warmthAt_43 ?_
          refine ik_goto C 7 dX0_warmthAt_46 (by decide) ?_
          exact ik_sub [0, 1, 2, 3] [(3, .int (x3_7 + (1 : Int32))), (2, .int x2_7), (0, .ref c0), (1, .int x1)] rfl (ih_7 x2_7 (x3_7 + (1 : Int32)) hf)
        · have hf := ik_neg hc hf
          refine ik_iload_n C 1 rfl rfl dX0_warmthAt_21 ?_
          refine ik_aload_n C 2 rfl rfl dX0_warmthAt_22 ?_
          refine ik_get C inlX0 0 rfl rfl 1 (by decide) wl_3_14 rfl (v := .ref c2) rfl dX0_warmthAt_23 ?_
          refine ik_iload_n C 0 rfl rfl dX0_warmthAt_26 ?_
          have hg := ik_gdi hf
          have hf := ik_gdk hf
          refine ik_iald C 2 rfl hg dX0_warmthAt_27 ?_
          refine ik_aload_n C 2 rfl rfl dX0_warmthAt_28 ?_
          refine ik_get C inlX0 0 rfl rfl 0 (by decide) wl_3_13 rfl (v := .ref c1) rfl dX0_warmthAt_29 ?_
          refine ik_iload_n C 0 rfl rfl dX0_warmthAt_32 ?_
          have hg := ik_gdi hf
          have hf := ik_gdk hf
          refine ik_iald C 1 rfl hg dX0_warmthAt_33 ?_
          refine ik_iload_n C 3 rfl rfl dX0_warmthAt_34 ?_
          obtain ⟨r2, hc2, hf⟩ := ik_b1s hf
          have hM := (c_X0_far l D cI cS (ccell (x3_7).toNatClampNeg) x1 r2 hc2)
          refine ik_goR (ik_runS (st := [.int (cpow (x3_7).toNatClampNeg), .int x2_7]) (As := [.int (ccell (x3_7).toNatClampNeg), .int x1]) C hM ms_X0_far wl_13_18 ⟨rfl, rfl, Nat.le_of_ble_eq_true rfl, Nat.le_of_ble_eq_true rfl⟩ [] rfl (by decide +kernel) rfl rfl (Nat.le_of_ble_eq_true rfl) dX0_warmthAt_35 ⟨Nat.zero_le _, Nat.zero_le _⟩) rfl ?_
          refine ik_iconst (v := (1 : Int32)) C (by decide) dX0_warmthAt_38 ?_
          refine ik_iadd C dX0_warmthAt_39 ?_
          have hg := ik_gni hf
          have hf := ik_gnk hf
          refine ik_idiv C hg dX0_warmthAt_40 ?_
          refine ik_iadd C dX0_warmthAt_41 ?_
          refine ik_istore_n C [(2, .int (x2_7 + ((cpow (x3_7).toNatClampNeg) / (r2 + (1 : Int32))))), (3, .int x3_7), (0, .ref c0), (1, .int x1)] rfl (by decide) rfl dX0_warmthAt_42 ?_
          refine ik_iinc C [(3, .int (x3_7 + (1 : Int32))), (2, .int (x2_7 + ((cpow (x3_7).toNatClampNeg) / (r2 + (1 : Int32))))), (0, .ref c0), (1, .int x1)] 1 rfl rfl (by decide) rfl dX0_warmthAt_43 ?_
          refine ik_goto C 7 dX0_warmthAt_46 (by decide) ?_
          exact ik_sub [0, 1, 2, 3] [(3, .int (x3_7 + (1 : Int32))), (2, .int (x2_7 + ((cpow (x3_7).toNatClampNeg) / (r2 + (1 : Int32))))), (0, .ref c0), (1, .int x1)] rfl (ih_7 (x2_7 + ((cpow (x3_7).toNatClampNeg) / (r2 + (1 : Int32)))) (x3_7 + (1 : Int32)) hf)
  exact hL_7 ik_fu cold (0 : Int32) hf
theorem mv_X1_copyFrom : ik_V yX1_copyFrom RX1 cX1_copyFrom 2 none 1 := ⟨wl_23_15, wl_23_16, wl_1_14, wl_23_17, by decide +kernel⟩
set_option maxHeartbeats 4000000 in
set_option maxRecDepth 100000 in
theorem c_X1_copyFrom (l : Launch) (D : va_G) (cI cS : ClassId) (p0 w0 c0 p1 p2 p3 w1 w2 w3 w4 c1 c2 op0 ow0 oc0 op1 op2 op3 ow1 ow2 ow3 ow4 oc1 oc2 : Nat) (hour : Int32) (air : Int32) (rub : Int32) (z : Int32) (nb : Int32) (kd : Nat → Int32) (cl : Nat → Int32) (gr : Nat → Int32) (oc : Nat → Int32) (lit : Int32) (cold : Int32) (ccell : Nat → Int32) (cpow : Nat → Int32) (sp : Nat → Int32) (wm : Nat → Int32) (dr : Nat → Int32) (ohour : Int32) (oair : Int32) (orub : Int32) (oz : Int32) (onb : Int32) (okd : Nat → Int32) (ocl : Nat → Int32) (ogr : Nat → Int32) (ooc : Nat → Int32) (olit : Int32) (ocold : Int32) (occell : Nat → Int32) (ocpow : Nat → Int32) (osp : Nat → Int32) (owm : Nat → Int32) (odr : Nat → Int32) (hour_r : Int32) (air_r : Int32) (rub_r : Int32) (z_r : Int32) (nb_r : Int32) (kd_r : Nat → Int32) (cl_r : Nat → Int32) (gr_r : Nat → Int32) (oc_r : Nat → Int32) (lit_r : Int32) (cold_r : Int32) (ccell_r : Nat → Int32) (cpow_r : Nat → Int32) (sp_r : Nat → Int32) (hf : f_X1_copyFrom hour air rub z nb kd cl gr oc lit cold ccell cpow sp ohour oair orub oz onb okd ocl ogr ooc olit ocold occell ocpow osp = some (hour_r, air_r, rub_r, z_r, nb_r, kd_r, cl_r, gr_r, oc_r, lit_r, cold_r, ccell_r, cpow_r, sp_r)) : Met l yX1_copyFrom (ik_ws yX1_copyFrom cX1_copyFrom 2 none) ({ frames := 2, cells := 0, slots := 0, locals := 81 } : Room) (ik_P D cI cS [.ref p0, .ref op0] (wz_X1d cI cS p0 w0 c0 p1 p2 p3 w1 w2 w3 w4 c1 c2 op0 ow0 oc0 op1 op2 op3 ow1 ow2 ow3 ow4 oc1 oc2 hour air rub z nb kd cl gr oc lit cold ccell cpow sp wm dr ohour oair orub oz onb okd ocl ogr ooc olit ocold occell ocpow osp owm odr)) (ik_Q none D (wz_X1d cI cS p0 w0 c0 p1 p2 p3 w1 w2 w3 w4 c1 c2 op0 ow0 oc0 op1 op2 op3 ow1 ow2 ow3 ow4 oc1 oc2 hour_r air_r rub_r z_r nb_r kd_r cl_r gr_r oc_r lit_r cold_r ccell_r cpow_r sp_r wm dr ohour oair orub oz onb okd ocl ogr ooc olit ocold occell ocpow osp owm odr) (wz_X1d cI cS p0 w0 c0 p1 p2 p3 w1 w2 w3 w4 c1 c2 op0 ow0 oc0 op1 op2 op3 ow1 ow2 ow3 ow4 oc1 oc2 hour air rub z nb kd cl gr oc lit cold ccell cpow sp wm dr ohour oair orub oz onb okd ocl ogr ooc olit ocold occell ocpow osp owm odr)) 0 0 (ik_in (wz_X1d cI cS p0 w0 c0 p1 p2 p3 w1 w2 w3 w4 c1 c2 op0 ow0 oc0 op1 op2 op3 ow1 ow2 ow3 ow4 oc1 oc2 hour air rub z nb kd cl gr oc lit cold ccell cpow sp wm dr ohour oair orub oz onb okd ocl ogr ooc olit ocold occell ocpow osp owm odr)) := by
  refine ik_metW RX1 rfl (by decide) (Nat.le_of_ble_eq_true rfl) [(0, .ref p0), (1, .ref op0)] rfl ?_
  intro p e s m below meth c C hr hlk
  unfold f_X1_copyFrom at hf
  refine ik_aload_n C 0 rfl rfl dX1_copyFrom_0 ?_
  refine ik_get C inlX1 0 rfl rfl 0 (by decide) wl_2_13 rfl (v := .ref w0) rfl dX1_copyFrom_1 ?_
  refine ik_aload_n C 1 rfl rfl dX1_copyFrom_4 ?_
  refine ik_get C inlX1 12 rfl rfl 0 (by decide) wl_2_13 rfl (v := .ref ow0) rfl dX1_copyFrom_5 ?_
  obtain ⟨g1, g2, g3, g4, g5, hc5, hf⟩ := ik_b5s hf
  have hM := (c_X5_copyFrom l D cI cS w0 w1 w2 w3 w4 ow0 ow1 ow2 ow3 ow4 nb kd cl gr oc onb okd ocl ogr ooc g1 g2 g3 g4 g5 hc5)
  refine ik_goW (v := none) (wc := (wz_X5d cI cS w0 w1 w2 w3 w4 ow0 ow1 ow2 ow3 ow4 nb kd cl gr oc onb okd ocl ogr ooc)) (w1 := (wz_X5d cI cS w0 w1 w2 w3 w4 ow0 ow1 ow2 ow3 ow4 g1 g2 g3 g4 g5 onb okd ocl ogr ooc)) [1, 2, 3, 4, 5, 13, 14, 15, 16, 17] [0, 6, 7, 8, 9, 10, 11, 12, 18, 19, 20, 21, 22, 23] 24 rfl rfl (wz_X1d cI cS p0 w0 c0 p1 p2 p3 w1 w2 w3 w4 c1 c2 op0 ow0 oc0 op1 op2 op3 ow1 ow2 ow3 ow4 oc1 oc2 hour air rub z g1 g2 g3 g4 g5 lit cold ccell cpow sp wm dr ohour oair orub oz onb okd ocl ogr ooc olit ocold occell ocpow osp owm odr) rfl [(p0, .inr (1, [.ref w0, .ref c0, .ref p1, .int hour, .int air, .int rub, .int z, .ref p2, .ref p3])), (c0, .inr (0, [.ref c1, .ref c2, .int lit, .int cold])), (c1, .inl (cI, 6, .inl ccell)), (c2, .inl (cI, 6, .inl cpow)), (p1, .inl (cI, 10, .inl sp)), (p2, .inl (cI, 16, .inl wm)), (p3, .inl (cI, 8, .inl dr)), (op0, .inr (1, [.ref ow0, .ref oc0, .ref op1, .int ohour, .int oair, .int orub, .int oz, .ref op2, .ref op3])), (oc0, .inr (0, [.ref oc1, .ref oc2, .int olit, .int ocold])), (oc1, .inl (cI, 6, .inl occell)), (oc2, .inl (cI, 6, .inl ocpow)), (op1, .inl (cI, 10, .inl osp)), (op2, .inl (cI, 16, .inl owm)), (op3, .inl (cI, 8, .inl odr))] rfl rfl rfl (by decide +kernel) (ik_runV (st := []) (As := [.ref ow0]) C hM mv_X5_copyFrom wl_23_22 ⟨rfl, rfl, Nat.le_of_ble_eq_true rfl, Nat.le_of_ble_eq_true rfl⟩ [1, 2, 3, 4, 5, 13, 14, 15, 16, 17] rfl (by decide +kernel) 1 rfl rfl rfl rfl (Nat.le_of_ble_eq_true rfl) dX1_copyFrom_8 ⟨Nat.zero_le _, Nat.zero_le _⟩) rfl ?_
  refine ik_aload_n C 0 rfl rfl dX1_copyFrom_11 ?_
  refine ik_get C inlX1 0 rfl rfl 1 (by decide) wl_2_17 rfl (v := .ref c0) rfl dX1_copyFrom_12 ?_
  refine ik_aload_n C 1 rfl rfl dX1_copyFrom_15 ?_
  refine ik_get C inlX1 12 rfl rfl 1 (by decide) wl_2_17 rfl (v := .ref oc0) rfl dX1_copyFrom_16 ?_
  obtain ⟨g6, g7, g8, g9, hc9, hf⟩ := ik_b4s hf
  have hM := (c_X0_copyFrom l D cI cS c0 c1 c2 oc0 oc1 oc2 lit cold ccell cpow olit ocold occell ocpow g6 g7 g8 g9 hc9)
  refine ik_goW (v := none) (wc := (wz_X0d cI cS c0 c1 c2 oc0 oc1 oc2 lit cold ccell cpow olit ocold occell ocpow)) (w1 := (wz_X0d cI cS c0 c1 c2 oc0 oc1 oc2 g6 g7 g8 g9 olit ocold occell ocpow)) [6, 7, 8, 18, 19, 20] [0, 1, 2, 3, 4, 5, 9, 10, 11, 12, 13, 14, 15, 16, 17, 21, 22, 23] 24 rfl rfl (wz_X1d cI cS p0 w0 c0 p1 p2 p3 w1 w2 w3 w4 c1 c2 op0 ow0 oc0 op1 op2 op3 ow1 ow2 ow3 ow4 oc1 oc2 hour air rub z g1 g2 g3 g4 g5 g6 g7 g8 g9 sp wm dr ohour oair orub oz onb okd ocl ogr ooc olit ocold occell ocpow osp owm odr) rfl [(p0, .inr (1, [.ref w0, .ref c0, .ref p1, .int hour, .int air, .int rub, .int z, .ref p2, .ref p3])), (w0, .inr (5, [.int g1, .ref w1, .ref w2, .ref w3, .ref w4])), (w1, .inl (cI, 16, .inl g2)), (w2, .inl (cI, 16, .inl g3)), (w3, .inl (cI, 16, .inl g4)), (w4, .inl (cI, 48, .inl g5)), (p1, .inl (cI, 10, .inl sp)), (p2, .inl (cI, 16, .inl wm)), (p3, .inl (cI, 8, .inl dr)), (op0, .inr (1, [.ref ow0, .ref oc0, .ref op1, .int ohour, .int oair, .int orub, .int oz, .ref op2, .ref op3])), (ow0, .inr (5, [.int onb, .ref ow1, .ref ow2, .ref ow3, .ref ow4])), (ow1, .inl (cI, 16, .inl okd)), (ow2, .inl (cI, 16, .inl ocl)), (ow3, .inl (cI, 16, .inl ogr)), (ow4, .inl (cI, 48, .inl ooc)), (op1, .inl (cI, 10, .inl osp)), (op2, .inl (cI, 16, .inl owm)), (op3, .inl (cI, 8, .inl odr))] rfl rfl rfl (by decide +kernel) (ik_runV (st := []) (As := [.ref oc0]) C hM mv_X0_copyFrom wl_24_3 ⟨rfl, rfl, Nat.le_of_ble_eq_true rfl, Nat.le_of_ble_eq_true rfl⟩ [6, 7, 8, 18, 19, 20] rfl (by decide +kernel) 6 rfl rfl rfl rfl (Nat.le_of_ble_eq_true rfl) dX1_copyFrom_19 ⟨Nat.zero_le _, Nat.zero_le _⟩) rfl ?_
  refine ik_aload_n C 1 rfl rfl dX1_copyFrom_22 ?_
  refine ik_get C inlX1 12 rfl rfl 2 (by decide) wl_2_18 rfl (v := .ref op1) rfl dX1_copyFrom_23 ?_
  refine ik_iconst (v := (0 : Int32)) C (by decide) dX1_copyFrom_26 ?_
  refine ik_aload_n C 0 rfl rfl dX1_copyFrom_27 ?_
  refine ik_get C inlX1 0 rfl rfl 2 (by decide) wl_2_18 rfl (v := .ref p1) rfl dX1_copyFrom_28 ?_
  refine ik_iconst (v := (0 : Int32)) C (by decide) dX1_copyFrom_31 ?_
  refine ik_bipush (v := (10 : Int32)) C (by decide) dX1_copyFrom_32 ?_
  refine ik_copy C wl_23_18 wl_23_19 wl_23_20 wl_23_21 21 9 rfl rfl (ik_cpl (by decide)) (Nat.le_of_ble_eq_true rfl) (Nat.le_of_ble_eq_true rfl) (wz_X1d cI cS p0 w0 c0 p1 p2 p3 w1 w2 w3 w4 c1 c2 op0 ow0 oc0 op1 op2 op3 ow1 ow2 ow3 ow4 oc1 oc2 hour air rub z g1 g2 g3 g4 g5 g6 g7 g8 g9 (va_cpy osp sp ((0 : Int32)).toNatClampNeg ((0 : Int32)).toNatClampNeg ((10 : Int32)).toNatClampNeg) wm dr ohour oair orub oz onb okd ocl ogr ooc olit ocold occell ocpow osp owm odr) rfl dX1_copyFrom_34 ?_
  refine ik_aload_n C 0 rfl rfl dX1_copyFrom_37 ?_
  refine ik_aload_n C 1 rfl rfl dX1_copyFrom_38 ?_
  refine ik_get C inlX1 12 rfl rfl 3 (by decide) wl_18_19 rfl (v := .int ohour) rfl dX1_copyFrom_39 ?_
  refine ik_put C inlX1 tyX1 tyX1_ok nmX1 0 rfl rfl 3 (by decide) wl_18_19 rfl (by decide) rfl rfl (Nat.le_of_ble_eq_true rfl) (wz_X1d cI cS p0 w0 c0 p1 p2 p3 w1 w2 w3 w4 c1 c2 op0 ow0 oc0 op1 op2 op3 ow1 ow2 ow3 ow4 oc1 oc2 ohour air rub z g1 g2 g3 g4 g5 g6 g7 g8 g9 (va_cpy osp sp ((0 : Int32)).toNatClampNeg ((0 : Int32)).toNatClampNeg ((10 : Int32)).toNatClampNeg) wm dr ohour oair orub oz onb okd ocl ogr ooc olit ocold occell ocpow osp owm odr) rfl dX1_copyFrom_42 ?_
  refine ik_aload_n C 0 rfl rfl dX1_copyFrom_45 ?_
  refine ik_aload_n C 1 rfl rfl dX1_copyFrom_46 ?_
  refine ik_get C inlX1 12 rfl rfl 4 (by decide) wl_19_2 rfl (v := .int oair) rfl dX1_copyFrom_47 ?_
  refine ik_put C inlX1 tyX1 tyX1_ok nmX1 0 rfl rfl 4 (by decide) wl_19_2 rfl (by decide) rfl rfl (Nat.le_of_ble_eq_true rfl) (wz_X1d cI cS p0 w0 c0 p1 p2 p3 w1 w2 w3 w4 c1 c2 op0 ow0 oc0 op1 op2 op3 ow1 ow2 ow3 ow4 oc1 oc2 ohour oair rub z g1 g2 g3 g4 g5 g6 g7 g8 g9 (va_cpy osp sp ((0 : Int32)).toNatClampNeg ((0 : Int32)).toNatClampNeg ((10 : Int32)).toNatClampNeg) wm dr ohour oair orub oz onb okd ocl ogr ooc olit ocold occell ocpow osp owm odr) rfl dX1_copyFrom_50 ?_
  refine ik_aload_n C 0 rfl rfl dX1_copyFrom_53 ?_
  refine ik_aload_n C 1 rfl rfl dX1_copyFrom_54 ?_
  refine ik_get C inlX1 12 rfl rfl 5 (by decide) wl_19_21 rfl (v := .int orub) rfl dX1_copyFrom_55 ?_
  refine ik_put C inlX1 tyX1 tyX1_ok nmX1 0 rfl rfl 5 (by decide) wl_19_21 rfl (by decide) rfl rfl (Nat.le_of_ble_eq_true rfl) (wz_X1d cI cS p0 w0 c0 p1 p2 p3 w1 w2 w3 w4 c1 c2 op0 ow0 oc0 op1 op2 op3 ow1 ow2 ow3 ow4 oc1 oc2 ohour oair orub z g1 g2 g3 g4 g5 g6 g7 g8 g9 (va_cpy osp sp ((0 : Int32)).toNatClampNeg ((0 : Int32)).toNatClampNeg ((10 : Int32)).toNatClampNeg) wm dr ohour oair orub oz onb okd ocl ogr ooc olit ocold occell ocpow osp owm odr) rfl dX1_copyFrom_58 ?_
  refine ik_aload_n C 0 rfl rfl dX1_copyFrom_61 ?_
  refine ik_aload_n C 1 rfl rfl dX1_copyFrom_62 ?_
  refine ik_get C inlX1 12 rfl rfl 6 (by decide) wl_2_19 rfl (v := .int oz) rfl dX1_copyFrom_63 ?_
  refine ik_put C inlX1 tyX1 tyX1_ok nmX1 0 rfl rfl 6 (by decide) wl_2_19 rfl (by decide) rfl rfl (Nat.le_of_ble_eq_true rfl) (wz_X1d cI cS p0 w0 c0 p1 p2 p3 w1 w2 w3 w4 c1 c2 op0 ow0 oc0 op1 op2 op3 ow1 ow2 ow3 ow4 oc1 oc2 ohour oair orub oz g1 g2 g3 g4 g5 g6 g7 g8 g9 (va_cpy osp sp ((0 : Int32)).toNatClampNeg ((0 : Int32)).toNatClampNeg ((10 : Int32)).toNatClampNeg) wm dr ohour oair orub oz onb okd ocl ogr ooc olit ocold occell ocpow osp owm odr) rfl dX1_copyFrom_66 ?_
  obtain ⟨rfl, rfl, rfl, rfl, rfl, rfl, rfl, rfl, rfl, rfl, rfl, rfl, rfl, rfl⟩ := ik_e14 hf
  exact ik_vretW C hr hlk dX1_copyFrom_69
theorem mv_X1_feelWarmth : ik_V yX1_feelWarmth RX1 cX1_feelWarmth 2 none 0 := ⟨wl_18_8, wl_18_9, wl_1_14, wl_18_10, by decide +kernel⟩
set_option maxHeartbeats 4000000 in
set_option maxRecDepth 100000 in
theorem c_X1_feelWarmth (l : Launch) (D : va_G) (cI cS : ClassId) (p0 w0 c0 p1 p2 p3 w1 w2 w3 w4 c1 c2 : Nat) (hour : Int32) (air : Int32) (rub : Int32) (z : Int32) (nb : Int32) (kd : Nat → Int32) (cl : Nat → Int32) (gr : Nat → Int32) (oc : Nat → Int32) (lit : Int32) (cold : Int32) (ccell : Nat → Int32) (cpow : Nat → Int32) (sp : Nat → Int32) (wm : Nat → Int32) (dr : Nat → Int32) (wm_r : Nat → Int32) (hf : f_X1_feelWarmth nb cl lit cold ccell cpow wm = some (wm_r)) : Met l yX1_feelWarmth (ik_ws yX1_feelWarmth cX1_feelWarmth 2 none) ({ frames := 3, cells := 0, slots := 0, locals := 65 } : Room) (ik_P D cI cS [.ref p0] (wz_X1 cI cS p0 w0 c0 p1 p2 p3 w1 w2 w3 w4 c1 c2 hour air rub z nb kd cl gr oc lit cold ccell cpow sp wm dr)) (ik_Q none D (wz_X1 cI cS p0 w0 c0 p1 p2 p3 w1 w2 w3 w4 c1 c2 hour air rub z nb kd cl gr oc lit cold ccell cpow sp wm_r dr) (wz_X1 cI cS p0 w0 c0 p1 p2 p3 w1 w2 w3 w4 c1 c2 hour air rub z nb kd cl gr oc lit cold ccell cpow sp wm dr)) 0 0 (ik_in (wz_X1 cI cS p0 w0 c0 p1 p2 p3 w1 w2 w3 w4 c1 c2 hour air rub z nb kd cl gr oc lit cold ccell cpow sp wm dr)) := by
  refine ik_metW RX1 rfl (by decide) (Nat.le_of_ble_eq_true rfl) [(0, .ref p0)] rfl ?_
  intro p e s m below meth c C hr hlk
  unfold f_X1_feelWarmth at hf
  refine ik_iconst (v := (0 : Int32)) C (by decide) dX1_feelWarmth_0 ?_
  refine ik_istore_n C [(1, .int (0 : Int32)), (0, .ref p0)] rfl (by decide) rfl dX1_feelWarmth_1 ?_
  have hL_2 : ∀ (n_2 : Nat) (wm_2 : Nat → Int32) (x1_2 : Int32), ik_lp2 (b_X1_feelWarmth_2 nb cl lit cold ccell cpow) n_2 wm_2 x1_2 = some (wm_r) → ik_G p l e ({ frames := 3, cells := 0, slots := 0, locals := 65 } : Room) s m ([.ref p0] : List Value).toArray below meth c D (ik_in (wz_X1 cI cS p0 w0 c0 p1 p2 p3 w1 w2 w3 w4 c1 c2 hour air rub z nb kd cl gr oc lit cold ccell cpow sp wm dr)) (ik_in (wz_X1 cI cS p0 w0 c0 p1 p2 p3 w1 w2 w3 w4 c1 c2 hour air rub z nb kd cl gr oc lit cold ccell cpow sp wm dr)) 2 0 0 (MQ below (ik_Q none D (wz_X1 cI cS p0 w0 c0 p1 p2 p3 w1 w2 w3 w4 c1 c2 hour air rub z nb kd cl gr oc lit cold ccell cpow sp wm_r dr) (wz_X1 cI cS p0 w0 c0 p1 p2 p3 w1 w2 w3 w4 c1 c2 hour air rub z nb kd cl gr oc lit cold ccell cpow sp wm dr)) ([.ref p0] : List Value).toArray s 0 0 (ik_in (wz_X1 cI cS p0 w0 c0 p1 p2 p3 w1 w2 w3 w4 c1 c2 hour air rub z nb kd cl gr oc lit cold ccell cpow sp wm dr))) 2 [(1, .int x1_2), (0, .ref p0)] [] (wz_X1 cI cS p0 w0 c0 p1 p2 p3 w1 w2 w3 w4 c1 c2 hour air rub z nb kd cl gr oc lit cold ccell cpow sp wm_2 dr) := by
    intro n_2
    induction n_2 with
    | zero => intro _ _ hf; exact nomatch hf
    | succ n_2 ih_2 =>
      intro wm_2 x1_2 hf
      replace hf : b_X1_feelWarmth_2 nb cl lit cold ccell cpow (ik_lp2 (b_X1_feelWarmth_2 nb cl lit cold ccell cpow) n_2) wm_2 x1_2 = some (wm_r) := hf
      unfold b_X1_feelWarmth_2 at hf
      refine ik_iload_n C 0 rfl rfl dX1_feelWarmth_2 ?_
      refine ik_aload_n C 1 rfl rfl dX1_feelWarmth_3 ?_
      refine ik_get C inlX1 0 rfl rfl 0 (by decide) wl_2_13 rfl (v := .ref w0) rfl dX1_feelWarmth_4 ?_
      refine ik_get C inlX5 1 rfl rfl 0 (by decide) wl_18_11 rfl (v := .int nb) rfl dX1_feelWarmth_7 ?_
      refine ik_icmp_ge C 56 dX1_feelWarmth_10 (by decide) (fun hc => ?_) (fun hc => ?_)
      · have hf := ik_pos hc hf
        obtain rfl := Option.some.inj hf
        exact ik_vretW C hr hlk dX1_feelWarmth_56
      · have hf := ik_neg hc hf
        refine ik_aload_n C 1 rfl rfl dX1_feelWarmth_13 ?_
        refine ik_get C inlX1 0 rfl rfl 7 (by decide) wl_2_20 rfl (v := .ref p2) rfl dX1_feelWarmth_14 ?_
        refine ik_iload_n C 0 rfl rfl dX1_feelWarmth_17 ?_
        refine ik_aload_n C 1 rfl rfl dX1_feelWarmth_18 ?_
        refine ik_get C inlX1 0 rfl rfl 0 (by decide) wl_2_13 rfl (v := .ref w0) rfl dX1_feelWarmth_19 ?_
        refine ik_iload_n C 0 rfl rfl dX1_feelWarmth_22 ?_
        obtain ⟨r1, hc1, hf⟩ := ik_b1s hf
        have hM := (c_X5_isGone l D cI cS w0 w1 w2 w3 w4 nb kd cl gr oc x1_2 r1 hc1)
        refine ik_goR (ik_runV (st := [.int x1_2, .ref p2]) (As := [.int x1_2]) C hM mv_X5_isGone wl_18_13 ⟨rfl, rfl, Nat.le_of_ble_eq_true rfl, Nat.le_of_ble_eq_true rfl⟩ [1, 2, 3, 4, 5] rfl (by decide +kernel) 1 rfl rfl rfl rfl (Nat.le_of_ble_eq_true rfl) dX1_feelWarmth_23 ⟨Nat.zero_le _, Nat.zero_le _⟩) rfl ?_
        refine ik_if_eq C 33 dX1_feelWarmth_26 (by decide) (fun hc => ?_) (fun hc => ?_)
        · have hf := ik_pos hc hf
          refine ik_aload_n C 1 rfl rfl dX1_feelWarmth_33 ?_
          refine ik_get C inlX1 0 rfl rfl 1 (by decide) wl_2_17 rfl (v := .ref c0) rfl dX1_feelWarmth_34 ?_
          refine ik_aload_n C 1 rfl rfl dX1_feelWarmth_37 ?_
          refine ik_get C inlX1 0 rfl rfl 0 (by decide) wl_2_13 rfl (v := .ref w0) rfl dX1_feelWarmth_38 ?_
          refine ik_get C inlX5 1 rfl rfl 2 (by decide) wl_18_12 rfl (v := .ref w2) rfl dX1_feelWarmth_41 ?_
          refine ik_iload_n C 0 rfl rfl dX1_feelWarmth_44 ?_
          have hg := ik_gdi hf
          have hf := ik_gdk hf
          refine ik_iald C 3 rfl hg dX1_feelWarmth_45 ?_
          obtain ⟨r2, hc2, hf⟩ := ik_b1s hf
          have hM := (c_X0_warmthAt l D cI cS c0 c1 c2 lit cold ccell cpow (cl (x1_2).toNatClampNeg) r2 hc2)
          refine ik_goR (ik_runV (st := [.int x1_2, .ref p2]) (As := [.int (cl (x1_2).toNatClampNeg)]) C hM mv_X0_warmthAt wl_18_14 ⟨rfl, rfl, Nat.le_of_ble_eq_true rfl, Nat.le_of_ble_eq_true rfl⟩ [6, 7, 8] rfl (by decide +kernel) 6 rfl rfl rfl rfl (Nat.le_of_ble_eq_true rfl) dX1_feelWarmth_46 ⟨Nat.zero_le _, Nat.zero_le _⟩) rfl ?_
          have hg := ik_gdi hf
          have hf := ik_gdk hf
          refine ik_iast C 10 rfl hg (wz_X1 cI cS p0 w0 c0 p1 p2 p3 w1 w2 w3 w4 c1 c2 hour air rub z nb kd cl gr oc lit cold ccell cpow sp (upd wm_2 (x1_2).toNatClampNeg r2) dr) rfl dX1_feelWarmth_49 ?_
          refine ik_iinc C [(1, .int (x1_2 + (1 : Int32))), (0, .ref p0)] 0 rfl rfl (by decide) rfl dX1_feelWarmth_50 ?_
          refine ik_goto C 2 dX1_feelWarmth_53 (by decide) ?_
          exact ik_sub [0, 1] [(1, .int (x1_2 + (1 : Int32))), (0, .ref p0)] rfl (ih_2 (upd wm_2 (x1_2).toNatClampNeg r2) (x1_2 + (1 : Int32)) hf)
        · have hf := ik_neg hc hf
          refine ik_iconst (v := (0 : Int32)) C (by decide) dX1_feelWarmth_29 ?_
          refine ik_goto C 49 dX1_feelWarmth_30 (by decide) ?_
          have hg := ik_gdi hf
          have hf := ik_gdk hf
          refine ik_iast C 10 rfl hg (wz_X1 cI cS p0 w0 c0 p1 p2 p3 w1 w2 w3 w4 c1 c2 hour air rub z nb kd cl gr oc lit cold ccell cpow sp (upd wm_2 (x1_2).toNatClampNeg (0 : Int32)) dr) rfl dX1_feelWarmth_49 ?_
          refine ik_iinc C [(1, .int (x1_2 + (1 : Int32))), (0, .ref p0)] 0 rfl rfl (by decide) rfl dX1_feelWarmth_50 ?_
          refine ik_goto C 2 dX1_feelWarmth_53 (by decide) ?_
          exact ik_sub [0, 1] [(1, .int (x1_2 + (1 : Int32))), (0, .ref p0)] rfl (ih_2 (upd wm_2 (x1_2).toNatClampNeg (0 : Int32)) (x1_2 + (1 : Int32)) hf)
  exact hL_2 ik_fu wm (0 : Int32) hf
theorem mv_X1_meltOrMend : ik_V yX1_meltOrMend RX1 cX1_meltOrMend 4 none 1 := ⟨wl_18_21, wl_18_22, wl_1_14, wl_18_23, by decide +kernel⟩
set_option maxHeartbeats 4000000 in
set_option maxRecDepth 100000 in
theorem c_X1_meltOrMend (l : Launch) (D : va_G) (cI cS : ClassId) (p0 w0 c0 p1 p2 p3 w1 w2 w3 w4 c1 c2 : Nat) (hour : Int32) (air : Int32) (rub : Int32) (z : Int32) (nb : Int32) (kd : Nat → Int32) (cl : Nat → Int32) (gr : Nat → Int32) (oc : Nat → Int32) (lit : Int32) (cold : Int32) (ccell : Nat → Int32) (cpow : Nat → Int32) (sp : Nat → Int32) (wm : Nat → Int32) (dr : Nat → Int32) (x1 : Int32) (air_r : Int32) (gr_r : Nat → Int32) (dr_r : Nat → Int32) (hf : f_X1_meltOrMend air cl gr wm dr x1 = some (air_r, gr_r, dr_r)) : Met l yX1_meltOrMend (ik_ws yX1_meltOrMend cX1_meltOrMend 4 none) ({ frames := 2, cells := 0, slots := 0, locals := 44 } : Room) (ik_P D cI cS [.ref p0, .int x1] (wz_X1 cI cS p0 w0 c0 p1 p2 p3 w1 w2 w3 w4 c1 c2 hour air rub z nb kd cl gr oc lit cold ccell cpow sp wm dr)) (ik_Q none D (wz_X1 cI cS p0 w0 c0 p1 p2 p3 w1 w2 w3 w4 c1 c2 hour air_r rub z nb kd cl gr_r oc lit cold ccell cpow sp wm dr_r) (wz_X1 cI cS p0 w0 c0 p1 p2 p3 w1 w2 w3 w4 c1 c2 hour air rub z nb kd cl gr oc lit cold ccell cpow sp wm dr)) 0 0 (ik_in (wz_X1 cI cS p0 w0 c0 p1 p2 p3 w1 w2 w3 w4 c1 c2 hour air rub z nb kd cl gr oc lit cold ccell cpow sp wm dr)) := by
  refine ik_metW RX1 rfl (by decide) (Nat.le_of_ble_eq_true rfl) [(0, .ref p0), (1, .int x1)] rfl ?_
  intro p e s m below meth c C hr hlk
  unfold f_X1_meltOrMend at hf
  refine ik_aload_n C 0 rfl rfl dX1_meltOrMend_0 ?_
  refine ik_get C inlX1 0 rfl rfl 7 (by decide) wl_2_20 rfl (v := .ref p2) rfl dX1_meltOrMend_1 ?_
  refine ik_iload_n C 1 rfl rfl dX1_meltOrMend_4 ?_
  have hg := ik_gdi hf
  have hf := ik_gdk hf
  refine ik_iald C 10 rfl hg dX1_meltOrMend_5 ?_
  refine ik_istore_n C [(2, .int (wm (x1).toNatClampNeg)), (0, .ref p0), (1, .int x1)] rfl (by decide) rfl dX1_meltOrMend_6 ?_
  refine ik_iload_n C 0 rfl rfl dX1_meltOrMend_7 ?_
  refine ik_if_le C 78 dX1_meltOrMend_8 (by decide) (fun hc => ?_) (fun hc => ?_)
  · have hf := ik_pos hc hf
    refine ik_iload_n C 0 rfl rfl dX1_meltOrMend_78 ?_
    refine ik_if_ge C 110 dX1_meltOrMend_79 (by decide) (fun hc => ?_) (fun hc => ?_)
    · have hf := ik_pos hc hf
      obtain ⟨rfl, rfl, rfl⟩ := ik_e3 hf
      exact ik_vretW C hr hlk dX1_meltOrMend_110
    · have hf := ik_neg hc hf
      refine ik_aload_n C 1 rfl rfl dX1_meltOrMend_82 ?_
      refine ik_dup C rfl dX1_meltOrMend_83 ?_
      refine ik_get C inlX1 0 rfl rfl 4 (by decide) wl_19_2 rfl (v := .int air) rfl dX1_meltOrMend_84 ?_
      refine ik_aload_n C 1 rfl rfl dX1_meltOrMend_87 ?_
      refine ik_get C inlX1 0 rfl rfl 0 (by decide) wl_2_13 rfl (v := .ref w0) rfl dX1_meltOrMend_88 ?_
      refine ik_iload_n C 2 rfl rfl dX1_meltOrMend_91 ?_
      refine ik_iload_n C 0 rfl rfl dX1_meltOrMend_92 ?_
      refine ik_ineg C dX1_meltOrMend_93 ?_
      refine ik_iconst (v := (2 : Int32)) C (by decide) dX1_meltOrMend_94 ?_
      refine ik_idiv C (by decide) dX1_meltOrMend_95 ?_
      refine ik_aload_n C 1 rfl rfl dX1_meltOrMend_96 ?_
      refine ik_get C inlX1 0 rfl rfl 4 (by decide) wl_19_2 rfl (v := .int air) rfl dX1_meltOrMend_97 ?_
      refine ik_mmin C wl_19_1 wl_14_6 wl_13_23 wl_14_7 (Nat.le_of_ble_eq_true rfl) (Nat.le_of_ble_eq_true rfl) dX1_meltOrMend_100 ?_
      obtain ⟨r1, g2, hc2, hf⟩ := ik_b2s hf
      have hM := (c_X5_thicken l D cI cS w0 w1 w2 w3 w4 nb kd cl gr oc x1 (ik_min ((-(wm (x1).toNatClampNeg)) / (2 : Int32)) air) r1 g2 hc2)
      refine ik_goW (v := (some (.int r1))) (wc := (wz_X5 cI cS w0 w1 w2 w3 w4 nb kd cl gr oc)) (w1 := (wz_X5 cI cS w0 w1 w2 w3 w4 nb kd cl g2 oc)) [1, 2, 3, 4, 5] [0, 6, 7, 8, 9, 10, 11] 12 rfl rfl (wz_X1 cI cS p0 w0 c0 p1 p2 p3 w1 w2 w3 w4 c1 c2 hour air rub z nb kd cl g2 oc lit cold ccell cpow sp wm dr) rfl [(p0, .inr (1, [.ref w0, .ref c0, .ref p1, .int hour, .int air, .int rub, .int z, .ref p2, .ref p3])), (c0, .inr (0, [.ref c1, .ref c2, .int lit, .int cold])), (c1, .inl (cI, 6, .inl ccell)), (c2, .inl (cI, 6, .inl cpow)), (p1, .inl (cI, 10, .inl sp)), (p2, .inl (cI, 16, .inl wm)), (p3, .inl (cI, 8, .inl dr))] rfl rfl rfl (by decide +kernel) (ik_runV (st := [.int air, .ref p0]) (As := [.int x1, .int (ik_min ((-(wm (x1).toNatClampNeg)) / (2 : Int32)) air)]) C hM mv_X5_thicken wl_19_3 ⟨rfl, rfl, Nat.le_of_ble_eq_true rfl, Nat.le_of_ble_eq_true rfl⟩ [1, 2, 3, 4, 5] rfl (by decide +kernel) 1 rfl rfl rfl rfl (Nat.le_of_ble_eq_true rfl) dX1_meltOrMend_103 ⟨Nat.zero_le _, Nat.zero_le _⟩) rfl ?_
      refine ik_isub C dX1_meltOrMend_106 ?_
      refine ik_put C inlX1 tyX1 tyX1_ok nmX1 0 rfl rfl 4 (by decide) wl_19_2 rfl (by decide) rfl rfl (Nat.le_of_ble_eq_true rfl) (wz_X1 cI cS p0 w0 c0 p1 p2 p3 w1 w2 w3 w4 c1 c2 hour (air - r1) rub z nb kd cl g2 oc lit cold ccell cpow sp wm dr) rfl dX1_meltOrMend_107 ?_
      obtain ⟨rfl, rfl, rfl⟩ := ik_e3 hf
      exact ik_vretW C hr hlk dX1_meltOrMend_110
  · have hf := ik_neg hc hf
    refine ik_iload_n C 0 rfl rfl dX1_meltOrMend_11 ?_
    refine ik_aload_n C 1 rfl rfl dX1_meltOrMend_12 ?_
    refine ik_get C inlX1 0 rfl rfl 0 (by decide) wl_2_13 rfl (v := .ref w0) rfl dX1_meltOrMend_13 ?_
    refine ik_get C inlX5 1 rfl rfl 3 (by decide) wl_19_0 rfl (v := .ref w3) rfl dX1_meltOrMend_16 ?_
    refine ik_iload_n C 2 rfl rfl dX1_meltOrMend_19 ?_
    have hg := ik_gdi hf
    have hf := ik_gdk hf
    refine ik_iald C 4 rfl hg dX1_meltOrMend_20 ?_
    refine ik_mmin C wl_19_1 wl_14_6 wl_13_23 wl_14_7 (Nat.le_of_ble_eq_true rfl) (Nat.le_of_ble_eq_true rfl) dX1_meltOrMend_21 ?_
    refine ik_istore_n C [(3, .int (ik_min (wm (x1).toNatClampNeg) (gr (x1).toNatClampNeg))), (2, .int (wm (x1).toNatClampNeg)), (0, .ref p0), (1, .int x1)] rfl (by decide) rfl dX1_meltOrMend_24 ?_
    refine ik_aload_n C 2 rfl rfl dX1_meltOrMend_25 ?_
    refine ik_get C inlX1 0 rfl rfl 0 (by decide) wl_2_13 rfl (v := .ref w0) rfl dX1_meltOrMend_26 ?_
    refine ik_get C inlX5 1 rfl rfl 3 (by decide) wl_19_0 rfl (v := .ref w3) rfl dX1_meltOrMend_29 ?_
    refine ik_iload_n C 3 rfl rfl dX1_meltOrMend_32 ?_
    refine ik_dup2 C rfl rfl dX1_meltOrMend_33 ?_
    have hg := ik_gdi hf
    have hf := ik_gdk hf
    refine ik_iald C 4 rfl hg dX1_meltOrMend_34 ?_
    refine ik_iload_n C 0 rfl rfl dX1_meltOrMend_35 ?_
    refine ik_isub C dX1_meltOrMend_36 ?_
    have hg := ik_gdi hf
    have hf := ik_gdk hf
    refine ik_iast C 4 rfl hg (wz_X1 cI cS p0 w0 c0 p1 p2 p3 w1 w2 w3 w4 c1 c2 hour air rub z nb kd cl (upd gr (x1).toNatClampNeg ((gr (x1).toNatClampNeg) - (ik_min (wm (x1).toNatClampNeg) (gr (x1).toNatClampNeg)))) oc lit cold ccell cpow sp wm dr) rfl dX1_meltOrMend_37 ?_
    refine ik_aload_n C 2 rfl rfl dX1_meltOrMend_38 ?_
    refine ik_get C inlX1 0 rfl rfl 8 (by decide) wl_2_21 rfl (v := .ref p3) rfl dX1_meltOrMend_39 ?_
    refine ik_aload_n C 2 rfl rfl dX1_meltOrMend_42 ?_
    refine ik_get C inlX1 0 rfl rfl 0 (by decide) wl_2_13 rfl (v := .ref w0) rfl dX1_meltOrMend_43 ?_
    refine ik_get C inlX5 1 rfl rfl 2 (by decide) wl_18_12 rfl (v := .ref w2) rfl dX1_meltOrMend_46 ?_
    refine ik_iload_n C 3 rfl rfl dX1_meltOrMend_49 ?_
    have hg := ik_gdi hf
    have hf := ik_gdk hf
    refine ik_iald C 3 rfl hg dX1_meltOrMend_50 ?_
    refine ik_bipush (v := (8 : Int32)) C (by decide) dX1_meltOrMend_51 ?_
    refine ik_irem C (by decide) dX1_meltOrMend_53 ?_
    refine ik_dup2 C rfl rfl dX1_meltOrMend_54 ?_
    have hg := ik_gdi hf
    have hf := ik_gdk hf
    refine ik_iald C 11 rfl hg dX1_meltOrMend_55 ?_
    refine ik_iload_n C 0 rfl rfl dX1_meltOrMend_56 ?_
    refine ik_iconst (v := (2 : Int32)) C (by decide) dX1_meltOrMend_57 ?_
    refine ik_idiv C (by decide) dX1_meltOrMend_58 ?_
    refine ik_iadd C dX1_meltOrMend_59 ?_
    have hg := ik_gdi hf
    have hf := ik_gdk hf
    refine ik_iast C 11 rfl hg (wz_X1 cI cS p0 w0 c0 p1 p2 p3 w1 w2 w3 w4 c1 c2 hour air rub z nb kd cl (upd gr (x1).toNatClampNeg ((gr (x1).toNatClampNeg) - (ik_min (wm (x1).toNatClampNeg) (gr (x1).toNatClampNeg)))) oc lit cold ccell cpow sp wm (upd dr (((cl (x1).toNatClampNeg) - (cl (x1).toNatClampNeg) / (8 : Int32) * (8 : Int32))).toNatClampNeg ((dr (((cl (x1).toNatClampNeg) - (cl (x1).toNatClampNeg) / (8 : Int32) * (8 : Int32))).toNatClampNeg) + ((ik_min (wm (x1).toNatClampNeg) (gr (x1).toNatClampNeg)) / (2 : Int32))))) rfl dX1_meltOrMend_60 ?_
    refine ik_aload_n C 2 rfl rfl dX1_meltOrMend_61 ?_
    refine ik_dup C rfl dX1_meltOrMend_62 ?_
    refine ik_get C inlX1 0 rfl rfl 4 (by decide) wl_19_2 rfl (v := .int air) rfl dX1_meltOrMend_63 ?_
    refine ik_iload_n C 0 rfl rfl dX1_meltOrMend_66 ?_
    refine ik_iload_n C 0 rfl rfl dX1_meltOrMend_67 ?_
    refine ik_iconst (v := (2 : Int32)) C (by decide) dX1_meltOrMend_68 ?_
    refine ik_idiv C (by decide) dX1_meltOrMend_69 ?_
    refine ik_isub C dX1_meltOrMend_70 ?_
    refine ik_iadd C dX1_meltOrMend_71 ?_
    refine ik_put C inlX1 tyX1 tyX1_ok nmX1 0 rfl rfl 4 (by decide) wl_19_2 rfl (by decide) rfl rfl (Nat.le_of_ble_eq_true rfl) (wz_X1 cI cS p0 w0 c0 p1 p2 p3 w1 w2 w3 w4 c1 c2 hour (air + ((ik_min (wm (x1).toNatClampNeg) (gr (x1).toNatClampNeg)) - ((ik_min (wm (x1).toNatClampNeg) (gr (x1).toNatClampNeg)) / (2 : Int32)))) rub z nb kd cl (upd gr (x1).toNatClampNeg ((gr (x1).toNatClampNeg) - (ik_min (wm (x1).toNatClampNeg) (gr (x1).toNatClampNeg)))) oc lit cold ccell cpow sp wm (upd dr (((cl (x1).toNatClampNeg) - (cl (x1).toNatClampNeg) / (8 : Int32) * (8 : Int32))).toNatClampNeg ((dr (((cl (x1).toNatClampNeg) - (cl (x1).toNatClampNeg) / (8 : Int32) * (8 : Int32))).toNatClampNeg) + ((ik_min (wm (x1).toNatClampNeg) (gr (x1).toNatClampNeg)) / (2 : Int32))))) rfl dX1_meltOrMend_72 ?_
    refine ik_goto C 110 dX1_meltOrMend_75 (by decide) ?_
    obtain ⟨rfl, rfl, rfl⟩ := ik_e3 hf
    exact ik_vretW C hr hlk dX1_meltOrMend_110
theorem mv_X1_freezeDrip : ik_V yX1_freezeDrip RX1 cX1_freezeDrip 5 none 1 := ⟨wl_19_5, wl_19_6, wl_1_14, wl_19_7, by decide +kernel⟩
set_option maxHeartbeats 4000000 in
set_option maxRecDepth 100000 in
theorem c_X1_freezeDrip (l : Launch) (D : va_G) (cI cS : ClassId) (p0 w0 c0 p1 p2 p3 w1 w2 w3 w4 c1 c2 : Nat) (hour : Int32) (air : Int32) (rub : Int32) (z : Int32) (nb : Int32) (kd : Nat → Int32) (cl : Nat → Int32) (gr : Nat → Int32) (oc : Nat → Int32) (lit : Int32) (cold : Int32) (ccell : Nat → Int32) (cpow : Nat → Int32) (sp : Nat → Int32) (wm : Nat → Int32) (dr : Nat → Int32) (x1 : Int32) (air_r : Int32) (gr_r : Nat → Int32) (hf : f_X1_freezeDrip air gr oc wm dr x1 = some (air_r, gr_r)) : Met l yX1_freezeDrip (ik_ws yX1_freezeDrip cX1_freezeDrip 5 none) ({ frames := 2, cells := 0, slots := 0, locals := 44 } : Room) (ik_P D cI cS [.ref p0, .int x1] (wz_X1 cI cS p0 w0 c0 p1 p2 p3 w1 w2 w3 w4 c1 c2 hour air rub z nb kd cl gr oc lit cold ccell cpow sp wm dr)) (ik_Q none D (wz_X1 cI cS p0 w0 c0 p1 p2 p3 w1 w2 w3 w4 c1 c2 hour air_r rub z nb kd cl gr_r oc lit cold ccell cpow sp wm dr) (wz_X1 cI cS p0 w0 c0 p1 p2 p3 w1 w2 w3 w4 c1 c2 hour air rub z nb kd cl gr oc lit cold ccell cpow sp wm dr)) 0 0 (ik_in (wz_X1 cI cS p0 w0 c0 p1 p2 p3 w1 w2 w3 w4 c1 c2 hour air rub z nb kd cl gr oc lit cold ccell cpow sp wm dr)) := by
  refine ik_metW RX1 rfl (by decide) (Nat.le_of_ble_eq_true rfl) [(0, .ref p0), (1, .int x1)] rfl ?_
  intro p e s m below meth c C hr hlk
  unfold f_X1_freezeDrip at hf
  refine ik_aload_n C 0 rfl rfl dX1_freezeDrip_0 ?_
  refine ik_get C inlX1 0 rfl rfl 8 (by decide) wl_2_21 rfl (v := .ref p3) rfl dX1_freezeDrip_1 ?_
  refine ik_iload_n C 1 rfl rfl dX1_freezeDrip_4 ?_
  have hg := ik_gdi hf
  have hf := ik_gdk hf
  refine ik_iald C 11 rfl hg dX1_freezeDrip_5 ?_
  refine ik_istore_n C [(2, .int (dr (x1).toNatClampNeg)), (0, .ref p0), (1, .int x1)] rfl (by decide) rfl dX1_freezeDrip_6 ?_
  refine ik_iload_n C 2 rfl rfl dX1_freezeDrip_7 ?_
  refine ik_istore_n C [(3, .int x1), (2, .int (dr (x1).toNatClampNeg)), (0, .ref p0), (1, .int x1)] rfl (by decide) rfl dX1_freezeDrip_8 ?_
  have hL_9 : ∀ (n_9 : Nat) (gr_9 : Nat → Int32) (x2_9 : Int32) (x3_9 : Int32), ik_lp3 (b_X1_freezeDrip_9 air oc wm) n_9 gr_9 x2_9 x3_9 = some (air_r, gr_r) → ik_G p l e ({ frames := 2, cells := 0, slots := 0, locals := 44 } : Room) s m ([.ref p0, .int x1] : List Value).toArray below meth c D (ik_in (wz_X1 cI cS p0 w0 c0 p1 p2 p3 w1 w2 w3 w4 c1 c2 hour air rub z nb kd cl gr oc lit cold ccell cpow sp wm dr)) (ik_in (wz_X1 cI cS p0 w0 c0 p1 p2 p3 w1 w2 w3 w4 c1 c2 hour air rub z nb kd cl gr oc lit cold ccell cpow sp wm dr)) 5 0 0 (MQ below (ik_Q none D (wz_X1 cI cS p0 w0 c0 p1 p2 p3 w1 w2 w3 w4 c1 c2 hour air_r rub z nb kd cl gr_r oc lit cold ccell cpow sp wm dr) (wz_X1 cI cS p0 w0 c0 p1 p2 p3 w1 w2 w3 w4 c1 c2 hour air rub z nb kd cl gr oc lit cold ccell cpow sp wm dr)) ([.ref p0, .int x1] : List Value).toArray s 0 0 (ik_in (wz_X1 cI cS p0 w0 c0 p1 p2 p3 w1 w2 w3 w4 c1 c2 hour air rub z nb kd cl gr oc lit cold ccell cpow sp wm dr))) 9 [(3, .int x3_9), (2, .int x2_9), (0, .ref p0), (1, .int x1)] [] (wz_X1 cI cS p0 w0 c0 p1 p2 p3 w1 w2 w3 w4 c1 c2 hour air rub z nb kd cl gr_9 oc lit cold ccell cpow sp wm dr) := by
    intro n_9
    induction n_9 with
    | zero => intro _ _ _ hf; exact nomatch hf
    | succ n_9 ih_9 =>
      intro gr_9 x2_9 x3_9 hf
      replace hf : b_X1_freezeDrip_9 air oc wm (ik_lp3 (b_X1_freezeDrip_9 air oc wm) n_9) gr_9 x2_9 x3_9 = some (air_r, gr_r) := hf
      unfold b_X1_freezeDrip_9 at hf
      refine ik_iload_n C 0 rfl rfl dX1_freezeDrip_9 ?_
      refine ik_bipush (v := (48 : Int32)) C (by decide) dX1_freezeDrip_10 ?_
      refine ik_icmp_ge C 63 dX1_freezeDrip_12 (by decide) (fun hc => ?_) (fun hc => ?_)
      · have hf := ik_pos hc hf
        refine ik_aload_n C 2 rfl rfl dX1_freezeDrip_63 ?_
        refine ik_dup C rfl dX1_freezeDrip_64 ?_
        refine ik_get C inlX1 0 rfl rfl 4 (by decide) wl_19_2 rfl (v := .int air) rfl dX1_freezeDrip_65 ?_
        refine ik_iload_n C 1 rfl rfl dX1_freezeDrip_68 ?_
        refine ik_iadd C dX1_freezeDrip_69 ?_
        refine ik_put C inlX1 tyX1 tyX1_ok nmX1 0 rfl rfl 4 (by decide) wl_19_2 rfl (by decide) rfl rfl (Nat.le_of_ble_eq_true rfl) (wz_X1 cI cS p0 w0 c0 p1 p2 p3 w1 w2 w3 w4 c1 c2 hour (air + x2_9) rub z nb kd cl gr_9 oc lit cold ccell cpow sp wm dr) rfl dX1_freezeDrip_70 ?_
        obtain ⟨rfl, rfl⟩ := ik_e2 hf
        exact ik_vretW C hr hlk dX1_freezeDrip_73
      · have hf := ik_neg hc hf
        refine ik_aload_n C 2 rfl rfl dX1_freezeDrip_15 ?_
        refine ik_get C inlX1 0 rfl rfl 0 (by decide) wl_2_13 rfl (v := .ref w0) rfl dX1_freezeDrip_16 ?_
        refine ik_get C inlX5 1 rfl rfl 4 (by decide) wl_19_8 rfl (v := .ref w4) rfl dX1_freezeDrip_19 ?_
        refine ik_iload_n C 0 rfl rfl dX1_freezeDrip_22 ?_
        have hg := ik_gdi hf
        have hf := ik_gdk hf
        refine ik_iald C 5 rfl hg dX1_freezeDrip_23 ?_
        refine ik_istore C [(4, .int (oc (x3_9).toNatClampNeg)), (3, .int x3_9), (2, .int x2_9), (0, .ref p0), (1, .int x1)] (by decide) rfl dX1_freezeDrip_24 ?_
        refine ik_iload C 0 rfl dX1_freezeDrip_26 ?_
        refine ik_if_lt C 57 dX1_freezeDrip_28 (by decide) (fun hc => ?_) (fun hc => ?_)
        · have hf := ik_pos hc hf
          refine ik_iinc C [(3, .int (x3_9 + (8 : Int32))), (4, .int (oc (x3_9).toNatClampNeg)), (2, .int x2_9), (0, .ref p0), (1, .int x1)] 1 rfl (congrArg (fun t => x3_9 + t) (show Int32.ofInt (8) = (8 : Int32) by decide)) (by decide) rfl dX1_freezeDrip_57 ?_
          refine ik_goto C 9 dX1_freezeDrip_60 (by decide) ?_
          exact ik_sub [0, 2, 3, 4] [(3, .int (x3_9 + (8 : Int32))), (2, .int x2_9), (0, .ref p0), (1, .int x1)] rfl (ih_9 gr_9 x2_9 (x3_9 + (8 : Int32)) hf)
        · have hf := ik_neg hc hf
          refine ik_aload_n C 3 rfl rfl dX1_freezeDrip_31 ?_
          refine ik_get C inlX1 0 rfl rfl 7 (by decide) wl_2_20 rfl (v := .ref p2) rfl dX1_freezeDrip_32 ?_
          refine ik_iload C 0 rfl dX1_freezeDrip_35 ?_
          have hg := ik_gdi hf
          have hf := ik_gdk hf
          refine ik_iald C 10 rfl hg dX1_freezeDrip_37 ?_
          refine ik_if_ge C 57 dX1_freezeDrip_38 (by decide) (fun hc => ?_) (fun hc => ?_)
          · have hf := ik_pos hc hf
            refine ik_iinc C [(3, .int (x3_9 + (8 : Int32))), (4, .int (oc (x3_9).toNatClampNeg)), (2, .int x2_9), (0, .ref p0), (1, .int x1)] 1 rfl (congrArg (fun t => x3_9 + t) (show Int32.ofInt (8) = (8 : Int32) by decide)) (by decide) rfl dX1_freezeDrip_57 ?_
            refine ik_goto C 9 dX1_freezeDrip_60 (by decide) ?_
            exact ik_sub [0, 2, 3, 4] [(3, .int (x3_9 + (8 : Int32))), (2, .int x2_9), (0, .ref p0), (1, .int x1)] rfl (ih_9 gr_9 x2_9 (x3_9 + (8 : Int32)) hf)
          · have hf := ik_neg hc hf
            refine ik_iload_n C 2 rfl rfl dX1_freezeDrip_41 ?_
            refine ik_aload_n C 3 rfl rfl dX1_freezeDrip_42 ?_
            refine ik_get C inlX1 0 rfl rfl 0 (by decide) wl_2_13 rfl (v := .ref w0) rfl dX1_freezeDrip_43 ?_
            refine ik_iload C 0 rfl dX1_freezeDrip_46 ?_
            refine ik_iload_n C 2 rfl rfl dX1_freezeDrip_48 ?_
            obtain ⟨r1, g2, hc2, hf⟩ := ik_b2s hf
            have hM := (c_X5_thicken l D cI cS w0 w1 w2 w3 w4 nb kd cl gr_9 oc (oc (x3_9).toNatClampNeg) x2_9 r1 g2 hc2)
            refine ik_goW (v := (some (.int r1))) (wc := (wz_X5 cI cS w0 w1 w2 w3 w4 nb kd cl gr_9 oc)) (w1 := (wz_X5 cI cS w0 w1 w2 w3 w4 nb kd cl g2 oc)) [1, 2, 3, 4, 5] [0, 6, 7, 8, 9, 10, 11] 12 rfl rfl (wz_X1 cI cS p0 w0 c0 p1 p2 p3 w1 w2 w3 w4 c1 c2 hour air rub z nb kd cl g2 oc lit cold ccell cpow sp wm dr) rfl [(p0, .inr (1, [.ref w0, .ref c0, .ref p1, .int hour, .int air, .int rub, .int z, .ref p2, .ref p3])), (c0, .inr (0, [.ref c1, .ref c2, .int lit, .int cold])), (c1, .inl (cI, 6, .inl ccell)), (c2, .inl (cI, 6, .inl cpow)), (p1, .inl (cI, 10, .inl sp)), (p2, .inl (cI, 16, .inl wm)), (p3, .inl (cI, 8, .inl dr))] rfl rfl rfl (by decide +kernel) (ik_runV (st := [.int x2_9]) (As := [.int (oc (x3_9).toNatClampNeg), .int x2_9]) C hM mv_X5_thicken wl_19_3 ⟨rfl, rfl, Nat.le_of_ble_eq_true rfl, Nat.le_of_ble_eq_true rfl⟩ [1, 2, 3, 4, 5] rfl (by decide +kernel) 1 rfl rfl rfl rfl (Nat.le_of_ble_eq_true rfl) dX1_freezeDrip_49 ⟨Nat.zero_le _, Nat.zero_le _⟩) rfl ?_
            refine ik_isub C dX1_freezeDrip_52 ?_
            refine ik_istore_n C [(2, .int (x2_9 - r1)), (4, .int (oc (x3_9).toNatClampNeg)), (3, .int x3_9), (0, .ref p0), (1, .int x1)] rfl (by decide) rfl dX1_freezeDrip_53 ?_
            refine ik_goto C 63 dX1_freezeDrip_54 (by decide) ?_
            refine ik_aload_n C 3 rfl rfl dX1_freezeDrip_63 ?_
            refine ik_dup C rfl dX1_freezeDrip_64 ?_
            refine ik_get C inlX1 0 rfl rfl 4 (by decide) wl_19_2 rfl (v := .int air) rfl dX1_freezeDrip_65 ?_
            refine ik_iload_n C 0 rfl rfl dX1_freezeDrip_68 ?_
            refine ik_iadd C dX1_freezeDrip_69 ?_
            refine ik_put C inlX1 tyX1 tyX1_ok nmX1 0 rfl rfl 4 (by decide) wl_19_2 rfl (by decide) rfl rfl (Nat.le_of_ble_eq_true rfl) (wz_X1 cI cS p0 w0 c0 p1 p2 p3 w1 w2 w3 w4 c1 c2 hour (air + (x2_9 - r1)) rub z nb kd cl g2 oc lit cold ccell cpow sp wm dr) rfl dX1_freezeDrip_70 ?_
            obtain ⟨rfl, rfl⟩ := ik_e2 hf
            exact ik_vretW C hr hlk dX1_freezeDrip_73
  exact hL_9 ik_fu gr (dr (x1).toNatClampNeg) x1 hf
theorem mv_X2_lay : ik_V yX2_lay RX2 cX2_lay 3 (some .int) 2 := ⟨wl_44_13, wl_44_14, wl_2_5, wl_44_15, by decide +kernel⟩
set_option maxHeartbeats 4000000 in
set_option maxRecDepth 100000 in
theorem c_X2_lay (l : Launch) (D : va_G) (cI cS : ClassId) (s0 s1 : Nat) (sbits : Int32) (ssize : Int32) (snum : Nat → Int32) (x1 : Int32) (x2 : Int32) (R : Int32) (sbits_r : Int32) (ssize_r : Int32) (snum_r : Nat → Int32) (hf : f_X2_lay sbits ssize snum x1 x2 = some (R, sbits_r, ssize_r, snum_r)) : Met l yX2_lay (ik_ws yX2_lay cX2_lay 3 (some .int)) ({ frames := 1, cells := 0, slots := 0, locals := 23 } : Room) (ik_P D cI cS [.ref s0, .int x1, .int x2] (wz_X2 cI cS s0 s1 sbits ssize snum)) (ik_Q (some (.int R)) D (wz_X2 cI cS s0 s1 sbits_r ssize_r snum_r) (wz_X2 cI cS s0 s1 sbits ssize snum)) 0 0 (ik_in (wz_X2 cI cS s0 s1 sbits ssize snum)) := by
  refine ik_metW RX2 rfl (by decide) (Nat.le_of_ble_eq_true rfl) [(0, .ref s0), (1, .int x1), (2, .int x2)] rfl ?_
  intro p e s m below meth c C hr hlk
  unfold f_X2_lay at hf
  refine ik_aload_n C 0 rfl rfl dX2_lay_0 ?_
  refine ik_iload_n C 1 rfl rfl dX2_lay_1 ?_
  refine ik_put C inlX2 tyX2 tyX2_ok nmX2 0 rfl rfl 0 (by decide) wl_44_16 rfl (by decide) rfl rfl (Nat.le_of_ble_eq_true rfl) (wz_X2 cI cS s0 s1 x1 ssize snum) rfl dX2_lay_2 ?_
  refine ik_aload_n C 0 rfl rfl dX2_lay_5 ?_
  refine ik_iload_n C 1 rfl rfl dX2_lay_6 ?_
  refine ik_if_ne C 14 dX2_lay_7 (by decide) (fun hc => ?_) (fun hc => ?_)
  · have hf := ik_neg hc hf
    refine ik_iload_n C 2 rfl rfl dX2_lay_14 ?_
    refine ik_put C inlX2 tyX2 tyX2_ok nmX2 0 rfl rfl 1 (by decide) wl_44_17 rfl (by decide) rfl rfl (Nat.le_of_ble_eq_true rfl) (wz_X2 cI cS s0 s1 x1 x2 snum) rfl dX2_lay_15 ?_
    refine ik_aload_n C 0 rfl rfl dX2_lay_18 ?_
    refine ik_get C inlX2 0 rfl rfl 2 (by decide) wl_4_7 rfl (v := .ref s1) rfl dX2_lay_19 ?_
    refine ik_iconst (v := (0 : Int32)) C (by decide) dX2_lay_22 ?_
    obtain ⟨g1, hc1, hf⟩ := ik_b1s hf
    have hM := (c_J7_fill_53178 l D cI cS s1 40 snum (0 : Int32) g1 hc1)
    refine ik_goW (v := none) (wc := (wz_fill cI cS s1 40 snum)) (w1 := (wz_fill cI cS s1 40 g1)) [1] [0] 2 rfl rfl (wz_X2 cI cS s0 s1 x1 x2 g1) rfl [(s0, .inr (2, [.int x1, .int x2, .ref s1]))] rfl rfl rfl (by decide +kernel) (ik_runS (st := []) (As := [.ref s1, .int (0 : Int32)]) C hM ms_J7_fill_53178 wl_44_18 ⟨rfl, rfl, Nat.le_of_ble_eq_true rfl, Nat.le_of_ble_eq_true rfl⟩ [1] rfl (by decide +kernel) rfl rfl (Nat.le_of_ble_eq_true rfl) dX2_lay_23 ⟨Nat.zero_le _, Nat.zero_le _⟩) rfl ?_
    refine ik_aload_n C 0 rfl rfl dX2_lay_26 ?_
    refine ik_get C inlX2 0 rfl rfl 1 (by decide) wl_44_17 rfl (v := .int x2) rfl dX2_lay_27 ?_
    obtain ⟨rfl, rfl, rfl, rfl⟩ := ik_e4 hf
    exact ik_iretW C hr hlk dX2_lay_30
  · have hf := ik_pos hc hf
    refine ik_iconst (v := (0 : Int32)) C (by decide) dX2_lay_10 ?_
    refine ik_goto C 15 dX2_lay_11 (by decide) ?_
    refine ik_put C inlX2 tyX2 tyX2_ok nmX2 0 rfl rfl 1 (by decide) wl_44_17 rfl (by decide) rfl rfl (Nat.le_of_ble_eq_true rfl) (wz_X2 cI cS s0 s1 x1 (0 : Int32) snum) rfl dX2_lay_15 ?_
    refine ik_aload_n C 0 rfl rfl dX2_lay_18 ?_
    refine ik_get C inlX2 0 rfl rfl 2 (by decide) wl_4_7 rfl (v := .ref s1) rfl dX2_lay_19 ?_
    refine ik_iconst (v := (0 : Int32)) C (by decide) dX2_lay_22 ?_
    obtain ⟨g1, hc1, hf⟩ := ik_b1s hf
    have hM := (c_J7_fill_53178 l D cI cS s1 40 snum (0 : Int32) g1 hc1)
    refine ik_goW (v := none) (wc := (wz_fill cI cS s1 40 snum)) (w1 := (wz_fill cI cS s1 40 g1)) [1] [0] 2 rfl rfl (wz_X2 cI cS s0 s1 x1 (0 : Int32) g1) rfl [(s0, .inr (2, [.int x1, .int (0 : Int32), .ref s1]))] rfl rfl rfl (by decide +kernel) (ik_runS (st := []) (As := [.ref s1, .int (0 : Int32)]) C hM ms_J7_fill_53178 wl_44_18 ⟨rfl, rfl, Nat.le_of_ble_eq_true rfl, Nat.le_of_ble_eq_true rfl⟩ [1] rfl (by decide +kernel) rfl rfl (Nat.le_of_ble_eq_true rfl) dX2_lay_23 ⟨Nat.zero_le _, Nat.zero_le _⟩) rfl ?_
    refine ik_aload_n C 0 rfl rfl dX2_lay_26 ?_
    refine ik_get C inlX2 0 rfl rfl 1 (by decide) wl_44_17 rfl (v := .int (0 : Int32)) rfl dX2_lay_27 ?_
    obtain ⟨rfl, rfl, rfl, rfl⟩ := ik_e4 hf
    exact ik_iretW C hr hlk dX2_lay_30
