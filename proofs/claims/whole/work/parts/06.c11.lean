theorem mv_X6_blockOf : ik_V yX6_blockOf RX6 cX6_blockOf 4 (some .int) 2 := ⟨wl_8_1, wl_8_2, wl_1_2, wl_8_3, by decide +kernel⟩
set_option maxHeartbeats 4000000 in
set_option maxRecDepth 100000 in
theorem c_X6_blockOf (l : Launch) (D : va_G) (cI cS : ClassId) (o0 np0 kp0 tp0 r0 t0 sh0 f0 nw0 nc0 np1 np2 np3 nw1 nw2 nw3 nw4 nc1 nc2 : Nat) (isk : Int32) (fnd : Nat → Int32) (nhour : Int32) (nair : Int32) (nrub : Int32) (nz : Int32) (nnb : Int32) (nkd : Nat → Int32) (ncl : Nat → Int32) (ngr : Nat → Int32) (noc : Nat → Int32) (nlit : Int32) (ncold : Int32) (nccell : Nat → Int32) (ncpow : Nat → Int32) (nsp : Nat → Int32) (nwm : Nat → Int32) (ndr : Nat → Int32) (x1 : Int32) (x2 : Int32) (R : Int32) (fnd_r : Nat → Int32) (hf : f_X6_blockOf fnd nnb nkd ncl ngr noc x1 x2 = some (R, fnd_r)) : Met l yX6_blockOf (ik_ws yX6_blockOf cX6_blockOf 4 (some .int)) ({ frames := 2, cells := 0, slots := 0, locals := 53 } : Room) (ik_P D cI cS [.ref o0, .int x1, .int x2] (wz_X6ofn cI cS o0 np0 kp0 tp0 r0 t0 sh0 f0 nw0 nc0 np1 np2 np3 nw1 nw2 nw3 nw4 nc1 nc2 isk fnd nhour nair nrub nz nnb nkd ncl ngr noc nlit ncold nccell ncpow nsp nwm ndr)) (ik_Q (some (.int R)) D (wz_X6ofn cI cS o0 np0 kp0 tp0 r0 t0 sh0 f0 nw0 nc0 np1 np2 np3 nw1 nw2 nw3 nw4 nc1 nc2 isk fnd_r nhour nair nrub nz nnb nkd ncl ngr noc nlit ncold nccell ncpow nsp nwm ndr) (wz_X6ofn cI cS o0 np0 kp0 tp0 r0 t0 sh0 f0 nw0 nc0 np1 np2 np3 nw1 nw2 nw3 nw4 nc1 nc2 isk fnd nhour nair nrub nz nnb nkd ncl ngr noc nlit ncold nccell ncpow nsp nwm ndr)) 0 0 (ik_in (wz_X6ofn cI cS o0 np0 kp0 tp0 r0 t0 sh0 f0 nw0 nc0 np1 np2 np3 nw1 nw2 nw3 nw4 nc1 nc2 isk fnd nhour nair nrub nz nnb nkd ncl ngr noc nlit ncold nccell ncpow nsp nwm ndr)) := by
  refine ik_metW RX6 rfl (by decide) (Nat.le_of_ble_eq_true rfl) [(0, .ref o0), (1, .int x1), (2, .int x2)] rfl ?_
  intro p e s m below meth c C hr hlk
  unfold f_X6_blockOf at hf
  refine ik_aload_n C 0 rfl rfl dX6_blockOf_0 ?_
  refine ik_get C inlX6 0 rfl rfl 0 (by decide) wl_1_15 rfl (v := .ref np0) rfl dX6_blockOf_1 ?_
  refine ik_get C inlX1 2 rfl rfl 0 (by decide) wl_5_4 rfl (v := .ref nw0) rfl dX6_blockOf_4 ?_
  refine ik_astore_n C [(3, .ref nw0), (0, .ref o0), (1, .int x1), (2, .int x2)] rfl (by decide) rfl dX6_blockOf_7 ?_
  refine ik_aload_n C 0 rfl rfl dX6_blockOf_8 ?_
  refine ik_iload_n C 2 rfl rfl dX6_blockOf_9 ?_
  obtain ⟨r1, hc1, hf⟩ := ik_b1s hf
  have hM := (c_X5_isBlock l D cI cS nw0 nw1 nw2 nw3 nw4 nnb nkd ncl ngr noc x1 r1 hc1)
  refine ik_goR (ik_runV (st := []) (As := [.int x1]) C hM mv_X5_isBlock wl_8_7 ⟨rfl, rfl, Nat.le_of_ble_eq_true rfl, Nat.le_of_ble_eq_true rfl⟩ [3, 4, 5, 6, 7] rfl (by decide +kernel) 3 rfl rfl rfl rfl (Nat.le_of_ble_eq_true rfl) dX6_blockOf_10 ⟨Nat.zero_le _, Nat.zero_le _⟩) rfl ?_
  refine ik_if_eq C 26 dX6_blockOf_13 (by decide) (fun hc => ?_) (fun hc => ?_)
  · have hf := ik_pos hc hf
    refine ik_aload_n C 1 rfl rfl dX6_blockOf_26 ?_
    refine ik_ldc C wl_5_3 dX6_blockOf_27 ?_
    obtain ⟨r2, g3, hc3, hf⟩ := ik_b2s hf
    have hM := (c_X6_tell l D cI cS o0 np0 kp0 tp0 r0 t0 sh0 f0 isk fnd (-1000001 : Int32) r2 g3 hc3)
    refine ik_goW (v := (some (.int r2))) (wc := (wz_X6of cI cS o0 np0 kp0 tp0 r0 t0 sh0 f0 isk fnd)) (w1 := (wz_X6of cI cS o0 np0 kp0 tp0 r0 t0 sh0 f0 isk g3)) [0, 1] [2, 3, 4, 5, 6, 7, 8, 9, 10, 11, 12, 13] 14 rfl rfl (wz_X6ofn cI cS o0 np0 kp0 tp0 r0 t0 sh0 f0 nw0 nc0 np1 np2 np3 nw1 nw2 nw3 nw4 nc1 nc2 isk g3 nhour nair nrub nz nnb nkd ncl ngr noc nlit ncold nccell ncpow nsp nwm ndr) rfl [(np0, .inr (1, [.ref nw0, .ref nc0, .ref np1, .int nhour, .int nair, .int nrub, .int nz, .ref np2, .ref np3])), (nw0, .inr (5, [.int nnb, .ref nw1, .ref nw2, .ref nw3, .ref nw4])), (nw1, .inl (cI, 16, .inl nkd)), (nw2, .inl (cI, 16, .inl ncl)), (nw3, .inl (cI, 16, .inl ngr)), (nw4, .inl (cI, 48, .inl noc)), (nc0, .inr (0, [.ref nc1, .ref nc2, .int nlit, .int ncold])), (nc1, .inl (cI, 6, .inl nccell)), (nc2, .inl (cI, 6, .inl ncpow)), (np1, .inl (cI, 10, .inl nsp)), (np2, .inl (cI, 16, .inl nwm)), (np3, .inl (cI, 8, .inl ndr))] rfl rfl rfl (by decide +kernel) (ik_runV (st := []) (As := [.int (-1000001 : Int32)]) C hM mv_X6_tell wl_5_16 ⟨rfl, rfl, Nat.le_of_ble_eq_true rfl, Nat.le_of_ble_eq_true rfl⟩ [0, 1] rfl (by decide +kernel) 0 rfl rfl rfl rfl (Nat.le_of_ble_eq_true rfl) dX6_blockOf_29 ⟨Nat.zero_le _, Nat.zero_le _⟩) rfl ?_
    obtain ⟨rfl, rfl⟩ := ik_e2 hf
    exact ik_iretW C hr hlk dX6_blockOf_32
  · have hf := ik_neg hc hf
    refine ik_iload_n C 3 rfl rfl dX6_blockOf_16 ?_
    refine ik_iconst (v := (0 : Int32)) C (by decide) dX6_blockOf_17 ?_
    refine ik_bipush (v := (6 : Int32)) C (by decide) dX6_blockOf_18 ?_
    obtain ⟨r2, hc2, hf⟩ := ik_b1s hf
    have hM := (c_X6_isWithin l D cI cS x2 (0 : Int32) (6 : Int32) r2 hc2)
    refine ik_goR (ik_runS (st := []) (As := [.int x2, .int (0 : Int32), .int (6 : Int32)]) C hM ms_X6_isWithin wl_5_10 ⟨rfl, rfl, Nat.le_of_ble_eq_true rfl, Nat.le_of_ble_eq_true rfl⟩ [] rfl (by decide +kernel) rfl rfl (Nat.le_of_ble_eq_true rfl) dX6_blockOf_20 ⟨Nat.zero_le _, Nat.zero_le _⟩) rfl ?_
    refine ik_if_ne C 33 dX6_blockOf_23 (by decide) (fun hc => ?_) (fun hc => ?_)
    · have hf := ik_neg hc hf
      refine ik_iload_n C 3 rfl rfl dX6_blockOf_33 ?_
      by_cases hn0 : x2 = (0 : Int32)
      · have hf := ik_pos hn0 hf
        refine ik_tcase C (0 : Int32) hn0 72 dX6_blockOf_34 (by decide) (by decide) rfl (by decide) ?_
        refine ik_aload_n C 0 rfl rfl dX6_blockOf_72 ?_
        refine ik_get C inlX5 3 rfl rfl 1 (by decide) wl_8_4 rfl (v := .ref nw1) rfl dX6_blockOf_73 ?_
        refine ik_iload_n C 2 rfl rfl dX6_blockOf_76 ?_
        have hg := ik_gdi hf
        have hf := ik_gdk hf
        refine ik_iald C 4 rfl hg dX6_blockOf_77 ?_
        obtain ⟨rfl, rfl⟩ := ik_e2 hf
        exact ik_iretW C hr hlk dX6_blockOf_78
      · have hf := ik_neg hn0 hf
        by_cases hn1 : x2 = (1 : Int32)
        · have hf := ik_pos hn1 hf
          refine ik_tcase C (1 : Int32) hn1 79 dX6_blockOf_34 (by decide) (by decide) rfl (by decide) ?_
          refine ik_aload_n C 0 rfl rfl dX6_blockOf_79 ?_
          refine ik_get C inlX5 3 rfl rfl 2 (by decide) wl_8_5 rfl (v := .ref nw2) rfl dX6_blockOf_80 ?_
          refine ik_iload_n C 2 rfl rfl dX6_blockOf_83 ?_
          have hg := ik_gdi hf
          have hf := ik_gdk hf
          refine ik_iald C 5 rfl hg dX6_blockOf_84 ?_
          obtain ⟨rfl, rfl⟩ := ik_e2 hf
          exact ik_iretW C hr hlk dX6_blockOf_85
        · have hf := ik_neg hn1 hf
          by_cases hn2 : x2 = (2 : Int32)
          · have hf := ik_pos hn2 hf
            refine ik_tcase C (2 : Int32) hn2 86 dX6_blockOf_34 (by decide) (by decide) rfl (by decide) ?_
            refine ik_aload_n C 0 rfl rfl dX6_blockOf_86 ?_
            refine ik_get C inlX5 3 rfl rfl 3 (by decide) wl_8_6 rfl (v := .ref nw3) rfl dX6_blockOf_87 ?_
            refine ik_iload_n C 2 rfl rfl dX6_blockOf_90 ?_
            have hg := ik_gdi hf
            have hf := ik_gdk hf
            refine ik_iald C 6 rfl hg dX6_blockOf_91 ?_
            obtain ⟨rfl, rfl⟩ := ik_e2 hf
            exact ik_iretW C hr hlk dX6_blockOf_92
          · have hf := ik_neg hn2 hf
            by_cases hn3 : x2 = (3 : Int32)
            · have hf := ik_pos hn3 hf
              refine ik_tcase C (3 : Int32) hn3 93 dX6_blockOf_34 (by decide) (by decide) rfl (by decide) ?_
              refine ik_aload_n C 0 rfl rfl dX6_blockOf_93 ?_
              refine ik_iload_n C 2 rfl rfl dX6_blockOf_94 ?_
              obtain ⟨r3, hc3, hf⟩ := ik_b1s hf
              have hM := (c_X5_isGone l D cI cS nw0 nw1 nw2 nw3 nw4 nnb nkd ncl ngr noc x1 r3 hc3)
              refine ik_goR (ik_runV (st := []) (As := [.int x1]) C hM mv_X5_isGone wl_8_11 ⟨rfl, rfl, Nat.le_of_ble_eq_true rfl, Nat.le_of_ble_eq_true rfl⟩ [3, 4, 5, 6, 7] rfl (by decide +kernel) 3 rfl rfl rfl rfl (Nat.le_of_ble_eq_true rfl) dX6_blockOf_95 ⟨Nat.zero_le _, Nat.zero_le _⟩) rfl ?_
              refine ik_if_eq C 105 dX6_blockOf_98 (by decide) (fun hc => ?_) (fun hc => ?_)
              · have hf := ik_pos hc hf
                refine ik_iconst (v := (0 : Int32)) C (by decide) dX6_blockOf_105 ?_
                obtain ⟨rfl, rfl⟩ := ik_e2 hf
                exact ik_iretW C hr hlk dX6_blockOf_106
              · have hf := ik_neg hc hf
                refine ik_iconst (v := (1 : Int32)) C (by decide) dX6_blockOf_101 ?_
                refine ik_goto C 106 dX6_blockOf_102 (by decide) ?_
                obtain ⟨rfl, rfl⟩ := ik_e2 hf
                exact ik_iretW C hr hlk dX6_blockOf_106
            · have hf := ik_neg hn3 hf
              by_cases hn4 : x2 = (4 : Int32)
              · have hf := ik_pos hn4 hf
                refine ik_tcase C (4 : Int32) hn4 107 dX6_blockOf_34 (by decide) (by decide) rfl (by decide) ?_
                refine ik_aload_n C 0 rfl rfl dX6_blockOf_107 ?_
                obtain ⟨r3, hc3, hf⟩ := ik_b1s hf
                have hM := (c_X5_standing l D cI cS nw0 nw1 nw2 nw3 nw4 nnb nkd ncl ngr noc r3 hc3)
                refine ik_goR (ik_runV (st := []) (As := []) C hM mv_X5_standing wl_8_15 ⟨rfl, rfl, Nat.le_of_ble_eq_true rfl, Nat.le_of_ble_eq_true rfl⟩ [3, 4, 5, 6, 7] rfl (by decide +kernel) 3 rfl rfl rfl rfl (Nat.le_of_ble_eq_true rfl) dX6_blockOf_108 ⟨Nat.zero_le _, Nat.zero_le _⟩) rfl ?_
                refine ik_aload_n C 0 rfl rfl dX6_blockOf_111 ?_
                refine ik_iload_n C 2 rfl rfl dX6_blockOf_112 ?_
                obtain ⟨r4, hc4, hf⟩ := ik_b1s hf
                have hM := (c_X5_cellBit l D cI cS nw0 nw1 nw2 nw3 nw4 nnb nkd ncl ngr noc x1 r4 hc4)
                refine ik_goR (ik_runV (st := [.long r3]) (As := [.int x1]) C hM mv_X5_cellBit wl_9_3 ⟨rfl, rfl, Nat.le_of_ble_eq_true rfl, Nat.le_of_ble_eq_true rfl⟩ [3, 4, 5, 6, 7] rfl (by decide +kernel) 3 rfl rfl rfl rfl (Nat.le_of_ble_eq_true rfl) dX6_blockOf_113 ⟨Nat.zero_le _, Nat.zero_le _⟩) rfl ?_
                refine ik_land C dX6_blockOf_116 ?_
                refine ik_lconst (v := (0 : Int64)) C (by decide) dX6_blockOf_117 ?_
                refine ik_lcmp C dX6_blockOf_118 ?_
                refine ik_if_eq C 126 dX6_blockOf_119 (by decide) (fun hc => ?_) (fun hc => ?_)
                · have hf := ik_pos hc hf
                  refine ik_iconst (v := (0 : Int32)) C (by decide) dX6_blockOf_126 ?_
                  obtain ⟨rfl, rfl⟩ := ik_e2 hf
                  exact ik_iretW C hr hlk dX6_blockOf_127
                · have hf := ik_neg hc hf
                  refine ik_iconst (v := (1 : Int32)) C (by decide) dX6_blockOf_122 ?_
                  refine ik_goto C 127 dX6_blockOf_123 (by decide) ?_
                  obtain ⟨rfl, rfl⟩ := ik_e2 hf
                  exact ik_iretW C hr hlk dX6_blockOf_127
              · have hf := ik_neg hn4 hf
                by_cases hn5 : x2 = (5 : Int32)
                · have hf := ik_pos hn5 hf
                  refine ik_tcase C (5 : Int32) hn5 128 dX6_blockOf_34 (by decide) (by decide) rfl (by decide) ?_
                  refine ik_aload_n C 0 rfl rfl dX6_blockOf_128 ?_
                  refine ik_iload_n C 2 rfl rfl dX6_blockOf_129 ?_
                  obtain ⟨r3, hc3, hf⟩ := ik_b1s hf
                  have hM := (c_X5_loadOf l D cI cS nw0 nw1 nw2 nw3 nw4 nnb nkd ncl ngr noc x1 r3 hc3)
                  refine ik_goR (ik_runV (st := []) (As := [.int x1]) C hM mv_X5_loadOf wl_9_4 ⟨rfl, rfl, Nat.le_of_ble_eq_true rfl, Nat.le_of_ble_eq_true rfl⟩ [3, 4, 5, 6, 7] rfl (by decide +kernel) 3 rfl rfl rfl rfl (Nat.le_of_ble_eq_true rfl) dX6_blockOf_130 ⟨Nat.zero_le _, Nat.zero_le _⟩) rfl ?_
                  obtain ⟨rfl, rfl⟩ := ik_e2 hf
                  exact ik_iretW C hr hlk dX6_blockOf_133
                · have hf := ik_neg hn5 hf
                  refine ik_tout C 134 dX6_blockOf_34 (by have ehn0 : (x2).toInt ≠ 0 := fun h => hn0 (Int32.toInt_inj.mp h); have ehn1 : (x2).toInt ≠ 1 := fun h => hn1 (Int32.toInt_inj.mp h); have ehn2 : (x2).toInt ≠ 2 := fun h => hn2 (Int32.toInt_inj.mp h); have ehn3 : (x2).toInt ≠ 3 := fun h => hn3 (Int32.toInt_inj.mp h); have ehn4 : (x2).toInt ≠ 4 := fun h => hn4 (Int32.toInt_inj.mp h); have ehn5 : (x2).toInt ≠ 5 := fun h => hn5 (Int32.toInt_inj.mp h); omega) (by decide) ?_
                  refine ik_aload_n C 0 rfl rfl dX6_blockOf_134 ?_
                  refine ik_iload_n C 2 rfl rfl dX6_blockOf_135 ?_
                  obtain ⟨r3, hc3, hf⟩ := ik_b1s hf
                  have hM := (c_X5_strengthOf l D cI cS nw0 nw1 nw2 nw3 nw4 nnb nkd ncl ngr noc x1 r3 hc3)
                  refine ik_goR (ik_runV (st := []) (As := [.int x1]) C hM mv_X5_strengthOf wl_9_9 ⟨rfl, rfl, Nat.le_of_ble_eq_true rfl, Nat.le_of_ble_eq_true rfl⟩ [3, 4, 5, 6, 7] rfl (by decide +kernel) 3 rfl rfl rfl rfl (Nat.le_of_ble_eq_true rfl) dX6_blockOf_136 ⟨Nat.zero_le _, Nat.zero_le _⟩) rfl ?_
                  obtain ⟨rfl, rfl⟩ := ik_e2 hf
                  exact ik_iretW C hr hlk dX6_blockOf_139
    · have hf := ik_pos hc hf
      refine ik_aload_n C 1 rfl rfl dX6_blockOf_26 ?_
      refine ik_ldc C wl_5_3 dX6_blockOf_27 ?_
      obtain ⟨r3, g4, hc4, hf⟩ := ik_b2s hf
      have hM := (c_X6_tell l D cI cS o0 np0 kp0 tp0 r0 t0 sh0 f0 isk fnd (-1000001 : Int32) r3 g4 hc4)
      refine ik_goW (v := (some (.int r3))) (wc := (wz_X6of cI cS o0 np0 kp0 tp0 r0 t0 sh0 f0 isk fnd)) (w1 := (wz_X6of cI cS o0 np0 kp0 tp0 r0 t0 sh0 f0 isk g4)) [0, 1] [2, 3, 4, 5, 6, 7, 8, 9, 10, 11, 12, 13] 14 rfl rfl (wz_X6ofn cI cS o0 np0 kp0 tp0 r0 t0 sh0 f0 nw0 nc0 np1 np2 np3 nw1 nw2 nw3 nw4 nc1 nc2 isk g4 nhour nair nrub nz nnb nkd ncl ngr noc nlit ncold nccell ncpow nsp nwm ndr) rfl [(np0, .inr (1, [.ref nw0, .ref nc0, .ref np1, .int nhour, .int nair, .int nrub, .int nz, .ref np2, .ref np3])), (nw0, .inr (5, [.int nnb, .ref nw1, .ref nw2, .ref nw3, .ref nw4])), (nw1, .inl (cI, 16, .inl nkd)), (nw2, .inl (cI, 16, .inl ncl)), (nw3, .inl (cI, 16, .inl ngr)), (nw4, .inl (cI, 48, .inl noc)), (nc0, .inr (0, [.ref nc1, .ref nc2, .int nlit, .int ncold])), (nc1, .inl (cI, 6, .inl nccell)), (nc2, .inl (cI, 6, .inl ncpow)), (np1, .inl (cI, 10, .inl nsp)), (np2, .inl (cI, 16, .inl nwm)), (np3, .inl (cI, 8, .inl ndr))] rfl rfl rfl (by decide +kernel) (ik_runV (st := []) (As := [.int (-1000001 : Int32)]) C hM mv_X6_tell wl_5_16 ⟨rfl, rfl, Nat.le_of_ble_eq_true rfl, Nat.le_of_ble_eq_true rfl⟩ [0, 1] rfl (by decide +kernel) 0 rfl rfl rfl rfl (Nat.le_of_ble_eq_true rfl) dX6_blockOf_29 ⟨Nat.zero_le _, Nat.zero_le _⟩) rfl ?_
      obtain ⟨rfl, rfl⟩ := ik_e2 hf
      exact ik_iretW C hr hlk dX6_blockOf_32
theorem mv_X6_turn : ik_V yX6_turn RX6 cX6_turn 4 (some .int) 2 := ⟨wl_11_21, wl_11_22, wl_1_2, wl_11_23, by decide +kernel⟩
set_option maxHeartbeats 4000000 in
set_option maxRecDepth 100000 in
theorem c_X6_turn (l : Launch) (D : va_G) (cI cS : ClassId) (o0 np0 kp0 tp0 r0 t0 sh0 f0 nw0 nc0 np1 np2 np3 nw1 nw2 nw3 nw4 nc1 nc2 : Nat) (isk : Int32) (fnd : Nat → Int32) (nhour : Int32) (nair : Int32) (nrub : Int32) (nz : Int32) (nnb : Int32) (nkd : Nat → Int32) (ncl : Nat → Int32) (ngr : Nat → Int32) (noc : Nat → Int32) (nlit : Int32) (ncold : Int32) (nccell : Nat → Int32) (ncpow : Nat → Int32) (nsp : Nat → Int32) (nwm : Nat → Int32) (ndr : Nat → Int32) (x1 : Int32) (x2 : Int32) (R : Int32) (fnd_r : Nat → Int32) (nkd_r : Nat → Int32) (hf : f_X6_turn fnd nnb nkd x1 x2 = some (R, fnd_r, nkd_r)) : Met l yX6_turn (ik_ws yX6_turn cX6_turn 4 (some .int)) ({ frames := 2, cells := 0, slots := 0, locals := 44 } : Room) (ik_P D cI cS [.ref o0, .int x1, .int x2] (wz_X6ofn cI cS o0 np0 kp0 tp0 r0 t0 sh0 f0 nw0 nc0 np1 np2 np3 nw1 nw2 nw3 nw4 nc1 nc2 isk fnd nhour nair nrub nz nnb nkd ncl ngr noc nlit ncold nccell ncpow nsp nwm ndr)) (ik_Q (some (.int R)) D (wz_X6ofn cI cS o0 np0 kp0 tp0 r0 t0 sh0 f0 nw0 nc0 np1 np2 np3 nw1 nw2 nw3 nw4 nc1 nc2 isk fnd_r nhour nair nrub nz nnb nkd_r ncl ngr noc nlit ncold nccell ncpow nsp nwm ndr) (wz_X6ofn cI cS o0 np0 kp0 tp0 r0 t0 sh0 f0 nw0 nc0 np1 np2 np3 nw1 nw2 nw3 nw4 nc1 nc2 isk fnd nhour nair nrub nz nnb nkd ncl ngr noc nlit ncold nccell ncpow nsp nwm ndr)) 0 0 (ik_in (wz_X6ofn cI cS o0 np0 kp0 tp0 r0 t0 sh0 f0 nw0 nc0 np1 np2 np3 nw1 nw2 nw3 nw4 nc1 nc2 isk fnd nhour nair nrub nz nnb nkd ncl ngr noc nlit ncold nccell ncpow nsp nwm ndr)) := by
  refine ik_metW RX6 rfl (by decide) (Nat.le_of_ble_eq_true rfl) [(0, .ref o0), (1, .int x1), (2, .int x2)] rfl ?_
  intro p e s m below meth c C hr hlk
  unfold f_X6_turn at hf
  refine ik_aload_n C 0 rfl rfl dX6_turn_0 ?_
  refine ik_get C inlX6 0 rfl rfl 0 (by decide) wl_1_15 rfl (v := .ref np0) rfl dX6_turn_1 ?_
  refine ik_get C inlX1 2 rfl rfl 0 (by decide) wl_5_4 rfl (v := .ref nw0) rfl dX6_turn_4 ?_
  refine ik_iload_n C 1 rfl rfl dX6_turn_7 ?_
  obtain ⟨r1, hc1, hf⟩ := ik_b1s hf
  have hM := (c_X5_isBlock l D cI cS nw0 nw1 nw2 nw3 nw4 nnb nkd ncl ngr noc x1 r1 hc1)
  refine ik_goR (ik_runV (st := []) (As := [.int x1]) C hM mv_X5_isBlock wl_8_7 ⟨rfl, rfl, Nat.le_of_ble_eq_true rfl, Nat.le_of_ble_eq_true rfl⟩ [3, 4, 5, 6, 7] rfl (by decide +kernel) 3 rfl rfl rfl rfl (Nat.le_of_ble_eq_true rfl) dX6_turn_8 ⟨Nat.zero_le _, Nat.zero_le _⟩) rfl ?_
  refine ik_if_eq C 21 dX6_turn_11 (by decide) (fun hc => ?_) (fun hc => ?_)
  · have hf := ik_pos hc hf
    refine ik_aload_n C 0 rfl rfl dX6_turn_21 ?_
    refine ik_ldc C wl_5_3 dX6_turn_22 ?_
    obtain ⟨r2, g3, hc3, hf⟩ := ik_b2s hf
    have hM := (c_X6_tell l D cI cS o0 np0 kp0 tp0 r0 t0 sh0 f0 isk fnd (-1000001 : Int32) r2 g3 hc3)
    refine ik_goW (v := (some (.int r2))) (wc := (wz_X6of cI cS o0 np0 kp0 tp0 r0 t0 sh0 f0 isk fnd)) (w1 := (wz_X6of cI cS o0 np0 kp0 tp0 r0 t0 sh0 f0 isk g3)) [0, 1] [2, 3, 4, 5, 6, 7, 8, 9, 10, 11, 12, 13] 14 rfl rfl (wz_X6ofn cI cS o0 np0 kp0 tp0 r0 t0 sh0 f0 nw0 nc0 np1 np2 np3 nw1 nw2 nw3 nw4 nc1 nc2 isk g3 nhour nair nrub nz nnb nkd ncl ngr noc nlit ncold nccell ncpow nsp nwm ndr) rfl [(np0, .inr (1, [.ref nw0, .ref nc0, .ref np1, .int nhour, .int nair, .int nrub, .int nz, .ref np2, .ref np3])), (nw0, .inr (5, [.int nnb, .ref nw1, .ref nw2, .ref nw3, .ref nw4])), (nw1, .inl (cI, 16, .inl nkd)), (nw2, .inl (cI, 16, .inl ncl)), (nw3, .inl (cI, 16, .inl ngr)), (nw4, .inl (cI, 48, .inl noc)), (nc0, .inr (0, [.ref nc1, .ref nc2, .int nlit, .int ncold])), (nc1, .inl (cI, 6, .inl nccell)), (nc2, .inl (cI, 6, .inl ncpow)), (np1, .inl (cI, 10, .inl nsp)), (np2, .inl (cI, 16, .inl nwm)), (np3, .inl (cI, 8, .inl ndr))] rfl rfl rfl (by decide +kernel) (ik_runV (st := []) (As := [.int (-1000001 : Int32)]) C hM mv_X6_tell wl_5_16 ⟨rfl, rfl, Nat.le_of_ble_eq_true rfl, Nat.le_of_ble_eq_true rfl⟩ [0, 1] rfl (by decide +kernel) 0 rfl rfl rfl rfl (Nat.le_of_ble_eq_true rfl) dX6_turn_24 ⟨Nat.zero_le _, Nat.zero_le _⟩) rfl ?_
    obtain ⟨rfl, rfl, rfl⟩ := ik_e3 hf
    exact ik_iretW C hr hlk dX6_turn_27
  · have hf := ik_neg hc hf
    refine ik_iload_n C 2 rfl rfl dX6_turn_14 ?_
    obtain ⟨r2, hc2, hf⟩ := ik_b1s hf
    have hM := (c_X6_isKind l D cI cS x2 r2 hc2)
    refine ik_goR (ik_runS (st := []) (As := [.int x2]) C hM ms_X6_isKind wl_5_7 ⟨rfl, rfl, Nat.le_of_ble_eq_true rfl, Nat.le_of_ble_eq_true rfl⟩ [] rfl (by decide +kernel) rfl rfl (Nat.le_of_ble_eq_true rfl) dX6_turn_15 ⟨Nat.zero_le _, Nat.zero_le _⟩) rfl ?_
    refine ik_if_ne C 28 dX6_turn_18 (by decide) (fun hc => ?_) (fun hc => ?_)
    · have hf := ik_neg hc hf
      refine ik_aload_n C 0 rfl rfl dX6_turn_28 ?_
      refine ik_get C inlX6 0 rfl rfl 0 (by decide) wl_1_15 rfl (v := .ref np0) rfl dX6_turn_29 ?_
      refine ik_get C inlX1 2 rfl rfl 0 (by decide) wl_5_4 rfl (v := .ref nw0) rfl dX6_turn_32 ?_
      refine ik_get C inlX5 3 rfl rfl 1 (by decide) wl_8_4 rfl (v := .ref nw1) rfl dX6_turn_35 ?_
      refine ik_iload_n C 1 rfl rfl dX6_turn_38 ?_
      have hg := ik_gdi hf
      have hf := ik_gdk hf
      refine ik_iald C 4 rfl hg dX6_turn_39 ?_
      refine ik_istore_n C [(3, .int (nkd (x1).toNatClampNeg)), (0, .ref o0), (1, .int x1), (2, .int x2)] rfl (by decide) rfl dX6_turn_40 ?_
      refine ik_aload_n C 1 rfl rfl dX6_turn_41 ?_
      refine ik_get C inlX6 0 rfl rfl 0 (by decide) wl_1_15 rfl (v := .ref np0) rfl dX6_turn_42 ?_
      refine ik_get C inlX1 2 rfl rfl 0 (by decide) wl_5_4 rfl (v := .ref nw0) rfl dX6_turn_45 ?_
      refine ik_get C inlX5 3 rfl rfl 1 (by decide) wl_8_4 rfl (v := .ref nw1) rfl dX6_turn_48 ?_
      refine ik_iload_n C 2 rfl rfl dX6_turn_51 ?_
      refine ik_iload_n C 3 rfl rfl dX6_turn_52 ?_
      have hg := ik_gdi hf
      have hf := ik_gdk hf
      refine ik_iast C 4 rfl hg (wz_X6ofn cI cS o0 np0 kp0 tp0 r0 t0 sh0 f0 nw0 nc0 np1 np2 np3 nw1 nw2 nw3 nw4 nc1 nc2 isk fnd nhour nair nrub nz nnb (upd nkd (x1).toNatClampNeg x2) ncl ngr noc nlit ncold nccell ncpow nsp nwm ndr) rfl dX6_turn_53 ?_
      refine ik_iload_n C 0 rfl rfl dX6_turn_54 ?_
      obtain ⟨rfl, rfl, rfl⟩ := ik_e3 hf
      exact ik_iretW C hr hlk dX6_turn_55
    · have hf := ik_pos hc hf
      refine ik_aload_n C 0 rfl rfl dX6_turn_21 ?_
      refine ik_ldc C wl_5_3 dX6_turn_22 ?_
      obtain ⟨r3, g4, hc4, hf⟩ := ik_b2s hf
      have hM := (c_X6_tell l D cI cS o0 np0 kp0 tp0 r0 t0 sh0 f0 isk fnd (-1000001 : Int32) r3 g4 hc4)
      refine ik_goW (v := (some (.int r3))) (wc := (wz_X6of cI cS o0 np0 kp0 tp0 r0 t0 sh0 f0 isk fnd)) (w1 := (wz_X6of cI cS o0 np0 kp0 tp0 r0 t0 sh0 f0 isk g4)) [0, 1] [2, 3, 4, 5, 6, 7, 8, 9, 10, 11, 12, 13] 14 rfl rfl (wz_X6ofn cI cS o0 np0 kp0 tp0 r0 t0 sh0 f0 nw0 nc0 np1 np2 np3 nw1 nw2 nw3 nw4 nc1 nc2 isk g4 nhour nair nrub nz nnb nkd ncl ngr noc nlit ncold nccell ncpow nsp nwm ndr) rfl [(np0, .inr (1, [.ref nw0, .ref nc0, .ref np1, .int nhour, .int nair, .int nrub, .int nz, .ref np2, .ref np3])), (nw0, .inr (5, [.int nnb, .ref nw1, .ref nw2, .ref nw3, .ref nw4])), (nw1, .inl (cI, 16, .inl nkd)), (nw2, .inl (cI, 16, .inl ncl)), (nw3, .inl (cI, 16, .inl ngr)), (nw4, .inl (cI, 48, .inl noc)), (nc0, .inr (0, [.ref nc1, .ref nc2, .int nlit, .int ncold])), (nc1, .inl (cI, 6, .inl nccell)), (nc2, .inl (cI, 6, .inl ncpow)), (np1, .inl (cI, 10, .inl nsp)), (np2, .inl (cI, 16, .inl nwm)), (np3, .inl (cI, 8, .inl ndr))] rfl rfl rfl (by decide +kernel) (ik_runV (st := []) (As := [.int (-1000001 : Int32)]) C hM mv_X6_tell wl_5_16 ⟨rfl, rfl, Nat.le_of_ble_eq_true rfl, Nat.le_of_ble_eq_true rfl⟩ [0, 1] rfl (by decide +kernel) 0 rfl rfl rfl rfl (Nat.le_of_ble_eq_true rfl) dX6_turn_24 ⟨Nat.zero_le _, Nat.zero_le _⟩) rfl ?_
      obtain ⟨rfl, rfl, rfl⟩ := ik_e3 hf
      exact ik_iretW C hr hlk dX6_turn_27
theorem mv_X6_take : ik_V yX6_take RX6 cX6_take 5 (some .int) 2 := ⟨wl_12_9, wl_12_10, wl_1_2, wl_12_11, by decide +kernel⟩
set_option maxHeartbeats 4000000 in
set_option maxRecDepth 100000 in
theorem c_X6_take (l : Launch) (D : va_G) (cI cS : ClassId) (o0 np0 kp0 tp0 r0 t0 sh0 f0 nw0 nc0 np1 np2 np3 nw1 nw2 nw3 nw4 nc1 nc2 : Nat) (isk : Int32) (fnd : Nat → Int32) (nhour : Int32) (nair : Int32) (nrub : Int32) (nz : Int32) (nnb : Int32) (nkd : Nat → Int32) (ncl : Nat → Int32) (ngr : Nat → Int32) (noc : Nat → Int32) (nlit : Int32) (ncold : Int32) (nccell : Nat → Int32) (ncpow : Nat → Int32) (nsp : Nat → Int32) (nwm : Nat → Int32) (ndr : Nat → Int32) (x1 : Int32) (x2 : Int32) (R : Int32) (fnd_r : Nat → Int32) (ncl_r : Nat → Int32) (noc_r : Nat → Int32) (hf : f_X6_take fnd nnb ncl noc x1 x2 = some (R, fnd_r, ncl_r, noc_r)) : Met l yX6_take (ik_ws yX6_take cX6_take 5 (some .int)) ({ frames := 3, cells := 0, slots := 0, locals := 65 } : Room) (ik_P D cI cS [.ref o0, .int x1, .int x2] (wz_X6ofn cI cS o0 np0 kp0 tp0 r0 t0 sh0 f0 nw0 nc0 np1 np2 np3 nw1 nw2 nw3 nw4 nc1 nc2 isk fnd nhour nair nrub nz nnb nkd ncl ngr noc nlit ncold nccell ncpow nsp nwm ndr)) (ik_Q (some (.int R)) D (wz_X6ofn cI cS o0 np0 kp0 tp0 r0 t0 sh0 f0 nw0 nc0 np1 np2 np3 nw1 nw2 nw3 nw4 nc1 nc2 isk fnd_r nhour nair nrub nz nnb nkd ncl_r ngr noc_r nlit ncold nccell ncpow nsp nwm ndr) (wz_X6ofn cI cS o0 np0 kp0 tp0 r0 t0 sh0 f0 nw0 nc0 np1 np2 np3 nw1 nw2 nw3 nw4 nc1 nc2 isk fnd nhour nair nrub nz nnb nkd ncl ngr noc nlit ncold nccell ncpow nsp nwm ndr)) 0 0 (ik_in (wz_X6ofn cI cS o0 np0 kp0 tp0 r0 t0 sh0 f0 nw0 nc0 np1 np2 np3 nw1 nw2 nw3 nw4 nc1 nc2 isk fnd nhour nair nrub nz nnb nkd ncl ngr noc nlit ncold nccell ncpow nsp nwm ndr)) := by
  refine ik_metW RX6 rfl (by decide) (Nat.le_of_ble_eq_true rfl) [(0, .ref o0), (1, .int x1), (2, .int x2)] rfl ?_
  intro p e s m below meth c C hr hlk
  unfold f_X6_take at hf
  refine ik_aload_n C 0 rfl rfl dX6_take_0 ?_
  refine ik_get C inlX6 0 rfl rfl 0 (by decide) wl_1_15 rfl (v := .ref np0) rfl dX6_take_1 ?_
  refine ik_get C inlX1 2 rfl rfl 0 (by decide) wl_5_4 rfl (v := .ref nw0) rfl dX6_take_4 ?_
  refine ik_astore_n C [(3, .ref nw0), (0, .ref o0), (1, .int x1), (2, .int x2)] rfl (by decide) rfl dX6_take_7 ?_
  refine ik_aload_n C 0 rfl rfl dX6_take_8 ?_
  refine ik_iload_n C 2 rfl rfl dX6_take_9 ?_
  obtain ⟨r1, hc1, hf⟩ := ik_b1s hf
  have hM := (c_X5_isBlock l D cI cS nw0 nw1 nw2 nw3 nw4 nnb nkd ncl ngr noc x1 r1 hc1)
  refine ik_goR (ik_runV (st := []) (As := [.int x1]) C hM mv_X5_isBlock wl_8_7 ⟨rfl, rfl, Nat.le_of_ble_eq_true rfl, Nat.le_of_ble_eq_true rfl⟩ [3, 4, 5, 6, 7] rfl (by decide +kernel) 3 rfl rfl rfl rfl (Nat.le_of_ble_eq_true rfl) dX6_take_10 ⟨Nat.zero_le _, Nat.zero_le _⟩) rfl ?_
  refine ik_if_eq C 23 dX6_take_13 (by decide) (fun hc => ?_) (fun hc => ?_)
  · have hf := ik_pos hc hf
    refine ik_aload_n C 1 rfl rfl dX6_take_23 ?_
    refine ik_ldc C wl_5_3 dX6_take_24 ?_
    obtain ⟨r2, g3, hc3, hf⟩ := ik_b2s hf
    have hM := (c_X6_tell l D cI cS o0 np0 kp0 tp0 r0 t0 sh0 f0 isk fnd (-1000001 : Int32) r2 g3 hc3)
    refine ik_goW (v := (some (.int r2))) (wc := (wz_X6of cI cS o0 np0 kp0 tp0 r0 t0 sh0 f0 isk fnd)) (w1 := (wz_X6of cI cS o0 np0 kp0 tp0 r0 t0 sh0 f0 isk g3)) [0, 1] [2, 3, 4, 5, 6, 7, 8, 9, 10, 11, 12, 13] 14 rfl rfl (wz_X6ofn cI cS o0 np0 kp0 tp0 r0 t0 sh0 f0 nw0 nc0 np1 np2 np3 nw1 nw2 nw3 nw4 nc1 nc2 isk g3 nhour nair nrub nz nnb nkd ncl ngr noc nlit ncold nccell ncpow nsp nwm ndr) rfl [(np0, .inr (1, [.ref nw0, .ref nc0, .ref np1, .int nhour, .int nair, .int nrub, .int nz, .ref np2, .ref np3])), (nw0, .inr (5, [.int nnb, .ref nw1, .ref nw2, .ref nw3, .ref nw4])), (nw1, .inl (cI, 16, .inl nkd)), (nw2, .inl (cI, 16, .inl ncl)), (nw3, .inl (cI, 16, .inl ngr)), (nw4, .inl (cI, 48, .inl noc)), (nc0, .inr (0, [.ref nc1, .ref nc2, .int nlit, .int ncold])), (nc1, .inl (cI, 6, .inl nccell)), (nc2, .inl (cI, 6, .inl ncpow)), (np1, .inl (cI, 10, .inl nsp)), (np2, .inl (cI, 16, .inl nwm)), (np3, .inl (cI, 8, .inl ndr))] rfl rfl rfl (by decide +kernel) (ik_runV (st := []) (As := [.int (-1000001 : Int32)]) C hM mv_X6_tell wl_5_16 ⟨rfl, rfl, Nat.le_of_ble_eq_true rfl, Nat.le_of_ble_eq_true rfl⟩ [0, 1] rfl (by decide +kernel) 0 rfl rfl rfl rfl (Nat.le_of_ble_eq_true rfl) dX6_take_26 ⟨Nat.zero_le _, Nat.zero_le _⟩) rfl ?_
    obtain ⟨rfl, rfl, rfl, rfl⟩ := ik_e4 hf
    exact ik_iretW C hr hlk dX6_take_29
  · have hf := ik_neg hc hf
    refine ik_iload_n C 3 rfl rfl dX6_take_16 ?_
    obtain ⟨r2, hc2, hf⟩ := ik_b1s hf
    have hM := (c_X6_isCell l D cI cS x2 r2 hc2)
    refine ik_goR (ik_runS (st := []) (As := [.int x2]) C hM ms_X6_isCell wl_5_13 ⟨rfl, rfl, Nat.le_of_ble_eq_true rfl, Nat.le_of_ble_eq_true rfl⟩ [] rfl (by decide +kernel) rfl rfl (Nat.le_of_ble_eq_true rfl) dX6_take_17 ⟨Nat.zero_le _, Nat.zero_le _⟩) rfl ?_
    refine ik_if_ne C 30 dX6_take_20 (by decide) (fun hc => ?_) (fun hc => ?_)
    · have hf := ik_neg hc hf
      refine ik_aload_n C 0 rfl rfl dX6_take_30 ?_
      refine ik_iload_n C 3 rfl rfl dX6_take_31 ?_
      obtain ⟨r3, hc3, hf⟩ := ik_b1s hf
      have hM := (c_X5_blockAt l D cI cS nw0 nw1 nw2 nw3 nw4 nnb nkd ncl ngr noc x2 r3 hc3)
      refine ik_goR (ik_runV (st := []) (As := [.int x2]) C hM mv_X5_blockAt wl_6_1 ⟨rfl, rfl, Nat.le_of_ble_eq_true rfl, Nat.le_of_ble_eq_true rfl⟩ [3, 4, 5, 6, 7] rfl (by decide +kernel) 3 rfl rfl rfl rfl (Nat.le_of_ble_eq_true rfl) dX6_take_32 ⟨Nat.zero_le _, Nat.zero_le _⟩) rfl ?_
      refine ik_istore C [(4, .int r3), (3, .ref nw0), (0, .ref o0), (1, .int x1), (2, .int x2)] (by decide) rfl dX6_take_35 ?_
      refine ik_aload_n C 1 rfl rfl dX6_take_37 ?_
      refine ik_iload_n C 3 rfl rfl dX6_take_38 ?_
      obtain ⟨r4, hc4, hf⟩ := ik_b1s hf
      have hM := (c_X5_isGone l D cI cS nw0 nw1 nw2 nw3 nw4 nnb nkd ncl ngr noc x1 r4 hc4)
      refine ik_goR (ik_runV (st := []) (As := [.int x1]) C hM mv_X5_isGone wl_8_11 ⟨rfl, rfl, Nat.le_of_ble_eq_true rfl, Nat.le_of_ble_eq_true rfl⟩ [3, 4, 5, 6, 7] rfl (by decide +kernel) 3 rfl rfl rfl rfl (Nat.le_of_ble_eq_true rfl) dX6_take_39 ⟨Nat.zero_le _, Nat.zero_le _⟩) rfl ?_
      refine ik_if_ne C 56 dX6_take_42 (by decide) (fun hc => ?_) (fun hc => ?_)
      · have hf := ik_neg hc hf
        refine ik_aload_n C 2 rfl rfl dX6_take_56 ?_
        refine ik_ldc C wl_5_6 dX6_take_57 ?_
        obtain ⟨r5, g6, hc6, hf⟩ := ik_b2s hf
        have hM := (c_X6_tell l D cI cS o0 np0 kp0 tp0 r0 t0 sh0 f0 isk fnd (-1000005 : Int32) r5 g6 hc6)
        refine ik_goW (v := (some (.int r5))) (wc := (wz_X6of cI cS o0 np0 kp0 tp0 r0 t0 sh0 f0 isk fnd)) (w1 := (wz_X6of cI cS o0 np0 kp0 tp0 r0 t0 sh0 f0 isk g6)) [0, 1] [2, 3, 4, 5, 6, 7, 8, 9, 10, 11, 12, 13] 14 rfl rfl (wz_X6ofn cI cS o0 np0 kp0 tp0 r0 t0 sh0 f0 nw0 nc0 np1 np2 np3 nw1 nw2 nw3 nw4 nc1 nc2 isk g6 nhour nair nrub nz nnb nkd ncl ngr noc nlit ncold nccell ncpow nsp nwm ndr) rfl [(np0, .inr (1, [.ref nw0, .ref nc0, .ref np1, .int nhour, .int nair, .int nrub, .int nz, .ref np2, .ref np3])), (nw0, .inr (5, [.int nnb, .ref nw1, .ref nw2, .ref nw3, .ref nw4])), (nw1, .inl (cI, 16, .inl nkd)), (nw2, .inl (cI, 16, .inl ncl)), (nw3, .inl (cI, 16, .inl ngr)), (nw4, .inl (cI, 48, .inl noc)), (nc0, .inr (0, [.ref nc1, .ref nc2, .int nlit, .int ncold])), (nc1, .inl (cI, 6, .inl nccell)), (nc2, .inl (cI, 6, .inl ncpow)), (np1, .inl (cI, 10, .inl nsp)), (np2, .inl (cI, 16, .inl nwm)), (np3, .inl (cI, 8, .inl ndr))] rfl rfl rfl (by decide +kernel) (ik_runV (st := []) (As := [.int (-1000005 : Int32)]) C hM mv_X6_tell wl_5_16 ⟨rfl, rfl, Nat.le_of_ble_eq_true rfl, Nat.le_of_ble_eq_true rfl⟩ [0, 1] rfl (by decide +kernel) 0 rfl rfl rfl rfl (Nat.le_of_ble_eq_true rfl) dX6_take_59 ⟨Nat.zero_le _, Nat.zero_le _⟩) rfl ?_
        obtain ⟨rfl, rfl, rfl, rfl⟩ := ik_e4 hf
        exact ik_iretW C hr hlk dX6_take_62
      · have hf := ik_pos hc hf
        refine ik_iload C 0 rfl dX6_take_45 ?_
        refine ik_if_lt C 63 dX6_take_47 (by decide) (fun hc => ?_) (fun hc => ?_)
        · have hf := ik_pos hc hf
          refine ik_aload_n C 1 rfl rfl dX6_take_63 ?_
          refine ik_iload_n C 3 rfl rfl dX6_take_64 ?_
          refine ik_iload_n C 4 rfl rfl dX6_take_65 ?_
          obtain ⟨r5, g6, g7, hc7, hf⟩ := ik_b3s hf
          have hM := (c_X5_move l D cI cS nw0 nw1 nw2 nw3 nw4 nnb nkd ncl ngr noc x1 x2 r5 g6 g7 hc7)
          refine ik_goW (v := (some (.int r5))) (wc := (wz_X5 cI cS nw0 nw1 nw2 nw3 nw4 nnb nkd ncl ngr noc)) (w1 := (wz_X5 cI cS nw0 nw1 nw2 nw3 nw4 nnb nkd g6 ngr g7)) [3, 4, 5, 6, 7] [0, 1, 2, 8, 9, 10, 11, 12, 13] 14 rfl rfl (wz_X6ofn cI cS o0 np0 kp0 tp0 r0 t0 sh0 f0 nw0 nc0 np1 np2 np3 nw1 nw2 nw3 nw4 nc1 nc2 isk fnd nhour nair nrub nz nnb nkd g6 ngr g7 nlit ncold nccell ncpow nsp nwm ndr) rfl [(o0, .inr (6, [.ref np0, .ref kp0, .ref tp0, .int isk, .ref r0, .ref t0, .ref sh0, .ref f0])), (f0, .inl (cI, 7, .inl fnd)), (np0, .inr (1, [.ref nw0, .ref nc0, .ref np1, .int nhour, .int nair, .int nrub, .int nz, .ref np2, .ref np3])), (nc0, .inr (0, [.ref nc1, .ref nc2, .int nlit, .int ncold])), (nc1, .inl (cI, 6, .inl nccell)), (nc2, .inl (cI, 6, .inl ncpow)), (np1, .inl (cI, 10, .inl nsp)), (np2, .inl (cI, 16, .inl nwm)), (np3, .inl (cI, 8, .inl ndr))] rfl rfl rfl (by decide +kernel) (ik_runV (st := []) (As := [.int x1, .int x2]) C hM mv_X5_move wl_12_12 ⟨rfl, rfl, Nat.le_of_ble_eq_true rfl, Nat.le_of_ble_eq_true rfl⟩ [3, 4, 5, 6, 7] rfl (by decide +kernel) 3 rfl rfl rfl rfl (Nat.le_of_ble_eq_true rfl) dX6_take_66 ⟨Nat.zero_le _, Nat.zero_le _⟩) rfl ?_
          obtain ⟨rfl, rfl, rfl, rfl⟩ := ik_e4 hf
          exact ik_iretW C hr hlk dX6_take_69
        · have hf := ik_neg hc hf
          refine ik_iload C 0 rfl dX6_take_50 ?_
          refine ik_iload_n C 3 rfl rfl dX6_take_52 ?_
          refine ik_icmp_eq C 63 dX6_take_53 (by decide) (fun hc => ?_) (fun hc => ?_)
          · have hf := ik_pos hc hf
            refine ik_aload_n C 1 rfl rfl dX6_take_63 ?_
            refine ik_iload_n C 3 rfl rfl dX6_take_64 ?_
            refine ik_iload_n C 4 rfl rfl dX6_take_65 ?_
            obtain ⟨r5, g6, g7, hc7, hf⟩ := ik_b3s hf
            have hM := (c_X5_move l D cI cS nw0 nw1 nw2 nw3 nw4 nnb nkd ncl ngr noc x1 x2 r5 g6 g7 hc7)
            refine ik_goW (v := (some (.int r5))) (wc := (wz_X5 cI cS nw0 nw1 nw2 nw3 nw4 nnb nkd ncl ngr noc)) (w1 := (wz_X5 cI cS nw0 nw1 nw2 nw3 nw4 nnb nkd g6 ngr g7)) [3, 4, 5, 6, 7] [0, 1, 2, 8, 9, 10, 11, 12, 13] 14 rfl rfl (wz_X6ofn cI cS o0 np0 kp0 tp0 r0 t0 sh0 f0 nw0 nc0 np1 np2 np3 nw1 nw2 nw3 nw4 nc1 nc2 isk fnd nhour nair nrub nz nnb nkd g6 ngr g7 nlit ncold nccell ncpow nsp nwm ndr) rfl [(o0, .inr (6, [.ref np0, .ref kp0, .ref tp0, .int isk, .ref r0, .ref t0, .ref sh0, .ref f0])), (f0, .inl (cI, 7, .inl fnd)), (np0, .inr (1, [.ref nw0, .ref nc0, .ref np1, .int nhour, .int nair, .int nrub, .int nz, .ref np2, .ref np3])), (nc0, .inr (0, [.ref nc1, .ref nc2, .int nlit, .int ncold])), (nc1, .inl (cI, 6, .inl nccell)), (nc2, .inl (cI, 6, .inl ncpow)), (np1, .inl (cI, 10, .inl nsp)), (np2, .inl (cI, 16, .inl nwm)), (np3, .inl (cI, 8, .inl ndr))] rfl rfl rfl (by decide +kernel) (ik_runV (st := []) (As := [.int x1, .int x2]) C hM mv_X5_move wl_12_12 ⟨rfl, rfl, Nat.le_of_ble_eq_true rfl, Nat.le_of_ble_eq_true rfl⟩ [3, 4, 5, 6, 7] rfl (by decide +kernel) 3 rfl rfl rfl rfl (Nat.le_of_ble_eq_true rfl) dX6_take_66 ⟨Nat.zero_le _, Nat.zero_le _⟩) rfl ?_
            obtain ⟨rfl, rfl, rfl, rfl⟩ := ik_e4 hf
            exact ik_iretW C hr hlk dX6_take_69
          · have hf := ik_neg hc hf
            refine ik_aload_n C 2 rfl rfl dX6_take_56 ?_
            refine ik_ldc C wl_5_6 dX6_take_57 ?_
            obtain ⟨r5, g6, hc6, hf⟩ := ik_b2s hf
            have hM := (c_X6_tell l D cI cS o0 np0 kp0 tp0 r0 t0 sh0 f0 isk fnd (-1000005 : Int32) r5 g6 hc6)
            refine ik_goW (v := (some (.int r5))) (wc := (wz_X6of cI cS o0 np0 kp0 tp0 r0 t0 sh0 f0 isk fnd)) (w1 := (wz_X6of cI cS o0 np0 kp0 tp0 r0 t0 sh0 f0 isk g6)) [0, 1] [2, 3, 4, 5, 6, 7, 8, 9, 10, 11, 12, 13] 14 rfl rfl (wz_X6ofn cI cS o0 np0 kp0 tp0 r0 t0 sh0 f0 nw0 nc0 np1 np2 np3 nw1 nw2 nw3 nw4 nc1 nc2 isk g6 nhour nair nrub nz nnb nkd ncl ngr noc nlit ncold nccell ncpow nsp nwm ndr) rfl [(np0, .inr (1, [.ref nw0, .ref nc0, .ref np1, .int nhour, .int nair, .int nrub, .int nz, .ref np2, .ref np3])), (nw0, .inr (5, [.int nnb, .ref nw1, .ref nw2, .ref nw3, .ref nw4])), (nw1, .inl (cI, 16, .inl nkd)), (nw2, .inl (cI, 16, .inl ncl)), (nw3, .inl (cI, 16, .inl ngr)), (nw4, .inl (cI, 48, .inl noc)), (nc0, .inr (0, [.ref nc1, .ref nc2, .int nlit, .int ncold])), (nc1, .inl (cI, 6, .inl nccell)), (nc2, .inl (cI, 6, .inl ncpow)), (np1, .inl (cI, 10, .inl nsp)), (np2, .inl (cI, 16, .inl nwm)), (np3, .inl (cI, 8, .inl ndr))] rfl rfl rfl (by decide +kernel) (ik_runV (st := []) (As := [.int (-1000005 : Int32)]) C hM mv_X6_tell wl_5_16 ⟨rfl, rfl, Nat.le_of_ble_eq_true rfl, Nat.le_of_ble_eq_true rfl⟩ [0, 1] rfl (by decide +kernel) 0 rfl rfl rfl rfl (Nat.le_of_ble_eq_true rfl) dX6_take_59 ⟨Nat.zero_le _, Nat.zero_le _⟩) rfl ?_
            obtain ⟨rfl, rfl, rfl, rfl⟩ := ik_e4 hf
            exact ik_iretW C hr hlk dX6_take_62
    · have hf := ik_pos hc hf
      refine ik_aload_n C 1 rfl rfl dX6_take_23 ?_
      refine ik_ldc C wl_5_3 dX6_take_24 ?_
      obtain ⟨r3, g4, hc4, hf⟩ := ik_b2s hf
      have hM := (c_X6_tell l D cI cS o0 np0 kp0 tp0 r0 t0 sh0 f0 isk fnd (-1000001 : Int32) r3 g4 hc4)
      refine ik_goW (v := (some (.int r3))) (wc := (wz_X6of cI cS o0 np0 kp0 tp0 r0 t0 sh0 f0 isk fnd)) (w1 := (wz_X6of cI cS o0 np0 kp0 tp0 r0 t0 sh0 f0 isk g4)) [0, 1] [2, 3, 4, 5, 6, 7, 8, 9, 10, 11, 12, 13] 14 rfl rfl (wz_X6ofn cI cS o0 np0 kp0 tp0 r0 t0 sh0 f0 nw0 nc0 np1 np2 np3 nw1 nw2 nw3 nw4 nc1 nc2 isk g4 nhour nair nrub nz nnb nkd ncl ngr noc nlit ncold nccell ncpow nsp nwm ndr) rfl [(np0, .inr (1, [.ref nw0, .ref nc0, .ref np1, .int nhour, .int nair, .int nrub, .int nz, .ref np2, .ref np3])), (nw0, .inr (5, [.int nnb, .ref nw1, .ref nw2, .ref nw3, .ref nw4])), (nw1, .inl (cI, 16, .inl nkd)), (nw2, .inl (cI, 16, .inl ncl)), (nw3, .inl (cI, 16, .inl ngr)), (nw4, .inl (cI, 48, .inl noc)), (nc0, .inr (0, [.ref nc1, .ref nc2, .int nlit, .int ncold])), (nc1, .inl (cI, 6, .inl nccell)), (nc2, .inl (cI, 6, .inl ncpow)), (np1, .inl (cI, 10, .inl nsp)), (np2, .inl (cI, 16, .inl nwm)), (np3, .inl (cI, 8, .inl ndr))] rfl rfl rfl (by decide +kernel) (ik_runV (st := []) (As := [.int (-1000001 : Int32)]) C hM mv_X6_tell wl_5_16 ⟨rfl, rfl, Nat.le_of_ble_eq_true rfl, Nat.le_of_ble_eq_true rfl⟩ [0, 1] rfl (by decide +kernel) 0 rfl rfl rfl rfl (Nat.le_of_ble_eq_true rfl) dX6_take_26 ⟨Nat.zero_le _, Nat.zero_le _⟩) rfl ?_
      obtain ⟨rfl, rfl, rfl, rfl⟩ := ik_e4 hf
      exact ik_iretW C hr hlk dX6_take_29
theorem mv_X6_on : ik_V yX6_on RX6 cX6_on 2 (some .int) 1 := ⟨wl_12_21, wl_12_22, wl_1_2, wl_12_23, by decide +kernel⟩
set_option maxHeartbeats 4000000 in
set_option maxRecDepth 100000 in
theorem c_X6_on (l : Launch) (D : va_G) (cI cS : ClassId) (o0 np0 kp0 tp0 r0 t0 sh0 f0 nw0 nc0 np1 np2 np3 nw1 nw2 nw3 nw4 nc1 nc2 : Nat) (isk : Int32) (fnd : Nat → Int32) (nhour : Int32) (nair : Int32) (nrub : Int32) (nz : Int32) (nnb : Int32) (nkd : Nat → Int32) (ncl : Nat → Int32) (ngr : Nat → Int32) (noc : Nat → Int32) (nlit : Int32) (ncold : Int32) (nccell : Nat → Int32) (ncpow : Nat → Int32) (nsp : Nat → Int32) (nwm : Nat → Int32) (ndr : Nat → Int32) (x1 : Int32) (R : Int32) (fnd_r : Nat → Int32) (hf : f_X6_on fnd noc x1 = some (R, fnd_r)) : Met l yX6_on (ik_ws yX6_on cX6_on 2 (some .int)) ({ frames := 3, cells := 0, slots := 0, locals := 63 } : Room) (ik_P D cI cS [.ref o0, .int x1] (wz_X6ofn cI cS o0 np0 kp0 tp0 r0 t0 sh0 f0 nw0 nc0 np1 np2 np3 nw1 nw2 nw3 nw4 nc1 nc2 isk fnd nhour nair nrub nz nnb nkd ncl ngr noc nlit ncold nccell ncpow nsp nwm ndr)) (ik_Q (some (.int R)) D (wz_X6ofn cI cS o0 np0 kp0 tp0 r0 t0 sh0 f0 nw0 nc0 np1 np2 np3 nw1 nw2 nw3 nw4 nc1 nc2 isk fnd_r nhour nair nrub nz nnb nkd ncl ngr noc nlit ncold nccell ncpow nsp nwm ndr) (wz_X6ofn cI cS o0 np0 kp0 tp0 r0 t0 sh0 f0 nw0 nc0 np1 np2 np3 nw1 nw2 nw3 nw4 nc1 nc2 isk fnd nhour nair nrub nz nnb nkd ncl ngr noc nlit ncold nccell ncpow nsp nwm ndr)) 0 0 (ik_in (wz_X6ofn cI cS o0 np0 kp0 tp0 r0 t0 sh0 f0 nw0 nc0 np1 np2 np3 nw1 nw2 nw3 nw4 nc1 nc2 isk fnd nhour nair nrub nz nnb nkd ncl ngr noc nlit ncold nccell ncpow nsp nwm ndr)) := by
  refine ik_metW RX6 rfl (by decide) (Nat.le_of_ble_eq_true rfl) [(0, .ref o0), (1, .int x1)] rfl ?_
  intro p e s m below meth c C hr hlk
  unfold f_X6_on at hf
  refine ik_iload_n C 1 rfl rfl dX6_on_0 ?_
  obtain ⟨r1, hc1, hf⟩ := ik_b1s hf
  have hM := (c_X6_isCell l D cI cS x1 r1 hc1)
  refine ik_goR (ik_runS (st := []) (As := [.int x1]) C hM ms_X6_isCell wl_5_13 ⟨rfl, rfl, Nat.le_of_ble_eq_true rfl, Nat.le_of_ble_eq_true rfl⟩ [] rfl (by decide +kernel) rfl rfl (Nat.le_of_ble_eq_true rfl) dX6_on_1 ⟨Nat.zero_le _, Nat.zero_le _⟩) rfl ?_
  refine ik_if_ne C 14 dX6_on_4 (by decide) (fun hc => ?_) (fun hc => ?_)
  · have hf := ik_neg hc hf
    refine ik_aload_n C 0 rfl rfl dX6_on_14 ?_
    refine ik_get C inlX6 0 rfl rfl 0 (by decide) wl_1_15 rfl (v := .ref np0) rfl dX6_on_15 ?_
    refine ik_get C inlX1 2 rfl rfl 0 (by decide) wl_5_4 rfl (v := .ref nw0) rfl dX6_on_18 ?_
    refine ik_iload_n C 1 rfl rfl dX6_on_21 ?_
    obtain ⟨r2, hc2, hf⟩ := ik_b1s hf
    have hM := (c_X5_blockAt l D cI cS nw0 nw1 nw2 nw3 nw4 nnb nkd ncl ngr noc x1 r2 hc2)
    refine ik_goR (ik_runV (st := []) (As := [.int x1]) C hM mv_X5_blockAt wl_6_1 ⟨rfl, rfl, Nat.le_of_ble_eq_true rfl, Nat.le_of_ble_eq_true rfl⟩ [3, 4, 5, 6, 7] rfl (by decide +kernel) 3 rfl rfl rfl rfl (Nat.le_of_ble_eq_true rfl) dX6_on_22 ⟨Nat.zero_le _, Nat.zero_le _⟩) rfl ?_
    obtain ⟨rfl, rfl⟩ := ik_e2 hf
    exact ik_iretW C hr hlk dX6_on_25
  · have hf := ik_pos hc hf
    refine ik_aload_n C 0 rfl rfl dX6_on_7 ?_
    refine ik_ldc C wl_5_3 dX6_on_8 ?_
    obtain ⟨r2, g3, hc3, hf⟩ := ik_b2s hf
    have hM := (c_X6_tell l D cI cS o0 np0 kp0 tp0 r0 t0 sh0 f0 isk fnd (-1000001 : Int32) r2 g3 hc3)
    refine ik_goW (v := (some (.int r2))) (wc := (wz_X6of cI cS o0 np0 kp0 tp0 r0 t0 sh0 f0 isk fnd)) (w1 := (wz_X6of cI cS o0 np0 kp0 tp0 r0 t0 sh0 f0 isk g3)) [0, 1] [2, 3, 4, 5, 6, 7, 8, 9, 10, 11, 12, 13] 14 rfl rfl (wz_X6ofn cI cS o0 np0 kp0 tp0 r0 t0 sh0 f0 nw0 nc0 np1 np2 np3 nw1 nw2 nw3 nw4 nc1 nc2 isk g3 nhour nair nrub nz nnb nkd ncl ngr noc nlit ncold nccell ncpow nsp nwm ndr) rfl [(np0, .inr (1, [.ref nw0, .ref nc0, .ref np1, .int nhour, .int nair, .int nrub, .int nz, .ref np2, .ref np3])), (nw0, .inr (5, [.int nnb, .ref nw1, .ref nw2, .ref nw3, .ref nw4])), (nw1, .inl (cI, 16, .inl nkd)), (nw2, .inl (cI, 16, .inl ncl)), (nw3, .inl (cI, 16, .inl ngr)), (nw4, .inl (cI, 48, .inl noc)), (nc0, .inr (0, [.ref nc1, .ref nc2, .int nlit, .int ncold])), (nc1, .inl (cI, 6, .inl nccell)), (nc2, .inl (cI, 6, .inl ncpow)), (np1, .inl (cI, 10, .inl nsp)), (np2, .inl (cI, 16, .inl nwm)), (np3, .inl (cI, 8, .inl ndr))] rfl rfl rfl (by decide +kernel) (ik_runV (st := []) (As := [.int (-1000001 : Int32)]) C hM mv_X6_tell wl_5_16 ⟨rfl, rfl, Nat.le_of_ble_eq_true rfl, Nat.le_of_ble_eq_true rfl⟩ [0, 1] rfl (by decide +kernel) 0 rfl rfl rfl rfl (Nat.le_of_ble_eq_true rfl) dX6_on_10 ⟨Nat.zero_le _, Nat.zero_le _⟩) rfl ?_
    obtain ⟨rfl, rfl⟩ := ik_e2 hf
    exact ik_iretW C hr hlk dX6_on_13
theorem mv_X6_water : ik_V yX6_water RX6 cX6_water 4 (some .int) 2 := ⟨wl_13_5, wl_13_6, wl_1_2, wl_13_7, by decide +kernel⟩
set_option maxHeartbeats 4000000 in
set_option maxRecDepth 100000 in
theorem c_X6_water (l : Launch) (D : va_G) (cI cS : ClassId) (o0 np0 kp0 tp0 r0 t0 sh0 f0 nw0 nc0 np1 np2 np3 nw1 nw2 nw3 nw4 nc1 nc2 : Nat) (isk : Int32) (fnd : Nat → Int32) (nhour : Int32) (nair : Int32) (nrub : Int32) (nz : Int32) (nnb : Int32) (nkd : Nat → Int32) (ncl : Nat → Int32) (ngr : Nat → Int32) (noc : Nat → Int32) (nlit : Int32) (ncold : Int32) (nccell : Nat → Int32) (ncpow : Nat → Int32) (nsp : Nat → Int32) (nwm : Nat → Int32) (ndr : Nat → Int32) (x1 : Int32) (x2 : Int32) (R : Int32) (fnd_r : Nat → Int32) (ngr_r : Nat → Int32) (hf : f_X6_water fnd nnb ncl ngr nlit ncold nccell ncpow x1 x2 = some (R, fnd_r, ngr_r)) : Met l yX6_water (ik_ws yX6_water cX6_water 4 (some .int)) ({ frames := 3, cells := 0, slots := 0, locals := 65 } : Room) (ik_P D cI cS [.ref o0, .int x1, .int x2] (wz_X6ofn cI cS o0 np0 kp0 tp0 r0 t0 sh0 f0 nw0 nc0 np1 np2 np3 nw1 nw2 nw3 nw4 nc1 nc2 isk fnd nhour nair nrub nz nnb nkd ncl ngr noc nlit ncold nccell ncpow nsp nwm ndr)) (ik_Q (some (.int R)) D (wz_X6ofn cI cS o0 np0 kp0 tp0 r0 t0 sh0 f0 nw0 nc0 np1 np2 np3 nw1 nw2 nw3 nw4 nc1 nc2 isk fnd_r nhour nair nrub nz nnb nkd ncl ngr_r noc nlit ncold nccell ncpow nsp nwm ndr) (wz_X6ofn cI cS o0 np0 kp0 tp0 r0 t0 sh0 f0 nw0 nc0 np1 np2 np3 nw1 nw2 nw3 nw4 nc1 nc2 isk fnd nhour nair nrub nz nnb nkd ncl ngr noc nlit ncold nccell ncpow nsp nwm ndr)) 0 0 (ik_in (wz_X6ofn cI cS o0 np0 kp0 tp0 r0 t0 sh0 f0 nw0 nc0 np1 np2 np3 nw1 nw2 nw3 nw4 nc1 nc2 isk fnd nhour nair nrub nz nnb nkd ncl ngr noc nlit ncold nccell ncpow nsp nwm ndr)) := by
  refine ik_metW RX6 rfl (by decide) (Nat.le_of_ble_eq_true rfl) [(0, .ref o0), (1, .int x1), (2, .int x2)] rfl ?_
  intro p e s m below meth c C hr hlk
  unfold f_X6_water at hf
  refine ik_aload_n C 0 rfl rfl dX6_water_0 ?_
  refine ik_get C inlX6 0 rfl rfl 0 (by decide) wl_1_15 rfl (v := .ref np0) rfl dX6_water_1 ?_
  refine ik_get C inlX1 2 rfl rfl 0 (by decide) wl_5_4 rfl (v := .ref nw0) rfl dX6_water_4 ?_
  refine ik_astore_n C [(3, .ref nw0), (0, .ref o0), (1, .int x1), (2, .int x2)] rfl (by decide) rfl dX6_water_7 ?_
  refine ik_aload_n C 0 rfl rfl dX6_water_8 ?_
  refine ik_iload_n C 2 rfl rfl dX6_water_9 ?_
  obtain ⟨r1, hc1, hf⟩ := ik_b1s hf
  have hM := (c_X5_isBlock l D cI cS nw0 nw1 nw2 nw3 nw4 nnb nkd ncl ngr noc x1 r1 hc1)
  refine ik_goR (ik_runV (st := []) (As := [.int x1]) C hM mv_X5_isBlock wl_8_7 ⟨rfl, rfl, Nat.le_of_ble_eq_true rfl, Nat.le_of_ble_eq_true rfl⟩ [3, 4, 5, 6, 7] rfl (by decide +kernel) 3 rfl rfl rfl rfl (Nat.le_of_ble_eq_true rfl) dX6_water_10 ⟨Nat.zero_le _, Nat.zero_le _⟩) rfl ?_
  refine ik_if_eq C 26 dX6_water_13 (by decide) (fun hc => ?_) (fun hc => ?_)
  · have hf := ik_pos hc hf
    refine ik_aload_n C 1 rfl rfl dX6_water_26 ?_
    refine ik_ldc C wl_5_3 dX6_water_27 ?_
    obtain ⟨r2, g3, hc3, hf⟩ := ik_b2s hf
    have hM := (c_X6_tell l D cI cS o0 np0 kp0 tp0 r0 t0 sh0 f0 isk fnd (-1000001 : Int32) r2 g3 hc3)
    refine ik_goW (v := (some (.int r2))) (wc := (wz_X6of cI cS o0 np0 kp0 tp0 r0 t0 sh0 f0 isk fnd)) (w1 := (wz_X6of cI cS o0 np0 kp0 tp0 r0 t0 sh0 f0 isk g3)) [0, 1] [2, 3, 4, 5, 6, 7, 8, 9, 10, 11, 12, 13] 14 rfl rfl (wz_X6ofn cI cS o0 np0 kp0 tp0 r0 t0 sh0 f0 nw0 nc0 np1 np2 np3 nw1 nw2 nw3 nw4 nc1 nc2 isk g3 nhour nair nrub nz nnb nkd ncl ngr noc nlit ncold nccell ncpow nsp nwm ndr) rfl [(np0, .inr (1, [.ref nw0, .ref nc0, .ref np1, .int nhour, .int nair, .int nrub, .int nz, .ref np2, .ref np3])), (nw0, .inr (5, [.int nnb, .ref nw1, .ref nw2, .ref nw3, .ref nw4])), (nw1, .inl (cI, 16, .inl nkd)), (nw2, .inl (cI, 16, .inl ncl)), (nw3, .inl (cI, 16, .inl ngr)), (nw4, .inl (cI, 48, .inl noc)), (nc0, .inr (0, [.ref nc1, .ref nc2, .int nlit, .int ncold])), (nc1, .inl (cI, 6, .inl nccell)), (nc2, .inl (cI, 6, .inl ncpow)), (np1, .inl (cI, 10, .inl nsp)), (np2, .inl (cI, 16, .inl nwm)), (np3, .inl (cI, 8, .inl ndr))] rfl rfl rfl (by decide +kernel) (ik_runV (st := []) (As := [.int (-1000001 : Int32)]) C hM mv_X6_tell wl_5_16 ⟨rfl, rfl, Nat.le_of_ble_eq_true rfl, Nat.le_of_ble_eq_true rfl⟩ [0, 1] rfl (by decide +kernel) 0 rfl rfl rfl rfl (Nat.le_of_ble_eq_true rfl) dX6_water_29 ⟨Nat.zero_le _, Nat.zero_le _⟩) rfl ?_
    obtain ⟨rfl, rfl, rfl⟩ := ik_e3 hf
    exact ik_iretW C hr hlk dX6_water_32
  · have hf := ik_neg hc hf
    refine ik_iload_n C 3 rfl rfl dX6_water_16 ?_
    refine ik_iconst (v := (1 : Int32)) C (by decide) dX6_water_17 ?_
    refine ik_bipush (v := (99 : Int32)) C (by decide) dX6_water_18 ?_
    obtain ⟨r2, hc2, hf⟩ := ik_b1s hf
    have hM := (c_X6_isWithin l D cI cS x2 (1 : Int32) (99 : Int32) r2 hc2)
    refine ik_goR (ik_runS (st := []) (As := [.int x2, .int (1 : Int32), .int (99 : Int32)]) C hM ms_X6_isWithin wl_5_10 ⟨rfl, rfl, Nat.le_of_ble_eq_true rfl, Nat.le_of_ble_eq_true rfl⟩ [] rfl (by decide +kernel) rfl rfl (Nat.le_of_ble_eq_true rfl) dX6_water_20 ⟨Nat.zero_le _, Nat.zero_le _⟩) rfl ?_
    refine ik_if_ne C 33 dX6_water_23 (by decide) (fun hc => ?_) (fun hc => ?_)
    · have hf := ik_neg hc hf
      refine ik_aload_n C 0 rfl rfl dX6_water_33 ?_
      refine ik_iload_n C 2 rfl rfl dX6_water_34 ?_
      obtain ⟨r3, hc3, hf⟩ := ik_b1s hf
      have hM := (c_X5_isGone l D cI cS nw0 nw1 nw2 nw3 nw4 nnb nkd ncl ngr noc x1 r3 hc3)
      refine ik_goR (ik_runV (st := []) (As := [.int x1]) C hM mv_X5_isGone wl_8_11 ⟨rfl, rfl, Nat.le_of_ble_eq_true rfl, Nat.le_of_ble_eq_true rfl⟩ [3, 4, 5, 6, 7] rfl (by decide +kernel) 3 rfl rfl rfl rfl (Nat.le_of_ble_eq_true rfl) dX6_water_35 ⟨Nat.zero_le _, Nat.zero_le _⟩) rfl ?_
      refine ik_if_ne C 60 dX6_water_38 (by decide) (fun hc => ?_) (fun hc => ?_)
      · have hf := ik_neg hc hf
        refine ik_aload_n C 1 rfl rfl dX6_water_60 ?_
        refine ik_ldc C wl_5_6 dX6_water_61 ?_
        obtain ⟨r4, g5, hc5, hf⟩ := ik_b2s hf
        have hM := (c_X6_tell l D cI cS o0 np0 kp0 tp0 r0 t0 sh0 f0 isk fnd (-1000005 : Int32) r4 g5 hc5)
        refine ik_goW (v := (some (.int r4))) (wc := (wz_X6of cI cS o0 np0 kp0 tp0 r0 t0 sh0 f0 isk fnd)) (w1 := (wz_X6of cI cS o0 np0 kp0 tp0 r0 t0 sh0 f0 isk g5)) [0, 1] [2, 3, 4, 5, 6, 7, 8, 9, 10, 11, 12, 13] 14 rfl rfl (wz_X6ofn cI cS o0 np0 kp0 tp0 r0 t0 sh0 f0 nw0 nc0 np1 np2 np3 nw1 nw2 nw3 nw4 nc1 nc2 isk g5 nhour nair nrub nz nnb nkd ncl ngr noc nlit ncold nccell ncpow nsp nwm ndr) rfl [(np0, .inr (1, [.ref nw0, .ref nc0, .ref np1, .int nhour, .int nair, .int nrub, .int nz, .ref np2, .ref np3])), (nw0, .inr (5, [.int nnb, .ref nw1, .ref nw2, .ref nw3, .ref nw4])), (nw1, .inl (cI, 16, .inl nkd)), (nw2, .inl (cI, 16, .inl ncl)), (nw3, .inl (cI, 16, .inl ngr)), (nw4, .inl (cI, 48, .inl noc)), (nc0, .inr (0, [.ref nc1, .ref nc2, .int nlit, .int ncold])), (nc1, .inl (cI, 6, .inl nccell)), (nc2, .inl (cI, 6, .inl ncpow)), (np1, .inl (cI, 10, .inl nsp)), (np2, .inl (cI, 16, .inl nwm)), (np3, .inl (cI, 8, .inl ndr))] rfl rfl rfl (by decide +kernel) (ik_runV (st := []) (As := [.int (-1000005 : Int32)]) C hM mv_X6_tell wl_5_16 ⟨rfl, rfl, Nat.le_of_ble_eq_true rfl, Nat.le_of_ble_eq_true rfl⟩ [0, 1] rfl (by decide +kernel) 0 rfl rfl rfl rfl (Nat.le_of_ble_eq_true rfl) dX6_water_63 ⟨Nat.zero_le _, Nat.zero_le _⟩) rfl ?_
        obtain ⟨rfl, rfl, rfl⟩ := ik_e3 hf
        exact ik_iretW C hr hlk dX6_water_66
      · have hf := ik_pos hc hf
        refine ik_aload_n C 1 rfl rfl dX6_water_41 ?_
        refine ik_get C inlX6 0 rfl rfl 0 (by decide) wl_1_15 rfl (v := .ref np0) rfl dX6_water_42 ?_
        refine ik_get C inlX1 2 rfl rfl 1 (by decide) wl_13_8 rfl (v := .ref nc0) rfl dX6_water_45 ?_
        refine ik_aload_n C 0 rfl rfl dX6_water_48 ?_
        refine ik_get C inlX5 3 rfl rfl 2 (by decide) wl_8_5 rfl (v := .ref nw2) rfl dX6_water_49 ?_
        refine ik_iload_n C 2 rfl rfl dX6_water_52 ?_
        have hg := ik_gdi hf
        have hf := ik_gdk hf
        refine ik_iald C 5 rfl hg dX6_water_53 ?_
        obtain ⟨r4, hc4, hf⟩ := ik_b1s hf
        have hM := (c_X0_warmthAt l D cI cS nc0 nc1 nc2 nlit ncold nccell ncpow (ncl (x1).toNatClampNeg) r4 hc4)
        refine ik_goR (ik_runV (st := []) (As := [.int (ncl (x1).toNatClampNeg)]) C hM mv_X0_warmthAt wl_13_9 ⟨rfl, rfl, Nat.le_of_ble_eq_true rfl, Nat.le_of_ble_eq_true rfl⟩ [8, 9, 10] rfl (by decide +kernel) 8 rfl rfl rfl rfl (Nat.le_of_ble_eq_true rfl) dX6_water_54 ⟨Nat.zero_le _, Nat.zero_le _⟩) rfl ?_
        refine ik_if_lt C 67 dX6_water_57 (by decide) (fun hc => ?_) (fun hc => ?_)
        · have hf := ik_pos hc hf
          refine ik_aload_n C 0 rfl rfl dX6_water_67 ?_
          refine ik_iload_n C 2 rfl rfl dX6_water_68 ?_
          refine ik_iload_n C 3 rfl rfl dX6_water_69 ?_
          obtain ⟨r5, g6, hc6, hf⟩ := ik_b2s hf
          have hM := (c_X5_thicken l D cI cS nw0 nw1 nw2 nw3 nw4 nnb nkd ncl ngr noc x1 x2 r5 g6 hc6)
          refine ik_goW (v := (some (.int r5))) (wc := (wz_X5 cI cS nw0 nw1 nw2 nw3 nw4 nnb nkd ncl ngr noc)) (w1 := (wz_X5 cI cS nw0 nw1 nw2 nw3 nw4 nnb nkd ncl g6 noc)) [3, 4, 5, 6, 7] [0, 1, 2, 8, 9, 10, 11, 12, 13] 14 rfl rfl (wz_X6ofn cI cS o0 np0 kp0 tp0 r0 t0 sh0 f0 nw0 nc0 np1 np2 np3 nw1 nw2 nw3 nw4 nc1 nc2 isk fnd nhour nair nrub nz nnb nkd ncl g6 noc nlit ncold nccell ncpow nsp nwm ndr) rfl [(o0, .inr (6, [.ref np0, .ref kp0, .ref tp0, .int isk, .ref r0, .ref t0, .ref sh0, .ref f0])), (f0, .inl (cI, 7, .inl fnd)), (np0, .inr (1, [.ref nw0, .ref nc0, .ref np1, .int nhour, .int nair, .int nrub, .int nz, .ref np2, .ref np3])), (nc0, .inr (0, [.ref nc1, .ref nc2, .int nlit, .int ncold])), (nc1, .inl (cI, 6, .inl nccell)), (nc2, .inl (cI, 6, .inl ncpow)), (np1, .inl (cI, 10, .inl nsp)), (np2, .inl (cI, 16, .inl nwm)), (np3, .inl (cI, 8, .inl ndr))] rfl rfl rfl (by decide +kernel) (ik_runV (st := []) (As := [.int x1, .int x2]) C hM mv_X5_thicken wl_14_1 ⟨rfl, rfl, Nat.le_of_ble_eq_true rfl, Nat.le_of_ble_eq_true rfl⟩ [3, 4, 5, 6, 7] rfl (by decide +kernel) 3 rfl rfl rfl rfl (Nat.le_of_ble_eq_true rfl) dX6_water_70 ⟨Nat.zero_le _, Nat.zero_le _⟩) rfl ?_
          obtain ⟨rfl, rfl, rfl⟩ := ik_e3 hf
          exact ik_iretW C hr hlk dX6_water_73
        · have hf := ik_neg hc hf
          refine ik_aload_n C 1 rfl rfl dX6_water_60 ?_
          refine ik_ldc C wl_5_6 dX6_water_61 ?_
          obtain ⟨r5, g6, hc6, hf⟩ := ik_b2s hf
          have hM := (c_X6_tell l D cI cS o0 np0 kp0 tp0 r0 t0 sh0 f0 isk fnd (-1000005 : Int32) r5 g6 hc6)
          refine ik_goW (v := (some (.int r5))) (wc := (wz_X6of cI cS o0 np0 kp0 tp0 r0 t0 sh0 f0 isk fnd)) (w1 := (wz_X6of cI cS o0 np0 kp0 tp0 r0 t0 sh0 f0 isk g6)) [0, 1] [2, 3, 4, 5, 6, 7, 8, 9, 10, 11, 12, 13] 14 rfl rfl (wz_X6ofn cI cS o0 np0 kp0 tp0 r0 t0 sh0 f0 nw0 nc0 np1 np2 np3 nw1 nw2 nw3 nw4 nc1 nc2 isk g6 nhour nair nrub nz nnb nkd ncl ngr noc nlit ncold nccell ncpow nsp nwm ndr) rfl [(np0, .inr (1, [.ref nw0, .ref nc0, .ref np1, .int nhour, .int nair, .int nrub, .int nz, .ref np2, .ref np3])), (nw0, .inr (5, [.int nnb, .ref nw1, .ref nw2, .ref nw3, .ref nw4])), (nw1, .inl (cI, 16, .inl nkd)), (nw2, .inl (cI, 16, .inl ncl)), (nw3, .inl (cI, 16, .inl ngr)), (nw4, .inl (cI, 48, .inl noc)), (nc0, .inr (0, [.ref nc1, .ref nc2, .int nlit, .int ncold])), (nc1, .inl (cI, 6, .inl nccell)), (nc2, .inl (cI, 6, .inl ncpow)), (np1, .inl (cI, 10, .inl nsp)), (np2, .inl (cI, 16, .inl nwm)), (np3, .inl (cI, 8, .inl ndr))] rfl rfl rfl (by decide +kernel) (ik_runV (st := []) (As := [.int (-1000005 : Int32)]) C hM mv_X6_tell wl_5_16 ⟨rfl, rfl, Nat.le_of_ble_eq_true rfl, Nat.le_of_ble_eq_true rfl⟩ [0, 1] rfl (by decide +kernel) 0 rfl rfl rfl rfl (Nat.le_of_ble_eq_true rfl) dX6_water_63 ⟨Nat.zero_le _, Nat.zero_le _⟩) rfl ?_
          obtain ⟨rfl, rfl, rfl⟩ := ik_e3 hf
          exact ik_iretW C hr hlk dX6_water_66
    · have hf := ik_pos hc hf
      refine ik_aload_n C 1 rfl rfl dX6_water_26 ?_
      refine ik_ldc C wl_5_3 dX6_water_27 ?_
      obtain ⟨r3, g4, hc4, hf⟩ := ik_b2s hf
      have hM := (c_X6_tell l D cI cS o0 np0 kp0 tp0 r0 t0 sh0 f0 isk fnd (-1000001 : Int32) r3 g4 hc4)
      refine ik_goW (v := (some (.int r3))) (wc := (wz_X6of cI cS o0 np0 kp0 tp0 r0 t0 sh0 f0 isk fnd)) (w1 := (wz_X6of cI cS o0 np0 kp0 tp0 r0 t0 sh0 f0 isk g4)) [0, 1] [2, 3, 4, 5, 6, 7, 8, 9, 10, 11, 12, 13] 14 rfl rfl (wz_X6ofn cI cS o0 np0 kp0 tp0 r0 t0 sh0 f0 nw0 nc0 np1 np2 np3 nw1 nw2 nw3 nw4 nc1 nc2 isk g4 nhour nair nrub nz nnb nkd ncl ngr noc nlit ncold nccell ncpow nsp nwm ndr) rfl [(np0, .inr (1, [.ref nw0, .ref nc0, .ref np1, .int nhour, .int nair, .int nrub, .int nz, .ref np2, .ref np3])), (nw0, .inr (5, [.int nnb, .ref nw1, .ref nw2, .ref nw3, .ref nw4])), (nw1, .inl (cI, 16, .inl nkd)), (nw2, .inl (cI, 16, .inl ncl)), (nw3, .inl (cI, 16, .inl ngr)), (nw4, .inl (cI, 48, .inl noc)), (nc0, .inr (0, [.ref nc1, .ref nc2, .int nlit, .int ncold])), (nc1, .inl (cI, 6, .inl nccell)), (nc2, .inl (cI, 6, .inl ncpow)), (np1, .inl (cI, 10, .inl nsp)), (np2, .inl (cI, 16, .inl nwm)), (np3, .inl (cI, 8, .inl ndr))] rfl rfl rfl (by decide +kernel) (ik_runV (st := []) (As := [.int (-1000001 : Int32)]) C hM mv_X6_tell wl_5_16 ⟨rfl, rfl, Nat.le_of_ble_eq_true rfl, Nat.le_of_ble_eq_true rfl⟩ [0, 1] rfl (by decide +kernel) 0 rfl rfl rfl rfl (Nat.le_of_ble_eq_true rfl) dX6_water_29 ⟨Nat.zero_le _, Nat.zero_le _⟩) rfl ?_
      obtain ⟨rfl, rfl, rfl⟩ := ik_e3 hf
      exact ik_iretW C hr hlk dX6_water_32
theorem mv_X6_candle : ik_V yX6_candle RX6 cX6_candle 6 (some .int) 3 := ⟨wl_15_4, wl_15_5, wl_1_2, wl_15_6, by decide +kernel⟩
set_option maxHeartbeats 4000000 in
set_option maxRecDepth 100000 in
theorem c_X6_candle (l : Launch) (D : va_G) (cI cS : ClassId) (o0 np0 kp0 tp0 r0 t0 sh0 f0 nw0 nc0 np1 np2 np3 nw1 nw2 nw3 nw4 nc1 nc2 : Nat) (isk : Int32) (fnd : Nat → Int32) (nhour : Int32) (nair : Int32) (nrub : Int32) (nz : Int32) (nnb : Int32) (nkd : Nat → Int32) (ncl : Nat → Int32) (ngr : Nat → Int32) (noc : Nat → Int32) (nlit : Int32) (ncold : Int32) (nccell : Nat → Int32) (ncpow : Nat → Int32) (nsp : Nat → Int32) (nwm : Nat → Int32) (ndr : Nat → Int32) (x1 : Int32) (x2 : Int32) (x3 : Int32) (R : Int32) (fnd_r : Nat → Int32) (nccell_r : Nat → Int32) (ncpow_r : Nat → Int32) (hf : f_X6_candle fnd nccell ncpow x1 x2 x3 = some (R, fnd_r, nccell_r, ncpow_r)) : Met l yX6_candle (ik_ws yX6_candle cX6_candle 6 (some .int)) ({ frames := 2, cells := 0, slots := 0, locals := 44 } : Room) (ik_P D cI cS [.ref o0, .int x1, .int x2, .int x3] (wz_X6ofn cI cS o0 np0 kp0 tp0 r0 t0 sh0 f0 nw0 nc0 np1 np2 np3 nw1 nw2 nw3 nw4 nc1 nc2 isk fnd nhour nair nrub nz nnb nkd ncl ngr noc nlit ncold nccell ncpow nsp nwm ndr)) (ik_Q (some (.int R)) D (wz_X6ofn cI cS o0 np0 kp0 tp0 r0 t0 sh0 f0 nw0 nc0 np1 np2 np3 nw1 nw2 nw3 nw4 nc1 nc2 isk fnd_r nhour nair nrub nz nnb nkd ncl ngr noc nlit ncold nccell_r ncpow_r nsp nwm ndr) (wz_X6ofn cI cS o0 np0 kp0 tp0 r0 t0 sh0 f0 nw0 nc0 np1 np2 np3 nw1 nw2 nw3 nw4 nc1 nc2 isk fnd nhour nair nrub nz nnb nkd ncl ngr noc nlit ncold nccell ncpow nsp nwm ndr)) 0 0 (ik_in (wz_X6ofn cI cS o0 np0 kp0 tp0 r0 t0 sh0 f0 nw0 nc0 np1 np2 np3 nw1 nw2 nw3 nw4 nc1 nc2 isk fnd nhour nair nrub nz nnb nkd ncl ngr noc nlit ncold nccell ncpow nsp nwm ndr)) := by
  refine ik_metW RX6 rfl (by decide) (Nat.le_of_ble_eq_true rfl) [(0, .ref o0), (1, .int x1), (2, .int x2), (3, .int x3)] rfl ?_
  intro p e s m below meth c C hr hlk
  unfold f_X6_candle at hf
  refine ik_iload_n C 1 rfl rfl dX6_candle_0 ?_
  obtain ⟨r1, hc1, hf⟩ := ik_b1s hf
  have hM := (c_X6_isCandle l D cI cS x1 r1 hc1)
  refine ik_goR (ik_runS (st := []) (As := [.int x1]) C hM ms_X6_isCandle wl_15_9 ⟨rfl, rfl, Nat.le_of_ble_eq_true rfl, Nat.le_of_ble_eq_true rfl⟩ [] rfl (by decide +kernel) rfl rfl (Nat.le_of_ble_eq_true rfl) dX6_candle_1 ⟨Nat.zero_le _, Nat.zero_le _⟩) rfl ?_
  refine ik_if_eq C 40 dX6_candle_4 (by decide) (fun hc => ?_) (fun hc => ?_)
  · have hf := ik_pos hc hf
    refine ik_aload_n C 0 rfl rfl dX6_candle_40 ?_
    refine ik_ldc C wl_5_3 dX6_candle_41 ?_
    obtain ⟨r2, g3, hc3, hf⟩ := ik_b2s hf
    have hM := (c_X6_tell l D cI cS o0 np0 kp0 tp0 r0 t0 sh0 f0 isk fnd (-1000001 : Int32) r2 g3 hc3)
    refine ik_goW (v := (some (.int r2))) (wc := (wz_X6of cI cS o0 np0 kp0 tp0 r0 t0 sh0 f0 isk fnd)) (w1 := (wz_X6of cI cS o0 np0 kp0 tp0 r0 t0 sh0 f0 isk g3)) [0, 1] [2, 3, 4, 5, 6, 7, 8, 9, 10, 11, 12, 13] 14 rfl rfl (wz_X6ofn cI cS o0 np0 kp0 tp0 r0 t0 sh0 f0 nw0 nc0 np1 np2 np3 nw1 nw2 nw3 nw4 nc1 nc2 isk g3 nhour nair nrub nz nnb nkd ncl ngr noc nlit ncold nccell ncpow nsp nwm ndr) rfl [(np0, .inr (1, [.ref nw0, .ref nc0, .ref np1, .int nhour, .int nair, .int nrub, .int nz, .ref np2, .ref np3])), (nw0, .inr (5, [.int nnb, .ref nw1, .ref nw2, .ref nw3, .ref nw4])), (nw1, .inl (cI, 16, .inl nkd)), (nw2, .inl (cI, 16, .inl ncl)), (nw3, .inl (cI, 16, .inl ngr)), (nw4, .inl (cI, 48, .inl noc)), (nc0, .inr (0, [.ref nc1, .ref nc2, .int nlit, .int ncold])), (nc1, .inl (cI, 6, .inl nccell)), (nc2, .inl (cI, 6, .inl ncpow)), (np1, .inl (cI, 10, .inl nsp)), (np2, .inl (cI, 16, .inl nwm)), (np3, .inl (cI, 8, .inl ndr))] rfl rfl rfl (by decide +kernel) (ik_runV (st := []) (As := [.int (-1000001 : Int32)]) C hM mv_X6_tell wl_5_16 ⟨rfl, rfl, Nat.le_of_ble_eq_true rfl, Nat.le_of_ble_eq_true rfl⟩ [0, 1] rfl (by decide +kernel) 0 rfl rfl rfl rfl (Nat.le_of_ble_eq_true rfl) dX6_candle_43 ⟨Nat.zero_le _, Nat.zero_le _⟩) rfl ?_
    obtain ⟨rfl, rfl, rfl, rfl⟩ := ik_e4 hf
    exact ik_iretW C hr hlk dX6_candle_46
  · have hf := ik_neg hc hf
    refine ik_iload_n C 2 rfl rfl dX6_candle_7 ?_
    refine ik_iconst (v := (0 : Int32)) C (by decide) dX6_candle_8 ?_
    refine ik_iconst (v := (1 : Int32)) C (by decide) dX6_candle_9 ?_
    obtain ⟨r2, hc2, hf⟩ := ik_b1s hf
    have hM := (c_X6_isWithin l D cI cS x2 (0 : Int32) (1 : Int32) r2 hc2)
    refine ik_goR (ik_runS (st := []) (As := [.int x2, .int (0 : Int32), .int (1 : Int32)]) C hM ms_X6_isWithin wl_5_10 ⟨rfl, rfl, Nat.le_of_ble_eq_true rfl, Nat.le_of_ble_eq_true rfl⟩ [] rfl (by decide +kernel) rfl rfl (Nat.le_of_ble_eq_true rfl) dX6_candle_10 ⟨Nat.zero_le _, Nat.zero_le _⟩) rfl ?_
    refine ik_if_eq C 40 dX6_candle_13 (by decide) (fun hc => ?_) (fun hc => ?_)
    · have hf := ik_pos hc hf
      refine ik_aload_n C 0 rfl rfl dX6_candle_40 ?_
      refine ik_ldc C wl_5_3 dX6_candle_41 ?_
      obtain ⟨r3, g4, hc4, hf⟩ := ik_b2s hf
      have hM := (c_X6_tell l D cI cS o0 np0 kp0 tp0 r0 t0 sh0 f0 isk fnd (-1000001 : Int32) r3 g4 hc4)
      refine ik_goW (v := (some (.int r3))) (wc := (wz_X6of cI cS o0 np0 kp0 tp0 r0 t0 sh0 f0 isk fnd)) (w1 := (wz_X6of cI cS o0 np0 kp0 tp0 r0 t0 sh0 f0 isk g4)) [0, 1] [2, 3, 4, 5, 6, 7, 8, 9, 10, 11, 12, 13] 14 rfl rfl (wz_X6ofn cI cS o0 np0 kp0 tp0 r0 t0 sh0 f0 nw0 nc0 np1 np2 np3 nw1 nw2 nw3 nw4 nc1 nc2 isk g4 nhour nair nrub nz nnb nkd ncl ngr noc nlit ncold nccell ncpow nsp nwm ndr) rfl [(np0, .inr (1, [.ref nw0, .ref nc0, .ref np1, .int nhour, .int nair, .int nrub, .int nz, .ref np2, .ref np3])), (nw0, .inr (5, [.int nnb, .ref nw1, .ref nw2, .ref nw3, .ref nw4])), (nw1, .inl (cI, 16, .inl nkd)), (nw2, .inl (cI, 16, .inl ncl)), (nw3, .inl (cI, 16, .inl ngr)), (nw4, .inl (cI, 48, .inl noc)), (nc0, .inr (0, [.ref nc1, .ref nc2, .int nlit, .int ncold])), (nc1, .inl (cI, 6, .inl nccell)), (nc2, .inl (cI, 6, .inl ncpow)), (np1, .inl (cI, 10, .inl nsp)), (np2, .inl (cI, 16, .inl nwm)), (np3, .inl (cI, 8, .inl ndr))] rfl rfl rfl (by decide +kernel) (ik_runV (st := []) (As := [.int (-1000001 : Int32)]) C hM mv_X6_tell wl_5_16 ⟨rfl, rfl, Nat.le_of_ble_eq_true rfl, Nat.le_of_ble_eq_true rfl⟩ [0, 1] rfl (by decide +kernel) 0 rfl rfl rfl rfl (Nat.le_of_ble_eq_true rfl) dX6_candle_43 ⟨Nat.zero_le _, Nat.zero_le _⟩) rfl ?_
      obtain ⟨rfl, rfl, rfl, rfl⟩ := ik_e4 hf
      exact ik_iretW C hr hlk dX6_candle_46
    · have hf := ik_neg hc hf
      refine ik_iload_n C 2 rfl rfl dX6_candle_16 ?_
      refine ik_if_ne C 30 dX6_candle_17 (by decide) (fun hc => ?_) (fun hc => ?_)
      · have hf := ik_neg hc hf
        refine ik_iload_n C 3 rfl rfl dX6_candle_30 ?_
        refine ik_iconst (v := (0 : Int32)) C (by decide) dX6_candle_31 ?_
        refine ik_bipush (v := (30 : Int32)) C (by decide) dX6_candle_32 ?_
        obtain ⟨r3, hc3, hf⟩ := ik_b1s hf
        have hM := (c_X6_isWithin l D cI cS x3 (0 : Int32) (30 : Int32) r3 hc3)
        refine ik_goR (ik_runS (st := []) (As := [.int x3, .int (0 : Int32), .int (30 : Int32)]) C hM ms_X6_isWithin wl_5_10 ⟨rfl, rfl, Nat.le_of_ble_eq_true rfl, Nat.le_of_ble_eq_true rfl⟩ [] rfl (by decide +kernel) rfl rfl (Nat.le_of_ble_eq_true rfl) dX6_candle_34 ⟨Nat.zero_le _, Nat.zero_le _⟩) rfl ?_
        refine ik_if_ne C 47 dX6_candle_37 (by decide) (fun hc => ?_) (fun hc => ?_)
        · have hf := ik_neg hc hf
          refine ik_iload_n C 2 rfl rfl dX6_candle_47 ?_
          refine ik_if_ne C 64 dX6_candle_48 (by decide) (fun hc => ?_) (fun hc => ?_)
          · have hf := ik_neg hc hf
            refine ik_aload_n C 0 rfl rfl dX6_candle_64 ?_
            refine ik_get C inlX6 0 rfl rfl 0 (by decide) wl_1_15 rfl (v := .ref np0) rfl dX6_candle_65 ?_
            refine ik_get C inlX1 2 rfl rfl 1 (by decide) wl_13_8 rfl (v := .ref nc0) rfl dX6_candle_68 ?_
            refine ik_get C inlX0 8 rfl rfl 1 (by decide) wl_15_8 rfl (v := .ref nc2) rfl dX6_candle_71 ?_
            refine ik_astore C [(4, .ref nc2), (0, .ref o0), (1, .int x1), (2, .int x2), (3, .int x3)] (by decide) rfl dX6_candle_74 ?_
            refine ik_aload C 0 rfl dX6_candle_76 ?_
            refine ik_iload_n C 2 rfl rfl dX6_candle_78 ?_
            have hg := ik_gdi hf
            have hf := ik_gdk hf
            refine ik_iald C 10 rfl hg dX6_candle_79 ?_
            refine ik_istore C [(5, .int (ncpow (x1).toNatClampNeg)), (4, .ref nc2), (0, .ref o0), (1, .int x1), (2, .int x2), (3, .int x3)] (by decide) rfl dX6_candle_80 ?_
            refine ik_aload C 1 rfl dX6_candle_82 ?_
            refine ik_iload_n C 3 rfl rfl dX6_candle_84 ?_
            refine ik_iload_n C 5 rfl rfl dX6_candle_85 ?_
            have hg := ik_gdi hf
            have hf := ik_gdk hf
            refine ik_iast C 10 rfl hg (wz_X6ofn cI cS o0 np0 kp0 tp0 r0 t0 sh0 f0 nw0 nc0 np1 np2 np3 nw1 nw2 nw3 nw4 nc1 nc2 isk fnd nhour nair nrub nz nnb nkd ncl ngr noc nlit ncold nccell (upd ncpow (x1).toNatClampNeg x3) nsp nwm ndr) rfl dX6_candle_86 ?_
            refine ik_iload C 0 rfl dX6_candle_87 ?_
            obtain ⟨rfl, rfl, rfl, rfl⟩ := ik_e4 hf
            exact ik_iretW C hr hlk dX6_candle_89
          · have hf := ik_pos hc hf
            refine ik_aload_n C 0 rfl rfl dX6_candle_51 ?_
            refine ik_get C inlX6 0 rfl rfl 0 (by decide) wl_1_15 rfl (v := .ref np0) rfl dX6_candle_52 ?_
            refine ik_get C inlX1 2 rfl rfl 1 (by decide) wl_13_8 rfl (v := .ref nc0) rfl dX6_candle_55 ?_
            refine ik_get C inlX0 8 rfl rfl 0 (by decide) wl_15_7 rfl (v := .ref nc1) rfl dX6_candle_58 ?_
            refine ik_goto C 74 dX6_candle_61 (by decide) ?_
            refine ik_astore C [(4, .ref nc1), (0, .ref o0), (1, .int x1), (2, .int x2), (3, .int x3)] (by decide) rfl dX6_candle_74 ?_
            refine ik_aload C 0 rfl dX6_candle_76 ?_
            refine ik_iload_n C 2 rfl rfl dX6_candle_78 ?_
            have hg := ik_gdi hf
            have hf := ik_gdk hf
            refine ik_iald C 9 rfl hg dX6_candle_79 ?_
            refine ik_istore C [(5, .int (nccell (x1).toNatClampNeg)), (4, .ref nc1), (0, .ref o0), (1, .int x1), (2, .int x2), (3, .int x3)] (by decide) rfl dX6_candle_80 ?_
            refine ik_aload C 1 rfl dX6_candle_82 ?_
            refine ik_iload_n C 3 rfl rfl dX6_candle_84 ?_
            refine ik_iload_n C 5 rfl rfl dX6_candle_85 ?_
            have hg := ik_gdi hf
            have hf := ik_gdk hf
            refine ik_iast C 9 rfl hg (wz_X6ofn cI cS o0 np0 kp0 tp0 r0 t0 sh0 f0 nw0 nc0 np1 np2 np3 nw1 nw2 nw3 nw4 nc1 nc2 isk fnd nhour nair nrub nz nnb nkd ncl ngr noc nlit ncold (upd nccell (x1).toNatClampNeg x3) ncpow nsp nwm ndr) rfl dX6_candle_86 ?_
            refine ik_iload C 0 rfl dX6_candle_87 ?_
            obtain ⟨rfl, rfl, rfl, rfl⟩ := ik_e4 hf
            exact ik_iretW C hr hlk dX6_candle_89
        · have hf := ik_pos hc hf
          refine ik_aload_n C 0 rfl rfl dX6_candle_40 ?_
          refine ik_ldc C wl_5_3 dX6_candle_41 ?_
          obtain ⟨r4, g5, hc5, hf⟩ := ik_b2s hf
          have hM := (c_X6_tell l D cI cS o0 np0 kp0 tp0 r0 t0 sh0 f0 isk fnd (-1000001 : Int32) r4 g5 hc5)
          refine ik_goW (v := (some (.int r4))) (wc := (wz_X6of cI cS o0 np0 kp0 tp0 r0 t0 sh0 f0 isk fnd)) (w1 := (wz_X6of cI cS o0 np0 kp0 tp0 r0 t0 sh0 f0 isk g5)) [0, 1] [2, 3, 4, 5, 6, 7, 8, 9, 10, 11, 12, 13] 14 rfl rfl (wz_X6ofn cI cS o0 np0 kp0 tp0 r0 t0 sh0 f0 nw0 nc0 np1 np2 np3 nw1 nw2 nw3 nw4 nc1 nc2 isk g5 nhour nair nrub nz nnb nkd ncl ngr noc nlit ncold nccell ncpow nsp nwm ndr) rfl [(np0, .inr (1, [.ref nw0, .ref nc0, .ref np1, .int nhour, .int nair, .int nrub, .int nz, .ref np2, .ref np3])), (nw0, .inr (5, [.int nnb, .ref nw1, .ref nw2, .ref nw3, .ref nw4])), (nw1, .inl (cI, 16, .inl nkd)), (nw2, .inl (cI, 16, .inl ncl)), (nw3, .inl (cI, 16, .inl ngr)), (nw4, .inl (cI, 48, .inl noc)), (nc0, .inr (0, [.ref nc1, .ref nc2, .int nlit, .int ncold])), (nc1, .inl (cI, 6, .inl nccell)), (nc2, .inl (cI, 6, .inl ncpow)), (np1, .inl (cI, 10, .inl nsp)), (np2, .inl (cI, 16, .inl nwm)), (np3, .inl (cI, 8, .inl ndr))] rfl rfl rfl (by decide +kernel) (ik_runV (st := []) (As := [.int (-1000001 : Int32)]) C hM mv_X6_tell wl_5_16 ⟨rfl, rfl, Nat.le_of_ble_eq_true rfl, Nat.le_of_ble_eq_true rfl⟩ [0, 1] rfl (by decide +kernel) 0 rfl rfl rfl rfl (Nat.le_of_ble_eq_true rfl) dX6_candle_43 ⟨Nat.zero_le _, Nat.zero_le _⟩) rfl ?_
          obtain ⟨rfl, rfl, rfl, rfl⟩ := ik_e4 hf
          exact ik_iretW C hr hlk dX6_candle_46
      · have hf := ik_pos hc hf
        refine ik_iload_n C 3 rfl rfl dX6_candle_20 ?_
        obtain ⟨r3, hc3, hf⟩ := ik_b1s hf
        have hM := (c_X6_isCell l D cI cS x3 r3 hc3)
        refine ik_goR (ik_runS (st := []) (As := [.int x3]) C hM ms_X6_isCell wl_5_13 ⟨rfl, rfl, Nat.le_of_ble_eq_true rfl, Nat.le_of_ble_eq_true rfl⟩ [] rfl (by decide +kernel) rfl rfl (Nat.le_of_ble_eq_true rfl) dX6_candle_21 ⟨Nat.zero_le _, Nat.zero_le _⟩) rfl ?_
        refine ik_if_eq C 40 dX6_candle_24 (by decide) (fun hc => ?_) (fun hc => ?_)
        · have hf := ik_pos hc hf
          refine ik_aload_n C 0 rfl rfl dX6_candle_40 ?_
          refine ik_ldc C wl_5_3 dX6_candle_41 ?_
          obtain ⟨r4, g5, hc5, hf⟩ := ik_b2s hf
          have hM := (c_X6_tell l D cI cS o0 np0 kp0 tp0 r0 t0 sh0 f0 isk fnd (-1000001 : Int32) r4 g5 hc5)
          refine ik_goW (v := (some (.int r4))) (wc := (wz_X6of cI cS o0 np0 kp0 tp0 r0 t0 sh0 f0 isk fnd)) (w1 := (wz_X6of cI cS o0 np0 kp0 tp0 r0 t0 sh0 f0 isk g5)) [0, 1] [2, 3, 4, 5, 6, 7, 8, 9, 10, 11, 12, 13] 14 rfl rfl (wz_X6ofn cI cS o0 np0 kp0 tp0 r0 t0 sh0 f0 nw0 nc0 np1 np2 np3 nw1 nw2 nw3 nw4 nc1 nc2 isk g5 nhour nair nrub nz nnb nkd ncl ngr noc nlit ncold nccell ncpow nsp nwm ndr) rfl [(np0, .inr (1, [.ref nw0, .ref nc0, .ref np1, .int nhour, .int nair, .int nrub, .int nz, .ref np2, .ref np3])), (nw0, .inr (5, [.int nnb, .ref nw1, .ref nw2, .ref nw3, .ref nw4])), (nw1, .inl (cI, 16, .inl nkd)), (nw2, .inl (cI, 16, .inl ncl)), (nw3, .inl (cI, 16, .inl ngr)), (nw4, .inl (cI, 48, .inl noc)), (nc0, .inr (0, [.ref nc1, .ref nc2, .int nlit, .int ncold])), (nc1, .inl (cI, 6, .inl nccell)), (nc2, .inl (cI, 6, .inl ncpow)), (np1, .inl (cI, 10, .inl nsp)), (np2, .inl (cI, 16, .inl nwm)), (np3, .inl (cI, 8, .inl ndr))] rfl rfl rfl (by decide +kernel) (ik_runV (st := []) (As := [.int (-1000001 : Int32)]) C hM mv_X6_tell wl_5_16 ⟨rfl, rfl, Nat.le_of_ble_eq_true rfl, Nat.le_of_ble_eq_true rfl⟩ [0, 1] rfl (by decide +kernel) 0 rfl rfl rfl rfl (Nat.le_of_ble_eq_true rfl) dX6_candle_43 ⟨Nat.zero_le _, Nat.zero_le _⟩) rfl ?_
          obtain ⟨rfl, rfl, rfl, rfl⟩ := ik_e4 hf
          exact ik_iretW C hr hlk dX6_candle_46
        · have hf := ik_neg hc hf
          refine ik_goto C 47 dX6_candle_27 (by decide) ?_
          refine ik_iload_n C 2 rfl rfl dX6_candle_47 ?_
          refine ik_if_ne C 64 dX6_candle_48 (by decide) (fun hc => ?_) (fun hc => ?_)
          · have hf := ik_neg hc hf
            refine ik_aload_n C 0 rfl rfl dX6_candle_64 ?_
            refine ik_get C inlX6 0 rfl rfl 0 (by decide) wl_1_15 rfl (v := .ref np0) rfl dX6_candle_65 ?_
            refine ik_get C inlX1 2 rfl rfl 1 (by decide) wl_13_8 rfl (v := .ref nc0) rfl dX6_candle_68 ?_
            refine ik_get C inlX0 8 rfl rfl 1 (by decide) wl_15_8 rfl (v := .ref nc2) rfl dX6_candle_71 ?_
            refine ik_astore C [(4, .ref nc2), (0, .ref o0), (1, .int x1), (2, .int x2), (3, .int x3)] (by decide) rfl dX6_candle_74 ?_
            refine ik_aload C 0 rfl dX6_candle_76 ?_
            refine ik_iload_n C 2 rfl rfl dX6_candle_78 ?_
            have hg := ik_gdi hf
            have hf := ik_gdk hf
            refine ik_iald C 10 rfl hg dX6_candle_79 ?_
            refine ik_istore C [(5, .int (ncpow (x1).toNatClampNeg)), (4, .ref nc2), (0, .ref o0), (1, .int x1), (2, .int x2), (3, .int x3)] (by decide) rfl dX6_candle_80 ?_
            refine ik_aload C 1 rfl dX6_candle_82 ?_
            refine ik_iload_n C 3 rfl rfl dX6_candle_84 ?_
            refine ik_iload_n C 5 rfl rfl dX6_candle_85 ?_
            have hg := ik_gdi hf
            have hf := ik_gdk hf
            refine ik_iast C 10 rfl hg (wz_X6ofn cI cS o0 np0 kp0 tp0 r0 t0 sh0 f0 nw0 nc0 np1 np2 np3 nw1 nw2 nw3 nw4 nc1 nc2 isk fnd nhour nair nrub nz nnb nkd ncl ngr noc nlit ncold nccell (upd ncpow (x1).toNatClampNeg x3) nsp nwm ndr) rfl dX6_candle_86 ?_
            refine ik_iload C 0 rfl dX6_candle_87 ?_
            obtain ⟨rfl, rfl, rfl, rfl⟩ := ik_e4 hf
            exact ik_iretW C hr hlk dX6_candle_89
          · have hf := ik_pos hc hf
            refine ik_aload_n C 0 rfl rfl dX6_candle_51 ?_
            refine ik_get C inlX6 0 rfl rfl 0 (by decide) wl_1_15 rfl (v := .ref np0) rfl dX6_candle_52 ?_
            refine ik_get C inlX1 2 rfl rfl 1 (by decide) wl_13_8 rfl (v := .ref nc0) rfl dX6_candle_55 ?_
            refine ik_get C inlX0 8 rfl rfl 0 (by decide) wl_15_7 rfl (v := .ref nc1) rfl dX6_candle_58 ?_
            refine ik_goto C 74 dX6_candle_61 (by decide) ?_
            refine ik_astore C [(4, .ref nc1), (0, .ref o0), (1, .int x1), (2, .int x2), (3, .int x3)] (by decide) rfl dX6_candle_74 ?_
            refine ik_aload C 0 rfl dX6_candle_76 ?_
            refine ik_iload_n C 2 rfl rfl dX6_candle_78 ?_
            have hg := ik_gdi hf
            have hf := ik_gdk hf
            refine ik_iald C 9 rfl hg dX6_candle_79 ?_
            refine ik_istore C [(5, .int (nccell (x1).toNatClampNeg)), (4, .ref nc1), (0, .ref o0), (1, .int x1), (2, .int x2), (3, .int x3)] (by decide) rfl dX6_candle_80 ?_
            refine ik_aload C 1 rfl dX6_candle_82 ?_
            refine ik_iload_n C 3 rfl rfl dX6_candle_84 ?_
            refine ik_iload_n C 5 rfl rfl dX6_candle_85 ?_
            have hg := ik_gdi hf
            have hf := ik_gdk hf
            refine ik_iast C 9 rfl hg (wz_X6ofn cI cS o0 np0 kp0 tp0 r0 t0 sh0 f0 nw0 nc0 np1 np2 np3 nw1 nw2 nw3 nw4 nc1 nc2 isk fnd nhour nair nrub nz nnb nkd ncl ngr noc nlit ncold (upd nccell (x1).toNatClampNeg x3) ncpow nsp nwm ndr) rfl dX6_candle_86 ?_
            refine ik_iload C 0 rfl dX6_candle_87 ?_
            obtain ⟨rfl, rfl, rfl, rfl⟩ := ik_e4 hf
            exact ik_iretW C hr hlk dX6_candle_89
theorem mv_X6_lit : ik_V yX6_lit RX6 cX6_lit 4 (some .int) 2 := ⟨wl_15_22, wl_15_23, wl_1_2, wl_16_0, by decide +kernel⟩
set_option maxHeartbeats 4000000 in
set_option maxRecDepth 100000 in
theorem c_X6_lit (l : Launch) (D : va_G) (cI cS : ClassId) (o0 np0 kp0 tp0 r0 t0 sh0 f0 nw0 nc0 np1 np2 np3 nw1 nw2 nw3 nw4 nc1 nc2 : Nat) (isk : Int32) (fnd : Nat → Int32) (nhour : Int32) (nair : Int32) (nrub : Int32) (nz : Int32) (nnb : Int32) (nkd : Nat → Int32) (ncl : Nat → Int32) (ngr : Nat → Int32) (noc : Nat → Int32) (nlit : Int32) (ncold : Int32) (nccell : Nat → Int32) (ncpow : Nat → Int32) (nsp : Nat → Int32) (nwm : Nat → Int32) (ndr : Nat → Int32) (x1 : Int32) (x2 : Int32) (R : Int32) (fnd_r : Nat → Int32) (nlit_r : Int32) (hf : f_X6_lit fnd nlit x1 x2 = some (R, fnd_r, nlit_r)) : Met l yX6_lit (ik_ws yX6_lit cX6_lit 4 (some .int)) ({ frames := 2, cells := 0, slots := 0, locals := 44 } : Room) (ik_P D cI cS [.ref o0, .int x1, .int x2] (wz_X6ofn cI cS o0 np0 kp0 tp0 r0 t0 sh0 f0 nw0 nc0 np1 np2 np3 nw1 nw2 nw3 nw4 nc1 nc2 isk fnd nhour nair nrub nz nnb nkd ncl ngr noc nlit ncold nccell ncpow nsp nwm ndr)) (ik_Q (some (.int R)) D (wz_X6ofn cI cS o0 np0 kp0 tp0 r0 t0 sh0 f0 nw0 nc0 np1 np2 np3 nw1 nw2 nw3 nw4 nc1 nc2 isk fnd_r nhour nair nrub nz nnb nkd ncl ngr noc nlit_r ncold nccell ncpow nsp nwm ndr) (wz_X6ofn cI cS o0 np0 kp0 tp0 r0 t0 sh0 f0 nw0 nc0 np1 np2 np3 nw1 nw2 nw3 nw4 nc1 nc2 isk fnd nhour nair nrub nz nnb nkd ncl ngr noc nlit ncold nccell ncpow nsp nwm ndr)) 0 0 (ik_in (wz_X6ofn cI cS o0 np0 kp0 tp0 r0 t0 sh0 f0 nw0 nc0 np1 np2 np3 nw1 nw2 nw3 nw4 nc1 nc2 isk fnd nhour nair nrub nz nnb nkd ncl ngr noc nlit ncold nccell ncpow nsp nwm ndr)) := by
  refine ik_metW RX6 rfl (by decide) (Nat.le_of_ble_eq_true rfl) [(0, .ref o0), (1, .int x1), (2, .int x2)] rfl ?_
  intro p e s m below meth c C hr hlk
  unfold f_X6_lit at hf
  refine ik_iload_n C 1 rfl rfl dX6_lit_0 ?_
  obtain ⟨r1, hc1, hf⟩ := ik_b1s hf
  have hM := (c_X6_isCandle l D cI cS x1 r1 hc1)
  refine ik_goR (ik_runS (st := []) (As := [.int x1]) C hM ms_X6_isCandle wl_15_9 ⟨rfl, rfl, Nat.le_of_ble_eq_true rfl, Nat.le_of_ble_eq_true rfl⟩ [] rfl (by decide +kernel) rfl rfl (Nat.le_of_ble_eq_true rfl) dX6_lit_1 ⟨Nat.zero_le _, Nat.zero_le _⟩) rfl ?_
  refine ik_if_ne C 14 dX6_lit_4 (by decide) (fun hc => ?_) (fun hc => ?_)
  · have hf := ik_neg hc hf
    refine ik_aload_n C 0 rfl rfl dX6_lit_14 ?_
    refine ik_get C inlX6 0 rfl rfl 0 (by decide) wl_1_15 rfl (v := .ref np0) rfl dX6_lit_15 ?_
    refine ik_get C inlX1 2 rfl rfl 1 (by decide) wl_13_8 rfl (v := .ref nc0) rfl dX6_lit_18 ?_
    refine ik_iload_n C 1 rfl rfl dX6_lit_21 ?_
    obtain ⟨r2, hc2, hf⟩ := ik_b1s hf
    have hM := (c_X0_isLit l D cI cS nc0 nc1 nc2 nlit ncold nccell ncpow x1 r2 hc2)
    refine ik_goR (ik_runV (st := []) (As := [.int x1]) C hM mv_X0_isLit wl_16_1 ⟨rfl, rfl, Nat.le_of_ble_eq_true rfl, Nat.le_of_ble_eq_true rfl⟩ [8, 9, 10] rfl (by decide +kernel) 8 rfl rfl rfl rfl (Nat.le_of_ble_eq_true rfl) dX6_lit_22 ⟨Nat.zero_le _, Nat.zero_le _⟩) rfl ?_
    refine ik_istore_n C [(3, .int r2), (0, .ref o0), (1, .int x1), (2, .int x2)] rfl (by decide) rfl dX6_lit_25 ?_
    refine ik_aload_n C 1 rfl rfl dX6_lit_26 ?_
    refine ik_get C inlX6 0 rfl rfl 0 (by decide) wl_1_15 rfl (v := .ref np0) rfl dX6_lit_27 ?_
    refine ik_get C inlX1 2 rfl rfl 1 (by decide) wl_13_8 rfl (v := .ref nc0) rfl dX6_lit_30 ?_
    refine ik_iload_n C 2 rfl rfl dX6_lit_33 ?_
    refine ik_iload_n C 3 rfl rfl dX6_lit_34 ?_
    obtain ⟨g3, hc3, hf⟩ := ik_b1s hf
    have hM := (c_X0_setLit l D cI cS nc0 nc1 nc2 nlit ncold nccell ncpow x1 x2 g3 hc3)
    refine ik_goW (v := none) (wc := (wz_X0 cI cS nc0 nc1 nc2 nlit ncold nccell ncpow)) (w1 := (wz_X0 cI cS nc0 nc1 nc2 g3 ncold nccell ncpow)) [8, 9, 10] [0, 1, 2, 3, 4, 5, 6, 7, 11, 12, 13] 14 rfl rfl (wz_X6ofn cI cS o0 np0 kp0 tp0 r0 t0 sh0 f0 nw0 nc0 np1 np2 np3 nw1 nw2 nw3 nw4 nc1 nc2 isk fnd nhour nair nrub nz nnb nkd ncl ngr noc g3 ncold nccell ncpow nsp nwm ndr) rfl [(o0, .inr (6, [.ref np0, .ref kp0, .ref tp0, .int isk, .ref r0, .ref t0, .ref sh0, .ref f0])), (f0, .inl (cI, 7, .inl fnd)), (np0, .inr (1, [.ref nw0, .ref nc0, .ref np1, .int nhour, .int nair, .int nrub, .int nz, .ref np2, .ref np3])), (nw0, .inr (5, [.int nnb, .ref nw1, .ref nw2, .ref nw3, .ref nw4])), (nw1, .inl (cI, 16, .inl nkd)), (nw2, .inl (cI, 16, .inl ncl)), (nw3, .inl (cI, 16, .inl ngr)), (nw4, .inl (cI, 48, .inl noc)), (np1, .inl (cI, 10, .inl nsp)), (np2, .inl (cI, 16, .inl nwm)), (np3, .inl (cI, 8, .inl ndr))] rfl rfl rfl (by decide +kernel) (ik_runV (st := []) (As := [.int x1, .int x2]) C hM mv_X0_setLit wl_16_2 ⟨rfl, rfl, Nat.le_of_ble_eq_true rfl, Nat.le_of_ble_eq_true rfl⟩ [8, 9, 10] rfl (by decide +kernel) 8 rfl rfl rfl rfl (Nat.le_of_ble_eq_true rfl) dX6_lit_35 ⟨Nat.zero_le _, Nat.zero_le _⟩) rfl ?_
    refine ik_iload_n C 0 rfl rfl dX6_lit_38 ?_
    refine ik_if_eq C 46 dX6_lit_39 (by decide) (fun hc => ?_) (fun hc => ?_)
    · have hf := ik_pos hc hf
      refine ik_iconst (v := (0 : Int32)) C (by decide) dX6_lit_46 ?_
      obtain ⟨rfl, rfl, rfl⟩ := ik_e3 hf
      exact ik_iretW C hr hlk dX6_lit_47
    · have hf := ik_neg hc hf
      refine ik_iconst (v := (1 : Int32)) C (by decide) dX6_lit_42 ?_
      refine ik_goto C 47 dX6_lit_43 (by decide) ?_
      obtain ⟨rfl, rfl, rfl⟩ := ik_e3 hf
      exact ik_iretW C hr hlk dX6_lit_47
  · have hf := ik_pos hc hf
    refine ik_aload_n C 0 rfl rfl dX6_lit_7 ?_
    refine ik_ldc C wl_5_3 dX6_lit_8 ?_
    obtain ⟨r2, g3, hc3, hf⟩ := ik_b2s hf
    have hM := (c_X6_tell l D cI cS o0 np0 kp0 tp0 r0 t0 sh0 f0 isk fnd (-1000001 : Int32) r2 g3 hc3)
    refine ik_goW (v := (some (.int r2))) (wc := (wz_X6of cI cS o0 np0 kp0 tp0 r0 t0 sh0 f0 isk fnd)) (w1 := (wz_X6of cI cS o0 np0 kp0 tp0 r0 t0 sh0 f0 isk g3)) [0, 1] [2, 3, 4, 5, 6, 7, 8, 9, 10, 11, 12, 13] 14 rfl rfl (wz_X6ofn cI cS o0 np0 kp0 tp0 r0 t0 sh0 f0 nw0 nc0 np1 np2 np3 nw1 nw2 nw3 nw4 nc1 nc2 isk g3 nhour nair nrub nz nnb nkd ncl ngr noc nlit ncold nccell ncpow nsp nwm ndr) rfl [(np0, .inr (1, [.ref nw0, .ref nc0, .ref np1, .int nhour, .int nair, .int nrub, .int nz, .ref np2, .ref np3])), (nw0, .inr (5, [.int nnb, .ref nw1, .ref nw2, .ref nw3, .ref nw4])), (nw1, .inl (cI, 16, .inl nkd)), (nw2, .inl (cI, 16, .inl ncl)), (nw3, .inl (cI, 16, .inl ngr)), (nw4, .inl (cI, 48, .inl noc)), (nc0, .inr (0, [.ref nc1, .ref nc2, .int nlit, .int ncold])), (nc1, .inl (cI, 6, .inl nccell)), (nc2, .inl (cI, 6, .inl ncpow)), (np1, .inl (cI, 10, .inl nsp)), (np2, .inl (cI, 16, .inl nwm)), (np3, .inl (cI, 8, .inl ndr))] rfl rfl rfl (by decide +kernel) (ik_runV (st := []) (As := [.int (-1000001 : Int32)]) C hM mv_X6_tell wl_5_16 ⟨rfl, rfl, Nat.le_of_ble_eq_true rfl, Nat.le_of_ble_eq_true rfl⟩ [0, 1] rfl (by decide +kernel) 0 rfl rfl rfl rfl (Nat.le_of_ble_eq_true rfl) dX6_lit_10 ⟨Nat.zero_le _, Nat.zero_le _⟩) rfl ?_
    obtain ⟨rfl, rfl, rfl⟩ := ik_e3 hf
    exact ik_iretW C hr hlk dX6_lit_13
theorem mv_X6_cold : ik_V yX6_cold RX6 cX6_cold 3 (some .int) 1 := ⟨wl_16_11, wl_16_12, wl_1_2, wl_16_13, by decide +kernel⟩
set_option maxHeartbeats 4000000 in
set_option maxRecDepth 100000 in
theorem c_X6_cold (l : Launch) (D : va_G) (cI cS : ClassId) (o0 np0 kp0 tp0 r0 t0 sh0 f0 nw0 nc0 np1 np2 np3 nw1 nw2 nw3 nw4 nc1 nc2 : Nat) (isk : Int32) (fnd : Nat → Int32) (nhour : Int32) (nair : Int32) (nrub : Int32) (nz : Int32) (nnb : Int32) (nkd : Nat → Int32) (ncl : Nat → Int32) (ngr : Nat → Int32) (noc : Nat → Int32) (nlit : Int32) (ncold : Int32) (nccell : Nat → Int32) (ncpow : Nat → Int32) (nsp : Nat → Int32) (nwm : Nat → Int32) (ndr : Nat → Int32) (x1 : Int32) (R : Int32) (fnd_r : Nat → Int32) (ncold_r : Int32) (hf : f_X6_cold fnd ncold x1 = some (R, fnd_r, ncold_r)) : Met l yX6_cold (ik_ws yX6_cold cX6_cold 3 (some .int)) ({ frames := 2, cells := 0, slots := 0, locals := 44 } : Room) (ik_P D cI cS [.ref o0, .int x1] (wz_X6ofn cI cS o0 np0 kp0 tp0 r0 t0 sh0 f0 nw0 nc0 np1 np2 np3 nw1 nw2 nw3 nw4 nc1 nc2 isk fnd nhour nair nrub nz nnb nkd ncl ngr noc nlit ncold nccell ncpow nsp nwm ndr)) (ik_Q (some (.int R)) D (wz_X6ofn cI cS o0 np0 kp0 tp0 r0 t0 sh0 f0 nw0 nc0 np1 np2 np3 nw1 nw2 nw3 nw4 nc1 nc2 isk fnd_r nhour nair nrub nz nnb nkd ncl ngr noc nlit ncold_r nccell ncpow nsp nwm ndr) (wz_X6ofn cI cS o0 np0 kp0 tp0 r0 t0 sh0 f0 nw0 nc0 np1 np2 np3 nw1 nw2 nw3 nw4 nc1 nc2 isk fnd nhour nair nrub nz nnb nkd ncl ngr noc nlit ncold nccell ncpow nsp nwm ndr)) 0 0 (ik_in (wz_X6ofn cI cS o0 np0 kp0 tp0 r0 t0 sh0 f0 nw0 nc0 np1 np2 np3 nw1 nw2 nw3 nw4 nc1 nc2 isk fnd nhour nair nrub nz nnb nkd ncl ngr noc nlit ncold nccell ncpow nsp nwm ndr)) := by
  refine ik_metW RX6 rfl (by decide) (Nat.le_of_ble_eq_true rfl) [(0, .ref o0), (1, .int x1)] rfl ?_
  intro p e s m below meth c C hr hlk
  unfold f_X6_cold at hf
  refine ik_iload_n C 1 rfl rfl dX6_cold_0 ?_
  refine ik_bipush (v := (-20 : Int32)) C (by decide) dX6_cold_1 ?_
  refine ik_bipush (v := (20 : Int32)) C (by decide) dX6_cold_3 ?_
  obtain ⟨r1, hc1, hf⟩ := ik_b1s hf
  have hM := (c_X6_isWithin l D cI cS x1 (-20 : Int32) (20 : Int32) r1 hc1)
  refine ik_goR (ik_runS (st := []) (As := [.int x1, .int (-20 : Int32), .int (20 : Int32)]) C hM ms_X6_isWithin wl_5_10 ⟨rfl, rfl, Nat.le_of_ble_eq_true rfl, Nat.le_of_ble_eq_true rfl⟩ [] rfl (by decide +kernel) rfl rfl (Nat.le_of_ble_eq_true rfl) dX6_cold_5 ⟨Nat.zero_le _, Nat.zero_le _⟩) rfl ?_
  refine ik_if_ne C 18 dX6_cold_8 (by decide) (fun hc => ?_) (fun hc => ?_)
  · have hf := ik_neg hc hf
    refine ik_aload_n C 0 rfl rfl dX6_cold_18 ?_
    refine ik_get C inlX6 0 rfl rfl 0 (by decide) wl_1_15 rfl (v := .ref np0) rfl dX6_cold_19 ?_
    refine ik_get C inlX1 2 rfl rfl 1 (by decide) wl_13_8 rfl (v := .ref nc0) rfl dX6_cold_22 ?_
    refine ik_get C inlX0 8 rfl rfl 3 (by decide) wl_16_14 rfl (v := .int ncold) rfl dX6_cold_25 ?_
    refine ik_istore_n C [(2, .int ncold), (0, .ref o0), (1, .int x1)] rfl (by decide) rfl dX6_cold_28 ?_
    refine ik_aload_n C 1 rfl rfl dX6_cold_29 ?_
    refine ik_get C inlX6 0 rfl rfl 0 (by decide) wl_1_15 rfl (v := .ref np0) rfl dX6_cold_30 ?_
    refine ik_get C inlX1 2 rfl rfl 1 (by decide) wl_13_8 rfl (v := .ref nc0) rfl dX6_cold_33 ?_
    refine ik_iload_n C 2 rfl rfl dX6_cold_36 ?_
    refine ik_put C inlX0 tyX0 tyX0_ok nmX0 8 rfl rfl 3 (by decide) wl_16_14 rfl (by decide) rfl rfl (Nat.le_of_ble_eq_true rfl) (wz_X6ofn cI cS o0 np0 kp0 tp0 r0 t0 sh0 f0 nw0 nc0 np1 np2 np3 nw1 nw2 nw3 nw4 nc1 nc2 isk fnd nhour nair nrub nz nnb nkd ncl ngr noc nlit x1 nccell ncpow nsp nwm ndr) rfl dX6_cold_37 ?_
    refine ik_iload_n C 0 rfl rfl dX6_cold_40 ?_
    obtain ⟨rfl, rfl, rfl⟩ := ik_e3 hf
    exact ik_iretW C hr hlk dX6_cold_41
  · have hf := ik_pos hc hf
    refine ik_aload_n C 0 rfl rfl dX6_cold_11 ?_
    refine ik_ldc C wl_5_3 dX6_cold_12 ?_
    obtain ⟨r2, g3, hc3, hf⟩ := ik_b2s hf
    have hM := (c_X6_tell l D cI cS o0 np0 kp0 tp0 r0 t0 sh0 f0 isk fnd (-1000001 : Int32) r2 g3 hc3)
    refine ik_goW (v := (some (.int r2))) (wc := (wz_X6of cI cS o0 np0 kp0 tp0 r0 t0 sh0 f0 isk fnd)) (w1 := (wz_X6of cI cS o0 np0 kp0 tp0 r0 t0 sh0 f0 isk g3)) [0, 1] [2, 3, 4, 5, 6, 7, 8, 9, 10, 11, 12, 13] 14 rfl rfl (wz_X6ofn cI cS o0 np0 kp0 tp0 r0 t0 sh0 f0 nw0 nc0 np1 np2 np3 nw1 nw2 nw3 nw4 nc1 nc2 isk g3 nhour nair nrub nz nnb nkd ncl ngr noc nlit ncold nccell ncpow nsp nwm ndr) rfl [(np0, .inr (1, [.ref nw0, .ref nc0, .ref np1, .int nhour, .int nair, .int nrub, .int nz, .ref np2, .ref np3])), (nw0, .inr (5, [.int nnb, .ref nw1, .ref nw2, .ref nw3, .ref nw4])), (nw1, .inl (cI, 16, .inl nkd)), (nw2, .inl (cI, 16, .inl ncl)), (nw3, .inl (cI, 16, .inl ngr)), (nw4, .inl (cI, 48, .inl noc)), (nc0, .inr (0, [.ref nc1, .ref nc2, .int nlit, .int ncold])), (nc1, .inl (cI, 6, .inl nccell)), (nc2, .inl (cI, 6, .inl ncpow)), (np1, .inl (cI, 10, .inl nsp)), (np2, .inl (cI, 16, .inl nwm)), (np3, .inl (cI, 8, .inl ndr))] rfl rfl rfl (by decide +kernel) (ik_runV (st := []) (As := [.int (-1000001 : Int32)]) C hM mv_X6_tell wl_5_16 ⟨rfl, rfl, Nat.le_of_ble_eq_true rfl, Nat.le_of_ble_eq_true rfl⟩ [0, 1] rfl (by decide +kernel) 0 rfl rfl rfl rfl (Nat.le_of_ble_eq_true rfl) dX6_cold_14 ⟨Nat.zero_le _, Nat.zero_le _⟩) rfl ?_
    obtain ⟨rfl, rfl, rfl⟩ := ik_e3 hf
    exact ik_iretW C hr hlk dX6_cold_17
theorem mv_X6_warmth : ik_V yX6_warmth RX6 cX6_warmth 2 (some .int) 1 := ⟨wl_16_22, wl_16_23, wl_1_2, wl_17_0, by decide +kernel⟩
set_option maxHeartbeats 4000000 in
set_option maxRecDepth 100000 in
theorem c_X6_warmth (l : Launch) (D : va_G) (cI cS : ClassId) (o0 np0 kp0 tp0 r0 t0 sh0 f0 nw0 nc0 np1 np2 np3 nw1 nw2 nw3 nw4 nc1 nc2 : Nat) (isk : Int32) (fnd : Nat → Int32) (nhour : Int32) (nair : Int32) (nrub : Int32) (nz : Int32) (nnb : Int32) (nkd : Nat → Int32) (ncl : Nat → Int32) (ngr : Nat → Int32) (noc : Nat → Int32) (nlit : Int32) (ncold : Int32) (nccell : Nat → Int32) (ncpow : Nat → Int32) (nsp : Nat → Int32) (nwm : Nat → Int32) (ndr : Nat → Int32) (x1 : Int32) (R : Int32) (fnd_r : Nat → Int32) (hf : f_X6_warmth fnd nlit ncold nccell ncpow x1 = some (R, fnd_r)) : Met l yX6_warmth (ik_ws yX6_warmth cX6_warmth 2 (some .int)) ({ frames := 3, cells := 0, slots := 0, locals := 65 } : Room) (ik_P D cI cS [.ref o0, .int x1] (wz_X6ofn cI cS o0 np0 kp0 tp0 r0 t0 sh0 f0 nw0 nc0 np1 np2 np3 nw1 nw2 nw3 nw4 nc1 nc2 isk fnd nhour nair nrub nz nnb nkd ncl ngr noc nlit ncold nccell ncpow nsp nwm ndr)) (ik_Q (some (.int R)) D (wz_X6ofn cI cS o0 np0 kp0 tp0 r0 t0 sh0 f0 nw0 nc0 np1 np2 np3 nw1 nw2 nw3 nw4 nc1 nc2 isk fnd_r nhour nair nrub nz nnb nkd ncl ngr noc nlit ncold nccell ncpow nsp nwm ndr) (wz_X6ofn cI cS o0 np0 kp0 tp0 r0 t0 sh0 f0 nw0 nc0 np1 np2 np3 nw1 nw2 nw3 nw4 nc1 nc2 isk fnd nhour nair nrub nz nnb nkd ncl ngr noc nlit ncold nccell ncpow nsp nwm ndr)) 0 0 (ik_in (wz_X6ofn cI cS o0 np0 kp0 tp0 r0 t0 sh0 f0 nw0 nc0 np1 np2 np3 nw1 nw2 nw3 nw4 nc1 nc2 isk fnd nhour nair nrub nz nnb nkd ncl ngr noc nlit ncold nccell ncpow nsp nwm ndr)) := by
  refine ik_metW RX6 rfl (by decide) (Nat.le_of_ble_eq_true rfl) [(0, .ref o0), (1, .int x1)] rfl ?_
  intro p e s m below meth c C hr hlk
  unfold f_X6_warmth at hf
  refine ik_iload_n C 1 rfl rfl dX6_warmth_0 ?_
  obtain ⟨r1, hc1, hf⟩ := ik_b1s hf
  have hM := (c_X6_isCell l D cI cS x1 r1 hc1)
  refine ik_goR (ik_runS (st := []) (As := [.int x1]) C hM ms_X6_isCell wl_5_13 ⟨rfl, rfl, Nat.le_of_ble_eq_true rfl, Nat.le_of_ble_eq_true rfl⟩ [] rfl (by decide +kernel) rfl rfl (Nat.le_of_ble_eq_true rfl) dX6_warmth_1 ⟨Nat.zero_le _, Nat.zero_le _⟩) rfl ?_
  refine ik_if_ne C 14 dX6_warmth_4 (by decide) (fun hc => ?_) (fun hc => ?_)
  · have hf := ik_neg hc hf
    refine ik_aload_n C 0 rfl rfl dX6_warmth_14 ?_
    refine ik_get C inlX6 0 rfl rfl 0 (by decide) wl_1_15 rfl (v := .ref np0) rfl dX6_warmth_15 ?_
    refine ik_get C inlX1 2 rfl rfl 1 (by decide) wl_13_8 rfl (v := .ref nc0) rfl dX6_warmth_18 ?_
    refine ik_iload_n C 1 rfl rfl dX6_warmth_21 ?_
    obtain ⟨r2, hc2, hf⟩ := ik_b1s hf
    have hM := (c_X0_warmthAt l D cI cS nc0 nc1 nc2 nlit ncold nccell ncpow x1 r2 hc2)
    refine ik_goR (ik_runV (st := []) (As := [.int x1]) C hM mv_X0_warmthAt wl_13_9 ⟨rfl, rfl, Nat.le_of_ble_eq_true rfl, Nat.le_of_ble_eq_true rfl⟩ [8, 9, 10] rfl (by decide +kernel) 8 rfl rfl rfl rfl (Nat.le_of_ble_eq_true rfl) dX6_warmth_22 ⟨Nat.zero_le _, Nat.zero_le _⟩) rfl ?_
    obtain ⟨rfl, rfl⟩ := ik_e2 hf
    exact ik_iretW C hr hlk dX6_warmth_25
  · have hf := ik_pos hc hf
    refine ik_aload_n C 0 rfl rfl dX6_warmth_7 ?_
    refine ik_ldc C wl_5_3 dX6_warmth_8 ?_
    obtain ⟨r2, g3, hc3, hf⟩ := ik_b2s hf
    have hM := (c_X6_tell l D cI cS o0 np0 kp0 tp0 r0 t0 sh0 f0 isk fnd (-1000001 : Int32) r2 g3 hc3)
    refine ik_goW (v := (some (.int r2))) (wc := (wz_X6of cI cS o0 np0 kp0 tp0 r0 t0 sh0 f0 isk fnd)) (w1 := (wz_X6of cI cS o0 np0 kp0 tp0 r0 t0 sh0 f0 isk g3)) [0, 1] [2, 3, 4, 5, 6, 7, 8, 9, 10, 11, 12, 13] 14 rfl rfl (wz_X6ofn cI cS o0 np0 kp0 tp0 r0 t0 sh0 f0 nw0 nc0 np1 np2 np3 nw1 nw2 nw3 nw4 nc1 nc2 isk g3 nhour nair nrub nz nnb nkd ncl ngr noc nlit ncold nccell ncpow nsp nwm ndr) rfl [(np0, .inr (1, [.ref nw0, .ref nc0, .ref np1, .int nhour, .int nair, .int nrub, .int nz, .ref np2, .ref np3])), (nw0, .inr (5, [.int nnb, .ref nw1, .ref nw2, .ref nw3, .ref nw4])), (nw1, .inl (cI, 16, .inl nkd)), (nw2, .inl (cI, 16, .inl ncl)), (nw3, .inl (cI, 16, .inl ngr)), (nw4, .inl (cI, 48, .inl noc)), (nc0, .inr (0, [.ref nc1, .ref nc2, .int nlit, .int ncold])), (nc1, .inl (cI, 6, .inl nccell)), (nc2, .inl (cI, 6, .inl ncpow)), (np1, .inl (cI, 10, .inl nsp)), (np2, .inl (cI, 16, .inl nwm)), (np3, .inl (cI, 8, .inl ndr))] rfl rfl rfl (by decide +kernel) (ik_runV (st := []) (As := [.int (-1000001 : Int32)]) C hM mv_X6_tell wl_5_16 ⟨rfl, rfl, Nat.le_of_ble_eq_true rfl, Nat.le_of_ble_eq_true rfl⟩ [0, 1] rfl (by decide +kernel) 0 rfl rfl rfl rfl (Nat.le_of_ble_eq_true rfl) dX6_warmth_10 ⟨Nat.zero_le _, Nat.zero_le _⟩) rfl ?_
    obtain ⟨rfl, rfl⟩ := ik_e2 hf
    exact ik_iretW C hr hlk dX6_warmth_13
theorem mv_X6_fall : ik_V yX6_fall RX6 cX6_fall 1 (some .int) 0 := ⟨wl_22_2, wl_22_3, wl_1_2, wl_22_4, by decide +kernel⟩
set_option maxHeartbeats 4000000 in
set_option maxRecDepth 100000 in
theorem c_X6_fall (l : Launch) (D : va_G) (cI cS : ClassId) (o0 np0 kp0 tp0 r0 t0 sh0 f0 nw0 nc0 np1 np2 np3 nw1 nw2 nw3 nw4 nc1 nc2 : Nat) (isk : Int32) (nhour : Int32) (nair : Int32) (nrub : Int32) (nz : Int32) (nnb : Int32) (nkd : Nat → Int32) (ncl : Nat → Int32) (ngr : Nat → Int32) (noc : Nat → Int32) (nlit : Int32) (ncold : Int32) (nccell : Nat → Int32) (ncpow : Nat → Int32) (nsp : Nat → Int32) (nwm : Nat → Int32) (ndr : Nat → Int32) (R : Int32) (nrub_r : Int32) (ncl_r : Nat → Int32) (ngr_r : Nat → Int32) (noc_r : Nat → Int32) (hf : f_X6_fall nrub nnb nkd ncl ngr noc = some (R, nrub_r, ncl_r, ngr_r, noc_r)) : Met l yX6_fall (ik_ws yX6_fall cX6_fall 1 (some .int)) ({ frames := 4, cells := 0, slots := 0, locals := 101 } : Room) (ik_P D cI cS [.ref o0] (wz_X6on cI cS o0 np0 kp0 tp0 r0 t0 sh0 f0 nw0 nc0 np1 np2 np3 nw1 nw2 nw3 nw4 nc1 nc2 isk nhour nair nrub nz nnb nkd ncl ngr noc nlit ncold nccell ncpow nsp nwm ndr)) (ik_Q (some (.int R)) D (wz_X6on cI cS o0 np0 kp0 tp0 r0 t0 sh0 f0 nw0 nc0 np1 np2 np3 nw1 nw2 nw3 nw4 nc1 nc2 isk nhour nair nrub_r nz nnb nkd ncl_r ngr_r noc_r nlit ncold nccell ncpow nsp nwm ndr) (wz_X6on cI cS o0 np0 kp0 tp0 r0 t0 sh0 f0 nw0 nc0 np1 np2 np3 nw1 nw2 nw3 nw4 nc1 nc2 isk nhour nair nrub nz nnb nkd ncl ngr noc nlit ncold nccell ncpow nsp nwm ndr)) 0 0 (ik_in (wz_X6on cI cS o0 np0 kp0 tp0 r0 t0 sh0 f0 nw0 nc0 np1 np2 np3 nw1 nw2 nw3 nw4 nc1 nc2 isk nhour nair nrub nz nnb nkd ncl ngr noc nlit ncold nccell ncpow nsp nwm ndr)) := by
  refine ik_metW RX6 rfl (by decide) (Nat.le_of_ble_eq_true rfl) [(0, .ref o0)] rfl ?_
  intro p e s m below meth c C hr hlk
  unfold f_X6_fall at hf
  refine ik_aload_n C 0 rfl rfl dX6_fall_0 ?_
  refine ik_get C inlX6 0 rfl rfl 0 (by decide) wl_1_15 rfl (v := .ref np0) rfl dX6_fall_1 ?_
  obtain ⟨r1, g2, g3, g4, g5, hc5, hf⟩ := ik_b5s hf
  have hM := (c_X1_collapse l D cI cS np0 nw0 nc0 np1 np2 np3 nw1 nw2 nw3 nw4 nc1 nc2 nhour nair nrub nz nnb nkd ncl ngr noc nlit ncold nccell ncpow nsp nwm ndr r1 g2 g3 g4 g5 hc5)
  refine ik_goW (v := (some (.int r1))) (wc := (wz_X1 cI cS np0 nw0 nc0 np1 np2 np3 nw1 nw2 nw3 nw4 nc1 nc2 nhour nair nrub nz nnb nkd ncl ngr noc nlit ncold nccell ncpow nsp nwm ndr)) (w1 := (wz_X1 cI cS np0 nw0 nc0 np1 np2 np3 nw1 nw2 nw3 nw4 nc1 nc2 nhour nair g2 nz nnb nkd g3 g4 g5 nlit ncold nccell ncpow nsp nwm ndr)) [1, 2, 3, 4, 5, 6, 7, 8, 9, 10, 11, 12] [0] 13 rfl rfl (wz_X6on cI cS o0 np0 kp0 tp0 r0 t0 sh0 f0 nw0 nc0 np1 np2 np3 nw1 nw2 nw3 nw4 nc1 nc2 isk nhour nair g2 nz nnb nkd g3 g4 g5 nlit ncold nccell ncpow nsp nwm ndr) rfl [(o0, .inr (6, [.ref np0, .ref kp0, .ref tp0, .int isk, .ref r0, .ref t0, .ref sh0, .ref f0]))] rfl rfl rfl (by decide +kernel) (ik_runV (st := []) (As := []) C hM mv_X1_collapse wl_22_5 ⟨rfl, rfl, Nat.le_of_ble_eq_true rfl, Nat.le_of_ble_eq_true rfl⟩ [1, 2, 3, 4, 5, 6, 7, 8, 9, 10, 11, 12] rfl (by decide +kernel) 1 rfl rfl rfl rfl (Nat.le_of_ble_eq_true rfl) dX6_fall_4 ⟨Nat.zero_le _, Nat.zero_le _⟩) rfl ?_
  obtain ⟨rfl, rfl, rfl, rfl, rfl⟩ := ik_e5 hf
  exact ik_iretW C hr hlk dX6_fall_7
theorem mv_X6_order : ik_V yX6_order RX6 cX6_order 10 (some .int) 1 := ⟨wl_29_19, wl_29_20, wl_1_2, wl_29_21, by decide +kernel⟩
set_option maxHeartbeats 4000000 in
set_option maxRecDepth 100000 in
theorem c_X6_order (l : Launch) (D : va_G) (cI cS : ClassId) (o0 np0 kp0 tp0 r0 t0 sh0 f0 nw0 nc0 np1 np2 np3 nw1 nw2 nw3 nw4 nc1 nc2 : Nat) (isk : Int32) (fnd : Nat → Int32) (nhour : Int32) (nair : Int32) (nrub : Int32) (nz : Int32) (nnb : Int32) (nkd : Nat → Int32) (ncl : Nat → Int32) (ngr : Nat → Int32) (noc : Nat → Int32) (nlit : Int32) (ncold : Int32) (nccell : Nat → Int32) (ncpow : Nat → Int32) (nsp : Nat → Int32) (nwm : Nat → Int32) (ndr : Nat → Int32) (x1 : Int32) (R : Int32) (fnd_r : Nat → Int32) (hf : f_X6_order fnd nnb nkd ncl x1 = some (R, fnd_r)) : Met l yX6_order (ik_ws yX6_order cX6_order 10 (some .int)) ({ frames := 3, cells := 0, slots := 0, locals := 74 } : Room) (ik_P D cI cS [.ref o0, .int x1] (wz_X6ofn cI cS o0 np0 kp0 tp0 r0 t0 sh0 f0 nw0 nc0 np1 np2 np3 nw1 nw2 nw3 nw4 nc1 nc2 isk fnd nhour nair nrub nz nnb nkd ncl ngr noc nlit ncold nccell ncpow nsp nwm ndr)) (ik_Q (some (.int R)) D (wz_X6ofn cI cS o0 np0 kp0 tp0 r0 t0 sh0 f0 nw0 nc0 np1 np2 np3 nw1 nw2 nw3 nw4 nc1 nc2 isk fnd_r nhour nair nrub nz nnb nkd ncl ngr noc nlit ncold nccell ncpow nsp nwm ndr) (wz_X6ofn cI cS o0 np0 kp0 tp0 r0 t0 sh0 f0 nw0 nc0 np1 np2 np3 nw1 nw2 nw3 nw4 nc1 nc2 isk fnd nhour nair nrub nz nnb nkd ncl ngr noc nlit ncold nccell ncpow nsp nwm ndr)) 0 0 (ik_in (wz_X6ofn cI cS o0 np0 kp0 tp0 r0 t0 sh0 f0 nw0 nc0 np1 np2 np3 nw1 nw2 nw3 nw4 nc1 nc2 isk fnd nhour nair nrub nz nnb nkd ncl ngr noc nlit ncold nccell ncpow nsp nwm ndr)) := by
  refine ik_metW RX6 rfl (by decide) (Nat.le_of_ble_eq_true rfl) [(0, .ref o0), (1, .int x1)] rfl ?_
  intro p e s m below meth c C hr hlk
  unfold f_X6_order at hf
  refine ik_iload_n C 1 rfl rfl dX6_order_0 ?_
  refine ik_iconst (v := (0 : Int32)) C (by decide) dX6_order_1 ?_
  refine ik_bipush (v := (15 : Int32)) C (by decide) dX6_order_2 ?_
  obtain ⟨r1, hc1, hf⟩ := ik_b1s hf
  have hM := (c_X6_isWithin l D cI cS x1 (0 : Int32) (15 : Int32) r1 hc1)
  refine ik_goR (ik_runS (st := []) (As := [.int x1, .int (0 : Int32), .int (15 : Int32)]) C hM ms_X6_isWithin wl_5_10 ⟨rfl, rfl, Nat.le_of_ble_eq_true rfl, Nat.le_of_ble_eq_true rfl⟩ [] rfl (by decide +kernel) rfl rfl (Nat.le_of_ble_eq_true rfl) dX6_order_4 ⟨Nat.zero_le _, Nat.zero_le _⟩) rfl ?_
  refine ik_if_ne C 17 dX6_order_7 (by decide) (fun hc => ?_) (fun hc => ?_)
  · have hf := ik_neg hc hf
    refine ik_aload_n C 0 rfl rfl dX6_order_17 ?_
    refine ik_get C inlX6 0 rfl rfl 0 (by decide) wl_1_15 rfl (v := .ref np0) rfl dX6_order_18 ?_
    refine ik_get C inlX1 2 rfl rfl 0 (by decide) wl_5_4 rfl (v := .ref nw0) rfl dX6_order_21 ?_
    refine ik_astore_n C [(2, .ref nw0), (0, .ref o0), (1, .int x1)] rfl (by decide) rfl dX6_order_24 ?_
    refine ik_aload_n C 0 rfl rfl dX6_order_25 ?_
    obtain ⟨r2, hc2, hf⟩ := ik_b1s hf
    have hM := (c_X5_occupied l D cI cS nw0 nw1 nw2 nw3 nw4 nnb nkd ncl ngr noc r2 hc2)
    refine ik_goR (ik_runV (st := []) (As := []) C hM mv_X5_occupied wl_29_22 ⟨rfl, rfl, Nat.le_of_ble_eq_true rfl, Nat.le_of_ble_eq_true rfl⟩ [3, 4, 5, 6, 7] rfl (by decide +kernel) 3 rfl rfl rfl rfl (Nat.le_of_ble_eq_true rfl) dX6_order_26 ⟨Nat.zero_le _, Nat.zero_le _⟩) rfl ?_
    refine ik_lstore_n C [(3, .long r2), (2, .ref nw0), (0, .ref o0), (1, .int x1)] rfl (by decide) rfl dX6_order_29 ?_
    refine ik_lconst (v := (0 : Int64)) C (by decide) dX6_order_30 ?_
    refine ik_lstore C [(5, .long (0 : Int64)), (3, .long r2), (2, .ref nw0), (0, .ref o0), (1, .int x1)] (by decide) rfl dX6_order_31 ?_
    refine ik_iconst (v := (-1 : Int32)) C (by decide) dX6_order_33 ?_
    refine ik_istore C [(7, .int (-1 : Int32)), (5, .long (0 : Int64)), (3, .long r2), (2, .ref nw0), (0, .ref o0), (1, .int x1)] (by decide) rfl dX6_order_34 ?_
    refine ik_iconst (v := (0 : Int32)) C (by decide) dX6_order_36 ?_
    refine ik_istore C [(8, .int (0 : Int32)), (7, .int (-1 : Int32)), (5, .long (0 : Int64)), (3, .long r2), (2, .ref nw0), (0, .ref o0), (1, .int x1)] (by decide) rfl dX6_order_37 ?_
    have hL_39 : ∀ (n_39 : Nat) (fnd_39 : Nat → Int32) (x5_39 : Int64) (x7_39 : Int32) (x8_39 : Int32), ik_lp4 (b_X6_order_39 nnb nkd ncl x1 r2) n_39 fnd_39 x5_39 x7_39 x8_39 = some (R, fnd_r) → ik_G p l e ({ frames := 3, cells := 0, slots := 0, locals := 74 } : Room) s m ([.ref o0, .int x1] : List Value).toArray below meth c D (ik_in (wz_X6ofn cI cS o0 np0 kp0 tp0 r0 t0 sh0 f0 nw0 nc0 np1 np2 np3 nw1 nw2 nw3 nw4 nc1 nc2 isk fnd nhour nair nrub nz nnb nkd ncl ngr noc nlit ncold nccell ncpow nsp nwm ndr)) (ik_in (wz_X6ofn cI cS o0 np0 kp0 tp0 r0 t0 sh0 f0 nw0 nc0 np1 np2 np3 nw1 nw2 nw3 nw4 nc1 nc2 isk fnd nhour nair nrub nz nnb nkd ncl ngr noc nlit ncold nccell ncpow nsp nwm ndr)) 10 0 0 (MQ below (ik_Q (some (.int R)) D (wz_X6ofn cI cS o0 np0 kp0 tp0 r0 t0 sh0 f0 nw0 nc0 np1 np2 np3 nw1 nw2 nw3 nw4 nc1 nc2 isk fnd_r nhour nair nrub nz nnb nkd ncl ngr noc nlit ncold nccell ncpow nsp nwm ndr) (wz_X6ofn cI cS o0 np0 kp0 tp0 r0 t0 sh0 f0 nw0 nc0 np1 np2 np3 nw1 nw2 nw3 nw4 nc1 nc2 isk fnd nhour nair nrub nz nnb nkd ncl ngr noc nlit ncold nccell ncpow nsp nwm ndr)) ([.ref o0, .int x1] : List Value).toArray s 0 0 (ik_in (wz_X6ofn cI cS o0 np0 kp0 tp0 r0 t0 sh0 f0 nw0 nc0 np1 np2 np3 nw1 nw2 nw3 nw4 nc1 nc2 isk fnd nhour nair nrub nz nnb nkd ncl ngr noc nlit ncold nccell ncpow nsp nwm ndr))) 39 [(8, .int x8_39), (7, .int x7_39), (5, .long x5_39), (3, .long r2), (2, .ref nw0), (0, .ref o0), (1, .int x1)] [] (wz_X6ofn cI cS o0 np0 kp0 tp0 r0 t0 sh0 f0 nw0 nc0 np1 np2 np3 nw1 nw2 nw3 nw4 nc1 nc2 isk fnd_39 nhour nair nrub nz nnb nkd ncl ngr noc nlit ncold nccell ncpow nsp nwm ndr) := by
      intro n_39
      induction n_39 with
      | zero => intro _ _ _ _ hf; exact nomatch hf
      | succ n_39 ih_39 =>
        intro fnd_39 x5_39 x7_39 x8_39 hf
        replace hf : b_X6_order_39 nnb nkd ncl x1 r2 (ik_lp4 (b_X6_order_39 nnb nkd ncl x1 r2) n_39) fnd_39 x5_39 x7_39 x8_39 = some (R, fnd_r) := hf
        unfold b_X6_order_39 at hf
        refine ik_iload C 0 rfl dX6_order_39 ?_
        refine ik_bipush (v := (16 : Int32)) C (by decide) dX6_order_41 ?_
        refine ik_icmp_ge C 101 dX6_order_43 (by decide) (fun hc => ?_) (fun hc => ?_)
        · have hf := ik_pos hc hf
          refine ik_iload C 1 rfl dX6_order_101 ?_
          refine ik_if_ge C 115 dX6_order_103 (by decide) (fun hc => ?_) (fun hc => ?_)
          · have hf := ik_pos hc hf
            refine ik_iload C 1 rfl dX6_order_115 ?_
            obtain ⟨rfl, rfl⟩ := ik_e2 hf
            exact ik_iretW C hr hlk dX6_order_117
          · have hf := ik_neg hc hf
            refine ik_aload_n C 5 rfl rfl dX6_order_106 ?_
            refine ik_ldc C wl_25_9 dX6_order_107 ?_
            obtain ⟨r3, g4, hc4, hf⟩ := ik_b2s hf
            have hM := (c_X6_tell l D cI cS o0 np0 kp0 tp0 r0 t0 sh0 f0 isk fnd_39 (-1000004 : Int32) r3 g4 hc4)
            refine ik_goW (v := (some (.int r3))) (wc := (wz_X6of cI cS o0 np0 kp0 tp0 r0 t0 sh0 f0 isk fnd_39)) (w1 := (wz_X6of cI cS o0 np0 kp0 tp0 r0 t0 sh0 f0 isk g4)) [0, 1] [2, 3, 4, 5, 6, 7, 8, 9, 10, 11, 12, 13] 14 rfl rfl (wz_X6ofn cI cS o0 np0 kp0 tp0 r0 t0 sh0 f0 nw0 nc0 np1 np2 np3 nw1 nw2 nw3 nw4 nc1 nc2 isk g4 nhour nair nrub nz nnb nkd ncl ngr noc nlit ncold nccell ncpow nsp nwm ndr) rfl [(np0, .inr (1, [.ref nw0, .ref nc0, .ref np1, .int nhour, .int nair, .int nrub, .int nz, .ref np2, .ref np3])), (nw0, .inr (5, [.int nnb, .ref nw1, .ref nw2, .ref nw3, .ref nw4])), (nw1, .inl (cI, 16, .inl nkd)), (nw2, .inl (cI, 16, .inl ncl)), (nw3, .inl (cI, 16, .inl ngr)), (nw4, .inl (cI, 48, .inl noc)), (nc0, .inr (0, [.ref nc1, .ref nc2, .int nlit, .int ncold])), (nc1, .inl (cI, 6, .inl nccell)), (nc2, .inl (cI, 6, .inl ncpow)), (np1, .inl (cI, 10, .inl nsp)), (np2, .inl (cI, 16, .inl nwm)), (np3, .inl (cI, 8, .inl ndr))] rfl rfl rfl (by decide +kernel) (ik_runV (st := []) (As := [.int (-1000004 : Int32)]) C hM mv_X6_tell wl_5_16 ⟨rfl, rfl, Nat.le_of_ble_eq_true rfl, Nat.le_of_ble_eq_true rfl⟩ [0, 1] rfl (by decide +kernel) 0 rfl rfl rfl rfl (Nat.le_of_ble_eq_true rfl) dX6_order_109 ⟨Nat.zero_le _, Nat.zero_le _⟩) rfl ?_
            refine ik_goto C 117 dX6_order_112 (by decide) ?_
            obtain ⟨rfl, rfl⟩ := ik_e2 hf
            exact ik_iretW C hr hlk dX6_order_117
        · have hf := ik_neg hc hf
          refine ik_lload C 2 rfl dX6_order_46 ?_
          refine ik_lload_n C 3 rfl rfl dX6_order_48 ?_
          refine ik_lcmp C dX6_order_49 ?_
          refine ik_if_eq C 101 dX6_order_50 (by decide) (fun hc => ?_) (fun hc => ?_)
          · have hf := ik_pos hc hf
            refine ik_iload C 1 rfl dX6_order_101 ?_
            refine ik_if_ge C 115 dX6_order_103 (by decide) (fun hc => ?_) (fun hc => ?_)
            · have hf := ik_pos hc hf
              refine ik_iload C 1 rfl dX6_order_115 ?_
              obtain ⟨rfl, rfl⟩ := ik_e2 hf
              exact ik_iretW C hr hlk dX6_order_117
            · have hf := ik_neg hc hf
              refine ik_aload_n C 5 rfl rfl dX6_order_106 ?_
              refine ik_ldc C wl_25_9 dX6_order_107 ?_
              obtain ⟨r3, g4, hc4, hf⟩ := ik_b2s hf
              have hM := (c_X6_tell l D cI cS o0 np0 kp0 tp0 r0 t0 sh0 f0 isk fnd_39 (-1000004 : Int32) r3 g4 hc4)
              refine ik_goW (v := (some (.int r3))) (wc := (wz_X6of cI cS o0 np0 kp0 tp0 r0 t0 sh0 f0 isk fnd_39)) (w1 := (wz_X6of cI cS o0 np0 kp0 tp0 r0 t0 sh0 f0 isk g4)) [0, 1] [2, 3, 4, 5, 6, 7, 8, 9, 10, 11, 12, 13] 14 rfl rfl (wz_X6ofn cI cS o0 np0 kp0 tp0 r0 t0 sh0 f0 nw0 nc0 np1 np2 np3 nw1 nw2 nw3 nw4 nc1 nc2 isk g4 nhour nair nrub nz nnb nkd ncl ngr noc nlit ncold nccell ncpow nsp nwm ndr) rfl [(np0, .inr (1, [.ref nw0, .ref nc0, .ref np1, .int nhour, .int nair, .int nrub, .int nz, .ref np2, .ref np3])), (nw0, .inr (5, [.int nnb, .ref nw1, .ref nw2, .ref nw3, .ref nw4])), (nw1, .inl (cI, 16, .inl nkd)), (nw2, .inl (cI, 16, .inl ncl)), (nw3, .inl (cI, 16, .inl ngr)), (nw4, .inl (cI, 48, .inl noc)), (nc0, .inr (0, [.ref nc1, .ref nc2, .int nlit, .int ncold])), (nc1, .inl (cI, 6, .inl nccell)), (nc2, .inl (cI, 6, .inl ncpow)), (np1, .inl (cI, 10, .inl nsp)), (np2, .inl (cI, 16, .inl nwm)), (np3, .inl (cI, 8, .inl ndr))] rfl rfl rfl (by decide +kernel) (ik_runV (st := []) (As := [.int (-1000004 : Int32)]) C hM mv_X6_tell wl_5_16 ⟨rfl, rfl, Nat.le_of_ble_eq_true rfl, Nat.le_of_ble_eq_true rfl⟩ [0, 1] rfl (by decide +kernel) 0 rfl rfl rfl rfl (Nat.le_of_ble_eq_true rfl) dX6_order_109 ⟨Nat.zero_le _, Nat.zero_le _⟩) rfl ?_
              refine ik_goto C 117 dX6_order_112 (by decide) ?_
              obtain ⟨rfl, rfl⟩ := ik_e2 hf
              exact ik_iretW C hr hlk dX6_order_117
          · have hf := ik_neg hc hf
            refine ik_aload_n C 4 rfl rfl dX6_order_53 ?_
            refine ik_lload C 2 rfl dX6_order_54 ?_
            refine ik_iconst (v := (0 : Int32)) C (by decide) dX6_order_56 ?_
            obtain ⟨r3, hc3, hf⟩ := ik_b1s hf
            have hM := (c_X5_nextComer l D cI cS nw0 nw1 nw2 nw3 nw4 nnb nkd ncl ngr noc x5_39 (0 : Int32) r3 hc3)
            refine ik_goR (ik_runV (st := []) (As := [.long x5_39, .int (0 : Int32)]) C hM mv_X5_nextComer wl_30_2 ⟨rfl, rfl, Nat.le_of_ble_eq_true rfl, Nat.le_of_ble_eq_true rfl⟩ [3, 4, 5, 6, 7] rfl (by decide +kernel) 3 rfl rfl rfl rfl (Nat.le_of_ble_eq_true rfl) dX6_order_57 ⟨Nat.zero_le _, Nat.zero_le _⟩) rfl ?_
            refine ik_istore C [(9, .int r3), (8, .int x8_39), (7, .int x7_39), (5, .long x5_39), (3, .long r2), (2, .ref nw0), (0, .ref o0), (1, .int x1)] (by decide) rfl dX6_order_60 ?_
            refine ik_iload C 0 rfl dX6_order_62 ?_
            refine ik_if_ge C 74 dX6_order_64 (by decide) (fun hc => ?_) (fun hc => ?_)
            · have hf := ik_pos hc hf
              refine ik_iload C 1 rfl dX6_order_74 ?_
              refine ik_iload_n C 7 rfl rfl dX6_order_76 ?_
              refine ik_icmp_ne C 84 dX6_order_77 (by decide) (fun hc => ?_) (fun hc => ?_)
              · have hf := ik_neg hc hf
                refine ik_lload C 3 rfl dX6_order_84 ?_
                refine ik_aload_n C 5 rfl rfl dX6_order_86 ?_
                refine ik_iload C 0 rfl dX6_order_87 ?_
                obtain ⟨r4, hc4, hf⟩ := ik_b1s hf
                have hM := (c_X5_cellBit l D cI cS nw0 nw1 nw2 nw3 nw4 nnb nkd ncl ngr noc r3 r4 hc4)
                refine ik_goR (ik_runV (st := [.long x5_39]) (As := [.int r3]) C hM mv_X5_cellBit wl_9_3 ⟨rfl, rfl, Nat.le_of_ble_eq_true rfl, Nat.le_of_ble_eq_true rfl⟩ [3, 4, 5, 6, 7] rfl (by decide +kernel) 3 rfl rfl rfl rfl (Nat.le_of_ble_eq_true rfl) dX6_order_89 ⟨Nat.zero_le _, Nat.zero_le _⟩) rfl ?_
                refine ik_lor C dX6_order_92 ?_
                refine ik_lstore C [(5, .long (x5_39 ||| r4)), (9, .int r3), (8, .int x8_39), (7, .int x7_39), (3, .long r2), (2, .ref nw0), (0, .ref o0), (1, .int x1)] (by decide) rfl dX6_order_93 ?_
                refine ik_iinc C [(8, .int (x8_39 + (1 : Int32))), (5, .long (x5_39 ||| r4)), (9, .int r3), (7, .int x7_39), (3, .long r2), (2, .ref nw0), (0, .ref o0), (1, .int x1)] 2 rfl rfl (by decide) rfl dX6_order_95 ?_
                refine ik_goto C 39 dX6_order_98 (by decide) ?_
                exact ik_sub [0, 3, 1, 4, 5, 6, 7] [(8, .int (x8_39 + (1 : Int32))), (7, .int x7_39), (5, .long (x5_39 ||| r4)), (3, .long r2), (2, .ref nw0), (0, .ref o0), (1, .int x1)] rfl (ih_39 fnd_39 (x5_39 ||| r4) x7_39 (x8_39 + (1 : Int32)) hf)
              · have hf := ik_pos hc hf
                refine ik_iload C 0 rfl dX6_order_80 ?_
                refine ik_istore C [(7, .int r3), (9, .int r3), (8, .int x8_39), (5, .long x5_39), (3, .long r2), (2, .ref nw0), (0, .ref o0), (1, .int x1)] (by decide) rfl dX6_order_82 ?_
                refine ik_lload C 3 rfl dX6_order_84 ?_
                refine ik_aload_n C 5 rfl rfl dX6_order_86 ?_
                refine ik_iload C 1 rfl dX6_order_87 ?_
                obtain ⟨r4, hc4, hf⟩ := ik_b1s hf
                have hM := (c_X5_cellBit l D cI cS nw0 nw1 nw2 nw3 nw4 nnb nkd ncl ngr noc r3 r4 hc4)
                refine ik_goR (ik_runV (st := [.long x5_39]) (As := [.int r3]) C hM mv_X5_cellBit wl_9_3 ⟨rfl, rfl, Nat.le_of_ble_eq_true rfl, Nat.le_of_ble_eq_true rfl⟩ [3, 4, 5, 6, 7] rfl (by decide +kernel) 3 rfl rfl rfl rfl (Nat.le_of_ble_eq_true rfl) dX6_order_89 ⟨Nat.zero_le _, Nat.zero_le _⟩) rfl ?_
                refine ik_lor C dX6_order_92 ?_
                refine ik_lstore C [(5, .long (x5_39 ||| r4)), (7, .int r3), (9, .int r3), (8, .int x8_39), (3, .long r2), (2, .ref nw0), (0, .ref o0), (1, .int x1)] (by decide) rfl dX6_order_93 ?_
                refine ik_iinc C [(8, .int (x8_39 + (1 : Int32))), (5, .long (x5_39 ||| r4)), (7, .int r3), (9, .int r3), (3, .long r2), (2, .ref nw0), (0, .ref o0), (1, .int x1)] 3 rfl rfl (by decide) rfl dX6_order_95 ?_
                refine ik_goto C 39 dX6_order_98 (by decide) ?_
                exact ik_sub [0, 2, 1, 4, 5, 6, 7] [(8, .int (x8_39 + (1 : Int32))), (7, .int r3), (5, .long (x5_39 ||| r4)), (3, .long r2), (2, .ref nw0), (0, .ref o0), (1, .int x1)] rfl (ih_39 fnd_39 (x5_39 ||| r4) r3 (x8_39 + (1 : Int32)) hf)
            · have hf := ik_neg hc hf
              refine ik_aload_n C 6 rfl rfl dX6_order_67 ?_
              refine ik_ldc C wl_25_9 dX6_order_68 ?_
              obtain ⟨r4, g5, hc5, hf⟩ := ik_b2s hf
              have hM := (c_X6_tell l D cI cS o0 np0 kp0 tp0 r0 t0 sh0 f0 isk fnd_39 (-1000004 : Int32) r4 g5 hc5)
              refine ik_goW (v := (some (.int r4))) (wc := (wz_X6of cI cS o0 np0 kp0 tp0 r0 t0 sh0 f0 isk fnd_39)) (w1 := (wz_X6of cI cS o0 np0 kp0 tp0 r0 t0 sh0 f0 isk g5)) [0, 1] [2, 3, 4, 5, 6, 7, 8, 9, 10, 11, 12, 13] 14 rfl rfl (wz_X6ofn cI cS o0 np0 kp0 tp0 r0 t0 sh0 f0 nw0 nc0 np1 np2 np3 nw1 nw2 nw3 nw4 nc1 nc2 isk g5 nhour nair nrub nz nnb nkd ncl ngr noc nlit ncold nccell ncpow nsp nwm ndr) rfl [(np0, .inr (1, [.ref nw0, .ref nc0, .ref np1, .int nhour, .int nair, .int nrub, .int nz, .ref np2, .ref np3])), (nw0, .inr (5, [.int nnb, .ref nw1, .ref nw2, .ref nw3, .ref nw4])), (nw1, .inl (cI, 16, .inl nkd)), (nw2, .inl (cI, 16, .inl ncl)), (nw3, .inl (cI, 16, .inl ngr)), (nw4, .inl (cI, 48, .inl noc)), (nc0, .inr (0, [.ref nc1, .ref nc2, .int nlit, .int ncold])), (nc1, .inl (cI, 6, .inl nccell)), (nc2, .inl (cI, 6, .inl ncpow)), (np1, .inl (cI, 10, .inl nsp)), (np2, .inl (cI, 16, .inl nwm)), (np3, .inl (cI, 8, .inl ndr))] rfl rfl rfl (by decide +kernel) (ik_runV (st := []) (As := [.int (-1000004 : Int32)]) C hM mv_X6_tell wl_5_16 ⟨rfl, rfl, Nat.le_of_ble_eq_true rfl, Nat.le_of_ble_eq_true rfl⟩ [0, 1] rfl (by decide +kernel) 0 rfl rfl rfl rfl (Nat.le_of_ble_eq_true rfl) dX6_order_70 ⟨Nat.zero_le _, Nat.zero_le _⟩) rfl ?_
              obtain ⟨rfl, rfl⟩ := ik_e2 hf
              exact ik_iretW C hr hlk dX6_order_73
    exact hL_39 ik_fu fnd (0 : Int64) (-1 : Int32) (0 : Int32) hf
  · have hf := ik_pos hc hf
    refine ik_aload_n C 0 rfl rfl dX6_order_10 ?_
    refine ik_ldc C wl_5_3 dX6_order_11 ?_
    obtain ⟨r2, g3, hc3, hf⟩ := ik_b2s hf
    have hM := (c_X6_tell l D cI cS o0 np0 kp0 tp0 r0 t0 sh0 f0 isk fnd (-1000001 : Int32) r2 g3 hc3)
    refine ik_goW (v := (some (.int r2))) (wc := (wz_X6of cI cS o0 np0 kp0 tp0 r0 t0 sh0 f0 isk fnd)) (w1 := (wz_X6of cI cS o0 np0 kp0 tp0 r0 t0 sh0 f0 isk g3)) [0, 1] [2, 3, 4, 5, 6, 7, 8, 9, 10, 11, 12, 13] 14 rfl rfl (wz_X6ofn cI cS o0 np0 kp0 tp0 r0 t0 sh0 f0 nw0 nc0 np1 np2 np3 nw1 nw2 nw3 nw4 nc1 nc2 isk g3 nhour nair nrub nz nnb nkd ncl ngr noc nlit ncold nccell ncpow nsp nwm ndr) rfl [(np0, .inr (1, [.ref nw0, .ref nc0, .ref np1, .int nhour, .int nair, .int nrub, .int nz, .ref np2, .ref np3])), (nw0, .inr (5, [.int nnb, .ref nw1, .ref nw2, .ref nw3, .ref nw4])), (nw1, .inl (cI, 16, .inl nkd)), (nw2, .inl (cI, 16, .inl ncl)), (nw3, .inl (cI, 16, .inl ngr)), (nw4, .inl (cI, 48, .inl noc)), (nc0, .inr (0, [.ref nc1, .ref nc2, .int nlit, .int ncold])), (nc1, .inl (cI, 6, .inl nccell)), (nc2, .inl (cI, 6, .inl ncpow)), (np1, .inl (cI, 10, .inl nsp)), (np2, .inl (cI, 16, .inl nwm)), (np3, .inl (cI, 8, .inl ndr))] rfl rfl rfl (by decide +kernel) (ik_runV (st := []) (As := [.int (-1000001 : Int32)]) C hM mv_X6_tell wl_5_16 ⟨rfl, rfl, Nat.le_of_ble_eq_true rfl, Nat.le_of_ble_eq_true rfl⟩ [0, 1] rfl (by decide +kernel) 0 rfl rfl rfl rfl (Nat.le_of_ble_eq_true rfl) dX6_order_13 ⟨Nat.zero_le _, Nat.zero_le _⟩) rfl ?_
    obtain ⟨rfl, rfl⟩ := ik_e2 hf
    exact ik_iretW C hr hlk dX6_order_16
theorem mv_X6_steps : ik_V yX6_steps RX6 cX6_steps 7 (some .int) 1 := ⟨wl_30_20, wl_30_21, wl_1_2, wl_30_22, by decide +kernel⟩
set_option maxHeartbeats 4000000 in
set_option maxRecDepth 100000 in
theorem c_X6_steps (l : Launch) (D : va_G) (cI cS : ClassId) (o0 np0 kp0 tp0 r0 t0 sh0 f0 nw0 nc0 np1 np2 np3 nw1 nw2 nw3 nw4 nc1 nc2 : Nat) (isk : Int32) (fnd : Nat → Int32) (nhour : Int32) (nair : Int32) (nrub : Int32) (nz : Int32) (nnb : Int32) (nkd : Nat → Int32) (ncl : Nat → Int32) (ngr : Nat → Int32) (noc : Nat → Int32) (nlit : Int32) (ncold : Int32) (nccell : Nat → Int32) (ncpow : Nat → Int32) (nsp : Nat → Int32) (nwm : Nat → Int32) (ndr : Nat → Int32) (x1 : Int32) (R : Int32) (fnd_r : Nat → Int32) (hf : f_X6_steps fnd nnb nkd ncl x1 = some (R, fnd_r)) : Met l yX6_steps (ik_ws yX6_steps cX6_steps 7 (some .int)) ({ frames := 4, cells := 0, slots := 0, locals := 102 } : Room) (ik_P D cI cS [.ref o0, .int x1] (wz_X6ofn cI cS o0 np0 kp0 tp0 r0 t0 sh0 f0 nw0 nc0 np1 np2 np3 nw1 nw2 nw3 nw4 nc1 nc2 isk fnd nhour nair nrub nz nnb nkd ncl ngr noc nlit ncold nccell ncpow nsp nwm ndr)) (ik_Q (some (.int R)) D (wz_X6ofn cI cS o0 np0 kp0 tp0 r0 t0 sh0 f0 nw0 nc0 np1 np2 np3 nw1 nw2 nw3 nw4 nc1 nc2 isk fnd_r nhour nair nrub nz nnb nkd ncl ngr noc nlit ncold nccell ncpow nsp nwm ndr) (wz_X6ofn cI cS o0 np0 kp0 tp0 r0 t0 sh0 f0 nw0 nc0 np1 np2 np3 nw1 nw2 nw3 nw4 nc1 nc2 isk fnd nhour nair nrub nz nnb nkd ncl ngr noc nlit ncold nccell ncpow nsp nwm ndr)) 0 0 (ik_in (wz_X6ofn cI cS o0 np0 kp0 tp0 r0 t0 sh0 f0 nw0 nc0 np1 np2 np3 nw1 nw2 nw3 nw4 nc1 nc2 isk fnd nhour nair nrub nz nnb nkd ncl ngr noc nlit ncold nccell ncpow nsp nwm ndr)) := by
  refine ik_metW RX6 rfl (by decide) (Nat.le_of_ble_eq_true rfl) [(0, .ref o0), (1, .int x1)] rfl ?_
  intro p e s m below meth c C hr hlk
  unfold f_X6_steps at hf
  refine ik_iload_n C 1 rfl rfl dX6_steps_0 ?_
  refine ik_iconst (v := (1 : Int32)) C (by decide) dX6_steps_1 ?_
  refine ik_bipush (v := (8 : Int32)) C (by decide) dX6_steps_2 ?_
  obtain ⟨r1, hc1, hf⟩ := ik_b1s hf
  have hM := (c_X6_isWithin l D cI cS x1 (1 : Int32) (8 : Int32) r1 hc1)
  refine ik_goR (ik_runS (st := []) (As := [.int x1, .int (1 : Int32), .int (8 : Int32)]) C hM ms_X6_isWithin wl_5_10 ⟨rfl, rfl, Nat.le_of_ble_eq_true rfl, Nat.le_of_ble_eq_true rfl⟩ [] rfl (by decide +kernel) rfl rfl (Nat.le_of_ble_eq_true rfl) dX6_steps_4 ⟨Nat.zero_le _, Nat.zero_le _⟩) rfl ?_
  refine ik_if_ne C 17 dX6_steps_7 (by decide) (fun hc => ?_) (fun hc => ?_)
  · have hf := ik_neg hc hf
    refine ik_aload_n C 0 rfl rfl dX6_steps_17 ?_
    refine ik_get C inlX6 0 rfl rfl 0 (by decide) wl_1_15 rfl (v := .ref np0) rfl dX6_steps_18 ?_
    refine ik_get C inlX1 2 rfl rfl 0 (by decide) wl_5_4 rfl (v := .ref nw0) rfl dX6_steps_21 ?_
    obtain ⟨r2, hc2, hf⟩ := ik_b1s hf
    have hM := (c_X5_occupied l D cI cS nw0 nw1 nw2 nw3 nw4 nnb nkd ncl ngr noc r2 hc2)
    refine ik_goR (ik_runV (st := []) (As := []) C hM mv_X5_occupied wl_29_22 ⟨rfl, rfl, Nat.le_of_ble_eq_true rfl, Nat.le_of_ble_eq_true rfl⟩ [3, 4, 5, 6, 7] rfl (by decide +kernel) 3 rfl rfl rfl rfl (Nat.le_of_ble_eq_true rfl) dX6_steps_24 ⟨Nat.zero_le _, Nat.zero_le _⟩) rfl ?_
    refine ik_lstore_n C [(2, .long r2), (0, .ref o0), (1, .int x1)] rfl (by decide) rfl dX6_steps_27 ?_
    refine ik_lconst (v := (0 : Int64)) C (by decide) dX6_steps_28 ?_
    refine ik_lstore C [(4, .long (0 : Int64)), (2, .long r2), (0, .ref o0), (1, .int x1)] (by decide) rfl dX6_steps_29 ?_
    refine ik_iconst (v := (0 : Int32)) C (by decide) dX6_steps_31 ?_
    refine ik_istore C [(6, .int (0 : Int32)), (4, .long (0 : Int64)), (2, .long r2), (0, .ref o0), (1, .int x1)] (by decide) rfl dX6_steps_32 ?_
    have hL_34 : ∀ (n_34 : Nat) (x4_34 : Int64) (x6_34 : Int32), ik_lp2 (b_X6_steps_34 fnd nnb nkd ncl x1 r2) n_34 x4_34 x6_34 = some (R, fnd_r) → ik_G p l e ({ frames := 4, cells := 0, slots := 0, locals := 102 } : Room) s m ([.ref o0, .int x1] : List Value).toArray below meth c D (ik_in (wz_X6ofn cI cS o0 np0 kp0 tp0 r0 t0 sh0 f0 nw0 nc0 np1 np2 np3 nw1 nw2 nw3 nw4 nc1 nc2 isk fnd nhour nair nrub nz nnb nkd ncl ngr noc nlit ncold nccell ncpow nsp nwm ndr)) (ik_in (wz_X6ofn cI cS o0 np0 kp0 tp0 r0 t0 sh0 f0 nw0 nc0 np1 np2 np3 nw1 nw2 nw3 nw4 nc1 nc2 isk fnd nhour nair nrub nz nnb nkd ncl ngr noc nlit ncold nccell ncpow nsp nwm ndr)) 7 0 0 (MQ below (ik_Q (some (.int R)) D (wz_X6ofn cI cS o0 np0 kp0 tp0 r0 t0 sh0 f0 nw0 nc0 np1 np2 np3 nw1 nw2 nw3 nw4 nc1 nc2 isk fnd_r nhour nair nrub nz nnb nkd ncl ngr noc nlit ncold nccell ncpow nsp nwm ndr) (wz_X6ofn cI cS o0 np0 kp0 tp0 r0 t0 sh0 f0 nw0 nc0 np1 np2 np3 nw1 nw2 nw3 nw4 nc1 nc2 isk fnd nhour nair nrub nz nnb nkd ncl ngr noc nlit ncold nccell ncpow nsp nwm ndr)) ([.ref o0, .int x1] : List Value).toArray s 0 0 (ik_in (wz_X6ofn cI cS o0 np0 kp0 tp0 r0 t0 sh0 f0 nw0 nc0 np1 np2 np3 nw1 nw2 nw3 nw4 nc1 nc2 isk fnd nhour nair nrub nz nnb nkd ncl ngr noc nlit ncold nccell ncpow nsp nwm ndr))) 34 [(6, .int x6_34), (4, .long x4_34), (2, .long r2), (0, .ref o0), (1, .int x1)] [] (wz_X6ofn cI cS o0 np0 kp0 tp0 r0 t0 sh0 f0 nw0 nc0 np1 np2 np3 nw1 nw2 nw3 nw4 nc1 nc2 isk fnd nhour nair nrub nz nnb nkd ncl ngr noc nlit ncold nccell ncpow nsp nwm ndr) := by
      intro n_34
      induction n_34 with
      | zero => intro _ _ hf; exact nomatch hf
      | succ n_34 ih_34 =>
        intro x4_34 x6_34 hf
        replace hf : b_X6_steps_34 fnd nnb nkd ncl x1 r2 (ik_lp2 (b_X6_steps_34 fnd nnb nkd ncl x1 r2) n_34) x4_34 x6_34 = some (R, fnd_r) := hf
        unfold b_X6_steps_34 at hf
        refine ik_iload C 0 rfl dX6_steps_34 ?_
        refine ik_bipush (v := (16 : Int32)) C (by decide) dX6_steps_36 ?_
        refine ik_icmp_gt C 75 dX6_steps_38 (by decide) (fun hc => ?_) (fun hc => ?_)
        · have hf := ik_pos hc hf
          refine ik_aload_n C 3 rfl rfl dX6_steps_75 ?_
          refine ik_ldc C wl_25_9 dX6_steps_76 ?_
          obtain ⟨r3, g4, hc4, hf⟩ := ik_b2s hf
          have hM := (c_X6_tell l D cI cS o0 np0 kp0 tp0 r0 t0 sh0 f0 isk fnd (-1000004 : Int32) r3 g4 hc4)
          refine ik_goW (v := (some (.int r3))) (wc := (wz_X6of cI cS o0 np0 kp0 tp0 r0 t0 sh0 f0 isk fnd)) (w1 := (wz_X6of cI cS o0 np0 kp0 tp0 r0 t0 sh0 f0 isk g4)) [0, 1] [2, 3, 4, 5, 6, 7, 8, 9, 10, 11, 12, 13] 14 rfl rfl (wz_X6ofn cI cS o0 np0 kp0 tp0 r0 t0 sh0 f0 nw0 nc0 np1 np2 np3 nw1 nw2 nw3 nw4 nc1 nc2 isk g4 nhour nair nrub nz nnb nkd ncl ngr noc nlit ncold nccell ncpow nsp nwm ndr) rfl [(np0, .inr (1, [.ref nw0, .ref nc0, .ref np1, .int nhour, .int nair, .int nrub, .int nz, .ref np2, .ref np3])), (nw0, .inr (5, [.int nnb, .ref nw1, .ref nw2, .ref nw3, .ref nw4])), (nw1, .inl (cI, 16, .inl nkd)), (nw2, .inl (cI, 16, .inl ncl)), (nw3, .inl (cI, 16, .inl ngr)), (nw4, .inl (cI, 48, .inl noc)), (nc0, .inr (0, [.ref nc1, .ref nc2, .int nlit, .int ncold])), (nc1, .inl (cI, 6, .inl nccell)), (nc2, .inl (cI, 6, .inl ncpow)), (np1, .inl (cI, 10, .inl nsp)), (np2, .inl (cI, 16, .inl nwm)), (np3, .inl (cI, 8, .inl ndr))] rfl rfl rfl (by decide +kernel) (ik_runV (st := []) (As := [.int (-1000004 : Int32)]) C hM mv_X6_tell wl_5_16 ⟨rfl, rfl, Nat.le_of_ble_eq_true rfl, Nat.le_of_ble_eq_true rfl⟩ [0, 1] rfl (by decide +kernel) 0 rfl rfl rfl rfl (Nat.le_of_ble_eq_true rfl) dX6_steps_78 ⟨Nat.zero_le _, Nat.zero_le _⟩) rfl ?_
          obtain ⟨rfl, rfl⟩ := ik_e2 hf
          exact ik_iretW C hr hlk dX6_steps_81
        · have hf := ik_neg hc hf
          refine ik_lload C 1 rfl dX6_steps_41 ?_
          refine ik_lload_n C 2 rfl rfl dX6_steps_43 ?_
          refine ik_lcmp C dX6_steps_44 ?_
          refine ik_if_ne C 51 dX6_steps_45 (by decide) (fun hc => ?_) (fun hc => ?_)
          · have hf := ik_neg hc hf
            refine ik_lload C 1 rfl dX6_steps_51 ?_
            refine ik_aload_n C 3 rfl rfl dX6_steps_53 ?_
            refine ik_get C inlX6 0 rfl rfl 0 (by decide) wl_1_15 rfl (v := .ref np0) rfl dX6_steps_54 ?_
            refine ik_get C inlX1 2 rfl rfl 0 (by decide) wl_5_4 rfl (v := .ref nw0) rfl dX6_steps_57 ?_
            refine ik_lload C 1 rfl dX6_steps_60 ?_
            refine ik_iload_n C 4 rfl rfl dX6_steps_62 ?_
            obtain ⟨r3, hc3, hf⟩ := ik_b1s hf
            have hM := (c_X5_comers l D cI cS nw0 nw1 nw2 nw3 nw4 nnb nkd ncl ngr noc x4_34 x1 r3 hc3)
            refine ik_goR (ik_runV (st := [.long x4_34]) (As := [.long x4_34, .int x1]) C hM mv_X5_comers wl_30_23 ⟨rfl, rfl, Nat.le_of_ble_eq_true rfl, Nat.le_of_ble_eq_true rfl⟩ [3, 4, 5, 6, 7] rfl (by decide +kernel) 3 rfl rfl rfl rfl (Nat.le_of_ble_eq_true rfl) dX6_steps_63 ⟨Nat.zero_le _, Nat.zero_le _⟩) rfl ?_
            refine ik_lor C dX6_steps_66 ?_
            refine ik_lstore C [(4, .long (x4_34 ||| r3)), (6, .int x6_34), (2, .long r2), (0, .ref o0), (1, .int x1)] (by decide) rfl dX6_steps_67 ?_
            refine ik_iinc C [(6, .int (x6_34 + (1 : Int32))), (4, .long (x4_34 ||| r3)), (2, .long r2), (0, .ref o0), (1, .int x1)] 1 rfl rfl (by decide) rfl dX6_steps_69 ?_
            refine ik_goto C 34 dX6_steps_72 (by decide) ?_
            exact ik_sub [0, 1, 2, 3, 4] [(6, .int (x6_34 + (1 : Int32))), (4, .long (x4_34 ||| r3)), (2, .long r2), (0, .ref o0), (1, .int x1)] rfl (ih_34 (x4_34 ||| r3) (x6_34 + (1 : Int32)) hf)
          · have hf := ik_pos hc hf
            refine ik_iload C 0 rfl dX6_steps_48 ?_
            obtain ⟨rfl, rfl⟩ := ik_e2 hf
            exact ik_iretW C hr hlk dX6_steps_50
    exact hL_34 ik_fu (0 : Int64) (0 : Int32) hf
  · have hf := ik_pos hc hf
    refine ik_aload_n C 0 rfl rfl dX6_steps_10 ?_
    refine ik_ldc C wl_5_3 dX6_steps_11 ?_
    obtain ⟨r2, g3, hc3, hf⟩ := ik_b2s hf
    have hM := (c_X6_tell l D cI cS o0 np0 kp0 tp0 r0 t0 sh0 f0 isk fnd (-1000001 : Int32) r2 g3 hc3)
    refine ik_goW (v := (some (.int r2))) (wc := (wz_X6of cI cS o0 np0 kp0 tp0 r0 t0 sh0 f0 isk fnd)) (w1 := (wz_X6of cI cS o0 np0 kp0 tp0 r0 t0 sh0 f0 isk g3)) [0, 1] [2, 3, 4, 5, 6, 7, 8, 9, 10, 11, 12, 13] 14 rfl rfl (wz_X6ofn cI cS o0 np0 kp0 tp0 r0 t0 sh0 f0 nw0 nc0 np1 np2 np3 nw1 nw2 nw3 nw4 nc1 nc2 isk g3 nhour nair nrub nz nnb nkd ncl ngr noc nlit ncold nccell ncpow nsp nwm ndr) rfl [(np0, .inr (1, [.ref nw0, .ref nc0, .ref np1, .int nhour, .int nair, .int nrub, .int nz, .ref np2, .ref np3])), (nw0, .inr (5, [.int nnb, .ref nw1, .ref nw2, .ref nw3, .ref nw4])), (nw1, .inl (cI, 16, .inl nkd)), (nw2, .inl (cI, 16, .inl ncl)), (nw3, .inl (cI, 16, .inl ngr)), (nw4, .inl (cI, 48, .inl noc)), (nc0, .inr (0, [.ref nc1, .ref nc2, .int nlit, .int ncold])), (nc1, .inl (cI, 6, .inl nccell)), (nc2, .inl (cI, 6, .inl ncpow)), (np1, .inl (cI, 10, .inl nsp)), (np2, .inl (cI, 16, .inl nwm)), (np3, .inl (cI, 8, .inl ndr))] rfl rfl rfl (by decide +kernel) (ik_runV (st := []) (As := [.int (-1000001 : Int32)]) C hM mv_X6_tell wl_5_16 ⟨rfl, rfl, Nat.le_of_ble_eq_true rfl, Nat.le_of_ble_eq_true rfl⟩ [0, 1] rfl (by decide +kernel) 0 rfl rfl rfl rfl (Nat.le_of_ble_eq_true rfl) dX6_steps_13 ⟨Nat.zero_le _, Nat.zero_le _⟩) rfl ?_
    obtain ⟨rfl, rfl⟩ := ik_e2 hf
    exact ik_iretW C hr hlk dX6_steps_16
theorem mv_X6_shakes : ik_V yX6_shakes RX6 cX6_shakes 2 (some .int) 1 := ⟨wl_31_10, wl_31_11, wl_1_2, wl_31_12, by decide +kernel⟩
set_option maxHeartbeats 4000000 in
set_option maxRecDepth 100000 in
theorem c_X6_shakes (l : Launch) (D : va_G) (cI cS : ClassId) (o0 np0 kp0 tp0 r0 t0 sh0 f0 nw0 nc0 np1 np2 np3 nw1 nw2 nw3 nw4 nc1 nc2 : Nat) (isk : Int32) (fnd : Nat → Int32) (nhour : Int32) (nair : Int32) (nrub : Int32) (nz : Int32) (nnb : Int32) (nkd : Nat → Int32) (ncl : Nat → Int32) (ngr : Nat → Int32) (noc : Nat → Int32) (nlit : Int32) (ncold : Int32) (nccell : Nat → Int32) (ncpow : Nat → Int32) (nsp : Nat → Int32) (nwm : Nat → Int32) (ndr : Nat → Int32) (x1 : Int32) (R : Int32) (fnd_r : Nat → Int32) (hf : f_X6_shakes fnd nnb ncl ngr x1 = some (R, fnd_r)) : Met l yX6_shakes (ik_ws yX6_shakes cX6_shakes 2 (some .int)) ({ frames := 2, cells := 0, slots := 0, locals := 44 } : Room) (ik_P D cI cS [.ref o0, .int x1] (wz_X6ofn cI cS o0 np0 kp0 tp0 r0 t0 sh0 f0 nw0 nc0 np1 np2 np3 nw1 nw2 nw3 nw4 nc1 nc2 isk fnd nhour nair nrub nz nnb nkd ncl ngr noc nlit ncold nccell ncpow nsp nwm ndr)) (ik_Q (some (.int R)) D (wz_X6ofn cI cS o0 np0 kp0 tp0 r0 t0 sh0 f0 nw0 nc0 np1 np2 np3 nw1 nw2 nw3 nw4 nc1 nc2 isk fnd_r nhour nair nrub nz nnb nkd ncl ngr noc nlit ncold nccell ncpow nsp nwm ndr) (wz_X6ofn cI cS o0 np0 kp0 tp0 r0 t0 sh0 f0 nw0 nc0 np1 np2 np3 nw1 nw2 nw3 nw4 nc1 nc2 isk fnd nhour nair nrub nz nnb nkd ncl ngr noc nlit ncold nccell ncpow nsp nwm ndr)) 0 0 (ik_in (wz_X6ofn cI cS o0 np0 kp0 tp0 r0 t0 sh0 f0 nw0 nc0 np1 np2 np3 nw1 nw2 nw3 nw4 nc1 nc2 isk fnd nhour nair nrub nz nnb nkd ncl ngr noc nlit ncold nccell ncpow nsp nwm ndr)) := by
  refine ik_metW RX6 rfl (by decide) (Nat.le_of_ble_eq_true rfl) [(0, .ref o0), (1, .int x1)] rfl ?_
  intro p e s m below meth c C hr hlk
  unfold f_X6_shakes at hf
  refine ik_iload_n C 1 rfl rfl dX6_shakes_0 ?_
  obtain ⟨r1, hc1, hf⟩ := ik_b1s hf
  have hM := (c_X6_isTune l D cI cS x1 r1 hc1)
  refine ik_goR (ik_runS (st := []) (As := [.int x1]) C hM ms_X6_isTune wl_31_13 ⟨rfl, rfl, Nat.le_of_ble_eq_true rfl, Nat.le_of_ble_eq_true rfl⟩ [] rfl (by decide +kernel) rfl rfl (Nat.le_of_ble_eq_true rfl) dX6_shakes_1 ⟨Nat.zero_le _, Nat.zero_le _⟩) rfl ?_
  refine ik_if_ne C 14 dX6_shakes_4 (by decide) (fun hc => ?_) (fun hc => ?_)
  · have hf := ik_neg hc hf
    refine ik_aload_n C 0 rfl rfl dX6_shakes_14 ?_
    refine ik_get C inlX6 0 rfl rfl 0 (by decide) wl_1_15 rfl (v := .ref np0) rfl dX6_shakes_15 ?_
    refine ik_get C inlX1 2 rfl rfl 0 (by decide) wl_5_4 rfl (v := .ref nw0) rfl dX6_shakes_18 ?_
    refine ik_iload_n C 1 rfl rfl dX6_shakes_21 ?_
    obtain ⟨r2, hc2, hf⟩ := ik_b1s hf
    have hM := (c_X5_shakenSet l D cI cS nw0 nw1 nw2 nw3 nw4 nnb nkd ncl ngr noc x1 r2 hc2)
    refine ik_goR (ik_runV (st := []) (As := [.int x1]) C hM mv_X5_shakenSet wl_31_16 ⟨rfl, rfl, Nat.le_of_ble_eq_true rfl, Nat.le_of_ble_eq_true rfl⟩ [3, 4, 5, 6, 7] rfl (by decide +kernel) 3 rfl rfl rfl rfl (Nat.le_of_ble_eq_true rfl) dX6_shakes_22 ⟨Nat.zero_le _, Nat.zero_le _⟩) rfl ?_
    obtain ⟨rfl, rfl⟩ := ik_e2 hf
    exact ik_iretW C hr hlk dX6_shakes_25
  · have hf := ik_pos hc hf
    refine ik_aload_n C 0 rfl rfl dX6_shakes_7 ?_
    refine ik_ldc C wl_5_3 dX6_shakes_8 ?_
    obtain ⟨r2, g3, hc3, hf⟩ := ik_b2s hf
    have hM := (c_X6_tell l D cI cS o0 np0 kp0 tp0 r0 t0 sh0 f0 isk fnd (-1000001 : Int32) r2 g3 hc3)
    refine ik_goW (v := (some (.int r2))) (wc := (wz_X6of cI cS o0 np0 kp0 tp0 r0 t0 sh0 f0 isk fnd)) (w1 := (wz_X6of cI cS o0 np0 kp0 tp0 r0 t0 sh0 f0 isk g3)) [0, 1] [2, 3, 4, 5, 6, 7, 8, 9, 10, 11, 12, 13] 14 rfl rfl (wz_X6ofn cI cS o0 np0 kp0 tp0 r0 t0 sh0 f0 nw0 nc0 np1 np2 np3 nw1 nw2 nw3 nw4 nc1 nc2 isk g3 nhour nair nrub nz nnb nkd ncl ngr noc nlit ncold nccell ncpow nsp nwm ndr) rfl [(np0, .inr (1, [.ref nw0, .ref nc0, .ref np1, .int nhour, .int nair, .int nrub, .int nz, .ref np2, .ref np3])), (nw0, .inr (5, [.int nnb, .ref nw1, .ref nw2, .ref nw3, .ref nw4])), (nw1, .inl (cI, 16, .inl nkd)), (nw2, .inl (cI, 16, .inl ncl)), (nw3, .inl (cI, 16, .inl ngr)), (nw4, .inl (cI, 48, .inl noc)), (nc0, .inr (0, [.ref nc1, .ref nc2, .int nlit, .int ncold])), (nc1, .inl (cI, 6, .inl nccell)), (nc2, .inl (cI, 6, .inl ncpow)), (np1, .inl (cI, 10, .inl nsp)), (np2, .inl (cI, 16, .inl nwm)), (np3, .inl (cI, 8, .inl ndr))] rfl rfl rfl (by decide +kernel) (ik_runV (st := []) (As := [.int (-1000001 : Int32)]) C hM mv_X6_tell wl_5_16 ⟨rfl, rfl, Nat.le_of_ble_eq_true rfl, Nat.le_of_ble_eq_true rfl⟩ [0, 1] rfl (by decide +kernel) 0 rfl rfl rfl rfl (Nat.le_of_ble_eq_true rfl) dX6_shakes_10 ⟨Nat.zero_le _, Nat.zero_le _⟩) rfl ?_
    obtain ⟨rfl, rfl⟩ := ik_e2 hf
    exact ik_iretW C hr hlk dX6_shakes_13
theorem mv_X6_dance : ik_V yX6_dance RX6 cX6_dance 2 (some .int) 1 := ⟨wl_32_10, wl_32_11, wl_1_2, wl_32_12, by decide +kernel⟩
set_option maxHeartbeats 4000000 in
set_option maxRecDepth 100000 in
theorem c_X6_dance (l : Launch) (D : va_G) (cI cS : ClassId) (o0 np0 kp0 tp0 r0 t0 sh0 f0 nw0 nc0 np1 np2 np3 nw1 nw2 nw3 nw4 nc1 nc2 : Nat) (isk : Int32) (fnd : Nat → Int32) (nhour : Int32) (nair : Int32) (nrub : Int32) (nz : Int32) (nnb : Int32) (nkd : Nat → Int32) (ncl : Nat → Int32) (ngr : Nat → Int32) (noc : Nat → Int32) (nlit : Int32) (ncold : Int32) (nccell : Nat → Int32) (ncpow : Nat → Int32) (nsp : Nat → Int32) (nwm : Nat → Int32) (ndr : Nat → Int32) (x1 : Int32) (R : Int32) (fnd_r : Nat → Int32) (nair_r : Int32) (nrub_r : Int32) (ncl_r : Nat → Int32) (ngr_r : Nat → Int32) (noc_r : Nat → Int32) (hf : f_X6_dance fnd nair nrub nnb nkd ncl ngr noc x1 = some (R, fnd_r, nair_r, nrub_r, ncl_r, ngr_r, noc_r)) : Met l yX6_dance (ik_ws yX6_dance cX6_dance 2 (some .int)) ({ frames := 5, cells := 0, slots := 0, locals := 124 } : Room) (ik_P D cI cS [.ref o0, .int x1] (wz_X6ofn cI cS o0 np0 kp0 tp0 r0 t0 sh0 f0 nw0 nc0 np1 np2 np3 nw1 nw2 nw3 nw4 nc1 nc2 isk fnd nhour nair nrub nz nnb nkd ncl ngr noc nlit ncold nccell ncpow nsp nwm ndr)) (ik_Q (some (.int R)) D (wz_X6ofn cI cS o0 np0 kp0 tp0 r0 t0 sh0 f0 nw0 nc0 np1 np2 np3 nw1 nw2 nw3 nw4 nc1 nc2 isk fnd_r nhour nair_r nrub_r nz nnb nkd ncl_r ngr_r noc_r nlit ncold nccell ncpow nsp nwm ndr) (wz_X6ofn cI cS o0 np0 kp0 tp0 r0 t0 sh0 f0 nw0 nc0 np1 np2 np3 nw1 nw2 nw3 nw4 nc1 nc2 isk fnd nhour nair nrub nz nnb nkd ncl ngr noc nlit ncold nccell ncpow nsp nwm ndr)) 0 0 (ik_in (wz_X6ofn cI cS o0 np0 kp0 tp0 r0 t0 sh0 f0 nw0 nc0 np1 np2 np3 nw1 nw2 nw3 nw4 nc1 nc2 isk fnd nhour nair nrub nz nnb nkd ncl ngr noc nlit ncold nccell ncpow nsp nwm ndr)) := by
  refine ik_metW RX6 rfl (by decide) (Nat.le_of_ble_eq_true rfl) [(0, .ref o0), (1, .int x1)] rfl ?_
  intro p e s m below meth c C hr hlk
  unfold f_X6_dance at hf
  refine ik_iload_n C 1 rfl rfl dX6_dance_0 ?_
  obtain ⟨r1, hc1, hf⟩ := ik_b1s hf
  have hM := (c_X6_isTune l D cI cS x1 r1 hc1)
  refine ik_goR (ik_runS (st := []) (As := [.int x1]) C hM ms_X6_isTune wl_31_13 ⟨rfl, rfl, Nat.le_of_ble_eq_true rfl, Nat.le_of_ble_eq_true rfl⟩ [] rfl (by decide +kernel) rfl rfl (Nat.le_of_ble_eq_true rfl) dX6_dance_1 ⟨Nat.zero_le _, Nat.zero_le _⟩) rfl ?_
  refine ik_if_ne C 14 dX6_dance_4 (by decide) (fun hc => ?_) (fun hc => ?_)
  · have hf := ik_neg hc hf
    refine ik_aload_n C 0 rfl rfl dX6_dance_14 ?_
    refine ik_get C inlX6 0 rfl rfl 0 (by decide) wl_1_15 rfl (v := .ref np0) rfl dX6_dance_15 ?_
    refine ik_iload_n C 1 rfl rfl dX6_dance_18 ?_
    obtain ⟨r2, g3, g4, g5, g6, g7, hc7, hf⟩ := ik_b6s hf
    have hM := (c_X1_danceTo l D cI cS np0 nw0 nc0 np1 np2 np3 nw1 nw2 nw3 nw4 nc1 nc2 nhour nair nrub nz nnb nkd ncl ngr noc nlit ncold nccell ncpow nsp nwm ndr x1 r2 g3 g4 g5 g6 g7 hc7)
    refine ik_goW (v := (some (.int r2))) (wc := (wz_X1 cI cS np0 nw0 nc0 np1 np2 np3 nw1 nw2 nw3 nw4 nc1 nc2 nhour nair nrub nz nnb nkd ncl ngr noc nlit ncold nccell ncpow nsp nwm ndr)) (w1 := (wz_X1 cI cS np0 nw0 nc0 np1 np2 np3 nw1 nw2 nw3 nw4 nc1 nc2 nhour g3 g4 nz nnb nkd g5 g6 g7 nlit ncold nccell ncpow nsp nwm ndr)) [2, 3, 4, 5, 6, 7, 8, 9, 10, 11, 12, 13] [0, 1] 14 rfl rfl (wz_X6ofn cI cS o0 np0 kp0 tp0 r0 t0 sh0 f0 nw0 nc0 np1 np2 np3 nw1 nw2 nw3 nw4 nc1 nc2 isk fnd nhour g3 g4 nz nnb nkd g5 g6 g7 nlit ncold nccell ncpow nsp nwm ndr) rfl [(o0, .inr (6, [.ref np0, .ref kp0, .ref tp0, .int isk, .ref r0, .ref t0, .ref sh0, .ref f0])), (f0, .inl (cI, 7, .inl fnd))] rfl rfl rfl (by decide +kernel) (ik_runV (st := []) (As := [.int x1]) C hM mv_X1_danceTo wl_32_13 ⟨rfl, rfl, Nat.le_of_ble_eq_true rfl, Nat.le_of_ble_eq_true rfl⟩ [2, 3, 4, 5, 6, 7, 8, 9, 10, 11, 12, 13] rfl (by decide +kernel) 2 rfl rfl rfl rfl (Nat.le_of_ble_eq_true rfl) dX6_dance_19 ⟨Nat.zero_le _, Nat.zero_le _⟩) rfl ?_
    obtain ⟨rfl, rfl, rfl, rfl, rfl, rfl, rfl⟩ := ik_e7 hf
    exact ik_iretW C hr hlk dX6_dance_22
  · have hf := ik_pos hc hf
    refine ik_aload_n C 0 rfl rfl dX6_dance_7 ?_
    refine ik_ldc C wl_5_3 dX6_dance_8 ?_
    obtain ⟨r2, g3, hc3, hf⟩ := ik_b2s hf
    have hM := (c_X6_tell l D cI cS o0 np0 kp0 tp0 r0 t0 sh0 f0 isk fnd (-1000001 : Int32) r2 g3 hc3)
    refine ik_goW (v := (some (.int r2))) (wc := (wz_X6of cI cS o0 np0 kp0 tp0 r0 t0 sh0 f0 isk fnd)) (w1 := (wz_X6of cI cS o0 np0 kp0 tp0 r0 t0 sh0 f0 isk g3)) [0, 1] [2, 3, 4, 5, 6, 7, 8, 9, 10, 11, 12, 13] 14 rfl rfl (wz_X6ofn cI cS o0 np0 kp0 tp0 r0 t0 sh0 f0 nw0 nc0 np1 np2 np3 nw1 nw2 nw3 nw4 nc1 nc2 isk g3 nhour nair nrub nz nnb nkd ncl ngr noc nlit ncold nccell ncpow nsp nwm ndr) rfl [(np0, .inr (1, [.ref nw0, .ref nc0, .ref np1, .int nhour, .int nair, .int nrub, .int nz, .ref np2, .ref np3])), (nw0, .inr (5, [.int nnb, .ref nw1, .ref nw2, .ref nw3, .ref nw4])), (nw1, .inl (cI, 16, .inl nkd)), (nw2, .inl (cI, 16, .inl ncl)), (nw3, .inl (cI, 16, .inl ngr)), (nw4, .inl (cI, 48, .inl noc)), (nc0, .inr (0, [.ref nc1, .ref nc2, .int nlit, .int ncold])), (nc1, .inl (cI, 6, .inl nccell)), (nc2, .inl (cI, 6, .inl ncpow)), (np1, .inl (cI, 10, .inl nsp)), (np2, .inl (cI, 16, .inl nwm)), (np3, .inl (cI, 8, .inl ndr))] rfl rfl rfl (by decide +kernel) (ik_runV (st := []) (As := [.int (-1000001 : Int32)]) C hM mv_X6_tell wl_5_16 ⟨rfl, rfl, Nat.le_of_ble_eq_true rfl, Nat.le_of_ble_eq_true rfl⟩ [0, 1] rfl (by decide +kernel) 0 rfl rfl rfl rfl (Nat.le_of_ble_eq_true rfl) dX6_dance_10 ⟨Nat.zero_le _, Nat.zero_le _⟩) rfl ?_
    obtain ⟨rfl, rfl, rfl, rfl, rfl, rfl, rfl⟩ := ik_e7 hf
    exact ik_iretW C hr hlk dX6_dance_13
theorem mv_X6_tune : ik_V yX6_tune RX6 cX6_tune 5 (some .int) 0 := ⟨wl_33_3, wl_33_4, wl_1_2, wl_33_5, by decide +kernel⟩
set_option maxHeartbeats 4000000 in
set_option maxRecDepth 100000 in
theorem c_X6_tune (l : Launch) (D : va_G) (cI cS : ClassId) (o0 np0 kp0 tp0 r0 t0 sh0 f0 nw0 nc0 np1 np2 np3 nw1 nw2 nw3 nw4 nc1 nc2 tw0 tc0 tp1 tp2 tp3 tw1 tw2 tw3 tw4 tc1 tc2 : Nat) (isk : Int32) (nhour : Int32) (nair : Int32) (nrub : Int32) (nz : Int32) (nnb : Int32) (nkd : Nat → Int32) (ncl : Nat → Int32) (ngr : Nat → Int32) (noc : Nat → Int32) (nlit : Int32) (ncold : Int32) (nccell : Nat → Int32) (ncpow : Nat → Int32) (nsp : Nat → Int32) (nwm : Nat → Int32) (ndr : Nat → Int32) (thour : Int32) (tair : Int32) (trub : Int32) (tz : Int32) (tnb : Int32) (tkd : Nat → Int32) (tcl : Nat → Int32) (tgr : Nat → Int32) (toc : Nat → Int32) (tlit : Int32) (tcold : Int32) (tccell : Nat → Int32) (tcpow : Nat → Int32) (tsp : Nat → Int32) (twm : Nat → Int32) (tdr : Nat → Int32) (R : Int32) (thour_r : Int32) (tair_r : Int32) (trub_r : Int32) (tz_r : Int32) (tnb_r : Int32) (tkd_r : Nat → Int32) (tcl_r : Nat → Int32) (tgr_r : Nat → Int32) (toc_r : Nat → Int32) (tlit_r : Int32) (tcold_r : Int32) (tccell_r : Nat → Int32) (tcpow_r : Nat → Int32) (tsp_r : Nat → Int32) (hf : f_X6_tune nhour nair nrub nz nnb nkd ncl ngr noc nlit ncold nccell ncpow nsp thour tair trub tz tnb tkd tcl tgr toc tlit tcold tccell tcpow tsp = some (R, thour_r, tair_r, trub_r, tz_r, tnb_r, tkd_r, tcl_r, tgr_r, toc_r, tlit_r, tcold_r, tccell_r, tcpow_r, tsp_r)) : Met l yX6_tune (ik_ws yX6_tune cX6_tune 5 (some .int)) ({ frames := 5, cells := 0, slots := 0, locals := 124 } : Room) (ik_P D cI cS [.ref o0] (wz_X6ont cI cS o0 np0 kp0 tp0 r0 t0 sh0 f0 nw0 nc0 np1 np2 np3 nw1 nw2 nw3 nw4 nc1 nc2 tw0 tc0 tp1 tp2 tp3 tw1 tw2 tw3 tw4 tc1 tc2 isk nhour nair nrub nz nnb nkd ncl ngr noc nlit ncold nccell ncpow nsp nwm ndr thour tair trub tz tnb tkd tcl tgr toc tlit tcold tccell tcpow tsp twm tdr)) (ik_Q (some (.int R)) D (wz_X6ont cI cS o0 np0 kp0 tp0 r0 t0 sh0 f0 nw0 nc0 np1 np2 np3 nw1 nw2 nw3 nw4 nc1 nc2 tw0 tc0 tp1 tp2 tp3 tw1 tw2 tw3 tw4 tc1 tc2 isk nhour nair nrub nz nnb nkd ncl ngr noc nlit ncold nccell ncpow nsp nwm ndr thour_r tair_r trub_r tz_r tnb_r tkd_r tcl_r tgr_r toc_r tlit_r tcold_r tccell_r tcpow_r tsp_r twm tdr) (wz_X6ont cI cS o0 np0 kp0 tp0 r0 t0 sh0 f0 nw0 nc0 np1 np2 np3 nw1 nw2 nw3 nw4 nc1 nc2 tw0 tc0 tp1 tp2 tp3 tw1 tw2 tw3 tw4 tc1 tc2 isk nhour nair nrub nz nnb nkd ncl ngr noc nlit ncold nccell ncpow nsp nwm ndr thour tair trub tz tnb tkd tcl tgr toc tlit tcold tccell tcpow tsp twm tdr)) 0 0 (ik_in (wz_X6ont cI cS o0 np0 kp0 tp0 r0 t0 sh0 f0 nw0 nc0 np1 np2 np3 nw1 nw2 nw3 nw4 nc1 nc2 tw0 tc0 tp1 tp2 tp3 tw1 tw2 tw3 tw4 tc1 tc2 isk nhour nair nrub nz nnb nkd ncl ngr noc nlit ncold nccell ncpow nsp nwm ndr thour tair trub tz tnb tkd tcl tgr toc tlit tcold tccell tcpow tsp twm tdr)) := by
  refine ik_metW RX6 rfl (by decide) (Nat.le_of_ble_eq_true rfl) [(0, .ref o0)] rfl ?_
  intro p e s m below meth c C hr hlk
  unfold f_X6_tune at hf
  refine ik_iconst (v := (2 : Int32)) C (by decide) dX6_tune_0 ?_
  refine ik_istore_n C [(1, .int (2 : Int32)), (0, .ref o0)] rfl (by decide) rfl dX6_tune_1 ?_
  refine ik_bipush (v := (17 : Int32)) C (by decide) dX6_tune_2 ?_
  refine ik_istore_n C [(2, .int (17 : Int32)), (1, .int (2 : Int32)), (0, .ref o0)] rfl (by decide) rfl dX6_tune_4 ?_
  refine ik_iconst (v := (2 : Int32)) C (by decide) dX6_tune_5 ?_
  refine ik_istore_n C [(3, .int (2 : Int32)), (2, .int (17 : Int32)), (1, .int (2 : Int32)), (0, .ref o0)] rfl (by decide) rfl dX6_tune_6 ?_
  have hL_7 : ∀ (n_7 : Nat) (thour_7 : Int32) (tair_7 : Int32) (trub_7 : Int32) (tz_7 : Int32) (tnb_7 : Int32) (tkd_7 : Nat → Int32) (tcl_7 : Nat → Int32) (tgr_7 : Nat → Int32) (toc_7 : Nat → Int32) (tlit_7 : Int32) (tcold_7 : Int32) (tccell_7 : Nat → Int32) (tcpow_7 : Nat → Int32) (tsp_7 : Nat → Int32) (x1_7 : Int32) (x2_7 : Int32) (x3_7 : Int32), ik_lp17 (b_X6_tune_7 nhour nair nrub nz nnb nkd ncl ngr noc nlit ncold nccell ncpow nsp) n_7 thour_7 tair_7 trub_7 tz_7 tnb_7 tkd_7 tcl_7 tgr_7 toc_7 tlit_7 tcold_7 tccell_7 tcpow_7 tsp_7 x1_7 x2_7 x3_7 = some (R, thour_r, tair_r, trub_r, tz_r, tnb_r, tkd_r, tcl_r, tgr_r, toc_r, tlit_r, tcold_r, tccell_r, tcpow_r, tsp_r) → ik_G p l e ({ frames := 5, cells := 0, slots := 0, locals := 124 } : Room) s m ([.ref o0] : List Value).toArray below meth c D (ik_in (wz_X6ont cI cS o0 np0 kp0 tp0 r0 t0 sh0 f0 nw0 nc0 np1 np2 np3 nw1 nw2 nw3 nw4 nc1 nc2 tw0 tc0 tp1 tp2 tp3 tw1 tw2 tw3 tw4 tc1 tc2 isk nhour nair nrub nz nnb nkd ncl ngr noc nlit ncold nccell ncpow nsp nwm ndr thour tair trub tz tnb tkd tcl tgr toc tlit tcold tccell tcpow tsp twm tdr)) (ik_in (wz_X6ont cI cS o0 np0 kp0 tp0 r0 t0 sh0 f0 nw0 nc0 np1 np2 np3 nw1 nw2 nw3 nw4 nc1 nc2 tw0 tc0 tp1 tp2 tp3 tw1 tw2 tw3 tw4 tc1 tc2 isk nhour nair nrub nz nnb nkd ncl ngr noc nlit ncold nccell ncpow nsp nwm ndr thour tair trub tz tnb tkd tcl tgr toc tlit tcold tccell tcpow tsp twm tdr)) 5 0 0 (MQ below (ik_Q (some (.int R)) D (wz_X6ont cI cS o0 np0 kp0 tp0 r0 t0 sh0 f0 nw0 nc0 np1 np2 np3 nw1 nw2 nw3 nw4 nc1 nc2 tw0 tc0 tp1 tp2 tp3 tw1 tw2 tw3 tw4 tc1 tc2 isk nhour nair nrub nz nnb nkd ncl ngr noc nlit ncold nccell ncpow nsp nwm ndr thour_r tair_r trub_r tz_r tnb_r tkd_r tcl_r tgr_r toc_r tlit_r tcold_r tccell_r tcpow_r tsp_r twm tdr) (wz_X6ont cI cS o0 np0 kp0 tp0 r0 t0 sh0 f0 nw0 nc0 np1 np2 np3 nw1 nw2 nw3 nw4 nc1 nc2 tw0 tc0 tp1 tp2 tp3 tw1 tw2 tw3 tw4 tc1 tc2 isk nhour nair nrub nz nnb nkd ncl ngr noc nlit ncold nccell ncpow nsp nwm ndr thour tair trub tz tnb tkd tcl tgr toc tlit tcold tccell tcpow tsp twm tdr)) ([.ref o0] : List Value).toArray s 0 0 (ik_in (wz_X6ont cI cS o0 np0 kp0 tp0 r0 t0 sh0 f0 nw0 nc0 np1 np2 np3 nw1 nw2 nw3 nw4 nc1 nc2 tw0 tc0 tp1 tp2 tp3 tw1 tw2 tw3 tw4 tc1 tc2 isk nhour nair nrub nz nnb nkd ncl ngr noc nlit ncold nccell ncpow nsp nwm ndr thour tair trub tz tnb tkd tcl tgr toc tlit tcold tccell tcpow tsp twm tdr))) 7 [(3, .int x3_7), (2, .int x2_7), (1, .int x1_7), (0, .ref o0)] [] (wz_X6ont cI cS o0 np0 kp0 tp0 r0 t0 sh0 f0 nw0 nc0 np1 np2 np3 nw1 nw2 nw3 nw4 nc1 nc2 tw0 tc0 tp1 tp2 tp3 tw1 tw2 tw3 tw4 tc1 tc2 isk nhour nair nrub nz nnb nkd ncl ngr noc nlit ncold nccell ncpow nsp nwm ndr thour_7 tair_7 trub_7 tz_7 tnb_7 tkd_7 tcl_7 tgr_7 toc_7 tlit_7 tcold_7 tccell_7 tcpow_7 tsp_7 twm tdr) := by
    intro n_7
    induction n_7 with
    | zero => intro _ _ _ _ _ _ _ _ _ _ _ _ _ _ _ _ _ hf; exact nomatch hf
    | succ n_7 ih_7 =>
      intro thour_7 tair_7 trub_7 tz_7 tnb_7 tkd_7 tcl_7 tgr_7 toc_7 tlit_7 tcold_7 tccell_7 tcpow_7 tsp_7 x1_7 x2_7 x3_7 hf
      replace hf : b_X6_tune_7 nhour nair nrub nz nnb nkd ncl ngr noc nlit ncold nccell ncpow nsp (ik_lp17 (b_X6_tune_7 nhour nair nrub nz nnb nkd ncl ngr noc nlit ncold nccell ncpow nsp) n_7) thour_7 tair_7 trub_7 tz_7 tnb_7 tkd_7 tcl_7 tgr_7 toc_7 tlit_7 tcold_7 tccell_7 tcpow_7 tsp_7 x1_7 x2_7 x3_7 = some (R, thour_r, tair_r, trub_r, tz_r, tnb_r, tkd_r, tcl_r, tgr_r, toc_r, tlit_r, tcold_r, tccell_r, tcpow_r, tsp_r) := hf
      unfold b_X6_tune_7 at hf
      refine ik_iload_n C 0 rfl rfl dX6_tune_7 ?_
      refine ik_bipush (v := (9 : Int32)) C (by decide) dX6_tune_8 ?_
      refine ik_icmp_gt C 40 dX6_tune_10 (by decide) (fun hc => ?_) (fun hc => ?_)
      · have hf := ik_pos hc hf
        refine ik_iload_n C 2 rfl rfl dX6_tune_40 ?_
        obtain ⟨rfl, rfl, rfl, rfl, rfl, rfl, rfl, rfl, rfl, rfl, rfl, rfl, rfl, rfl, rfl⟩ := ik_e15 hf
        exact ik_iretW C hr hlk dX6_tune_41
      · have hf := ik_neg hc hf
        refine ik_aload_n C 3 rfl rfl dX6_tune_13 ?_
        obtain ⟨g1, g2, g3, g4, g5, g6, g7, g8, g9, g10, g11, g12, g13, g14, hc14, hf⟩ := ik_b14s hf
        have hM := (c_X6_freshTrial l D cI cS o0 np0 kp0 tp0 r0 t0 sh0 f0 nw0 nc0 np1 np2 np3 nw1 nw2 nw3 nw4 nc1 nc2 tw0 tc0 tp1 tp2 tp3 tw1 tw2 tw3 tw4 tc1 tc2 isk nhour nair nrub nz nnb nkd ncl ngr noc nlit ncold nccell ncpow nsp nwm ndr thour_7 tair_7 trub_7 tz_7 tnb_7 tkd_7 tcl_7 tgr_7 toc_7 tlit_7 tcold_7 tccell_7 tcpow_7 tsp_7 twm tdr g1 g2 g3 g4 g5 g6 g7 g8 g9 g10 g11 g12 g13 g14 hc14)
        refine ik_goW (v := (some (.ref tp0))) (wc := (wz_X6ont cI cS o0 np0 kp0 tp0 r0 t0 sh0 f0 nw0 nc0 np1 np2 np3 nw1 nw2 nw3 nw4 nc1 nc2 tw0 tc0 tp1 tp2 tp3 tw1 tw2 tw3 tw4 tc1 tc2 isk nhour nair nrub nz nnb nkd ncl ngr noc nlit ncold nccell ncpow nsp nwm ndr thour_7 tair_7 trub_7 tz_7 tnb_7 tkd_7 tcl_7 tgr_7 toc_7 tlit_7 tcold_7 tccell_7 tcpow_7 tsp_7 twm tdr)) (w1 := (wz_X6ont cI cS o0 np0 kp0 tp0 r0 t0 sh0 f0 nw0 nc0 np1 np2 np3 nw1 nw2 nw3 nw4 nc1 nc2 tw0 tc0 tp1 tp2 tp3 tw1 tw2 tw3 tw4 tc1 tc2 isk nhour nair nrub nz nnb nkd ncl ngr noc nlit ncold nccell ncpow nsp nwm ndr g1 g2 g3 g4 g5 g6 g7 g8 g9 g10 g11 g12 g13 g14 twm tdr)) [0, 1, 2, 3, 4, 5, 6, 7, 8, 9, 10, 11, 12, 13, 14, 15, 16, 17, 18, 19, 20, 21, 22, 23, 24] [] 25 rfl rfl (wz_X6ont cI cS o0 np0 kp0 tp0 r0 t0 sh0 f0 nw0 nc0 np1 np2 np3 nw1 nw2 nw3 nw4 nc1 nc2 tw0 tc0 tp1 tp2 tp3 tw1 tw2 tw3 tw4 tc1 tc2 isk nhour nair nrub nz nnb nkd ncl ngr noc nlit ncold nccell ncpow nsp nwm ndr g1 g2 g3 g4 g5 g6 g7 g8 g9 g10 g11 g12 g13 g14 twm tdr) rfl [] rfl rfl rfl (by decide +kernel) (ik_runV (st := []) (As := []) C hM mv_X6_freshTrial wl_23_10 ⟨rfl, rfl, Nat.le_of_ble_eq_true rfl, Nat.le_of_ble_eq_true rfl⟩ [0, 1, 2, 3, 4, 5, 6, 7, 8, 9, 10, 11, 12, 13, 14, 15, 16, 17, 18, 19, 20, 21, 22, 23, 24] rfl (by decide +kernel) 0 rfl rfl rfl rfl (Nat.le_of_ble_eq_true rfl) dX6_tune_14 ⟨Nat.zero_le _, Nat.zero_le _⟩) rfl ?_
        refine ik_iload_n C 0 rfl rfl dX6_tune_17 ?_
        obtain ⟨r15, g16, g17, g18, g19, g20, hc20, hf⟩ := ik_b6s hf
        have hM := (c_X1_danceTo l D cI cS tp0 tw0 tc0 tp1 tp2 tp3 tw1 tw2 tw3 tw4 tc1 tc2 g1 g2 g3 g4 g5 g6 g7 g8 g9 g10 g11 g12 g13 g14 twm tdr x3_7 r15 g16 g17 g18 g19 g20 hc20)
        refine ik_goW (v := (some (.int r15))) (wc := (wz_X1 cI cS tp0 tw0 tc0 tp1 tp2 tp3 tw1 tw2 tw3 tw4 tc1 tc2 g1 g2 g3 g4 g5 g6 g7 g8 g9 g10 g11 g12 g13 g14 twm tdr)) (w1 := (wz_X1 cI cS tp0 tw0 tc0 tp1 tp2 tp3 tw1 tw2 tw3 tw4 tc1 tc2 g1 g16 g17 g4 g5 g6 g18 g19 g20 g10 g11 g12 g13 g14 twm tdr)) [13, 14, 15, 16, 17, 18, 19, 20, 21, 22, 23, 24] [0, 1, 2, 3, 4, 5, 6, 7, 8, 9, 10, 11, 12] 25 rfl rfl (wz_X6ont cI cS o0 np0 kp0 tp0 r0 t0 sh0 f0 nw0 nc0 np1 np2 np3 nw1 nw2 nw3 nw4 nc1 nc2 tw0 tc0 tp1 tp2 tp3 tw1 tw2 tw3 tw4 tc1 tc2 isk nhour nair nrub nz nnb nkd ncl ngr noc nlit ncold nccell ncpow nsp nwm ndr g1 g16 g17 g4 g5 g6 g18 g19 g20 g10 g11 g12 g13 g14 twm tdr) rfl [(o0, .inr (6, [.ref np0, .ref kp0, .ref tp0, .int isk, .ref r0, .ref t0, .ref sh0, .ref f0])), (np0, .inr (1, [.ref nw0, .ref nc0, .ref np1, .int nhour, .int nair, .int nrub, .int nz, .ref np2, .ref np3])), (nw0, .inr (5, [.int nnb, .ref nw1, .ref nw2, .ref nw3, .ref nw4])), (nw1, .inl (cI, 16, .inl nkd)), (nw2, .inl (cI, 16, .inl ncl)), (nw3, .inl (cI, 16, .inl ngr)), (nw4, .inl (cI, 48, .inl noc)), (nc0, .inr (0, [.ref nc1, .ref nc2, .int nlit, .int ncold])), (nc1, .inl (cI, 6, .inl nccell)), (nc2, .inl (cI, 6, .inl ncpow)), (np1, .inl (cI, 10, .inl nsp)), (np2, .inl (cI, 16, .inl nwm)), (np3, .inl (cI, 8, .inl ndr))] rfl rfl rfl (by decide +kernel) (ik_runV (st := []) (As := [.int x3_7]) C hM mv_X1_danceTo wl_32_13 ⟨rfl, rfl, Nat.le_of_ble_eq_true rfl, Nat.le_of_ble_eq_true rfl⟩ [13, 14, 15, 16, 17, 18, 19, 20, 21, 22, 23, 24] rfl (by decide +kernel) 13 rfl rfl rfl rfl (Nat.le_of_ble_eq_true rfl) dX6_tune_18 ⟨Nat.zero_le _, Nat.zero_le _⟩) rfl ?_
        refine ik_istore C [(4, .int r15), (3, .int x3_7), (2, .int x2_7), (1, .int x1_7), (0, .ref o0)] (by decide) rfl dX6_tune_21 ?_
        refine ik_iload C 0 rfl dX6_tune_23 ?_
        refine ik_iload_n C 2 rfl rfl dX6_tune_25 ?_
        refine ik_icmp_ge C 34 dX6_tune_26 (by decide) (fun hc => ?_) (fun hc => ?_)
        · have hf := ik_pos hc hf
          refine ik_iinc C [(3, .int (x3_7 + (1 : Int32))), (4, .int r15), (2, .int x2_7), (1, .int x1_7), (0, .ref o0)] 1 rfl rfl (by decide) rfl dX6_tune_34 ?_
          refine ik_goto C 7 dX6_tune_37 (by decide) ?_
          exact ik_sub [0, 2, 3, 4] [(3, .int (x3_7 + (1 : Int32))), (2, .int x2_7), (1, .int x1_7), (0, .ref o0)] rfl (ih_7 g1 g16 g17 g4 g5 g6 g18 g19 g20 g10 g11 g12 g13 g14 x1_7 x2_7 (x3_7 + (1 : Int32)) hf)
        · have hf := ik_neg hc hf
          refine ik_iload_n C 1 rfl rfl dX6_tune_29 ?_
          refine ik_istore_n C [(1, .int x3_7), (4, .int r15), (3, .int x3_7), (2, .int x2_7), (0, .ref o0)] rfl (by decide) rfl dX6_tune_30 ?_
          refine ik_iload C 1 rfl dX6_tune_31 ?_
          refine ik_istore_n C [(2, .int r15), (1, .int x3_7), (4, .int r15), (3, .int x3_7), (0, .ref o0)] rfl (by decide) rfl dX6_tune_33 ?_
          refine ik_iinc C [(3, .int (x3_7 + (1 : Int32))), (2, .int r15), (1, .int x3_7), (4, .int r15), (0, .ref o0)] 3 rfl rfl (by decide) rfl dX6_tune_34 ?_
          refine ik_goto C 7 dX6_tune_37 (by decide) ?_
          exact ik_sub [0, 1, 2, 4] [(3, .int (x3_7 + (1 : Int32))), (2, .int r15), (1, .int x3_7), (0, .ref o0)] rfl (ih_7 g1 g16 g17 g4 g5 g6 g18 g19 g20 g10 g11 g12 g13 g14 x3_7 r15 (x3_7 + (1 : Int32)) hf)
  exact hL_7 ik_fu thour tair trub tz tnb tkd tcl tgr toc tlit tcold tccell tcpow tsp (2 : Int32) (17 : Int32) (2 : Int32) hf
