theorem mv_X6_undo : ik_V yX6_undo RX6 cX6_undo 1 (some .int) 0 := ⟨wl_47_17, wl_47_18, wl_1_2, wl_47_19, by decide +kernel⟩
set_option maxHeartbeats 4000000 in
set_option maxRecDepth 100000 in
theorem c_X6_undo (l : Launch) (D : va_G) (cI cS : ClassId) (o0 np0 kp0 tp0 r0 t0 sh0 f0 nw0 nc0 np1 np2 np3 nw1 nw2 nw3 nw4 nc1 nc2 kw0 kc0 kp1 kp2 kp3 kw1 kw2 kw3 kw4 kc1 kc2 : Nat) (isk : Int32) (fnd : Nat → Int32) (nhour : Int32) (nair : Int32) (nrub : Int32) (nz : Int32) (nnb : Int32) (nkd : Nat → Int32) (ncl : Nat → Int32) (ngr : Nat → Int32) (noc : Nat → Int32) (nlit : Int32) (ncold : Int32) (nccell : Nat → Int32) (ncpow : Nat → Int32) (nsp : Nat → Int32) (nwm : Nat → Int32) (ndr : Nat → Int32) (khour : Int32) (kair : Int32) (krub : Int32) (kz : Int32) (knb : Int32) (kkd : Nat → Int32) (kcl : Nat → Int32) (kgr : Nat → Int32) (koc : Nat → Int32) (klit : Int32) (kcold : Int32) (kccell : Nat → Int32) (kcpow : Nat → Int32) (ksp : Nat → Int32) (kwm : Nat → Int32) (kdr : Nat → Int32) (R : Int32) (fnd_r : Nat → Int32) (nhour_r : Int32) (nair_r : Int32) (nrub_r : Int32) (nz_r : Int32) (nnb_r : Int32) (nkd_r : Nat → Int32) (ncl_r : Nat → Int32) (ngr_r : Nat → Int32) (noc_r : Nat → Int32) (nlit_r : Int32) (ncold_r : Int32) (nccell_r : Nat → Int32) (ncpow_r : Nat → Int32) (nsp_r : Nat → Int32) (hf : f_X6_undo isk fnd nhour nair nrub nz nnb nkd ncl ngr noc nlit ncold nccell ncpow nsp khour kair krub kz knb kkd kcl kgr koc klit kcold kccell kcpow ksp = some (R, fnd_r, nhour_r, nair_r, nrub_r, nz_r, nnb_r, nkd_r, ncl_r, ngr_r, noc_r, nlit_r, ncold_r, nccell_r, ncpow_r, nsp_r)) : Met l yX6_undo (ik_ws yX6_undo cX6_undo 1 (some .int)) ({ frames := 3, cells := 0, slots := 0, locals := 102 } : Room) (ik_P D cI cS [.ref o0] (wz_X6ofnk cI cS o0 np0 kp0 tp0 r0 t0 sh0 f0 nw0 nc0 np1 np2 np3 nw1 nw2 nw3 nw4 nc1 nc2 kw0 kc0 kp1 kp2 kp3 kw1 kw2 kw3 kw4 kc1 kc2 isk fnd nhour nair nrub nz nnb nkd ncl ngr noc nlit ncold nccell ncpow nsp nwm ndr khour kair krub kz knb kkd kcl kgr koc klit kcold kccell kcpow ksp kwm kdr)) (ik_Q (some (.int R)) D (wz_X6ofnk cI cS o0 np0 kp0 tp0 r0 t0 sh0 f0 nw0 nc0 np1 np2 np3 nw1 nw2 nw3 nw4 nc1 nc2 kw0 kc0 kp1 kp2 kp3 kw1 kw2 kw3 kw4 kc1 kc2 isk fnd_r nhour_r nair_r nrub_r nz_r nnb_r nkd_r ncl_r ngr_r noc_r nlit_r ncold_r nccell_r ncpow_r nsp_r nwm ndr khour kair krub kz knb kkd kcl kgr koc klit kcold kccell kcpow ksp kwm kdr) (wz_X6ofnk cI cS o0 np0 kp0 tp0 r0 t0 sh0 f0 nw0 nc0 np1 np2 np3 nw1 nw2 nw3 nw4 nc1 nc2 kw0 kc0 kp1 kp2 kp3 kw1 kw2 kw3 kw4 kc1 kc2 isk fnd nhour nair nrub nz nnb nkd ncl ngr noc nlit ncold nccell ncpow nsp nwm ndr khour kair krub kz knb kkd kcl kgr koc klit kcold kccell kcpow ksp kwm kdr)) 0 0 (ik_in (wz_X6ofnk cI cS o0 np0 kp0 tp0 r0 t0 sh0 f0 nw0 nc0 np1 np2 np3 nw1 nw2 nw3 nw4 nc1 nc2 kw0 kc0 kp1 kp2 kp3 kw1 kw2 kw3 kw4 kc1 kc2 isk fnd nhour nair nrub nz nnb nkd ncl ngr noc nlit ncold nccell ncpow nsp nwm ndr khour kair krub kz knb kkd kcl kgr koc klit kcold kccell kcpow ksp kwm kdr)) := by
  refine ik_metW RX6 rfl (by decide) (Nat.le_of_ble_eq_true rfl) [(0, .ref o0)] rfl ?_
  intro p e s m below meth c C hr hlk
  unfold f_X6_undo at hf
  refine ik_aload_n C 0 rfl rfl dX6_undo_0 ?_
  refine ik_get C inlX6 0 rfl rfl 3 (by decide) wl_47_10 rfl (v := .int isk) rfl dX6_undo_1 ?_
  refine ik_if_ne C 14 dX6_undo_4 (by decide) (fun hc => ?_) (fun hc => ?_)
  · have hf := ik_neg hc hf
    refine ik_aload_n C 0 rfl rfl dX6_undo_14 ?_
    refine ik_get C inlX6 0 rfl rfl 0 (by decide) wl_1_15 rfl (v := .ref np0) rfl dX6_undo_15 ?_
    refine ik_aload_n C 0 rfl rfl dX6_undo_18 ?_
    refine ik_get C inlX6 0 rfl rfl 1 (by decide) wl_1_16 rfl (v := .ref kp0) rfl dX6_undo_19 ?_
    obtain ⟨g1, g2, g3, g4, g5, g6, g7, g8, g9, g10, g11, g12, g13, g14, hc14, hf⟩ := ik_b14s hf
    refine ik_goW [2, 3, 4, 5, 6, 7, 8, 9, 10, 11, 12, 13, 14, 15, 16, 17, 18, 19, 20, 21, 22, 23, 24, 25] rfl rfl (wz_X6ofnk cI cS o0 np0 kp0 tp0 r0 t0 sh0 f0 nw0 nc0 np1 np2 np3 nw1 nw2 nw3 nw4 nc1 nc2 kw0 kc0 kp1 kp2 kp3 kw1 kw2 kw3 kw4 kc1 kc2 isk fnd g1 g2 g3 g4 g5 g6 g7 g8 g9 g10 g11 g12 g13 g14 nwm ndr khour kair krub kz knb kkd kcl kgr koc klit kcold kccell kcpow ksp kwm kdr) rfl (ik_runV C (c_X1_copyFrom l D cI cS np0 nw0 nc0 np1 np2 np3 nw1 nw2 nw3 nw4 nc1 nc2 kp0 kw0 kc0 kp1 kp2 kp3 kw1 kw2 kw3 kw4 kc1 kc2 nhour nair nrub nz nnb nkd ncl ngr noc nlit ncold nccell ncpow nsp nwm ndr khour kair krub kz knb kkd kcl kgr koc klit kcold kccell kcpow ksp kwm kdr g1 g2 g3 g4 g5 g6 g7 g8 g9 g10 g11 g12 g13 g14 hc14) mv_X1_copyFrom wl_23_14 ⟨rfl, rfl, Nat.le_of_ble_eq_true rfl, Nat.le_of_ble_eq_true rfl⟩ [2, 3, 4, 5, 6, 7, 8, 9, 10, 11, 12, 13, 14, 15, 16, 17, 18, 19, 20, 21, 22, 23, 24, 25] rfl (by decide) 2 rfl rfl rfl rfl (Nat.le_of_ble_eq_true rfl) dX6_undo_22) rfl ?_
    refine ik_aload_n C 0 rfl rfl dX6_undo_25 ?_
    refine ik_get C inlX6 0 rfl rfl 0 (by decide) wl_1_15 rfl (v := .ref np0) rfl dX6_undo_26 ?_
    refine ik_get C inlX1 2 rfl rfl 3 (by decide) wl_18_2 rfl (v := .int g1) rfl dX6_undo_29 ?_
    cases hf
    exact ik_iretW C hr hlk dX6_undo_32
  · have hf := ik_pos hc hf
    refine ik_aload_n C 0 rfl rfl dX6_undo_7 ?_
    refine ik_ldc C wl_25_9 dX6_undo_8 ?_
    obtain ⟨r1, g2, hc2, hf⟩ := ik_b2s hf
    refine ik_goW [0, 1] rfl rfl (wz_X6ofnk cI cS o0 np0 kp0 tp0 r0 t0 sh0 f0 nw0 nc0 np1 np2 np3 nw1 nw2 nw3 nw4 nc1 nc2 kw0 kc0 kp1 kp2 kp3 kw1 kw2 kw3 kw4 kc1 kc2 isk g2 nhour nair nrub nz nnb nkd ncl ngr noc nlit ncold nccell ncpow nsp nwm ndr khour kair krub kz knb kkd kcl kgr koc klit kcold kccell kcpow ksp kwm kdr) rfl (ik_runV C (c_X6_tell l D cI cS o0 np0 kp0 tp0 r0 t0 sh0 f0 isk fnd (-1000004 : Int32) r1 g2 hc2) mv_X6_tell wl_5_16 ⟨rfl, rfl, Nat.le_of_ble_eq_true rfl, Nat.le_of_ble_eq_true rfl⟩ [0, 1] rfl (by decide) 0 rfl rfl rfl rfl (Nat.le_of_ble_eq_true rfl) dX6_undo_10) rfl ?_
    cases hf
    exact ik_iretW C hr hlk dX6_undo_13
theorem mv_X6_count : ik_V yX6_count RX6 cX6_count 2 (some .int) 1 := ⟨wl_48_9, wl_48_10, wl_1_2, wl_48_11, by decide +kernel⟩
set_option maxHeartbeats 4000000 in
set_option maxRecDepth 100000 in
theorem c_X6_count (l : Launch) (D : va_G) (cI cS : ClassId) (o0 np0 kp0 tp0 r0 t0 sh0 f0 nw0 nc0 np1 np2 np3 nw1 nw2 nw3 nw4 nc1 nc2 t1 : Nat) (isk : Int32) (fnd : Nat → Int32) (nhour : Int32) (nair : Int32) (nrub : Int32) (nz : Int32) (nnb : Int32) (nkd : Nat → Int32) (ncl : Nat → Int32) (ngr : Nat → Int32) (noc : Nat → Int32) (nlit : Int32) (ncold : Int32) (nccell : Nat → Int32) (ncpow : Nat → Int32) (nsp : Nat → Int32) (nwm : Nat → Int32) (ndr : Nat → Int32) (tok : Int32) (sta : Int32) (en : Int32) (val : Int32) (tsize : Int32) (tby : Nat → Int32) (x1 : Int32) (R : Int32) (fnd_r : Nat → Int32) (hf : f_X6_count fnd nhour nair nrub nz nnb ncl ngr tsize x1 = some (R, fnd_r)) : Met l yX6_count (ik_ws yX6_count cX6_count 2 (some .int)) ({ frames := 2, cells := 0, slots := 0, locals := 44 } : Room) (ik_P D cI cS [.ref o0, .int x1] (wz_X6ofnr cI cS o0 np0 kp0 tp0 r0 t0 sh0 f0 nw0 nc0 np1 np2 np3 nw1 nw2 nw3 nw4 nc1 nc2 t1 isk fnd nhour nair nrub nz nnb nkd ncl ngr noc nlit ncold nccell ncpow nsp nwm ndr tok sta en val tsize tby)) (ik_Q (some (.int R)) D (wz_X6ofnr cI cS o0 np0 kp0 tp0 r0 t0 sh0 f0 nw0 nc0 np1 np2 np3 nw1 nw2 nw3 nw4 nc1 nc2 t1 isk fnd_r nhour nair nrub nz nnb nkd ncl ngr noc nlit ncold nccell ncpow nsp nwm ndr tok sta en val tsize tby) (wz_X6ofnr cI cS o0 np0 kp0 tp0 r0 t0 sh0 f0 nw0 nc0 np1 np2 np3 nw1 nw2 nw3 nw4 nc1 nc2 t1 isk fnd nhour nair nrub nz nnb nkd ncl ngr noc nlit ncold nccell ncpow nsp nwm ndr tok sta en val tsize tby)) 0 0 (ik_in (wz_X6ofnr cI cS o0 np0 kp0 tp0 r0 t0 sh0 f0 nw0 nc0 np1 np2 np3 nw1 nw2 nw3 nw4 nc1 nc2 t1 isk fnd nhour nair nrub nz nnb nkd ncl ngr noc nlit ncold nccell ncpow nsp nwm ndr tok sta en val tsize tby)) := by
  refine ik_metW RX6 rfl (by decide) (Nat.le_of_ble_eq_true rfl) [(0, .ref o0), (1, .int x1)] rfl ?_
  intro p e s m below meth c C hr hlk
  unfold f_X6_count at hf
  refine ik_iload_n C 1 rfl rfl dX6_count_0 ?_
  by_cases hn0 : x1 = (0 : Int32)
  · have hf := ik_pos hn0 hf
    refine ik_tcase C (0 : Int32) hn0 48 dX6_count_1 (by decide) (by decide) rfl (by decide) ?_
    refine ik_aload_n C 0 rfl rfl dX6_count_48 ?_
    refine ik_get C inlX6 0 rfl rfl 0 (by decide) wl_1_15 rfl (v := .ref np0) rfl dX6_count_49 ?_
    refine ik_get C inlX1 2 rfl rfl 3 (by decide) wl_18_2 rfl (v := .int nhour) rfl dX6_count_52 ?_
    cases hf
    exact ik_iretW C hr hlk dX6_count_55
  · have hf := ik_neg hn0 hf
    by_cases hn1 : x1 = (1 : Int32)
    · have hf := ik_pos hn1 hf
      refine ik_tcase C (1 : Int32) hn1 56 dX6_count_1 (by decide) (by decide) rfl (by decide) ?_
      refine ik_aload_n C 0 rfl rfl dX6_count_56 ?_
      refine ik_get C inlX6 0 rfl rfl 0 (by decide) wl_1_15 rfl (v := .ref np0) rfl dX6_count_57 ?_
      refine ik_get C inlX1 2 rfl rfl 0 (by decide) wl_5_4 rfl (v := .ref nw0) rfl dX6_count_60 ?_
      refine ik_get C inlX5 3 rfl rfl 0 (by decide) wl_28_15 rfl (v := .int nnb) rfl dX6_count_63 ?_
      cases hf
      exact ik_iretW C hr hlk dX6_count_66
    · have hf := ik_neg hn1 hf
      by_cases hn2 : x1 = (2 : Int32)
      · have hf := ik_pos hn2 hf
        refine ik_tcase C (2 : Int32) hn2 67 dX6_count_1 (by decide) (by decide) rfl (by decide) ?_
        refine ik_aload_n C 0 rfl rfl dX6_count_67 ?_
        refine ik_get C inlX6 0 rfl rfl 0 (by decide) wl_1_15 rfl (v := .ref np0) rfl dX6_count_68 ?_
        refine ik_get C inlX1 2 rfl rfl 0 (by decide) wl_5_4 rfl (v := .ref nw0) rfl dX6_count_71 ?_
        obtain ⟨r1, hc1, hf⟩ := ik_b1s hf
        refine ik_goR (ik_runV C (c_X5_goneSet l D cI cS nw0 nw1 nw2 nw3 nw4 nnb nkd ncl ngr noc r1 hc1) mv_X5_goneSet wl_24_12 ⟨rfl, rfl, Nat.le_of_ble_eq_true rfl, Nat.le_of_ble_eq_true rfl⟩ [3, 4, 5, 6, 7] rfl (by decide) 3 rfl rfl rfl rfl (Nat.le_of_ble_eq_true rfl) dX6_count_74) rfl ?_
        obtain ⟨r2, hc2, hf⟩ := ik_b1s hf
        refine ik_goR (ik_runS C (c_J6_bitCount_0f7a4 l D cI cS r1 r2 hc2) ms_J6_bitCount_0f7a4 wl_48_12 ⟨rfl, rfl, Nat.le_of_ble_eq_true rfl, Nat.le_of_ble_eq_true rfl⟩ [] rfl (by decide) rfl rfl (Nat.le_of_ble_eq_true rfl) dX6_count_77) rfl ?_
        cases hf
        exact ik_iretW C hr hlk dX6_count_80
      · have hf := ik_neg hn2 hf
        by_cases hn3 : x1 = (3 : Int32)
        · have hf := ik_pos hn3 hf
          refine ik_tcase C (3 : Int32) hn3 81 dX6_count_1 (by decide) (by decide) rfl (by decide) ?_
          refine ik_aload_n C 0 rfl rfl dX6_count_81 ?_
          refine ik_get C inlX6 0 rfl rfl 0 (by decide) wl_1_15 rfl (v := .ref np0) rfl dX6_count_82 ?_
          refine ik_get C inlX1 2 rfl rfl 0 (by decide) wl_5_4 rfl (v := .ref nw0) rfl dX6_count_85 ?_
          obtain ⟨r1, hc1, hf⟩ := ik_b1s hf
          refine ik_goR (ik_runV C (c_X5_allGrains l D cI cS nw0 nw1 nw2 nw3 nw4 nnb nkd ncl ngr noc r1 hc1) mv_X5_allGrains wl_24_8 ⟨rfl, rfl, Nat.le_of_ble_eq_true rfl, Nat.le_of_ble_eq_true rfl⟩ [3, 4, 5, 6, 7] rfl (by decide) 3 rfl rfl rfl rfl (Nat.le_of_ble_eq_true rfl) dX6_count_88) rfl ?_
          cases hf
          exact ik_iretW C hr hlk dX6_count_91
        · have hf := ik_neg hn3 hf
          by_cases hn4 : x1 = (4 : Int32)
          · have hf := ik_pos hn4 hf
            refine ik_tcase C (4 : Int32) hn4 92 dX6_count_1 (by decide) (by decide) rfl (by decide) ?_
            refine ik_aload_n C 0 rfl rfl dX6_count_92 ?_
            refine ik_get C inlX6 0 rfl rfl 0 (by decide) wl_1_15 rfl (v := .ref np0) rfl dX6_count_93 ?_
            refine ik_get C inlX1 2 rfl rfl 4 (by decide) wl_23_8 rfl (v := .int nair) rfl dX6_count_96 ?_
            cases hf
            exact ik_iretW C hr hlk dX6_count_99
          · have hf := ik_neg hn4 hf
            by_cases hn5 : x1 = (5 : Int32)
            · have hf := ik_pos hn5 hf
              refine ik_tcase C (5 : Int32) hn5 100 dX6_count_1 (by decide) (by decide) rfl (by decide) ?_
              refine ik_aload_n C 0 rfl rfl dX6_count_100 ?_
              refine ik_get C inlX6 0 rfl rfl 0 (by decide) wl_1_15 rfl (v := .ref np0) rfl dX6_count_101 ?_
              refine ik_get C inlX1 2 rfl rfl 5 (by decide) wl_23_9 rfl (v := .int nrub) rfl dX6_count_104 ?_
              cases hf
              exact ik_iretW C hr hlk dX6_count_107
            · have hf := ik_neg hn5 hf
              by_cases hn6 : x1 = (6 : Int32)
              · have hf := ik_pos hn6 hf
                refine ik_tcase C (6 : Int32) hn6 108 dX6_count_1 (by decide) (by decide) rfl (by decide) ?_
                refine ik_aload_n C 0 rfl rfl dX6_count_108 ?_
                refine ik_get C inlX6 0 rfl rfl 5 (by decide) wl_1_23 rfl (v := .ref t0) rfl dX6_count_109 ?_
                refine ik_get C inlX3 15 rfl rfl 1 (by decide) wl_34_17 rfl (v := .int tsize) rfl dX6_count_112 ?_
                cases hf
                exact ik_iretW C hr hlk dX6_count_115
              · have hf := ik_neg hn6 hf
                by_cases hn7 : x1 = (7 : Int32)
                · have hf := ik_pos hn7 hf
                  refine ik_tcase C (7 : Int32) hn7 116 dX6_count_1 (by decide) (by decide) rfl (by decide) ?_
                  refine ik_aload_n C 0 rfl rfl dX6_count_116 ?_
                  refine ik_get C inlX6 0 rfl rfl 0 (by decide) wl_1_15 rfl (v := .ref np0) rfl dX6_count_117 ?_
                  refine ik_get C inlX1 2 rfl rfl 6 (by decide) wl_34_8 rfl (v := .int nz) rfl dX6_count_120 ?_
                  cases hf
                  exact ik_iretW C hr hlk dX6_count_123
                · have hf := ik_neg hn7 hf
                  refine ik_tout C 124 dX6_count_1 (by have ehn0 : (x1).toInt ≠ 0 := fun h => hn0 (Int32.toInt_inj.mp h); have ehn1 : (x1).toInt ≠ 1 := fun h => hn1 (Int32.toInt_inj.mp h); have ehn2 : (x1).toInt ≠ 2 := fun h => hn2 (Int32.toInt_inj.mp h); have ehn3 : (x1).toInt ≠ 3 := fun h => hn3 (Int32.toInt_inj.mp h); have ehn4 : (x1).toInt ≠ 4 := fun h => hn4 (Int32.toInt_inj.mp h); have ehn5 : (x1).toInt ≠ 5 := fun h => hn5 (Int32.toInt_inj.mp h); have ehn6 : (x1).toInt ≠ 6 := fun h => hn6 (Int32.toInt_inj.mp h); have ehn7 : (x1).toInt ≠ 7 := fun h => hn7 (Int32.toInt_inj.mp h); omega) (by decide) ?_
                  refine ik_aload_n C 0 rfl rfl dX6_count_124 ?_
                  refine ik_ldc C wl_5_3 dX6_count_125 ?_
                  obtain ⟨r1, g2, hc2, hf⟩ := ik_b2s hf
                  refine ik_goW [0, 1] rfl rfl (wz_X6ofnr cI cS o0 np0 kp0 tp0 r0 t0 sh0 f0 nw0 nc0 np1 np2 np3 nw1 nw2 nw3 nw4 nc1 nc2 t1 isk g2 nhour nair nrub nz nnb nkd ncl ngr noc nlit ncold nccell ncpow nsp nwm ndr tok sta en val tsize tby) rfl (ik_runV C (c_X6_tell l D cI cS o0 np0 kp0 tp0 r0 t0 sh0 f0 isk fnd (-1000001 : Int32) r1 g2 hc2) mv_X6_tell wl_5_16 ⟨rfl, rfl, Nat.le_of_ble_eq_true rfl, Nat.le_of_ble_eq_true rfl⟩ [0, 1] rfl (by decide) 0 rfl rfl rfl rfl (Nat.le_of_ble_eq_true rfl) dX6_count_127) rfl ?_
                  cases hf
                  exact ik_iretW C hr hlk dX6_count_130
theorem mv_X6_status : ik_V yX6_status RX6 cX6_status 4 (some .int) 1 := ⟨wl_49_0, wl_49_1, wl_1_2, wl_49_2, by decide +kernel⟩
set_option maxHeartbeats 4000000 in
set_option maxRecDepth 100000 in
theorem c_X6_status (l : Launch) (D : va_G) (cI cS : ClassId) (o0 np0 kp0 tp0 r0 t0 sh0 f0 : Nat) (isk : Int32) (fnd : Nat → Int32) (x1 : Int32) (R : Int32) (fnd_r : Nat → Int32) (hf : f_X6_status fnd x1 = some (R, fnd_r)) : Met l yX6_status (ik_ws yX6_status cX6_status 4 (some .int)) ({ frames := 2, cells := 0, slots := 0, locals := 44 } : Room) (ik_P D cI cS [.ref o0, .int x1] (wz_X6of cI cS o0 np0 kp0 tp0 r0 t0 sh0 f0 isk fnd)) (ik_Q (some (.int R)) D (wz_X6of cI cS o0 np0 kp0 tp0 r0 t0 sh0 f0 isk fnd_r) (wz_X6of cI cS o0 np0 kp0 tp0 r0 t0 sh0 f0 isk fnd)) 0 0 (ik_in (wz_X6of cI cS o0 np0 kp0 tp0 r0 t0 sh0 f0 isk fnd)) := by
  refine ik_metW RX6 rfl (by decide) (Nat.le_of_ble_eq_true rfl) [(0, .ref o0), (1, .int x1)] rfl ?_
  intro p e s m below meth c C hr hlk
  unfold f_X6_status at hf
  refine ik_iload_n C 1 rfl rfl dX6_status_0 ?_
  refine ik_iconst (v := (-1 : Int32)) C (by decide) dX6_status_1 ?_
  refine ik_bipush (v := (6 : Int32)) C (by decide) dX6_status_2 ?_
  obtain ⟨r1, hc1, hf⟩ := ik_b1s hf
  refine ik_goR (ik_runS C (c_X6_isWithin l D cI cS x1 (-1 : Int32) (6 : Int32) r1 hc1) ms_X6_isWithin wl_5_10 ⟨rfl, rfl, Nat.le_of_ble_eq_true rfl, Nat.le_of_ble_eq_true rfl⟩ [] rfl (by decide) rfl rfl (Nat.le_of_ble_eq_true rfl) dX6_status_4) rfl ?_
  refine ik_if_ne C 17 dX6_status_7 (by decide) (fun hc => ?_) (fun hc => ?_)
  · have hf := ik_neg hc hf
    refine ik_iload_n C 1 rfl rfl dX6_status_17 ?_
    refine ik_if_lt C 28 dX6_status_18 (by decide) (fun hc => ?_) (fun hc => ?_)
    · have hf := ik_pos hc hf
      refine ik_iconst (v := (0 : Int32)) C (by decide) dX6_status_28 ?_
      refine ik_istore_n C [(2, .int (0 : Int32)), (0, .ref o0), (1, .int x1)] rfl (by decide) rfl dX6_status_29 ?_
      refine ik_iconst (v := (0 : Int32)) C (by decide) dX6_status_30 ?_
      refine ik_istore_n C [(3, .int (0 : Int32)), (2, .int (0 : Int32)), (0, .ref o0), (1, .int x1)] rfl (by decide) rfl dX6_status_31 ?_
      have hL_32 : ∀ (n_32 : Nat) (x2_32 : Int32) (x3_32 : Int32), ik_lp2 (b_X6_status_32 fnd) n_32 x2_32 x3_32 = some (R, fnd_r) → ik_G p l e ({ frames := 2, cells := 0, slots := 0, locals := 44 } : Room) s m ([.ref o0, .int x1] : List Value).toArray below meth c D (ik_in (wz_X6of cI cS o0 np0 kp0 tp0 r0 t0 sh0 f0 isk fnd)) (ik_in (wz_X6of cI cS o0 np0 kp0 tp0 r0 t0 sh0 f0 isk fnd)) 4 (MQ below (ik_Q (some (.int R)) D (wz_X6of cI cS o0 np0 kp0 tp0 r0 t0 sh0 f0 isk fnd_r) (wz_X6of cI cS o0 np0 kp0 tp0 r0 t0 sh0 f0 isk fnd)) ([.ref o0, .int x1] : List Value).toArray s 0 0 (ik_in (wz_X6of cI cS o0 np0 kp0 tp0 r0 t0 sh0 f0 isk fnd))) 32 [(3, .int x3_32), (2, .int x2_32), (0, .ref o0), (1, .int x1)] [] (wz_X6of cI cS o0 np0 kp0 tp0 r0 t0 sh0 f0 isk fnd) := by
        intro n_32
        induction n_32 with
        | zero => intro _ _ hf; exact nomatch hf
        | succ n_32 ih_32 =>
          intro x2_32 x3_32 hf
          replace hf : b_X6_status_32 fnd (ik_lp2 (b_X6_status_32 fnd) n_32) x2_32 x3_32 = some (R, fnd_r) := hf
          unfold b_X6_status_32 at hf
          refine ik_iload_n C 0 rfl rfl dX6_status_32 ?_
          refine ik_bipush (v := (7 : Int32)) C (by decide) dX6_status_33 ?_
          refine ik_icmp_ge C 53 dX6_status_35 (by decide) (fun hc => ?_) (fun hc => ?_)
          · have hf := ik_pos hc hf
            refine ik_iload_n C 1 rfl rfl dX6_status_53 ?_
            cases hf
            exact ik_iretW C hr hlk dX6_status_54
          · have hf := ik_neg hc hf
            refine ik_iload_n C 1 rfl rfl dX6_status_38 ?_
            refine ik_aload_n C 2 rfl rfl dX6_status_39 ?_
            refine ik_get C inlX6 0 rfl rfl 7 (by decide) wl_2_3 rfl (v := .ref f0) rfl dX6_status_40 ?_
            refine ik_iload_n C 0 rfl rfl dX6_status_43 ?_
            have hg := ik_gdi hf
            have hf := ik_gdk hf
            refine ik_iald C 1 rfl hg dX6_status_44 ?_
            refine ik_iadd C dX6_status_45 ?_
            refine ik_istore_n C [(2, .int (x2_32 + (fnd (x3_32).toNatClampNeg))), (3, .int x3_32), (0, .ref o0), (1, .int x1)] rfl (by decide) rfl dX6_status_46 ?_
            refine ik_iinc C [(3, .int (x3_32 + (1 : Int32))), (2, .int (x2_32 + (fnd (x3_32).toNatClampNeg))), (0, .ref o0), (1, .int x1)] 1 rfl rfl (by decide) rfl dX6_status_47 ?_
            refine ik_goto C 32 dX6_status_50 (by decide) ?_
            exact ik_sub [0, 1, 2, 3] [(3, .int (x3_32 + (1 : Int32))), (2, .int (x2_32 + (fnd (x3_32).toNatClampNeg))), (0, .ref o0), (1, .int x1)] rfl (ih_32 (x2_32 + (fnd (x3_32).toNatClampNeg)) (x3_32 + (1 : Int32)) hf)
      exact hL_32 ik_fu (0 : Int32) (0 : Int32) hf
    · have hf := ik_neg hc hf
      refine ik_aload_n C 0 rfl rfl dX6_status_21 ?_
      refine ik_get C inlX6 0 rfl rfl 7 (by decide) wl_2_3 rfl (v := .ref f0) rfl dX6_status_22 ?_
      refine ik_iload_n C 1 rfl rfl dX6_status_25 ?_
      have hg := ik_gdi hf
      have hf := ik_gdk hf
      refine ik_iald C 1 rfl hg dX6_status_26 ?_
      cases hf
      exact ik_iretW C hr hlk dX6_status_27
  · have hf := ik_pos hc hf
    refine ik_aload_n C 0 rfl rfl dX6_status_10 ?_
    refine ik_ldc C wl_5_3 dX6_status_11 ?_
    obtain ⟨r2, g3, hc3, hf⟩ := ik_b2s hf
    refine ik_goW [0, 1] rfl rfl (wz_X6of cI cS o0 np0 kp0 tp0 r0 t0 sh0 f0 isk g3) rfl (ik_runV C (c_X6_tell l D cI cS o0 np0 kp0 tp0 r0 t0 sh0 f0 isk fnd (-1000001 : Int32) r2 g3 hc3) mv_X6_tell wl_5_16 ⟨rfl, rfl, Nat.le_of_ble_eq_true rfl, Nat.le_of_ble_eq_true rfl⟩ [0, 1] rfl (by decide) 0 rfl rfl rfl rfl (Nat.le_of_ble_eq_true rfl) dX6_status_13) rfl ?_
    cases hf
    exact ik_iretW C hr hlk dX6_status_16
theorem mv_X1_passHour : ik_V yX1_passHour RX1 cX1_passHour 2 (some .int) 0 := ⟨wl_18_16, wl_18_17, wl_1_14, wl_18_18, by decide +kernel⟩
set_option maxHeartbeats 4000000 in
set_option maxRecDepth 100000 in
theorem c_X1_passHour (l : Launch) (D : va_G) (cI cS : ClassId) (p0 w0 c0 p1 p2 p3 w1 w2 w3 w4 c1 c2 : Nat) (hour : Int32) (air : Int32) (rub : Int32) (z : Int32) (nb : Int32) (kd : Nat → Int32) (cl : Nat → Int32) (gr : Nat → Int32) (oc : Nat → Int32) (lit : Int32) (cold : Int32) (ccell : Nat → Int32) (cpow : Nat → Int32) (sp : Nat → Int32) (wm : Nat → Int32) (dr : Nat → Int32) (R : Int32) (hour_r : Int32) (air_r : Int32) (rub_r : Int32) (cl_r : Nat → Int32) (gr_r : Nat → Int32) (oc_r : Nat → Int32) (dr_r : Nat → Int32) (hf : f_X1_passHour hour air rub nb kd cl gr oc wm dr = some (R, hour_r, air_r, rub_r, cl_r, gr_r, oc_r, dr_r)) : Met l yX1_passHour (ik_ws yX1_passHour cX1_passHour 2 (some .int)) ({ frames := 4, cells := 0, slots := 0, locals := 101 } : Room) (ik_P D cI cS [.ref p0] (wz_X1 cI cS p0 w0 c0 p1 p2 p3 w1 w2 w3 w4 c1 c2 hour air rub z nb kd cl gr oc lit cold ccell cpow sp wm dr)) (ik_Q (some (.int R)) D (wz_X1 cI cS p0 w0 c0 p1 p2 p3 w1 w2 w3 w4 c1 c2 hour_r air_r rub_r z nb kd cl_r gr_r oc_r lit cold ccell cpow sp wm dr_r) (wz_X1 cI cS p0 w0 c0 p1 p2 p3 w1 w2 w3 w4 c1 c2 hour air rub z nb kd cl gr oc lit cold ccell cpow sp wm dr)) 0 0 (ik_in (wz_X1 cI cS p0 w0 c0 p1 p2 p3 w1 w2 w3 w4 c1 c2 hour air rub z nb kd cl gr oc lit cold ccell cpow sp wm dr)) := by
  refine ik_metW RX1 rfl (by decide) (Nat.le_of_ble_eq_true rfl) [(0, .ref p0)] rfl ?_
  intro p e s m below meth c C hr hlk
  unfold f_X1_passHour at hf
  refine ik_aload_n C 0 rfl rfl dX1_passHour_0 ?_
  refine ik_get C inlX1 0 rfl rfl 8 (by decide) wl_2_21 rfl (v := .ref p3) rfl dX1_passHour_1 ?_
  refine ik_iconst (v := (0 : Int32)) C (by decide) dX1_passHour_4 ?_
  obtain ⟨g1, hc1, hf⟩ := ik_b1s hf
  refine ik_goW [11] rfl rfl (wz_X1 cI cS p0 w0 c0 p1 p2 p3 w1 w2 w3 w4 c1 c2 hour air rub z nb kd cl gr oc lit cold ccell cpow sp wm g1) rfl (ik_runS C (c_J7_fill_53178 l D cI cS p3 8 dr (0 : Int32) g1 hc1) ms_J7_fill_53178 wl_3_16 ⟨rfl, rfl, Nat.le_of_ble_eq_true rfl, Nat.le_of_ble_eq_true rfl⟩ [11] rfl (by decide) rfl rfl (Nat.le_of_ble_eq_true rfl) dX1_passHour_5) rfl ?_
  refine ik_iconst (v := (0 : Int32)) C (by decide) dX1_passHour_8 ?_
  refine ik_istore_n C [(1, .int (0 : Int32)), (0, .ref p0)] rfl (by decide) rfl dX1_passHour_9 ?_
  have hL_10 : ∀ (n_10 : Nat) (air_10 : Int32) (gr_10 : Nat → Int32) (dr_10 : Nat → Int32) (x1_10 : Int32), ik_lp4 (b_X1_passHour_10 hour rub nb kd cl oc wm) n_10 air_10 gr_10 dr_10 x1_10 = some (R, hour_r, air_r, rub_r, cl_r, gr_r, oc_r, dr_r) → ik_G p l e ({ frames := 4, cells := 0, slots := 0, locals := 101 } : Room) s m ([.ref p0] : List Value).toArray below meth c D (ik_in (wz_X1 cI cS p0 w0 c0 p1 p2 p3 w1 w2 w3 w4 c1 c2 hour air rub z nb kd cl gr oc lit cold ccell cpow sp wm dr)) (ik_in (wz_X1 cI cS p0 w0 c0 p1 p2 p3 w1 w2 w3 w4 c1 c2 hour air rub z nb kd cl gr oc lit cold ccell cpow sp wm dr)) 2 (MQ below (ik_Q (some (.int R)) D (wz_X1 cI cS p0 w0 c0 p1 p2 p3 w1 w2 w3 w4 c1 c2 hour_r air_r rub_r z nb kd cl_r gr_r oc_r lit cold ccell cpow sp wm dr_r) (wz_X1 cI cS p0 w0 c0 p1 p2 p3 w1 w2 w3 w4 c1 c2 hour air rub z nb kd cl gr oc lit cold ccell cpow sp wm dr)) ([.ref p0] : List Value).toArray s 0 0 (ik_in (wz_X1 cI cS p0 w0 c0 p1 p2 p3 w1 w2 w3 w4 c1 c2 hour air rub z nb kd cl gr oc lit cold ccell cpow sp wm dr))) 10 [(1, .int x1_10), (0, .ref p0)] [] (wz_X1 cI cS p0 w0 c0 p1 p2 p3 w1 w2 w3 w4 c1 c2 hour air_10 rub z nb kd cl gr_10 oc lit cold ccell cpow sp wm dr_10) := by
    intro n_10
    induction n_10 with
    | zero => intro _ _ _ _ hf; exact nomatch hf
    | succ n_10 ih_10 =>
      intro air_10 gr_10 dr_10 x1_10 hf
      replace hf : b_X1_passHour_10 hour rub nb kd cl oc wm (ik_lp4 (b_X1_passHour_10 hour rub nb kd cl oc wm) n_10) air_10 gr_10 dr_10 x1_10 = some (R, hour_r, air_r, rub_r, cl_r, gr_r, oc_r, dr_r) := hf
      unfold b_X1_passHour_10 at hf
      refine ik_iload_n C 0 rfl rfl dX1_passHour_10 ?_
      refine ik_aload_n C 1 rfl rfl dX1_passHour_11 ?_
      refine ik_get C inlX1 0 rfl rfl 0 (by decide) wl_2_13 rfl (v := .ref w0) rfl dX1_passHour_12 ?_
      refine ik_get C inlX5 1 rfl rfl 0 (by decide) wl_18_11 rfl (v := .int nb) rfl dX1_passHour_15 ?_
      refine ik_icmp_ge C 43 dX1_passHour_18 (by decide) (fun hc => ?_) (fun hc => ?_)
      · have hf := ik_pos hc hf
        refine ik_iconst (v := (0 : Int32)) C (by decide) dX1_passHour_43 ?_
        refine ik_istore_n C [(1, .int (0 : Int32)), (0, .ref p0)] rfl (by decide) rfl dX1_passHour_44 ?_
        have hL_45 : ∀ (n_45 : Nat) (air_45 : Int32) (gr_45 : Nat → Int32) (x1_45 : Int32), ik_lp3 (b_X1_passHour_45 hour rub nb kd cl oc wm dr_10) n_45 air_45 gr_45 x1_45 = some (R, hour_r, air_r, rub_r, cl_r, gr_r, oc_r, dr_r) → ik_G p l e ({ frames := 4, cells := 0, slots := 0, locals := 101 } : Room) s m ([.ref p0] : List Value).toArray below meth c D (ik_in (wz_X1 cI cS p0 w0 c0 p1 p2 p3 w1 w2 w3 w4 c1 c2 hour air rub z nb kd cl gr oc lit cold ccell cpow sp wm dr)) (ik_in (wz_X1 cI cS p0 w0 c0 p1 p2 p3 w1 w2 w3 w4 c1 c2 hour air rub z nb kd cl gr oc lit cold ccell cpow sp wm dr)) 2 (MQ below (ik_Q (some (.int R)) D (wz_X1 cI cS p0 w0 c0 p1 p2 p3 w1 w2 w3 w4 c1 c2 hour_r air_r rub_r z nb kd cl_r gr_r oc_r lit cold ccell cpow sp wm dr_r) (wz_X1 cI cS p0 w0 c0 p1 p2 p3 w1 w2 w3 w4 c1 c2 hour air rub z nb kd cl gr oc lit cold ccell cpow sp wm dr)) ([.ref p0] : List Value).toArray s 0 0 (ik_in (wz_X1 cI cS p0 w0 c0 p1 p2 p3 w1 w2 w3 w4 c1 c2 hour air rub z nb kd cl gr oc lit cold ccell cpow sp wm dr))) 45 [(1, .int x1_45), (0, .ref p0)] [] (wz_X1 cI cS p0 w0 c0 p1 p2 p3 w1 w2 w3 w4 c1 c2 hour air_45 rub z nb kd cl gr_45 oc lit cold ccell cpow sp wm dr_10) := by
          intro n_45
          induction n_45 with
          | zero => intro _ _ _ hf; exact nomatch hf
          | succ n_45 ih_45 =>
            intro air_45 gr_45 x1_45 hf
            replace hf : b_X1_passHour_45 hour rub nb kd cl oc wm dr_10 (ik_lp3 (b_X1_passHour_45 hour rub nb kd cl oc wm dr_10) n_45) air_45 gr_45 x1_45 = some (R, hour_r, air_r, rub_r, cl_r, gr_r, oc_r, dr_r) := hf
            unfold b_X1_passHour_45 at hf
            refine ik_iload_n C 0 rfl rfl dX1_passHour_45 ?_
            refine ik_bipush (v := (8 : Int32)) C (by decide) dX1_passHour_46 ?_
            refine ik_icmp_ge C 62 dX1_passHour_48 (by decide) (fun hc => ?_) (fun hc => ?_)
            · have hf := ik_pos hc hf
              refine ik_aload_n C 1 rfl rfl dX1_passHour_62 ?_
              obtain ⟨r2, g3, g4, g5, hc5, hf⟩ := ik_b4s hf
              refine ik_goW [0, 1, 2, 3, 4, 5, 6, 7, 8, 9, 10, 11] rfl rfl (wz_X1 cI cS p0 w0 c0 p1 p2 p3 w1 w2 w3 w4 c1 c2 hour air_45 rub z nb kd g3 g4 g5 lit cold ccell cpow sp wm dr_10) rfl (ik_runV C (c_X1_removeMelted l D cI cS p0 w0 c0 p1 p2 p3 w1 w2 w3 w4 c1 c2 hour air_45 rub z nb kd cl gr_45 oc lit cold ccell cpow sp wm dr_10 r2 g3 g4 g5 hc5) mv_X1_removeMelted wl_19_9 ⟨rfl, rfl, Nat.le_of_ble_eq_true rfl, Nat.le_of_ble_eq_true rfl⟩ [0, 1, 2, 3, 4, 5, 6, 7, 8, 9, 10, 11] rfl (by decide) 0 rfl rfl rfl rfl (Nat.le_of_ble_eq_true rfl) dX1_passHour_63) rfl ?_
              refine ik_aload_n C 1 rfl rfl dX1_passHour_66 ?_
              obtain ⟨r6, g7, g8, g9, g10, hc10, hf⟩ := ik_b5s hf
              refine ik_goW [0, 1, 2, 3, 4, 5, 6, 7, 8, 9, 10, 11] rfl rfl (wz_X1 cI cS p0 w0 c0 p1 p2 p3 w1 w2 w3 w4 c1 c2 hour air_45 g7 z nb kd g8 g9 g10 lit cold ccell cpow sp wm dr_10) rfl (ik_runV C (c_X1_collapse l D cI cS p0 w0 c0 p1 p2 p3 w1 w2 w3 w4 c1 c2 hour air_45 rub z nb kd g3 g4 g5 lit cold ccell cpow sp wm dr_10 r6 g7 g8 g9 g10 hc10) mv_X1_collapse wl_19_17 ⟨rfl, rfl, Nat.le_of_ble_eq_true rfl, Nat.le_of_ble_eq_true rfl⟩ [0, 1, 2, 3, 4, 5, 6, 7, 8, 9, 10, 11] rfl (by decide) 0 rfl rfl rfl rfl (Nat.le_of_ble_eq_true rfl) dX1_passHour_67) rfl ?_
              refine ik_iadd C dX1_passHour_70 ?_
              refine ik_istore_n C [(1, .int (r2 + r6)), (0, .ref p0)] rfl (by decide) rfl dX1_passHour_71 ?_
              refine ik_aload_n C 1 rfl rfl dX1_passHour_72 ?_
              refine ik_dup C rfl dX1_passHour_73 ?_
              refine ik_get C inlX1 0 rfl rfl 3 (by decide) wl_18_19 rfl (v := .int hour) rfl dX1_passHour_74 ?_
              refine ik_iconst (v := (1 : Int32)) C (by decide) dX1_passHour_77 ?_
              refine ik_iadd C dX1_passHour_78 ?_
              refine ik_put C inlX1 tyX1 tyX1_ok nmX1 0 rfl rfl 3 (by decide) wl_18_19 rfl (by decide) rfl rfl (Nat.le_of_ble_eq_true rfl) (wz_X1 cI cS p0 w0 c0 p1 p2 p3 w1 w2 w3 w4 c1 c2 (hour + (1 : Int32)) air_45 g7 z nb kd g8 g9 g10 lit cold ccell cpow sp wm dr_10) rfl dX1_passHour_79 ?_
              refine ik_iload_n C 0 rfl rfl dX1_passHour_82 ?_
              cases hf
              exact ik_iretW C hr hlk dX1_passHour_83
            · have hf := ik_neg hc hf
              refine ik_aload_n C 1 rfl rfl dX1_passHour_51 ?_
              refine ik_iload_n C 0 rfl rfl dX1_passHour_52 ?_
              obtain ⟨g2, g3, hc3, hf⟩ := ik_b2s hf
              refine ik_goW [0, 1, 2, 3, 4, 5, 6, 7, 8, 9, 10, 11] rfl rfl (wz_X1 cI cS p0 w0 c0 p1 p2 p3 w1 w2 w3 w4 c1 c2 hour g2 rub z nb kd cl g3 oc lit cold ccell cpow sp wm dr_10) rfl (ik_runV C (c_X1_freezeDrip l D cI cS p0 w0 c0 p1 p2 p3 w1 w2 w3 w4 c1 c2 hour air_45 rub z nb kd cl gr_45 oc lit cold ccell cpow sp wm dr_10 x1_45 g2 g3 hc3) mv_X1_freezeDrip wl_19_4 ⟨rfl, rfl, Nat.le_of_ble_eq_true rfl, Nat.le_of_ble_eq_true rfl⟩ [0, 1, 2, 3, 4, 5, 6, 7, 8, 9, 10, 11] rfl (by decide) 0 rfl rfl rfl rfl (Nat.le_of_ble_eq_true rfl) dX1_passHour_53) rfl ?_
              refine ik_iinc C [(1, .int (x1_45 + (1 : Int32))), (0, .ref p0)] 0 rfl rfl (by decide) rfl dX1_passHour_56 ?_
              refine ik_goto C 45 dX1_passHour_59 (by decide) ?_
              exact ik_sub [0, 1] [(1, .int (x1_45 + (1 : Int32))), (0, .ref p0)] rfl (ih_45 g2 g3 (x1_45 + (1 : Int32)) hf)
        exact hL_45 ik_fu air_10 gr_10 (0 : Int32) hf
      · have hf := ik_neg hc hf
        refine ik_aload_n C 1 rfl rfl dX1_passHour_21 ?_
        refine ik_get C inlX1 0 rfl rfl 0 (by decide) wl_2_13 rfl (v := .ref w0) rfl dX1_passHour_22 ?_
        refine ik_iload_n C 0 rfl rfl dX1_passHour_25 ?_
        obtain ⟨r2, hc2, hf⟩ := ik_b1s hf
        refine ik_goR (ik_runV C (c_X5_isGone l D cI cS w0 w1 w2 w3 w4 nb kd cl gr_10 oc x1_10 r2 hc2) mv_X5_isGone wl_18_13 ⟨rfl, rfl, Nat.le_of_ble_eq_true rfl, Nat.le_of_ble_eq_true rfl⟩ [1, 2, 3, 4, 5] rfl (by decide) 1 rfl rfl rfl rfl (Nat.le_of_ble_eq_true rfl) dX1_passHour_26) rfl ?_
        refine ik_if_ne C 37 dX1_passHour_29 (by decide) (fun hc => ?_) (fun hc => ?_)
        · have hf := ik_neg hc hf
          refine ik_iinc C [(1, .int (x1_10 + (1 : Int32))), (0, .ref p0)] 0 rfl rfl (by decide) rfl dX1_passHour_37 ?_
          refine ik_goto C 10 dX1_passHour_40 (by decide) ?_
          exact ik_sub [0, 1] [(1, .int (x1_10 + (1 : Int32))), (0, .ref p0)] rfl (ih_10 air_10 gr_10 dr_10 (x1_10 + (1 : Int32)) hf)
        · have hf := ik_pos hc hf
          refine ik_aload_n C 1 rfl rfl dX1_passHour_32 ?_
          refine ik_iload_n C 0 rfl rfl dX1_passHour_33 ?_
          obtain ⟨g3, g4, g5, hc5, hf⟩ := ik_b3s hf
          refine ik_goW [0, 1, 2, 3, 4, 5, 6, 7, 8, 9, 10, 11] rfl rfl (wz_X1 cI cS p0 w0 c0 p1 p2 p3 w1 w2 w3 w4 c1 c2 hour g3 rub z nb kd cl g4 oc lit cold ccell cpow sp wm g5) rfl (ik_runV C (c_X1_meltOrMend l D cI cS p0 w0 c0 p1 p2 p3 w1 w2 w3 w4 c1 c2 hour air_10 rub z nb kd cl gr_10 oc lit cold ccell cpow sp wm dr_10 x1_10 g3 g4 g5 hc5) mv_X1_meltOrMend wl_18_20 ⟨rfl, rfl, Nat.le_of_ble_eq_true rfl, Nat.le_of_ble_eq_true rfl⟩ [0, 1, 2, 3, 4, 5, 6, 7, 8, 9, 10, 11] rfl (by decide) 0 rfl rfl rfl rfl (Nat.le_of_ble_eq_true rfl) dX1_passHour_34) rfl ?_
          refine ik_iinc C [(1, .int (x1_10 + (1 : Int32))), (0, .ref p0)] 0 rfl rfl (by decide) rfl dX1_passHour_37 ?_
          refine ik_goto C 10 dX1_passHour_40 (by decide) ?_
          exact ik_sub [0, 1] [(1, .int (x1_10 + (1 : Int32))), (0, .ref p0)] rfl (ih_10 g3 g4 g5 (x1_10 + (1 : Int32)) hf)
  exact hL_10 ik_fu air gr g1 (0 : Int32) hf
theorem mv_X4_readCold : ik_V yX4_readCold RX4 cX4_readCold 3 (some .boolean) 1 := ⟨wl_40_6, wl_40_7, wl_1_20, wl_40_8, by decide +kernel⟩
set_option maxHeartbeats 4000000 in
set_option maxRecDepth 100000 in
theorem c_X4_readCold (l : Launch) (D : va_G) (cI cS : ClassId) (r0 t0 t1 qc0 qc1 qc2 : Nat) (tok : Int32) (sta : Int32) (en : Int32) (val : Int32) (tsize : Int32) (tby : Nat → Int32) (qlit : Int32) (qcold : Int32) (qccell : Nat → Int32) (qcpow : Nat → Int32) (R : Int32) (tok_r : Int32) (sta_r : Int32) (en_r : Int32) (val_r : Int32) (qcold_r : Int32) (hf : f_X4_readCold tok sta en val tsize tby qcold = some (R, tok_r, sta_r, en_r, val_r, qcold_r)) : Met l yX4_readCold (ik_ws yX4_readCold cX4_readCold 3 (some .boolean)) ({ frames := 3, cells := 0, slots := 0, locals := 62 } : Room) (ik_P D cI cS [.ref r0, .ref qc0] (wz_X4X0 cI cS r0 t0 t1 qc0 qc1 qc2 tok sta en val tsize tby qlit qcold qccell qcpow)) (ik_Q (some (.int R)) D (wz_X4X0 cI cS r0 t0 t1 qc0 qc1 qc2 tok_r sta_r en_r val_r tsize tby qlit qcold_r qccell qcpow) (wz_X4X0 cI cS r0 t0 t1 qc0 qc1 qc2 tok sta en val tsize tby qlit qcold qccell qcpow)) 0 0 (ik_in (wz_X4X0 cI cS r0 t0 t1 qc0 qc1 qc2 tok sta en val tsize tby qlit qcold qccell qcpow)) := by
  refine ik_metW RX4 rfl (by decide) (Nat.le_of_ble_eq_true rfl) [(0, .ref r0), (1, .ref qc0)] rfl ?_
  intro p e s m below meth c C hr hlk
  unfold f_X4_readCold at hf
  refine ik_aload_n C 0 rfl rfl dX4_readCold_0 ?_
  obtain ⟨g1, g2, g3, g4, hc4, hf⟩ := ik_b4s hf
  refine ik_goW [0, 1, 2] rfl rfl (wz_X4X0 cI cS r0 t0 t1 qc0 qc1 qc2 g1 g2 g3 g4 tsize tby qlit qcold qccell qcpow) rfl (ik_runV C (c_X4_advance l D cI cS r0 t0 t1 tok sta en val tsize tby g1 g2 g3 g4 hc4) mv_X4_advance wl_35_23 ⟨rfl, rfl, Nat.le_of_ble_eq_true rfl, Nat.le_of_ble_eq_true rfl⟩ [0, 1, 2] rfl (by decide) 0 rfl rfl rfl rfl (Nat.le_of_ble_eq_true rfl) dX4_readCold_1) rfl ?_
  refine ik_aload_n C 0 rfl rfl dX4_readCold_4 ?_
  refine ik_get C inlX4 0 rfl rfl 1 (by decide) wl_35_21 rfl (v := .int g1) rfl dX4_readCold_5 ?_
  refine ik_iconst (v := (4 : Int32)) C (by decide) dX4_readCold_8 ?_
  refine ik_icmp_ne C 16 dX4_readCold_9 (by decide) (fun hc => ?_) (fun hc => ?_)
  · have hf := ik_neg hc hf
    refine ik_iconst (v := (0 : Int32)) C (by decide) dX4_readCold_16 ?_
    refine ik_istore_n C [(2, .int (0 : Int32)), (0, .ref r0), (1, .ref qc0)] rfl (by decide) rfl dX4_readCold_17 ?_
    refine ik_iload_n C 0 rfl rfl dX4_readCold_18 ?_
    refine ik_if_eq C 26 dX4_readCold_19 (by decide) (fun hc => ?_) (fun hc => ?_)
    · have hf := ik_pos hc hf
      refine ik_aload_n C 1 rfl rfl dX4_readCold_26 ?_
      refine ik_iconst (v := (0 : Int32)) C (by decide) dX4_readCold_27 ?_
      refine ik_bipush (v := (20 : Int32)) C (by decide) dX4_readCold_28 ?_
      obtain ⟨r5, hc5, hf⟩ := ik_b1s hf
      refine ik_goR (ik_runV C (c_X4_isNumber l D cI cS r0 t0 t1 g1 g2 g3 g4 tsize tby (0 : Int32) (20 : Int32) r5 hc5) mv_X4_isNumber wl_39_16 ⟨rfl, rfl, Nat.le_of_ble_eq_true rfl, Nat.le_of_ble_eq_true rfl⟩ [0, 1, 2] rfl (by decide) 0 rfl rfl rfl rfl (Nat.le_of_ble_eq_true rfl) dX4_readCold_30) rfl ?_
      refine ik_if_ne C 38 dX4_readCold_33 (by decide) (fun hc => ?_) (fun hc => ?_)
      · have hf := ik_neg hc hf
        refine ik_aload_n C 2 rfl rfl dX4_readCold_38 ?_
        refine ik_iload_n C 0 rfl rfl dX4_readCold_39 ?_
        refine ik_if_eq C 51 dX4_readCold_40 (by decide) (fun hc => ?_) (fun hc => ?_)
        · have hf := ik_pos hc hf
          refine ik_aload_n C 1 rfl rfl dX4_readCold_51 ?_
          refine ik_get C inlX4 0 rfl rfl 4 (by decide) wl_36_18 rfl (v := .int g4) rfl dX4_readCold_52 ?_
          refine ik_put C inlX0 tyX0 tyX0_ok nmX0 3 rfl rfl 3 (by decide) wl_40_9 rfl (by decide) rfl rfl (Nat.le_of_ble_eq_true rfl) (wz_X4X0 cI cS r0 t0 t1 qc0 qc1 qc2 g1 g2 g3 g4 tsize tby qlit g4 qccell qcpow) rfl dX4_readCold_55 ?_
          refine ik_aload_n C 1 rfl rfl dX4_readCold_58 ?_
          obtain ⟨g6, g7, g8, g9, hc9, hf⟩ := ik_b4s hf
          refine ik_goW [0, 1, 2] rfl rfl (wz_X4X0 cI cS r0 t0 t1 qc0 qc1 qc2 g6 g7 g8 g9 tsize tby qlit g4 qccell qcpow) rfl (ik_runV C (c_X4_advance l D cI cS r0 t0 t1 g1 g2 g3 g4 tsize tby g6 g7 g8 g9 hc9) mv_X4_advance wl_35_23 ⟨rfl, rfl, Nat.le_of_ble_eq_true rfl, Nat.le_of_ble_eq_true rfl⟩ [0, 1, 2] rfl (by decide) 0 rfl rfl rfl rfl (Nat.le_of_ble_eq_true rfl) dX4_readCold_59) rfl ?_
          refine ik_iconst (v := (1 : Int32)) C (by decide) dX4_readCold_62 ?_
          cases hf
          exact ik_zretW C hr (by decide) hlk dX4_readCold_63
        · have hf := ik_neg hc hf
          refine ik_aload_n C 1 rfl rfl dX4_readCold_43 ?_
          refine ik_get C inlX4 0 rfl rfl 4 (by decide) wl_36_18 rfl (v := .int g4) rfl dX4_readCold_44 ?_
          refine ik_ineg C dX4_readCold_47 ?_
          refine ik_goto C 55 dX4_readCold_48 (by decide) ?_
          refine ik_put C inlX0 tyX0 tyX0_ok nmX0 3 rfl rfl 3 (by decide) wl_40_9 rfl (by decide) rfl rfl (Nat.le_of_ble_eq_true rfl) (wz_X4X0 cI cS r0 t0 t1 qc0 qc1 qc2 g1 g2 g3 g4 tsize tby qlit (-g4) qccell qcpow) rfl dX4_readCold_55 ?_
          refine ik_aload_n C 1 rfl rfl dX4_readCold_58 ?_
          obtain ⟨g6, g7, g8, g9, hc9, hf⟩ := ik_b4s hf
          refine ik_goW [0, 1, 2] rfl rfl (wz_X4X0 cI cS r0 t0 t1 qc0 qc1 qc2 g6 g7 g8 g9 tsize tby qlit (-g4) qccell qcpow) rfl (ik_runV C (c_X4_advance l D cI cS r0 t0 t1 g1 g2 g3 g4 tsize tby g6 g7 g8 g9 hc9) mv_X4_advance wl_35_23 ⟨rfl, rfl, Nat.le_of_ble_eq_true rfl, Nat.le_of_ble_eq_true rfl⟩ [0, 1, 2] rfl (by decide) 0 rfl rfl rfl rfl (Nat.le_of_ble_eq_true rfl) dX4_readCold_59) rfl ?_
          refine ik_iconst (v := (1 : Int32)) C (by decide) dX4_readCold_62 ?_
          cases hf
          exact ik_zretW C hr (by decide) hlk dX4_readCold_63
      · have hf := ik_pos hc hf
        refine ik_iconst (v := (0 : Int32)) C (by decide) dX4_readCold_36 ?_
        cases hf
        exact ik_zretW C hr (by decide) hlk dX4_readCold_37
    · have hf := ik_neg hc hf
      refine ik_aload_n C 1 rfl rfl dX4_readCold_22 ?_
      obtain ⟨g5, g6, g7, g8, hc8, hf⟩ := ik_b4s hf
      refine ik_goW [0, 1, 2] rfl rfl (wz_X4X0 cI cS r0 t0 t1 qc0 qc1 qc2 g5 g6 g7 g8 tsize tby qlit qcold qccell qcpow) rfl (ik_runV C (c_X4_advance l D cI cS r0 t0 t1 g1 g2 g3 g4 tsize tby g5 g6 g7 g8 hc8) mv_X4_advance wl_35_23 ⟨rfl, rfl, Nat.le_of_ble_eq_true rfl, Nat.le_of_ble_eq_true rfl⟩ [0, 1, 2] rfl (by decide) 0 rfl rfl rfl rfl (Nat.le_of_ble_eq_true rfl) dX4_readCold_23) rfl ?_
      refine ik_aload_n C 1 rfl rfl dX4_readCold_26 ?_
      refine ik_iconst (v := (0 : Int32)) C (by decide) dX4_readCold_27 ?_
      refine ik_bipush (v := (20 : Int32)) C (by decide) dX4_readCold_28 ?_
      obtain ⟨r9, hc9, hf⟩ := ik_b1s hf
      refine ik_goR (ik_runV C (c_X4_isNumber l D cI cS r0 t0 t1 g5 g6 g7 g8 tsize tby (0 : Int32) (20 : Int32) r9 hc9) mv_X4_isNumber wl_39_16 ⟨rfl, rfl, Nat.le_of_ble_eq_true rfl, Nat.le_of_ble_eq_true rfl⟩ [0, 1, 2] rfl (by decide) 0 rfl rfl rfl rfl (Nat.le_of_ble_eq_true rfl) dX4_readCold_30) rfl ?_
      refine ik_if_ne C 38 dX4_readCold_33 (by decide) (fun hc => ?_) (fun hc => ?_)
      · have hf := ik_neg hc hf
        refine ik_aload_n C 2 rfl rfl dX4_readCold_38 ?_
        refine ik_iload_n C 0 rfl rfl dX4_readCold_39 ?_
        refine ik_if_eq C 51 dX4_readCold_40 (by decide) (fun hc => ?_) (fun hc => ?_)
        · have hf := ik_pos hc hf
          refine ik_aload_n C 1 rfl rfl dX4_readCold_51 ?_
          refine ik_get C inlX4 0 rfl rfl 4 (by decide) wl_36_18 rfl (v := .int g8) rfl dX4_readCold_52 ?_
          refine ik_put C inlX0 tyX0 tyX0_ok nmX0 3 rfl rfl 3 (by decide) wl_40_9 rfl (by decide) rfl rfl (Nat.le_of_ble_eq_true rfl) (wz_X4X0 cI cS r0 t0 t1 qc0 qc1 qc2 g5 g6 g7 g8 tsize tby qlit g8 qccell qcpow) rfl dX4_readCold_55 ?_
          refine ik_aload_n C 1 rfl rfl dX4_readCold_58 ?_
          obtain ⟨g10, g11, g12, g13, hc13, hf⟩ := ik_b4s hf
          refine ik_goW [0, 1, 2] rfl rfl (wz_X4X0 cI cS r0 t0 t1 qc0 qc1 qc2 g10 g11 g12 g13 tsize tby qlit g8 qccell qcpow) rfl (ik_runV C (c_X4_advance l D cI cS r0 t0 t1 g5 g6 g7 g8 tsize tby g10 g11 g12 g13 hc13) mv_X4_advance wl_35_23 ⟨rfl, rfl, Nat.le_of_ble_eq_true rfl, Nat.le_of_ble_eq_true rfl⟩ [0, 1, 2] rfl (by decide) 0 rfl rfl rfl rfl (Nat.le_of_ble_eq_true rfl) dX4_readCold_59) rfl ?_
          refine ik_iconst (v := (1 : Int32)) C (by decide) dX4_readCold_62 ?_
          cases hf
          exact ik_zretW C hr (by decide) hlk dX4_readCold_63
        · have hf := ik_neg hc hf
          refine ik_aload_n C 1 rfl rfl dX4_readCold_43 ?_
          refine ik_get C inlX4 0 rfl rfl 4 (by decide) wl_36_18 rfl (v := .int g8) rfl dX4_readCold_44 ?_
          refine ik_ineg C dX4_readCold_47 ?_
          refine ik_goto C 55 dX4_readCold_48 (by decide) ?_
          refine ik_put C inlX0 tyX0 tyX0_ok nmX0 3 rfl rfl 3 (by decide) wl_40_9 rfl (by decide) rfl rfl (Nat.le_of_ble_eq_true rfl) (wz_X4X0 cI cS r0 t0 t1 qc0 qc1 qc2 g5 g6 g7 g8 tsize tby qlit (-g8) qccell qcpow) rfl dX4_readCold_55 ?_
          refine ik_aload_n C 1 rfl rfl dX4_readCold_58 ?_
          obtain ⟨g10, g11, g12, g13, hc13, hf⟩ := ik_b4s hf
          refine ik_goW [0, 1, 2] rfl rfl (wz_X4X0 cI cS r0 t0 t1 qc0 qc1 qc2 g10 g11 g12 g13 tsize tby qlit (-g8) qccell qcpow) rfl (ik_runV C (c_X4_advance l D cI cS r0 t0 t1 g5 g6 g7 g8 tsize tby g10 g11 g12 g13 hc13) mv_X4_advance wl_35_23 ⟨rfl, rfl, Nat.le_of_ble_eq_true rfl, Nat.le_of_ble_eq_true rfl⟩ [0, 1, 2] rfl (by decide) 0 rfl rfl rfl rfl (Nat.le_of_ble_eq_true rfl) dX4_readCold_59) rfl ?_
          refine ik_iconst (v := (1 : Int32)) C (by decide) dX4_readCold_62 ?_
          cases hf
          exact ik_zretW C hr (by decide) hlk dX4_readCold_63
      · have hf := ik_pos hc hf
        refine ik_iconst (v := (0 : Int32)) C (by decide) dX4_readCold_36 ?_
        cases hf
        exact ik_zretW C hr (by decide) hlk dX4_readCold_37
  · have hf := ik_pos hc hf
    refine ik_iconst (v := (1 : Int32)) C (by decide) dX4_readCold_12 ?_
    refine ik_goto C 17 dX4_readCold_13 (by decide) ?_
    refine ik_istore_n C [(2, .int (1 : Int32)), (0, .ref r0), (1, .ref qc0)] rfl (by decide) rfl dX4_readCold_17 ?_
    refine ik_iload_n C 0 rfl rfl dX4_readCold_18 ?_
    refine ik_if_eq C 26 dX4_readCold_19 (by decide) (fun hc => ?_) (fun hc => ?_)
    · have hf := ik_pos hc hf
      refine ik_aload_n C 1 rfl rfl dX4_readCold_26 ?_
      refine ik_iconst (v := (0 : Int32)) C (by decide) dX4_readCold_27 ?_
      refine ik_bipush (v := (20 : Int32)) C (by decide) dX4_readCold_28 ?_
      obtain ⟨r5, hc5, hf⟩ := ik_b1s hf
      refine ik_goR (ik_runV C (c_X4_isNumber l D cI cS r0 t0 t1 g1 g2 g3 g4 tsize tby (0 : Int32) (20 : Int32) r5 hc5) mv_X4_isNumber wl_39_16 ⟨rfl, rfl, Nat.le_of_ble_eq_true rfl, Nat.le_of_ble_eq_true rfl⟩ [0, 1, 2] rfl (by decide) 0 rfl rfl rfl rfl (Nat.le_of_ble_eq_true rfl) dX4_readCold_30) rfl ?_
      refine ik_if_ne C 38 dX4_readCold_33 (by decide) (fun hc => ?_) (fun hc => ?_)
      · have hf := ik_neg hc hf
        refine ik_aload_n C 2 rfl rfl dX4_readCold_38 ?_
        refine ik_iload_n C 0 rfl rfl dX4_readCold_39 ?_
        refine ik_if_eq C 51 dX4_readCold_40 (by decide) (fun hc => ?_) (fun hc => ?_)
        · have hf := ik_pos hc hf
          refine ik_aload_n C 1 rfl rfl dX4_readCold_51 ?_
          refine ik_get C inlX4 0 rfl rfl 4 (by decide) wl_36_18 rfl (v := .int g4) rfl dX4_readCold_52 ?_
          refine ik_put C inlX0 tyX0 tyX0_ok nmX0 3 rfl rfl 3 (by decide) wl_40_9 rfl (by decide) rfl rfl (Nat.le_of_ble_eq_true rfl) (wz_X4X0 cI cS r0 t0 t1 qc0 qc1 qc2 g1 g2 g3 g4 tsize tby qlit g4 qccell qcpow) rfl dX4_readCold_55 ?_
          refine ik_aload_n C 1 rfl rfl dX4_readCold_58 ?_
          obtain ⟨g6, g7, g8, g9, hc9, hf⟩ := ik_b4s hf
          refine ik_goW [0, 1, 2] rfl rfl (wz_X4X0 cI cS r0 t0 t1 qc0 qc1 qc2 g6 g7 g8 g9 tsize tby qlit g4 qccell qcpow) rfl (ik_runV C (c_X4_advance l D cI cS r0 t0 t1 g1 g2 g3 g4 tsize tby g6 g7 g8 g9 hc9) mv_X4_advance wl_35_23 ⟨rfl, rfl, Nat.le_of_ble_eq_true rfl, Nat.le_of_ble_eq_true rfl⟩ [0, 1, 2] rfl (by decide) 0 rfl rfl rfl rfl (Nat.le_of_ble_eq_true rfl) dX4_readCold_59) rfl ?_
          refine ik_iconst (v := (1 : Int32)) C (by decide) dX4_readCold_62 ?_
          cases hf
          exact ik_zretW C hr (by decide) hlk dX4_readCold_63
        · have hf := ik_neg hc hf
          refine ik_aload_n C 1 rfl rfl dX4_readCold_43 ?_
          refine ik_get C inlX4 0 rfl rfl 4 (by decide) wl_36_18 rfl (v := .int g4) rfl dX4_readCold_44 ?_
          refine ik_ineg C dX4_readCold_47 ?_
          refine ik_goto C 55 dX4_readCold_48 (by decide) ?_
          refine ik_put C inlX0 tyX0 tyX0_ok nmX0 3 rfl rfl 3 (by decide) wl_40_9 rfl (by decide) rfl rfl (Nat.le_of_ble_eq_true rfl) (wz_X4X0 cI cS r0 t0 t1 qc0 qc1 qc2 g1 g2 g3 g4 tsize tby qlit (-g4) qccell qcpow) rfl dX4_readCold_55 ?_
          refine ik_aload_n C 1 rfl rfl dX4_readCold_58 ?_
          obtain ⟨g6, g7, g8, g9, hc9, hf⟩ := ik_b4s hf
          refine ik_goW [0, 1, 2] rfl rfl (wz_X4X0 cI cS r0 t0 t1 qc0 qc1 qc2 g6 g7 g8 g9 tsize tby qlit (-g4) qccell qcpow) rfl (ik_runV C (c_X4_advance l D cI cS r0 t0 t1 g1 g2 g3 g4 tsize tby g6 g7 g8 g9 hc9) mv_X4_advance wl_35_23 ⟨rfl, rfl, Nat.le_of_ble_eq_true rfl, Nat.le_of_ble_eq_true rfl⟩ [0, 1, 2] rfl (by decide) 0 rfl rfl rfl rfl (Nat.le_of_ble_eq_true rfl) dX4_readCold_59) rfl ?_
          refine ik_iconst (v := (1 : Int32)) C (by decide) dX4_readCold_62 ?_
          cases hf
          exact ik_zretW C hr (by decide) hlk dX4_readCold_63
      · have hf := ik_pos hc hf
        refine ik_iconst (v := (0 : Int32)) C (by decide) dX4_readCold_36 ?_
        cases hf
        exact ik_zretW C hr (by decide) hlk dX4_readCold_37
    · have hf := ik_neg hc hf
      refine ik_aload_n C 1 rfl rfl dX4_readCold_22 ?_
      obtain ⟨g5, g6, g7, g8, hc8, hf⟩ := ik_b4s hf
      refine ik_goW [0, 1, 2] rfl rfl (wz_X4X0 cI cS r0 t0 t1 qc0 qc1 qc2 g5 g6 g7 g8 tsize tby qlit qcold qccell qcpow) rfl (ik_runV C (c_X4_advance l D cI cS r0 t0 t1 g1 g2 g3 g4 tsize tby g5 g6 g7 g8 hc8) mv_X4_advance wl_35_23 ⟨rfl, rfl, Nat.le_of_ble_eq_true rfl, Nat.le_of_ble_eq_true rfl⟩ [0, 1, 2] rfl (by decide) 0 rfl rfl rfl rfl (Nat.le_of_ble_eq_true rfl) dX4_readCold_23) rfl ?_
      refine ik_aload_n C 1 rfl rfl dX4_readCold_26 ?_
      refine ik_iconst (v := (0 : Int32)) C (by decide) dX4_readCold_27 ?_
      refine ik_bipush (v := (20 : Int32)) C (by decide) dX4_readCold_28 ?_
      obtain ⟨r9, hc9, hf⟩ := ik_b1s hf
      refine ik_goR (ik_runV C (c_X4_isNumber l D cI cS r0 t0 t1 g5 g6 g7 g8 tsize tby (0 : Int32) (20 : Int32) r9 hc9) mv_X4_isNumber wl_39_16 ⟨rfl, rfl, Nat.le_of_ble_eq_true rfl, Nat.le_of_ble_eq_true rfl⟩ [0, 1, 2] rfl (by decide) 0 rfl rfl rfl rfl (Nat.le_of_ble_eq_true rfl) dX4_readCold_30) rfl ?_
      refine ik_if_ne C 38 dX4_readCold_33 (by decide) (fun hc => ?_) (fun hc => ?_)
      · have hf := ik_neg hc hf
        refine ik_aload_n C 2 rfl rfl dX4_readCold_38 ?_
        refine ik_iload_n C 0 rfl rfl dX4_readCold_39 ?_
        refine ik_if_eq C 51 dX4_readCold_40 (by decide) (fun hc => ?_) (fun hc => ?_)
        · have hf := ik_pos hc hf
          refine ik_aload_n C 1 rfl rfl dX4_readCold_51 ?_
          refine ik_get C inlX4 0 rfl rfl 4 (by decide) wl_36_18 rfl (v := .int g8) rfl dX4_readCold_52 ?_
          refine ik_put C inlX0 tyX0 tyX0_ok nmX0 3 rfl rfl 3 (by decide) wl_40_9 rfl (by decide) rfl rfl (Nat.le_of_ble_eq_true rfl) (wz_X4X0 cI cS r0 t0 t1 qc0 qc1 qc2 g5 g6 g7 g8 tsize tby qlit g8 qccell qcpow) rfl dX4_readCold_55 ?_
          refine ik_aload_n C 1 rfl rfl dX4_readCold_58 ?_
          obtain ⟨g10, g11, g12, g13, hc13, hf⟩ := ik_b4s hf
          refine ik_goW [0, 1, 2] rfl rfl (wz_X4X0 cI cS r0 t0 t1 qc0 qc1 qc2 g10 g11 g12 g13 tsize tby qlit g8 qccell qcpow) rfl (ik_runV C (c_X4_advance l D cI cS r0 t0 t1 g5 g6 g7 g8 tsize tby g10 g11 g12 g13 hc13) mv_X4_advance wl_35_23 ⟨rfl, rfl, Nat.le_of_ble_eq_true rfl, Nat.le_of_ble_eq_true rfl⟩ [0, 1, 2] rfl (by decide) 0 rfl rfl rfl rfl (Nat.le_of_ble_eq_true rfl) dX4_readCold_59) rfl ?_
          refine ik_iconst (v := (1 : Int32)) C (by decide) dX4_readCold_62 ?_
          cases hf
          exact ik_zretW C hr (by decide) hlk dX4_readCold_63
        · have hf := ik_neg hc hf
          refine ik_aload_n C 1 rfl rfl dX4_readCold_43 ?_
          refine ik_get C inlX4 0 rfl rfl 4 (by decide) wl_36_18 rfl (v := .int g8) rfl dX4_readCold_44 ?_
          refine ik_ineg C dX4_readCold_47 ?_
          refine ik_goto C 55 dX4_readCold_48 (by decide) ?_
          refine ik_put C inlX0 tyX0 tyX0_ok nmX0 3 rfl rfl 3 (by decide) wl_40_9 rfl (by decide) rfl rfl (Nat.le_of_ble_eq_true rfl) (wz_X4X0 cI cS r0 t0 t1 qc0 qc1 qc2 g5 g6 g7 g8 tsize tby qlit (-g8) qccell qcpow) rfl dX4_readCold_55 ?_
          refine ik_aload_n C 1 rfl rfl dX4_readCold_58 ?_
          obtain ⟨g10, g11, g12, g13, hc13, hf⟩ := ik_b4s hf
          refine ik_goW [0, 1, 2] rfl rfl (wz_X4X0 cI cS r0 t0 t1 qc0 qc1 qc2 g10 g11 g12 g13 tsize tby qlit (-g8) qccell qcpow) rfl (ik_runV C (c_X4_advance l D cI cS r0 t0 t1 g5 g6 g7 g8 tsize tby g10 g11 g12 g13 hc13) mv_X4_advance wl_35_23 ⟨rfl, rfl, Nat.le_of_ble_eq_true rfl, Nat.le_of_ble_eq_true rfl⟩ [0, 1, 2] rfl (by decide) 0 rfl rfl rfl rfl (Nat.le_of_ble_eq_true rfl) dX4_readCold_59) rfl ?_
          refine ik_iconst (v := (1 : Int32)) C (by decide) dX4_readCold_62 ?_
          cases hf
          exact ik_zretW C hr (by decide) hlk dX4_readCold_63
      · have hf := ik_pos hc hf
        refine ik_iconst (v := (0 : Int32)) C (by decide) dX4_readCold_36 ?_
        cases hf
        exact ik_zretW C hr (by decide) hlk dX4_readCold_37
theorem mv_X1_passHours : ik_V yX1_passHours RX1 cX1_passHours 4 (some .int) 1 := ⟨wl_18_4, wl_18_5, wl_1_14, wl_18_6, by decide +kernel⟩
set_option maxHeartbeats 4000000 in
set_option maxRecDepth 100000 in
theorem c_X1_passHours (l : Launch) (D : va_G) (cI cS : ClassId) (p0 w0 c0 p1 p2 p3 w1 w2 w3 w4 c1 c2 : Nat) (hour : Int32) (air : Int32) (rub : Int32) (z : Int32) (nb : Int32) (kd : Nat → Int32) (cl : Nat → Int32) (gr : Nat → Int32) (oc : Nat → Int32) (lit : Int32) (cold : Int32) (ccell : Nat → Int32) (cpow : Nat → Int32) (sp : Nat → Int32) (wm : Nat → Int32) (dr : Nat → Int32) (x1 : Int32) (R : Int32) (hour_r : Int32) (air_r : Int32) (rub_r : Int32) (cl_r : Nat → Int32) (gr_r : Nat → Int32) (oc_r : Nat → Int32) (wm_r : Nat → Int32) (dr_r : Nat → Int32) (hf : f_X1_passHours hour air rub nb kd cl gr oc lit cold ccell cpow wm dr x1 = some (R, hour_r, air_r, rub_r, cl_r, gr_r, oc_r, wm_r, dr_r)) : Met l yX1_passHours (ik_ws yX1_passHours cX1_passHours 4 (some .int)) ({ frames := 5, cells := 0, slots := 0, locals := 122 } : Room) (ik_P D cI cS [.ref p0, .int x1] (wz_X1 cI cS p0 w0 c0 p1 p2 p3 w1 w2 w3 w4 c1 c2 hour air rub z nb kd cl gr oc lit cold ccell cpow sp wm dr)) (ik_Q (some (.int R)) D (wz_X1 cI cS p0 w0 c0 p1 p2 p3 w1 w2 w3 w4 c1 c2 hour_r air_r rub_r z nb kd cl_r gr_r oc_r lit cold ccell cpow sp wm_r dr_r) (wz_X1 cI cS p0 w0 c0 p1 p2 p3 w1 w2 w3 w4 c1 c2 hour air rub z nb kd cl gr oc lit cold ccell cpow sp wm dr)) 0 0 (ik_in (wz_X1 cI cS p0 w0 c0 p1 p2 p3 w1 w2 w3 w4 c1 c2 hour air rub z nb kd cl gr oc lit cold ccell cpow sp wm dr)) := by
  refine ik_metW RX1 rfl (by decide) (Nat.le_of_ble_eq_true rfl) [(0, .ref p0), (1, .int x1)] rfl ?_
  intro p e s m below meth c C hr hlk
  unfold f_X1_passHours at hf
  refine ik_aload_n C 0 rfl rfl dX1_passHours_0 ?_
  obtain ⟨g1, hc1, hf⟩ := ik_b1s hf
  refine ik_goW [0, 1, 2, 3, 4, 5, 6, 7, 8, 9, 10, 11] rfl rfl (wz_X1 cI cS p0 w0 c0 p1 p2 p3 w1 w2 w3 w4 c1 c2 hour air rub z nb kd cl gr oc lit cold ccell cpow sp g1 dr) rfl (ik_runV C (c_X1_feelWarmth l D cI cS p0 w0 c0 p1 p2 p3 w1 w2 w3 w4 c1 c2 hour air rub z nb kd cl gr oc lit cold ccell cpow sp wm dr g1 hc1) mv_X1_feelWarmth wl_18_7 ⟨rfl, rfl, Nat.le_of_ble_eq_true rfl, Nat.le_of_ble_eq_true rfl⟩ [0, 1, 2, 3, 4, 5, 6, 7, 8, 9, 10, 11] rfl (by decide) 0 rfl rfl rfl rfl (Nat.le_of_ble_eq_true rfl) dX1_passHours_1) rfl ?_
  refine ik_iconst (v := (0 : Int32)) C (by decide) dX1_passHours_4 ?_
  refine ik_istore_n C [(2, .int (0 : Int32)), (0, .ref p0), (1, .int x1)] rfl (by decide) rfl dX1_passHours_5 ?_
  refine ik_iconst (v := (0 : Int32)) C (by decide) dX1_passHours_6 ?_
  refine ik_istore_n C [(3, .int (0 : Int32)), (2, .int (0 : Int32)), (0, .ref p0), (1, .int x1)] rfl (by decide) rfl dX1_passHours_7 ?_
  have hL_8 : ∀ (n_8 : Nat) (hour_8 : Int32) (air_8 : Int32) (rub_8 : Int32) (cl_8 : Nat → Int32) (gr_8 : Nat → Int32) (oc_8 : Nat → Int32) (dr_8 : Nat → Int32) (x2_8 : Int32) (x3_8 : Int32), ik_lp9 (b_X1_passHours_8 nb kd x1 g1) n_8 hour_8 air_8 rub_8 cl_8 gr_8 oc_8 dr_8 x2_8 x3_8 = some (R, hour_r, air_r, rub_r, cl_r, gr_r, oc_r, wm_r, dr_r) → ik_G p l e ({ frames := 5, cells := 0, slots := 0, locals := 122 } : Room) s m ([.ref p0, .int x1] : List Value).toArray below meth c D (ik_in (wz_X1 cI cS p0 w0 c0 p1 p2 p3 w1 w2 w3 w4 c1 c2 hour air rub z nb kd cl gr oc lit cold ccell cpow sp wm dr)) (ik_in (wz_X1 cI cS p0 w0 c0 p1 p2 p3 w1 w2 w3 w4 c1 c2 hour air rub z nb kd cl gr oc lit cold ccell cpow sp wm dr)) 4 (MQ below (ik_Q (some (.int R)) D (wz_X1 cI cS p0 w0 c0 p1 p2 p3 w1 w2 w3 w4 c1 c2 hour_r air_r rub_r z nb kd cl_r gr_r oc_r lit cold ccell cpow sp wm_r dr_r) (wz_X1 cI cS p0 w0 c0 p1 p2 p3 w1 w2 w3 w4 c1 c2 hour air rub z nb kd cl gr oc lit cold ccell cpow sp wm dr)) ([.ref p0, .int x1] : List Value).toArray s 0 0 (ik_in (wz_X1 cI cS p0 w0 c0 p1 p2 p3 w1 w2 w3 w4 c1 c2 hour air rub z nb kd cl gr oc lit cold ccell cpow sp wm dr))) 8 [(3, .int x3_8), (2, .int x2_8), (0, .ref p0), (1, .int x1)] [] (wz_X1 cI cS p0 w0 c0 p1 p2 p3 w1 w2 w3 w4 c1 c2 hour_8 air_8 rub_8 z nb kd cl_8 gr_8 oc_8 lit cold ccell cpow sp g1 dr_8) := by
    intro n_8
    induction n_8 with
    | zero => intro _ _ _ _ _ _ _ _ _ hf; exact nomatch hf
    | succ n_8 ih_8 =>
      intro hour_8 air_8 rub_8 cl_8 gr_8 oc_8 dr_8 x2_8 x3_8 hf
      replace hf : b_X1_passHours_8 nb kd x1 g1 (ik_lp9 (b_X1_passHours_8 nb kd x1 g1) n_8) hour_8 air_8 rub_8 cl_8 gr_8 oc_8 dr_8 x2_8 x3_8 = some (R, hour_r, air_r, rub_r, cl_r, gr_r, oc_r, wm_r, dr_r) := hf
      unfold b_X1_passHours_8 at hf
      refine ik_iload_n C 0 rfl rfl dX1_passHours_8 ?_
      refine ik_iload_n C 3 rfl rfl dX1_passHours_9 ?_
      refine ik_icmp_ge C 26 dX1_passHours_10 (by decide) (fun hc => ?_) (fun hc => ?_)
      · have hf := ik_pos hc hf
        refine ik_iload_n C 1 rfl rfl dX1_passHours_26 ?_
        cases hf
        exact ik_iretW C hr hlk dX1_passHours_27
      · have hf := ik_neg hc hf
        refine ik_iload_n C 1 rfl rfl dX1_passHours_13 ?_
        refine ik_aload_n C 2 rfl rfl dX1_passHours_14 ?_
        obtain ⟨r2, g3, g4, g5, g6, g7, g8, g9, hc9, hf⟩ := ik_b8s hf
        refine ik_goW [0, 1, 2, 3, 4, 5, 6, 7, 8, 9, 10, 11] rfl rfl (wz_X1 cI cS p0 w0 c0 p1 p2 p3 w1 w2 w3 w4 c1 c2 g3 g4 g5 z nb kd g6 g7 g8 lit cold ccell cpow sp g1 g9) rfl (ik_runV C (c_X1_passHour l D cI cS p0 w0 c0 p1 p2 p3 w1 w2 w3 w4 c1 c2 hour_8 air_8 rub_8 z nb kd cl_8 gr_8 oc_8 lit cold ccell cpow sp g1 dr_8 r2 g3 g4 g5 g6 g7 g8 g9 hc9) mv_X1_passHour wl_18_15 ⟨rfl, rfl, Nat.le_of_ble_eq_true rfl, Nat.le_of_ble_eq_true rfl⟩ [0, 1, 2, 3, 4, 5, 6, 7, 8, 9, 10, 11] rfl (by decide) 0 rfl rfl rfl rfl (Nat.le_of_ble_eq_true rfl) dX1_passHours_15) rfl ?_
        refine ik_iadd C dX1_passHours_18 ?_
        refine ik_istore_n C [(2, .int (x2_8 + r2)), (3, .int x3_8), (0, .ref p0), (1, .int x1)] rfl (by decide) rfl dX1_passHours_19 ?_
        refine ik_iinc C [(3, .int (x3_8 + (1 : Int32))), (2, .int (x2_8 + r2)), (0, .ref p0), (1, .int x1)] 1 rfl rfl (by decide) rfl dX1_passHours_20 ?_
        refine ik_goto C 8 dX1_passHours_23 (by decide) ?_
        exact ik_sub [0, 1, 2, 3] [(3, .int (x3_8 + (1 : Int32))), (2, .int (x2_8 + r2)), (0, .ref p0), (1, .int x1)] rfl (ih_8 g3 g4 g5 g6 g7 g8 g9 (x2_8 + r2) (x3_8 + (1 : Int32)) hf)
  exact hL_8 ik_fu hour air rub cl gr oc dr (0 : Int32) (0 : Int32) hf
theorem mv_X1_hoursHeld : ik_V yX1_hoursHeld RX1 cX1_hoursHeld 3 (some .int) 1 := ⟨wl_26_8, wl_26_9, wl_1_14, wl_26_10, by decide +kernel⟩
set_option maxHeartbeats 4000000 in
set_option maxRecDepth 100000 in
theorem c_X1_hoursHeld (l : Launch) (D : va_G) (cI cS : ClassId) (p0 w0 c0 p1 p2 p3 w1 w2 w3 w4 c1 c2 : Nat) (hour : Int32) (air : Int32) (rub : Int32) (z : Int32) (nb : Int32) (kd : Nat → Int32) (cl : Nat → Int32) (gr : Nat → Int32) (oc : Nat → Int32) (lit : Int32) (cold : Int32) (ccell : Nat → Int32) (cpow : Nat → Int32) (sp : Nat → Int32) (wm : Nat → Int32) (dr : Nat → Int32) (x1 : Int32) (R : Int32) (hour_r : Int32) (air_r : Int32) (rub_r : Int32) (cl_r : Nat → Int32) (gr_r : Nat → Int32) (oc_r : Nat → Int32) (wm_r : Nat → Int32) (dr_r : Nat → Int32) (hf : f_X1_hoursHeld hour air rub nb kd cl gr oc lit cold ccell cpow wm dr x1 = some (R, hour_r, air_r, rub_r, cl_r, gr_r, oc_r, wm_r, dr_r)) : Met l yX1_hoursHeld (ik_ws yX1_hoursHeld cX1_hoursHeld 3 (some .int)) ({ frames := 5, cells := 0, slots := 0, locals := 122 } : Room) (ik_P D cI cS [.ref p0, .int x1] (wz_X1 cI cS p0 w0 c0 p1 p2 p3 w1 w2 w3 w4 c1 c2 hour air rub z nb kd cl gr oc lit cold ccell cpow sp wm dr)) (ik_Q (some (.int R)) D (wz_X1 cI cS p0 w0 c0 p1 p2 p3 w1 w2 w3 w4 c1 c2 hour_r air_r rub_r z nb kd cl_r gr_r oc_r lit cold ccell cpow sp wm_r dr_r) (wz_X1 cI cS p0 w0 c0 p1 p2 p3 w1 w2 w3 w4 c1 c2 hour air rub z nb kd cl gr oc lit cold ccell cpow sp wm dr)) 0 0 (ik_in (wz_X1 cI cS p0 w0 c0 p1 p2 p3 w1 w2 w3 w4 c1 c2 hour air rub z nb kd cl gr oc lit cold ccell cpow sp wm dr)) := by
  refine ik_metW RX1 rfl (by decide) (Nat.le_of_ble_eq_true rfl) [(0, .ref p0), (1, .int x1)] rfl ?_
  intro p e s m below meth c C hr hlk
  unfold f_X1_hoursHeld at hf
  refine ik_aload_n C 0 rfl rfl dX1_hoursHeld_0 ?_
  obtain ⟨g1, hc1, hf⟩ := ik_b1s hf
  refine ik_goW [0, 1, 2, 3, 4, 5, 6, 7, 8, 9, 10, 11] rfl rfl (wz_X1 cI cS p0 w0 c0 p1 p2 p3 w1 w2 w3 w4 c1 c2 hour air rub z nb kd cl gr oc lit cold ccell cpow sp g1 dr) rfl (ik_runV C (c_X1_feelWarmth l D cI cS p0 w0 c0 p1 p2 p3 w1 w2 w3 w4 c1 c2 hour air rub z nb kd cl gr oc lit cold ccell cpow sp wm dr g1 hc1) mv_X1_feelWarmth wl_18_7 ⟨rfl, rfl, Nat.le_of_ble_eq_true rfl, Nat.le_of_ble_eq_true rfl⟩ [0, 1, 2, 3, 4, 5, 6, 7, 8, 9, 10, 11] rfl (by decide) 0 rfl rfl rfl rfl (Nat.le_of_ble_eq_true rfl) dX1_hoursHeld_1) rfl ?_
  refine ik_iconst (v := (0 : Int32)) C (by decide) dX1_hoursHeld_4 ?_
  refine ik_istore_n C [(2, .int (0 : Int32)), (0, .ref p0), (1, .int x1)] rfl (by decide) rfl dX1_hoursHeld_5 ?_
  have hL_6 : ∀ (n_6 : Nat) (hour_6 : Int32) (air_6 : Int32) (rub_6 : Int32) (cl_6 : Nat → Int32) (gr_6 : Nat → Int32) (oc_6 : Nat → Int32) (dr_6 : Nat → Int32) (x2_6 : Int32), ik_lp8 (b_X1_hoursHeld_6 nb kd x1 g1) n_6 hour_6 air_6 rub_6 cl_6 gr_6 oc_6 dr_6 x2_6 = some (R, hour_r, air_r, rub_r, cl_r, gr_r, oc_r, wm_r, dr_r) → ik_G p l e ({ frames := 5, cells := 0, slots := 0, locals := 122 } : Room) s m ([.ref p0, .int x1] : List Value).toArray below meth c D (ik_in (wz_X1 cI cS p0 w0 c0 p1 p2 p3 w1 w2 w3 w4 c1 c2 hour air rub z nb kd cl gr oc lit cold ccell cpow sp wm dr)) (ik_in (wz_X1 cI cS p0 w0 c0 p1 p2 p3 w1 w2 w3 w4 c1 c2 hour air rub z nb kd cl gr oc lit cold ccell cpow sp wm dr)) 3 (MQ below (ik_Q (some (.int R)) D (wz_X1 cI cS p0 w0 c0 p1 p2 p3 w1 w2 w3 w4 c1 c2 hour_r air_r rub_r z nb kd cl_r gr_r oc_r lit cold ccell cpow sp wm_r dr_r) (wz_X1 cI cS p0 w0 c0 p1 p2 p3 w1 w2 w3 w4 c1 c2 hour air rub z nb kd cl gr oc lit cold ccell cpow sp wm dr)) ([.ref p0, .int x1] : List Value).toArray s 0 0 (ik_in (wz_X1 cI cS p0 w0 c0 p1 p2 p3 w1 w2 w3 w4 c1 c2 hour air rub z nb kd cl gr oc lit cold ccell cpow sp wm dr))) 6 [(2, .int x2_6), (0, .ref p0), (1, .int x1)] [] (wz_X1 cI cS p0 w0 c0 p1 p2 p3 w1 w2 w3 w4 c1 c2 hour_6 air_6 rub_6 z nb kd cl_6 gr_6 oc_6 lit cold ccell cpow sp g1 dr_6) := by
    intro n_6
    induction n_6 with
    | zero => intro _ _ _ _ _ _ _ _ hf; exact nomatch hf
    | succ n_6 ih_6 =>
      intro hour_6 air_6 rub_6 cl_6 gr_6 oc_6 dr_6 x2_6 hf
      replace hf : b_X1_hoursHeld_6 nb kd x1 g1 (ik_lp8 (b_X1_hoursHeld_6 nb kd x1 g1) n_6) hour_6 air_6 rub_6 cl_6 gr_6 oc_6 dr_6 x2_6 = some (R, hour_r, air_r, rub_r, cl_r, gr_r, oc_r, wm_r, dr_r) := hf
      unfold b_X1_hoursHeld_6 at hf
      refine ik_iload_n C 0 rfl rfl dX1_hoursHeld_6 ?_
      refine ik_iload_n C 2 rfl rfl dX1_hoursHeld_7 ?_
      refine ik_icmp_ge C 26 dX1_hoursHeld_8 (by decide) (fun hc => ?_) (fun hc => ?_)
      · have hf := ik_pos hc hf
        refine ik_iload_n C 2 rfl rfl dX1_hoursHeld_26 ?_
        cases hf
        exact ik_iretW C hr hlk dX1_hoursHeld_27
      · have hf := ik_neg hc hf
        refine ik_aload_n C 1 rfl rfl dX1_hoursHeld_11 ?_
        obtain ⟨r2, g3, g4, g5, g6, g7, g8, g9, hc9, hf⟩ := ik_b8s hf
        refine ik_goW [0, 1, 2, 3, 4, 5, 6, 7, 8, 9, 10, 11] rfl rfl (wz_X1 cI cS p0 w0 c0 p1 p2 p3 w1 w2 w3 w4 c1 c2 g3 g4 g5 z nb kd g6 g7 g8 lit cold ccell cpow sp g1 g9) rfl (ik_runV C (c_X1_passHour l D cI cS p0 w0 c0 p1 p2 p3 w1 w2 w3 w4 c1 c2 hour_6 air_6 rub_6 z nb kd cl_6 gr_6 oc_6 lit cold ccell cpow sp g1 dr_6 r2 g3 g4 g5 g6 g7 g8 g9 hc9) mv_X1_passHour wl_18_15 ⟨rfl, rfl, Nat.le_of_ble_eq_true rfl, Nat.le_of_ble_eq_true rfl⟩ [0, 1, 2, 3, 4, 5, 6, 7, 8, 9, 10, 11] rfl (by decide) 0 rfl rfl rfl rfl (Nat.le_of_ble_eq_true rfl) dX1_hoursHeld_12) rfl ?_
        refine ik_if_le C 20 dX1_hoursHeld_15 (by decide) (fun hc => ?_) (fun hc => ?_)
        · have hf := ik_pos hc hf
          refine ik_iinc C [(2, .int (x2_6 + (1 : Int32))), (0, .ref p0), (1, .int x1)] 0 rfl rfl (by decide) rfl dX1_hoursHeld_20 ?_
          refine ik_goto C 6 dX1_hoursHeld_23 (by decide) ?_
          exact ik_sub [0, 1, 2] [(2, .int (x2_6 + (1 : Int32))), (0, .ref p0), (1, .int x1)] rfl (ih_6 g3 g4 g5 g6 g7 g8 g9 (x2_6 + (1 : Int32)) hf)
        · have hf := ik_neg hc hf
          refine ik_iload_n C 0 rfl rfl dX1_hoursHeld_18 ?_
          cases hf
          exact ik_iretW C hr hlk dX1_hoursHeld_19
  exact hL_6 ik_fu hour air rub cl gr oc dr (0 : Int32) hf
theorem mv_X1_goneIn : ik_V yX1_goneIn RX1 cX1_goneIn 4 (some .int) 2 := ⟨wl_25_11, wl_25_12, wl_1_14, wl_25_13, by decide +kernel⟩
set_option maxHeartbeats 4000000 in
set_option maxRecDepth 100000 in
theorem c_X1_goneIn (l : Launch) (D : va_G) (cI cS : ClassId) (p0 w0 c0 p1 p2 p3 w1 w2 w3 w4 c1 c2 : Nat) (hour : Int32) (air : Int32) (rub : Int32) (z : Int32) (nb : Int32) (kd : Nat → Int32) (cl : Nat → Int32) (gr : Nat → Int32) (oc : Nat → Int32) (lit : Int32) (cold : Int32) (ccell : Nat → Int32) (cpow : Nat → Int32) (sp : Nat → Int32) (wm : Nat → Int32) (dr : Nat → Int32) (x1 : Int32) (x2 : Int32) (R : Int32) (hour_r : Int32) (air_r : Int32) (rub_r : Int32) (cl_r : Nat → Int32) (gr_r : Nat → Int32) (oc_r : Nat → Int32) (wm_r : Nat → Int32) (dr_r : Nat → Int32) (hf : f_X1_goneIn hour air rub nb kd cl gr oc lit cold ccell cpow wm dr x1 x2 = some (R, hour_r, air_r, rub_r, cl_r, gr_r, oc_r, wm_r, dr_r)) : Met l yX1_goneIn (ik_ws yX1_goneIn cX1_goneIn 4 (some .int)) ({ frames := 5, cells := 0, slots := 0, locals := 122 } : Room) (ik_P D cI cS [.ref p0, .int x1, .int x2] (wz_X1 cI cS p0 w0 c0 p1 p2 p3 w1 w2 w3 w4 c1 c2 hour air rub z nb kd cl gr oc lit cold ccell cpow sp wm dr)) (ik_Q (some (.int R)) D (wz_X1 cI cS p0 w0 c0 p1 p2 p3 w1 w2 w3 w4 c1 c2 hour_r air_r rub_r z nb kd cl_r gr_r oc_r lit cold ccell cpow sp wm_r dr_r) (wz_X1 cI cS p0 w0 c0 p1 p2 p3 w1 w2 w3 w4 c1 c2 hour air rub z nb kd cl gr oc lit cold ccell cpow sp wm dr)) 0 0 (ik_in (wz_X1 cI cS p0 w0 c0 p1 p2 p3 w1 w2 w3 w4 c1 c2 hour air rub z nb kd cl gr oc lit cold ccell cpow sp wm dr)) := by
  refine ik_metW RX1 rfl (by decide) (Nat.le_of_ble_eq_true rfl) [(0, .ref p0), (1, .int x1), (2, .int x2)] rfl ?_
  intro p e s m below meth c C hr hlk
  unfold f_X1_goneIn at hf
  refine ik_aload_n C 0 rfl rfl dX1_goneIn_0 ?_
  obtain ⟨g1, hc1, hf⟩ := ik_b1s hf
  refine ik_goW [0, 1, 2, 3, 4, 5, 6, 7, 8, 9, 10, 11] rfl rfl (wz_X1 cI cS p0 w0 c0 p1 p2 p3 w1 w2 w3 w4 c1 c2 hour air rub z nb kd cl gr oc lit cold ccell cpow sp g1 dr) rfl (ik_runV C (c_X1_feelWarmth l D cI cS p0 w0 c0 p1 p2 p3 w1 w2 w3 w4 c1 c2 hour air rub z nb kd cl gr oc lit cold ccell cpow sp wm dr g1 hc1) mv_X1_feelWarmth wl_18_7 ⟨rfl, rfl, Nat.le_of_ble_eq_true rfl, Nat.le_of_ble_eq_true rfl⟩ [0, 1, 2, 3, 4, 5, 6, 7, 8, 9, 10, 11] rfl (by decide) 0 rfl rfl rfl rfl (Nat.le_of_ble_eq_true rfl) dX1_goneIn_1) rfl ?_
  refine ik_iconst (v := (1 : Int32)) C (by decide) dX1_goneIn_4 ?_
  refine ik_istore_n C [(3, .int (1 : Int32)), (0, .ref p0), (1, .int x1), (2, .int x2)] rfl (by decide) rfl dX1_goneIn_5 ?_
  have hL_6 : ∀ (n_6 : Nat) (hour_6 : Int32) (air_6 : Int32) (rub_6 : Int32) (cl_6 : Nat → Int32) (gr_6 : Nat → Int32) (oc_6 : Nat → Int32) (dr_6 : Nat → Int32) (x3_6 : Int32), ik_lp8 (b_X1_goneIn_6 nb kd x1 x2 g1) n_6 hour_6 air_6 rub_6 cl_6 gr_6 oc_6 dr_6 x3_6 = some (R, hour_r, air_r, rub_r, cl_r, gr_r, oc_r, wm_r, dr_r) → ik_G p l e ({ frames := 5, cells := 0, slots := 0, locals := 122 } : Room) s m ([.ref p0, .int x1, .int x2] : List Value).toArray below meth c D (ik_in (wz_X1 cI cS p0 w0 c0 p1 p2 p3 w1 w2 w3 w4 c1 c2 hour air rub z nb kd cl gr oc lit cold ccell cpow sp wm dr)) (ik_in (wz_X1 cI cS p0 w0 c0 p1 p2 p3 w1 w2 w3 w4 c1 c2 hour air rub z nb kd cl gr oc lit cold ccell cpow sp wm dr)) 4 (MQ below (ik_Q (some (.int R)) D (wz_X1 cI cS p0 w0 c0 p1 p2 p3 w1 w2 w3 w4 c1 c2 hour_r air_r rub_r z nb kd cl_r gr_r oc_r lit cold ccell cpow sp wm_r dr_r) (wz_X1 cI cS p0 w0 c0 p1 p2 p3 w1 w2 w3 w4 c1 c2 hour air rub z nb kd cl gr oc lit cold ccell cpow sp wm dr)) ([.ref p0, .int x1, .int x2] : List Value).toArray s 0 0 (ik_in (wz_X1 cI cS p0 w0 c0 p1 p2 p3 w1 w2 w3 w4 c1 c2 hour air rub z nb kd cl gr oc lit cold ccell cpow sp wm dr))) 6 [(3, .int x3_6), (0, .ref p0), (1, .int x1), (2, .int x2)] [] (wz_X1 cI cS p0 w0 c0 p1 p2 p3 w1 w2 w3 w4 c1 c2 hour_6 air_6 rub_6 z nb kd cl_6 gr_6 oc_6 lit cold ccell cpow sp g1 dr_6) := by
    intro n_6
    induction n_6 with
    | zero => intro _ _ _ _ _ _ _ _ hf; exact nomatch hf
    | succ n_6 ih_6 =>
      intro hour_6 air_6 rub_6 cl_6 gr_6 oc_6 dr_6 x3_6 hf
      replace hf : b_X1_goneIn_6 nb kd x1 x2 g1 (ik_lp8 (b_X1_goneIn_6 nb kd x1 x2 g1) n_6) hour_6 air_6 rub_6 cl_6 gr_6 oc_6 dr_6 x3_6 = some (R, hour_r, air_r, rub_r, cl_r, gr_r, oc_r, wm_r, dr_r) := hf
      unfold b_X1_goneIn_6 at hf
      refine ik_iload_n C 0 rfl rfl dX1_goneIn_6 ?_
      refine ik_iload_n C 3 rfl rfl dX1_goneIn_7 ?_
      refine ik_icmp_gt C 35 dX1_goneIn_8 (by decide) (fun hc => ?_) (fun hc => ?_)
      · have hf := ik_pos hc hf
        refine ik_iload_n C 3 rfl rfl dX1_goneIn_35 ?_
        refine ik_iconst (v := (1 : Int32)) C (by decide) dX1_goneIn_36 ?_
        refine ik_iadd C dX1_goneIn_37 ?_
        cases hf
        exact ik_iretW C hr hlk dX1_goneIn_38
      · have hf := ik_neg hc hf
        refine ik_aload_n C 1 rfl rfl dX1_goneIn_11 ?_
        obtain ⟨r2, g3, g4, g5, g6, g7, g8, g9, hc9, hf⟩ := ik_b8s hf
        refine ik_goW [0, 1, 2, 3, 4, 5, 6, 7, 8, 9, 10, 11] rfl rfl (wz_X1 cI cS p0 w0 c0 p1 p2 p3 w1 w2 w3 w4 c1 c2 g3 g4 g5 z nb kd g6 g7 g8 lit cold ccell cpow sp g1 g9) rfl (ik_runV C (c_X1_passHour l D cI cS p0 w0 c0 p1 p2 p3 w1 w2 w3 w4 c1 c2 hour_6 air_6 rub_6 z nb kd cl_6 gr_6 oc_6 lit cold ccell cpow sp g1 dr_6 r2 g3 g4 g5 g6 g7 g8 g9 hc9) mv_X1_passHour wl_18_15 ⟨rfl, rfl, Nat.le_of_ble_eq_true rfl, Nat.le_of_ble_eq_true rfl⟩ [0, 1, 2, 3, 4, 5, 6, 7, 8, 9, 10, 11] rfl (by decide) 0 rfl rfl rfl rfl (Nat.le_of_ble_eq_true rfl) dX1_goneIn_12) rfl ?_
        refine ik_pop C rfl dX1_goneIn_15 ?_
        refine ik_aload_n C 1 rfl rfl dX1_goneIn_16 ?_
        refine ik_get C inlX1 0 rfl rfl 0 (by decide) wl_2_13 rfl (v := .ref w0) rfl dX1_goneIn_17 ?_
        refine ik_iload_n C 2 rfl rfl dX1_goneIn_20 ?_
        obtain ⟨r10, hc10, hf⟩ := ik_b1s hf
        refine ik_goR (ik_runV C (c_X5_isGone l D cI cS w0 w1 w2 w3 w4 nb kd g6 g7 g8 x1 r10 hc10) mv_X5_isGone wl_18_13 ⟨rfl, rfl, Nat.le_of_ble_eq_true rfl, Nat.le_of_ble_eq_true rfl⟩ [1, 2, 3, 4, 5] rfl (by decide) 1 rfl rfl rfl rfl (Nat.le_of_ble_eq_true rfl) dX1_goneIn_21) rfl ?_
        refine ik_if_eq C 29 dX1_goneIn_24 (by decide) (fun hc => ?_) (fun hc => ?_)
        · have hf := ik_pos hc hf
          refine ik_iinc C [(3, .int (x3_6 + (1 : Int32))), (0, .ref p0), (1, .int x1), (2, .int x2)] 0 rfl rfl (by decide) rfl dX1_goneIn_29 ?_
          refine ik_goto C 6 dX1_goneIn_32 (by decide) ?_
          exact ik_sub [0, 1, 2, 3] [(3, .int (x3_6 + (1 : Int32))), (0, .ref p0), (1, .int x1), (2, .int x2)] rfl (ih_6 g3 g4 g5 g6 g7 g8 g9 (x3_6 + (1 : Int32)) hf)
        · have hf := ik_neg hc hf
          refine ik_iload_n C 0 rfl rfl dX1_goneIn_27 ?_
          cases hf
          exact ik_iretW C hr hlk dX1_goneIn_28
  exact hL_6 ik_fu hour air rub cl gr oc dr (1 : Int32) hf
theorem mv_X6_hours : ik_V yX6_hours RX6 cX6_hours 2 (some .int) 1 := ⟨wl_17_19, wl_17_20, wl_1_2, wl_17_21, by decide +kernel⟩
set_option maxHeartbeats 4000000 in
set_option maxRecDepth 100000 in
theorem c_X6_hours (l : Launch) (D : va_G) (cI cS : ClassId) (o0 np0 kp0 tp0 r0 t0 sh0 f0 nw0 nc0 np1 np2 np3 nw1 nw2 nw3 nw4 nc1 nc2 : Nat) (isk : Int32) (fnd : Nat → Int32) (nhour : Int32) (nair : Int32) (nrub : Int32) (nz : Int32) (nnb : Int32) (nkd : Nat → Int32) (ncl : Nat → Int32) (ngr : Nat → Int32) (noc : Nat → Int32) (nlit : Int32) (ncold : Int32) (nccell : Nat → Int32) (ncpow : Nat → Int32) (nsp : Nat → Int32) (nwm : Nat → Int32) (ndr : Nat → Int32) (x1 : Int32) (R : Int32) (fnd_r : Nat → Int32) (nhour_r : Int32) (nair_r : Int32) (nrub_r : Int32) (ncl_r : Nat → Int32) (ngr_r : Nat → Int32) (noc_r : Nat → Int32) (nwm_r : Nat → Int32) (ndr_r : Nat → Int32) (hf : f_X6_hours fnd nhour nair nrub nnb nkd ncl ngr noc nlit ncold nccell ncpow nwm ndr x1 = some (R, fnd_r, nhour_r, nair_r, nrub_r, ncl_r, ngr_r, noc_r, nwm_r, ndr_r)) : Met l yX6_hours (ik_ws yX6_hours cX6_hours 2 (some .int)) ({ frames := 6, cells := 0, slots := 0, locals := 145 } : Room) (ik_P D cI cS [.ref o0, .int x1] (wz_X6ofn cI cS o0 np0 kp0 tp0 r0 t0 sh0 f0 nw0 nc0 np1 np2 np3 nw1 nw2 nw3 nw4 nc1 nc2 isk fnd nhour nair nrub nz nnb nkd ncl ngr noc nlit ncold nccell ncpow nsp nwm ndr)) (ik_Q (some (.int R)) D (wz_X6ofn cI cS o0 np0 kp0 tp0 r0 t0 sh0 f0 nw0 nc0 np1 np2 np3 nw1 nw2 nw3 nw4 nc1 nc2 isk fnd_r nhour_r nair_r nrub_r nz nnb nkd ncl_r ngr_r noc_r nlit ncold nccell ncpow nsp nwm_r ndr_r) (wz_X6ofn cI cS o0 np0 kp0 tp0 r0 t0 sh0 f0 nw0 nc0 np1 np2 np3 nw1 nw2 nw3 nw4 nc1 nc2 isk fnd nhour nair nrub nz nnb nkd ncl ngr noc nlit ncold nccell ncpow nsp nwm ndr)) 0 0 (ik_in (wz_X6ofn cI cS o0 np0 kp0 tp0 r0 t0 sh0 f0 nw0 nc0 np1 np2 np3 nw1 nw2 nw3 nw4 nc1 nc2 isk fnd nhour nair nrub nz nnb nkd ncl ngr noc nlit ncold nccell ncpow nsp nwm ndr)) := by
  refine ik_metW RX6 rfl (by decide) (Nat.le_of_ble_eq_true rfl) [(0, .ref o0), (1, .int x1)] rfl ?_
  intro p e s m below meth c C hr hlk
  unfold f_X6_hours at hf
  refine ik_iload_n C 1 rfl rfl dX6_hours_0 ?_
  refine ik_iconst (v := (1 : Int32)) C (by decide) dX6_hours_1 ?_
  refine ik_bipush (v := (48 : Int32)) C (by decide) dX6_hours_2 ?_
  obtain ⟨r1, hc1, hf⟩ := ik_b1s hf
  refine ik_goR (ik_runS C (c_X6_isWithin l D cI cS x1 (1 : Int32) (48 : Int32) r1 hc1) ms_X6_isWithin wl_5_10 ⟨rfl, rfl, Nat.le_of_ble_eq_true rfl, Nat.le_of_ble_eq_true rfl⟩ [] rfl (by decide) rfl rfl (Nat.le_of_ble_eq_true rfl) dX6_hours_4) rfl ?_
  refine ik_if_ne C 17 dX6_hours_7 (by decide) (fun hc => ?_) (fun hc => ?_)
  · have hf := ik_neg hc hf
    refine ik_aload_n C 0 rfl rfl dX6_hours_17 ?_
    refine ik_iload_n C 1 rfl rfl dX6_hours_18 ?_
    obtain ⟨r2, hc2, hf⟩ := ik_b1s hf
    refine ik_goR (ik_runV C (c_X6_hasHours l D cI cS o0 np0 kp0 tp0 r0 t0 sh0 f0 nw0 nc0 np1 np2 np3 nw1 nw2 nw3 nw4 nc1 nc2 isk nhour nair nrub nz nnb nkd ncl ngr noc nlit ncold nccell ncpow nsp nwm ndr x1 r2 hc2) mv_X6_hasHours wl_17_22 ⟨rfl, rfl, Nat.le_of_ble_eq_true rfl, Nat.le_of_ble_eq_true rfl⟩ [0, 2, 3, 4, 5, 6, 7, 8, 9, 10, 11, 12, 13] rfl (by decide) 0 rfl rfl rfl rfl (Nat.le_of_ble_eq_true rfl) dX6_hours_19) rfl ?_
    refine ik_if_ne C 32 dX6_hours_22 (by decide) (fun hc => ?_) (fun hc => ?_)
    · have hf := ik_neg hc hf
      refine ik_aload_n C 0 rfl rfl dX6_hours_32 ?_
      refine ik_get C inlX6 0 rfl rfl 0 (by decide) wl_1_15 rfl (v := .ref np0) rfl dX6_hours_33 ?_
      refine ik_iload_n C 1 rfl rfl dX6_hours_36 ?_
      obtain ⟨r3, g4, g5, g6, g7, g8, g9, g10, g11, hc11, hf⟩ := ik_b9s hf
      refine ik_goW [2, 3, 4, 5, 6, 7, 8, 9, 10, 11, 12, 13] rfl rfl (wz_X6ofn cI cS o0 np0 kp0 tp0 r0 t0 sh0 f0 nw0 nc0 np1 np2 np3 nw1 nw2 nw3 nw4 nc1 nc2 isk fnd g4 g5 g6 nz nnb nkd g7 g8 g9 nlit ncold nccell ncpow nsp g10 g11) rfl (ik_runV C (c_X1_passHours l D cI cS np0 nw0 nc0 np1 np2 np3 nw1 nw2 nw3 nw4 nc1 nc2 nhour nair nrub nz nnb nkd ncl ngr noc nlit ncold nccell ncpow nsp nwm ndr x1 r3 g4 g5 g6 g7 g8 g9 g10 g11 hc11) mv_X1_passHours wl_18_3 ⟨rfl, rfl, Nat.le_of_ble_eq_true rfl, Nat.le_of_ble_eq_true rfl⟩ [2, 3, 4, 5, 6, 7, 8, 9, 10, 11, 12, 13] rfl (by decide) 2 rfl rfl rfl rfl (Nat.le_of_ble_eq_true rfl) dX6_hours_37) rfl ?_
      cases hf
      exact ik_iretW C hr hlk dX6_hours_40
    · have hf := ik_pos hc hf
      refine ik_aload_n C 0 rfl rfl dX6_hours_25 ?_
      refine ik_ldc C wl_5_6 dX6_hours_26 ?_
      obtain ⟨r3, g4, hc4, hf⟩ := ik_b2s hf
      refine ik_goW [0, 1] rfl rfl (wz_X6ofn cI cS o0 np0 kp0 tp0 r0 t0 sh0 f0 nw0 nc0 np1 np2 np3 nw1 nw2 nw3 nw4 nc1 nc2 isk g4 nhour nair nrub nz nnb nkd ncl ngr noc nlit ncold nccell ncpow nsp nwm ndr) rfl (ik_runV C (c_X6_tell l D cI cS o0 np0 kp0 tp0 r0 t0 sh0 f0 isk fnd (-1000005 : Int32) r3 g4 hc4) mv_X6_tell wl_5_16 ⟨rfl, rfl, Nat.le_of_ble_eq_true rfl, Nat.le_of_ble_eq_true rfl⟩ [0, 1] rfl (by decide) 0 rfl rfl rfl rfl (Nat.le_of_ble_eq_true rfl) dX6_hours_28) rfl ?_
      cases hf
      exact ik_iretW C hr hlk dX6_hours_31
  · have hf := ik_pos hc hf
    refine ik_aload_n C 0 rfl rfl dX6_hours_10 ?_
    refine ik_ldc C wl_5_3 dX6_hours_11 ?_
    obtain ⟨r2, g3, hc3, hf⟩ := ik_b2s hf
    refine ik_goW [0, 1] rfl rfl (wz_X6ofn cI cS o0 np0 kp0 tp0 r0 t0 sh0 f0 nw0 nc0 np1 np2 np3 nw1 nw2 nw3 nw4 nc1 nc2 isk g3 nhour nair nrub nz nnb nkd ncl ngr noc nlit ncold nccell ncpow nsp nwm ndr) rfl (ik_runV C (c_X6_tell l D cI cS o0 np0 kp0 tp0 r0 t0 sh0 f0 isk fnd (-1000001 : Int32) r2 g3 hc3) mv_X6_tell wl_5_16 ⟨rfl, rfl, Nat.le_of_ble_eq_true rfl, Nat.le_of_ble_eq_true rfl⟩ [0, 1] rfl (by decide) 0 rfl rfl rfl rfl (Nat.le_of_ble_eq_true rfl) dX6_hours_13) rfl ?_
    cases hf
    exact ik_iretW C hr hlk dX6_hours_16
theorem mv_X6_ahead : ik_V yX6_ahead RX6 cX6_ahead 5 (some .int) 2 := ⟨wl_23_5, wl_23_6, wl_1_2, wl_23_7, by decide +kernel⟩
set_option maxHeartbeats 4000000 in
set_option maxRecDepth 100000 in
theorem c_X6_ahead (l : Launch) (D : va_G) (cI cS : ClassId) (o0 np0 kp0 tp0 r0 t0 sh0 f0 nw0 nc0 np1 np2 np3 nw1 nw2 nw3 nw4 nc1 nc2 tw0 tc0 tp1 tp2 tp3 tw1 tw2 tw3 tw4 tc1 tc2 : Nat) (isk : Int32) (fnd : Nat → Int32) (nhour : Int32) (nair : Int32) (nrub : Int32) (nz : Int32) (nnb : Int32) (nkd : Nat → Int32) (ncl : Nat → Int32) (ngr : Nat → Int32) (noc : Nat → Int32) (nlit : Int32) (ncold : Int32) (nccell : Nat → Int32) (ncpow : Nat → Int32) (nsp : Nat → Int32) (nwm : Nat → Int32) (ndr : Nat → Int32) (thour : Int32) (tair : Int32) (trub : Int32) (tz : Int32) (tnb : Int32) (tkd : Nat → Int32) (tcl : Nat → Int32) (tgr : Nat → Int32) (toc : Nat → Int32) (tlit : Int32) (tcold : Int32) (tccell : Nat → Int32) (tcpow : Nat → Int32) (tsp : Nat → Int32) (twm : Nat → Int32) (tdr : Nat → Int32) (x1 : Int32) (x2 : Int32) (R : Int32) (fnd_r : Nat → Int32) (thour_r : Int32) (tair_r : Int32) (trub_r : Int32) (tz_r : Int32) (tnb_r : Int32) (tkd_r : Nat → Int32) (tcl_r : Nat → Int32) (tgr_r : Nat → Int32) (toc_r : Nat → Int32) (tlit_r : Int32) (tcold_r : Int32) (tccell_r : Nat → Int32) (tcpow_r : Nat → Int32) (tsp_r : Nat → Int32) (twm_r : Nat → Int32) (tdr_r : Nat → Int32) (hf : f_X6_ahead fnd nhour nair nrub nz nnb nkd ncl ngr noc nlit ncold nccell ncpow nsp thour tair trub tz tnb tkd tcl tgr toc tlit tcold tccell tcpow tsp twm tdr x1 x2 = some (R, fnd_r, thour_r, tair_r, trub_r, tz_r, tnb_r, tkd_r, tcl_r, tgr_r, toc_r, tlit_r, tcold_r, tccell_r, tcpow_r, tsp_r, twm_r, tdr_r)) : Met l yX6_ahead (ik_ws yX6_ahead cX6_ahead 5 (some .int)) ({ frames := 6, cells := 0, slots := 0, locals := 145 } : Room) (ik_P D cI cS [.ref o0, .int x1, .int x2] (wz_X6ofnt cI cS o0 np0 kp0 tp0 r0 t0 sh0 f0 nw0 nc0 np1 np2 np3 nw1 nw2 nw3 nw4 nc1 nc2 tw0 tc0 tp1 tp2 tp3 tw1 tw2 tw3 tw4 tc1 tc2 isk fnd nhour nair nrub nz nnb nkd ncl ngr noc nlit ncold nccell ncpow nsp nwm ndr thour tair trub tz tnb tkd tcl tgr toc tlit tcold tccell tcpow tsp twm tdr)) (ik_Q (some (.int R)) D (wz_X6ofnt cI cS o0 np0 kp0 tp0 r0 t0 sh0 f0 nw0 nc0 np1 np2 np3 nw1 nw2 nw3 nw4 nc1 nc2 tw0 tc0 tp1 tp2 tp3 tw1 tw2 tw3 tw4 tc1 tc2 isk fnd_r nhour nair nrub nz nnb nkd ncl ngr noc nlit ncold nccell ncpow nsp nwm ndr thour_r tair_r trub_r tz_r tnb_r tkd_r tcl_r tgr_r toc_r tlit_r tcold_r tccell_r tcpow_r tsp_r twm_r tdr_r) (wz_X6ofnt cI cS o0 np0 kp0 tp0 r0 t0 sh0 f0 nw0 nc0 np1 np2 np3 nw1 nw2 nw3 nw4 nc1 nc2 tw0 tc0 tp1 tp2 tp3 tw1 tw2 tw3 tw4 tc1 tc2 isk fnd nhour nair nrub nz nnb nkd ncl ngr noc nlit ncold nccell ncpow nsp nwm ndr thour tair trub tz tnb tkd tcl tgr toc tlit tcold tccell tcpow tsp twm tdr)) 0 0 (ik_in (wz_X6ofnt cI cS o0 np0 kp0 tp0 r0 t0 sh0 f0 nw0 nc0 np1 np2 np3 nw1 nw2 nw3 nw4 nc1 nc2 tw0 tc0 tp1 tp2 tp3 tw1 tw2 tw3 tw4 tc1 tc2 isk fnd nhour nair nrub nz nnb nkd ncl ngr noc nlit ncold nccell ncpow nsp nwm ndr thour tair trub tz tnb tkd tcl tgr toc tlit tcold tccell tcpow tsp twm tdr)) := by
  refine ik_metW RX6 rfl (by decide) (Nat.le_of_ble_eq_true rfl) [(0, .ref o0), (1, .int x1), (2, .int x2)] rfl ?_
  intro p e s m below meth c C hr hlk
  unfold f_X6_ahead at hf
  refine ik_iload_n C 1 rfl rfl dX6_ahead_0 ?_
  refine ik_iconst (v := (0 : Int32)) C (by decide) dX6_ahead_1 ?_
  refine ik_bipush (v := (96 : Int32)) C (by decide) dX6_ahead_2 ?_
  obtain ⟨r1, hc1, hf⟩ := ik_b1s hf
  refine ik_goR (ik_runS C (c_X6_isWithin l D cI cS x1 (0 : Int32) (96 : Int32) r1 hc1) ms_X6_isWithin wl_5_10 ⟨rfl, rfl, Nat.le_of_ble_eq_true rfl, Nat.le_of_ble_eq_true rfl⟩ [] rfl (by decide) rfl rfl (Nat.le_of_ble_eq_true rfl) dX6_ahead_4) rfl ?_
  refine ik_if_eq C 19 dX6_ahead_7 (by decide) (fun hc => ?_) (fun hc => ?_)
  · have hf := ik_pos hc hf
    refine ik_aload_n C 0 rfl rfl dX6_ahead_19 ?_
    refine ik_ldc C wl_5_3 dX6_ahead_20 ?_
    obtain ⟨r2, g3, hc3, hf⟩ := ik_b2s hf
    refine ik_goW [0, 1] rfl rfl (wz_X6ofnt cI cS o0 np0 kp0 tp0 r0 t0 sh0 f0 nw0 nc0 np1 np2 np3 nw1 nw2 nw3 nw4 nc1 nc2 tw0 tc0 tp1 tp2 tp3 tw1 tw2 tw3 tw4 tc1 tc2 isk g3 nhour nair nrub nz nnb nkd ncl ngr noc nlit ncold nccell ncpow nsp nwm ndr thour tair trub tz tnb tkd tcl tgr toc tlit tcold tccell tcpow tsp twm tdr) rfl (ik_runV C (c_X6_tell l D cI cS o0 np0 kp0 tp0 r0 t0 sh0 f0 isk fnd (-1000001 : Int32) r2 g3 hc3) mv_X6_tell wl_5_16 ⟨rfl, rfl, Nat.le_of_ble_eq_true rfl, Nat.le_of_ble_eq_true rfl⟩ [0, 1] rfl (by decide) 0 rfl rfl rfl rfl (Nat.le_of_ble_eq_true rfl) dX6_ahead_22) rfl ?_
    cases hf
    exact ik_iretW C hr hlk dX6_ahead_25
  · have hf := ik_neg hc hf
    refine ik_iload_n C 2 rfl rfl dX6_ahead_10 ?_
    refine ik_iconst (v := (0 : Int32)) C (by decide) dX6_ahead_11 ?_
    refine ik_iconst (v := (4 : Int32)) C (by decide) dX6_ahead_12 ?_
    obtain ⟨r2, hc2, hf⟩ := ik_b1s hf
    refine ik_goR (ik_runS C (c_X6_isWithin l D cI cS x2 (0 : Int32) (4 : Int32) r2 hc2) ms_X6_isWithin wl_5_10 ⟨rfl, rfl, Nat.le_of_ble_eq_true rfl, Nat.le_of_ble_eq_true rfl⟩ [] rfl (by decide) rfl rfl (Nat.le_of_ble_eq_true rfl) dX6_ahead_13) rfl ?_
    refine ik_if_ne C 26 dX6_ahead_16 (by decide) (fun hc => ?_) (fun hc => ?_)
    · have hf := ik_neg hc hf
      refine ik_aload_n C 0 rfl rfl dX6_ahead_26 ?_
      refine ik_iload_n C 1 rfl rfl dX6_ahead_27 ?_
      obtain ⟨r3, hc3, hf⟩ := ik_b1s hf
      refine ik_goR (ik_runV C (c_X6_hasHours l D cI cS o0 np0 kp0 tp0 r0 t0 sh0 f0 nw0 nc0 np1 np2 np3 nw1 nw2 nw3 nw4 nc1 nc2 isk nhour nair nrub nz nnb nkd ncl ngr noc nlit ncold nccell ncpow nsp nwm ndr x1 r3 hc3) mv_X6_hasHours wl_17_22 ⟨rfl, rfl, Nat.le_of_ble_eq_true rfl, Nat.le_of_ble_eq_true rfl⟩ [0, 2, 3, 4, 5, 6, 7, 8, 9, 10, 11, 12, 13] rfl (by decide) 0 rfl rfl rfl rfl (Nat.le_of_ble_eq_true rfl) dX6_ahead_28) rfl ?_
      refine ik_if_ne C 41 dX6_ahead_31 (by decide) (fun hc => ?_) (fun hc => ?_)
      · have hf := ik_neg hc hf
        refine ik_aload_n C 0 rfl rfl dX6_ahead_41 ?_
        obtain ⟨g4, g5, g6, g7, g8, g9, g10, g11, g12, g13, g14, g15, g16, g17, hc17, hf⟩ := ik_b14s hf
        refine ik_goW [0, 2, 3, 4, 5, 6, 7, 8, 9, 10, 11, 12, 13, 14, 15, 16, 17, 18, 19, 20, 21, 22, 23, 24, 25] rfl rfl (wz_X6ofnt cI cS o0 np0 kp0 tp0 r0 t0 sh0 f0 nw0 nc0 np1 np2 np3 nw1 nw2 nw3 nw4 nc1 nc2 tw0 tc0 tp1 tp2 tp3 tw1 tw2 tw3 tw4 tc1 tc2 isk fnd nhour nair nrub nz nnb nkd ncl ngr noc nlit ncold nccell ncpow nsp nwm ndr g4 g5 g6 g7 g8 g9 g10 g11 g12 g13 g14 g15 g16 g17 twm tdr) rfl (ik_runV C (c_X6_freshTrial l D cI cS o0 np0 kp0 tp0 r0 t0 sh0 f0 nw0 nc0 np1 np2 np3 nw1 nw2 nw3 nw4 nc1 nc2 tw0 tc0 tp1 tp2 tp3 tw1 tw2 tw3 tw4 tc1 tc2 isk nhour nair nrub nz nnb nkd ncl ngr noc nlit ncold nccell ncpow nsp nwm ndr thour tair trub tz tnb tkd tcl tgr toc tlit tcold tccell tcpow tsp twm tdr g4 g5 g6 g7 g8 g9 g10 g11 g12 g13 g14 g15 g16 g17 hc17) mv_X6_freshTrial wl_23_10 ⟨rfl, rfl, Nat.le_of_ble_eq_true rfl, Nat.le_of_ble_eq_true rfl⟩ [0, 2, 3, 4, 5, 6, 7, 8, 9, 10, 11, 12, 13, 14, 15, 16, 17, 18, 19, 20, 21, 22, 23, 24, 25] rfl (by decide) 0 rfl rfl rfl rfl (Nat.le_of_ble_eq_true rfl) dX6_ahead_42) rfl ?_
        refine ik_astore_n C [(3, .ref tp0), (0, .ref o0), (1, .int x1), (2, .int x2)] rfl (by decide) rfl dX6_ahead_45 ?_
        refine ik_aload_n C 0 rfl rfl dX6_ahead_46 ?_
        refine ik_iload_n C 2 rfl rfl dX6_ahead_47 ?_
        obtain ⟨r18, g19, g20, g21, g22, g23, g24, g25, g26, hc26, hf⟩ := ik_b9s hf
        refine ik_goW [14, 15, 16, 17, 18, 19, 20, 21, 22, 23, 24, 25] rfl rfl (wz_X6ofnt cI cS o0 np0 kp0 tp0 r0 t0 sh0 f0 nw0 nc0 np1 np2 np3 nw1 nw2 nw3 nw4 nc1 nc2 tw0 tc0 tp1 tp2 tp3 tw1 tw2 tw3 tw4 tc1 tc2 isk fnd nhour nair nrub nz nnb nkd ncl ngr noc nlit ncold nccell ncpow nsp nwm ndr g19 g20 g21 g7 g8 g9 g22 g23 g24 g13 g14 g15 g16 g17 g25 g26) rfl (ik_runV C (c_X1_passHours l D cI cS tp0 tw0 tc0 tp1 tp2 tp3 tw1 tw2 tw3 tw4 tc1 tc2 g4 g5 g6 g7 g8 g9 g10 g11 g12 g13 g14 g15 g16 g17 twm tdr x1 r18 g19 g20 g21 g22 g23 g24 g25 g26 hc26) mv_X1_passHours wl_18_3 ⟨rfl, rfl, Nat.le_of_ble_eq_true rfl, Nat.le_of_ble_eq_true rfl⟩ [14, 15, 16, 17, 18, 19, 20, 21, 22, 23, 24, 25] rfl (by decide) 14 rfl rfl rfl rfl (Nat.le_of_ble_eq_true rfl) dX6_ahead_48) rfl ?_
        refine ik_istore C [(4, .int r18), (3, .ref tp0), (0, .ref o0), (1, .int x1), (2, .int x2)] (by decide) rfl dX6_ahead_51 ?_
        refine ik_iload_n C 4 rfl rfl dX6_ahead_53 ?_
        by_cases hn0 : x2 = (0 : Int32)
        · have hf := ik_pos hn0 hf
          refine ik_tcase C (0 : Int32) hn0 84 dX6_ahead_54 (by decide) (by decide) rfl (by decide) ?_
          refine ik_iload C 0 rfl dX6_ahead_84 ?_
          cases hf
          exact ik_iretW C hr hlk dX6_ahead_86
        · have hf := ik_neg hn0 hf
          by_cases hn1 : x2 = (1 : Int32)
          · have hf := ik_pos hn1 hf
            refine ik_tcase C (1 : Int32) hn1 87 dX6_ahead_54 (by decide) (by decide) rfl (by decide) ?_
            refine ik_aload_n C 1 rfl rfl dX6_ahead_87 ?_
            refine ik_get C inlX1 14 rfl rfl 0 (by decide) wl_5_4 rfl (v := .ref tw0) rfl dX6_ahead_88 ?_
            obtain ⟨r27, hc27, hf⟩ := ik_b1s hf
            refine ik_goR (ik_runV C (c_X5_allGrains l D cI cS tw0 tw1 tw2 tw3 tw4 g8 g9 g22 g23 g24 r27 hc27) mv_X5_allGrains wl_24_8 ⟨rfl, rfl, Nat.le_of_ble_eq_true rfl, Nat.le_of_ble_eq_true rfl⟩ [15, 16, 17, 18, 19] rfl (by decide) 15 rfl rfl rfl rfl (Nat.le_of_ble_eq_true rfl) dX6_ahead_91) rfl ?_
            cases hf
            exact ik_iretW C hr hlk dX6_ahead_94
          · have hf := ik_neg hn1 hf
            by_cases hn2 : x2 = (2 : Int32)
            · have hf := ik_pos hn2 hf
              refine ik_tcase C (2 : Int32) hn2 95 dX6_ahead_54 (by decide) (by decide) rfl (by decide) ?_
              refine ik_aload_n C 1 rfl rfl dX6_ahead_95 ?_
              refine ik_get C inlX1 14 rfl rfl 4 (by decide) wl_23_8 rfl (v := .int g20) rfl dX6_ahead_96 ?_
              cases hf
              exact ik_iretW C hr hlk dX6_ahead_99
            · have hf := ik_neg hn2 hf
              by_cases hn3 : x2 = (3 : Int32)
              · have hf := ik_pos hn3 hf
                refine ik_tcase C (3 : Int32) hn3 100 dX6_ahead_54 (by decide) (by decide) rfl (by decide) ?_
                refine ik_aload_n C 1 rfl rfl dX6_ahead_100 ?_
                refine ik_get C inlX1 14 rfl rfl 5 (by decide) wl_23_9 rfl (v := .int g21) rfl dX6_ahead_101 ?_
                cases hf
                exact ik_iretW C hr hlk dX6_ahead_104
              · have hf := ik_neg hn3 hf
                refine ik_tout C 105 dX6_ahead_54 (by have ehn0 : (x2).toInt ≠ 0 := fun h => hn0 (Int32.toInt_inj.mp h); have ehn1 : (x2).toInt ≠ 1 := fun h => hn1 (Int32.toInt_inj.mp h); have ehn2 : (x2).toInt ≠ 2 := fun h => hn2 (Int32.toInt_inj.mp h); have ehn3 : (x2).toInt ≠ 3 := fun h => hn3 (Int32.toInt_inj.mp h); omega) (by decide) ?_
                refine ik_aload_n C 1 rfl rfl dX6_ahead_105 ?_
                refine ik_get C inlX1 14 rfl rfl 0 (by decide) wl_5_4 rfl (v := .ref tw0) rfl dX6_ahead_106 ?_
                obtain ⟨r27, hc27, hf⟩ := ik_b1s hf
                refine ik_goR (ik_runV C (c_X5_goneSet l D cI cS tw0 tw1 tw2 tw3 tw4 g8 g9 g22 g23 g24 r27 hc27) mv_X5_goneSet wl_24_12 ⟨rfl, rfl, Nat.le_of_ble_eq_true rfl, Nat.le_of_ble_eq_true rfl⟩ [15, 16, 17, 18, 19] rfl (by decide) 15 rfl rfl rfl rfl (Nat.le_of_ble_eq_true rfl) dX6_ahead_109) rfl ?_
                cases hf
                exact ik_iretW C hr hlk dX6_ahead_112
      · have hf := ik_pos hc hf
        refine ik_aload_n C 0 rfl rfl dX6_ahead_34 ?_
        refine ik_ldc C wl_5_6 dX6_ahead_35 ?_
        obtain ⟨r4, g5, hc5, hf⟩ := ik_b2s hf
        refine ik_goW [0, 1] rfl rfl (wz_X6ofnt cI cS o0 np0 kp0 tp0 r0 t0 sh0 f0 nw0 nc0 np1 np2 np3 nw1 nw2 nw3 nw4 nc1 nc2 tw0 tc0 tp1 tp2 tp3 tw1 tw2 tw3 tw4 tc1 tc2 isk g5 nhour nair nrub nz nnb nkd ncl ngr noc nlit ncold nccell ncpow nsp nwm ndr thour tair trub tz tnb tkd tcl tgr toc tlit tcold tccell tcpow tsp twm tdr) rfl (ik_runV C (c_X6_tell l D cI cS o0 np0 kp0 tp0 r0 t0 sh0 f0 isk fnd (-1000005 : Int32) r4 g5 hc5) mv_X6_tell wl_5_16 ⟨rfl, rfl, Nat.le_of_ble_eq_true rfl, Nat.le_of_ble_eq_true rfl⟩ [0, 1] rfl (by decide) 0 rfl rfl rfl rfl (Nat.le_of_ble_eq_true rfl) dX6_ahead_37) rfl ?_
        cases hf
        exact ik_iretW C hr hlk dX6_ahead_40
    · have hf := ik_pos hc hf
      refine ik_aload_n C 0 rfl rfl dX6_ahead_19 ?_
      refine ik_ldc C wl_5_3 dX6_ahead_20 ?_
      obtain ⟨r3, g4, hc4, hf⟩ := ik_b2s hf
      refine ik_goW [0, 1] rfl rfl (wz_X6ofnt cI cS o0 np0 kp0 tp0 r0 t0 sh0 f0 nw0 nc0 np1 np2 np3 nw1 nw2 nw3 nw4 nc1 nc2 tw0 tc0 tp1 tp2 tp3 tw1 tw2 tw3 tw4 tc1 tc2 isk g4 nhour nair nrub nz nnb nkd ncl ngr noc nlit ncold nccell ncpow nsp nwm ndr thour tair trub tz tnb tkd tcl tgr toc tlit tcold tccell tcpow tsp twm tdr) rfl (ik_runV C (c_X6_tell l D cI cS o0 np0 kp0 tp0 r0 t0 sh0 f0 isk fnd (-1000001 : Int32) r3 g4 hc4) mv_X6_tell wl_5_16 ⟨rfl, rfl, Nat.le_of_ble_eq_true rfl, Nat.le_of_ble_eq_true rfl⟩ [0, 1] rfl (by decide) 0 rfl rfl rfl rfl (Nat.le_of_ble_eq_true rfl) dX6_ahead_22) rfl ?_
      cases hf
      exact ik_iretW C hr hlk dX6_ahead_25
theorem mv_X6_goes : ik_V yX6_goes RX6 cX6_goes 3 (some .int) 1 := ⟨wl_25_6, wl_25_7, wl_1_2, wl_25_8, by decide +kernel⟩
set_option maxHeartbeats 4000000 in
set_option maxRecDepth 100000 in
theorem c_X6_goes (l : Launch) (D : va_G) (cI cS : ClassId) (o0 np0 kp0 tp0 r0 t0 sh0 f0 nw0 nc0 np1 np2 np3 nw1 nw2 nw3 nw4 nc1 nc2 tw0 tc0 tp1 tp2 tp3 tw1 tw2 tw3 tw4 tc1 tc2 : Nat) (isk : Int32) (fnd : Nat → Int32) (nhour : Int32) (nair : Int32) (nrub : Int32) (nz : Int32) (nnb : Int32) (nkd : Nat → Int32) (ncl : Nat → Int32) (ngr : Nat → Int32) (noc : Nat → Int32) (nlit : Int32) (ncold : Int32) (nccell : Nat → Int32) (ncpow : Nat → Int32) (nsp : Nat → Int32) (nwm : Nat → Int32) (ndr : Nat → Int32) (thour : Int32) (tair : Int32) (trub : Int32) (tz : Int32) (tnb : Int32) (tkd : Nat → Int32) (tcl : Nat → Int32) (tgr : Nat → Int32) (toc : Nat → Int32) (tlit : Int32) (tcold : Int32) (tccell : Nat → Int32) (tcpow : Nat → Int32) (tsp : Nat → Int32) (twm : Nat → Int32) (tdr : Nat → Int32) (x1 : Int32) (R : Int32) (fnd_r : Nat → Int32) (thour_r : Int32) (tair_r : Int32) (trub_r : Int32) (tz_r : Int32) (tnb_r : Int32) (tkd_r : Nat → Int32) (tcl_r : Nat → Int32) (tgr_r : Nat → Int32) (toc_r : Nat → Int32) (tlit_r : Int32) (tcold_r : Int32) (tccell_r : Nat → Int32) (tcpow_r : Nat → Int32) (tsp_r : Nat → Int32) (twm_r : Nat → Int32) (tdr_r : Nat → Int32) (hf : f_X6_goes fnd nhour nair nrub nz nnb nkd ncl ngr noc nlit ncold nccell ncpow nsp thour tair trub tz tnb tkd tcl tgr toc tlit tcold tccell tcpow tsp twm tdr x1 = some (R, fnd_r, thour_r, tair_r, trub_r, tz_r, tnb_r, tkd_r, tcl_r, tgr_r, toc_r, tlit_r, tcold_r, tccell_r, tcpow_r, tsp_r, twm_r, tdr_r)) : Met l yX6_goes (ik_ws yX6_goes cX6_goes 3 (some .int)) ({ frames := 6, cells := 0, slots := 0, locals := 145 } : Room) (ik_P D cI cS [.ref o0, .int x1] (wz_X6ofnt cI cS o0 np0 kp0 tp0 r0 t0 sh0 f0 nw0 nc0 np1 np2 np3 nw1 nw2 nw3 nw4 nc1 nc2 tw0 tc0 tp1 tp2 tp3 tw1 tw2 tw3 tw4 tc1 tc2 isk fnd nhour nair nrub nz nnb nkd ncl ngr noc nlit ncold nccell ncpow nsp nwm ndr thour tair trub tz tnb tkd tcl tgr toc tlit tcold tccell tcpow tsp twm tdr)) (ik_Q (some (.int R)) D (wz_X6ofnt cI cS o0 np0 kp0 tp0 r0 t0 sh0 f0 nw0 nc0 np1 np2 np3 nw1 nw2 nw3 nw4 nc1 nc2 tw0 tc0 tp1 tp2 tp3 tw1 tw2 tw3 tw4 tc1 tc2 isk fnd_r nhour nair nrub nz nnb nkd ncl ngr noc nlit ncold nccell ncpow nsp nwm ndr thour_r tair_r trub_r tz_r tnb_r tkd_r tcl_r tgr_r toc_r tlit_r tcold_r tccell_r tcpow_r tsp_r twm_r tdr_r) (wz_X6ofnt cI cS o0 np0 kp0 tp0 r0 t0 sh0 f0 nw0 nc0 np1 np2 np3 nw1 nw2 nw3 nw4 nc1 nc2 tw0 tc0 tp1 tp2 tp3 tw1 tw2 tw3 tw4 tc1 tc2 isk fnd nhour nair nrub nz nnb nkd ncl ngr noc nlit ncold nccell ncpow nsp nwm ndr thour tair trub tz tnb tkd tcl tgr toc tlit tcold tccell tcpow tsp twm tdr)) 0 0 (ik_in (wz_X6ofnt cI cS o0 np0 kp0 tp0 r0 t0 sh0 f0 nw0 nc0 np1 np2 np3 nw1 nw2 nw3 nw4 nc1 nc2 tw0 tc0 tp1 tp2 tp3 tw1 tw2 tw3 tw4 tc1 tc2 isk fnd nhour nair nrub nz nnb nkd ncl ngr noc nlit ncold nccell ncpow nsp nwm ndr thour tair trub tz tnb tkd tcl tgr toc tlit tcold tccell tcpow tsp twm tdr)) := by
  refine ik_metW RX6 rfl (by decide) (Nat.le_of_ble_eq_true rfl) [(0, .ref o0), (1, .int x1)] rfl ?_
  intro p e s m below meth c C hr hlk
  unfold f_X6_goes at hf
  refine ik_aload_n C 0 rfl rfl dX6_goes_0 ?_
  refine ik_get C inlX6 0 rfl rfl 0 (by decide) wl_1_15 rfl (v := .ref np0) rfl dX6_goes_1 ?_
  refine ik_get C inlX1 2 rfl rfl 0 (by decide) wl_5_4 rfl (v := .ref nw0) rfl dX6_goes_4 ?_
  refine ik_iload_n C 1 rfl rfl dX6_goes_7 ?_
  obtain ⟨r1, hc1, hf⟩ := ik_b1s hf
  refine ik_goR (ik_runV C (c_X5_isBlock l D cI cS nw0 nw1 nw2 nw3 nw4 nnb nkd ncl ngr noc x1 r1 hc1) mv_X5_isBlock wl_8_7 ⟨rfl, rfl, Nat.le_of_ble_eq_true rfl, Nat.le_of_ble_eq_true rfl⟩ [3, 4, 5, 6, 7] rfl (by decide) 3 rfl rfl rfl rfl (Nat.le_of_ble_eq_true rfl) dX6_goes_8) rfl ?_
  refine ik_if_ne C 21 dX6_goes_11 (by decide) (fun hc => ?_) (fun hc => ?_)
  · have hf := ik_neg hc hf
    refine ik_aload_n C 0 rfl rfl dX6_goes_21 ?_
    refine ik_get C inlX6 0 rfl rfl 0 (by decide) wl_1_15 rfl (v := .ref np0) rfl dX6_goes_22 ?_
    refine ik_get C inlX1 2 rfl rfl 0 (by decide) wl_5_4 rfl (v := .ref nw0) rfl dX6_goes_25 ?_
    refine ik_iload_n C 1 rfl rfl dX6_goes_28 ?_
    obtain ⟨r2, hc2, hf⟩ := ik_b1s hf
    refine ik_goR (ik_runV C (c_X5_isGone l D cI cS nw0 nw1 nw2 nw3 nw4 nnb nkd ncl ngr noc x1 r2 hc2) mv_X5_isGone wl_8_11 ⟨rfl, rfl, Nat.le_of_ble_eq_true rfl, Nat.le_of_ble_eq_true rfl⟩ [3, 4, 5, 6, 7] rfl (by decide) 3 rfl rfl rfl rfl (Nat.le_of_ble_eq_true rfl) dX6_goes_29) rfl ?_
    refine ik_if_ne C 44 dX6_goes_32 (by decide) (fun hc => ?_) (fun hc => ?_)
    · have hf := ik_neg hc hf
      refine ik_aload_n C 0 rfl rfl dX6_goes_44 ?_
      refine ik_ldc C wl_5_6 dX6_goes_45 ?_
      obtain ⟨r3, g4, hc4, hf⟩ := ik_b2s hf
      refine ik_goW [0, 1] rfl rfl (wz_X6ofnt cI cS o0 np0 kp0 tp0 r0 t0 sh0 f0 nw0 nc0 np1 np2 np3 nw1 nw2 nw3 nw4 nc1 nc2 tw0 tc0 tp1 tp2 tp3 tw1 tw2 tw3 tw4 tc1 tc2 isk g4 nhour nair nrub nz nnb nkd ncl ngr noc nlit ncold nccell ncpow nsp nwm ndr thour tair trub tz tnb tkd tcl tgr toc tlit tcold tccell tcpow tsp twm tdr) rfl (ik_runV C (c_X6_tell l D cI cS o0 np0 kp0 tp0 r0 t0 sh0 f0 isk fnd (-1000005 : Int32) r3 g4 hc4) mv_X6_tell wl_5_16 ⟨rfl, rfl, Nat.le_of_ble_eq_true rfl, Nat.le_of_ble_eq_true rfl⟩ [0, 1] rfl (by decide) 0 rfl rfl rfl rfl (Nat.le_of_ble_eq_true rfl) dX6_goes_47) rfl ?_
      cases hf
      exact ik_iretW C hr hlk dX6_goes_50
    · have hf := ik_pos hc hf
      refine ik_aload_n C 0 rfl rfl dX6_goes_35 ?_
      refine ik_bipush (v := (96 : Int32)) C (by decide) dX6_goes_36 ?_
      obtain ⟨r3, hc3, hf⟩ := ik_b1s hf
      refine ik_goR (ik_runV C (c_X6_hasHours l D cI cS o0 np0 kp0 tp0 r0 t0 sh0 f0 nw0 nc0 np1 np2 np3 nw1 nw2 nw3 nw4 nc1 nc2 isk nhour nair nrub nz nnb nkd ncl ngr noc nlit ncold nccell ncpow nsp nwm ndr (96 : Int32) r3 hc3) mv_X6_hasHours wl_17_22 ⟨rfl, rfl, Nat.le_of_ble_eq_true rfl, Nat.le_of_ble_eq_true rfl⟩ [0, 2, 3, 4, 5, 6, 7, 8, 9, 10, 11, 12, 13] rfl (by decide) 0 rfl rfl rfl rfl (Nat.le_of_ble_eq_true rfl) dX6_goes_38) rfl ?_
      refine ik_if_ne C 51 dX6_goes_41 (by decide) (fun hc => ?_) (fun hc => ?_)
      · have hf := ik_neg hc hf
        refine ik_aload_n C 0 rfl rfl dX6_goes_51 ?_
        obtain ⟨g4, g5, g6, g7, g8, g9, g10, g11, g12, g13, g14, g15, g16, g17, hc17, hf⟩ := ik_b14s hf
        refine ik_goW [0, 2, 3, 4, 5, 6, 7, 8, 9, 10, 11, 12, 13, 14, 15, 16, 17, 18, 19, 20, 21, 22, 23, 24, 25] rfl rfl (wz_X6ofnt cI cS o0 np0 kp0 tp0 r0 t0 sh0 f0 nw0 nc0 np1 np2 np3 nw1 nw2 nw3 nw4 nc1 nc2 tw0 tc0 tp1 tp2 tp3 tw1 tw2 tw3 tw4 tc1 tc2 isk fnd nhour nair nrub nz nnb nkd ncl ngr noc nlit ncold nccell ncpow nsp nwm ndr g4 g5 g6 g7 g8 g9 g10 g11 g12 g13 g14 g15 g16 g17 twm tdr) rfl (ik_runV C (c_X6_freshTrial l D cI cS o0 np0 kp0 tp0 r0 t0 sh0 f0 nw0 nc0 np1 np2 np3 nw1 nw2 nw3 nw4 nc1 nc2 tw0 tc0 tp1 tp2 tp3 tw1 tw2 tw3 tw4 tc1 tc2 isk nhour nair nrub nz nnb nkd ncl ngr noc nlit ncold nccell ncpow nsp nwm ndr thour tair trub tz tnb tkd tcl tgr toc tlit tcold tccell tcpow tsp twm tdr g4 g5 g6 g7 g8 g9 g10 g11 g12 g13 g14 g15 g16 g17 hc17) mv_X6_freshTrial wl_23_10 ⟨rfl, rfl, Nat.le_of_ble_eq_true rfl, Nat.le_of_ble_eq_true rfl⟩ [0, 2, 3, 4, 5, 6, 7, 8, 9, 10, 11, 12, 13, 14, 15, 16, 17, 18, 19, 20, 21, 22, 23, 24, 25] rfl (by decide) 0 rfl rfl rfl rfl (Nat.le_of_ble_eq_true rfl) dX6_goes_52) rfl ?_
        refine ik_iload_n C 1 rfl rfl dX6_goes_55 ?_
        refine ik_bipush (v := (96 : Int32)) C (by decide) dX6_goes_56 ?_
        obtain ⟨r18, g19, g20, g21, g22, g23, g24, g25, g26, hc26, hf⟩ := ik_b9s hf
        refine ik_goW [14, 15, 16, 17, 18, 19, 20, 21, 22, 23, 24, 25] rfl rfl (wz_X6ofnt cI cS o0 np0 kp0 tp0 r0 t0 sh0 f0 nw0 nc0 np1 np2 np3 nw1 nw2 nw3 nw4 nc1 nc2 tw0 tc0 tp1 tp2 tp3 tw1 tw2 tw3 tw4 tc1 tc2 isk fnd nhour nair nrub nz nnb nkd ncl ngr noc nlit ncold nccell ncpow nsp nwm ndr g19 g20 g21 g7 g8 g9 g22 g23 g24 g13 g14 g15 g16 g17 g25 g26) rfl (ik_runV C (c_X1_goneIn l D cI cS tp0 tw0 tc0 tp1 tp2 tp3 tw1 tw2 tw3 tw4 tc1 tc2 g4 g5 g6 g7 g8 g9 g10 g11 g12 g13 g14 g15 g16 g17 twm tdr x1 (96 : Int32) r18 g19 g20 g21 g22 g23 g24 g25 g26 hc26) mv_X1_goneIn wl_25_10 ⟨rfl, rfl, Nat.le_of_ble_eq_true rfl, Nat.le_of_ble_eq_true rfl⟩ [14, 15, 16, 17, 18, 19, 20, 21, 22, 23, 24, 25] rfl (by decide) 14 rfl rfl rfl rfl (Nat.le_of_ble_eq_true rfl) dX6_goes_58) rfl ?_
        refine ik_istore_n C [(2, .int r18), (0, .ref o0), (1, .int x1)] rfl (by decide) rfl dX6_goes_61 ?_
        refine ik_iload_n C 0 rfl rfl dX6_goes_62 ?_
        refine ik_bipush (v := (96 : Int32)) C (by decide) dX6_goes_63 ?_
        refine ik_icmp_le C 77 dX6_goes_65 (by decide) (fun hc => ?_) (fun hc => ?_)
        · have hf := ik_pos hc hf
          refine ik_iload_n C 0 rfl rfl dX6_goes_77 ?_
          cases hf
          exact ik_iretW C hr hlk dX6_goes_78
        · have hf := ik_neg hc hf
          refine ik_aload_n C 1 rfl rfl dX6_goes_68 ?_
          refine ik_ldc C wl_25_9 dX6_goes_69 ?_
          obtain ⟨r27, g28, hc28, hf⟩ := ik_b2s hf
          refine ik_goW [0, 1] rfl rfl (wz_X6ofnt cI cS o0 np0 kp0 tp0 r0 t0 sh0 f0 nw0 nc0 np1 np2 np3 nw1 nw2 nw3 nw4 nc1 nc2 tw0 tc0 tp1 tp2 tp3 tw1 tw2 tw3 tw4 tc1 tc2 isk g28 nhour nair nrub nz nnb nkd ncl ngr noc nlit ncold nccell ncpow nsp nwm ndr g19 g20 g21 g7 g8 g9 g22 g23 g24 g13 g14 g15 g16 g17 g25 g26) rfl (ik_runV C (c_X6_tell l D cI cS o0 np0 kp0 tp0 r0 t0 sh0 f0 isk fnd (-1000004 : Int32) r27 g28 hc28) mv_X6_tell wl_5_16 ⟨rfl, rfl, Nat.le_of_ble_eq_true rfl, Nat.le_of_ble_eq_true rfl⟩ [0, 1] rfl (by decide) 0 rfl rfl rfl rfl (Nat.le_of_ble_eq_true rfl) dX6_goes_71) rfl ?_
          refine ik_goto C 78 dX6_goes_74 (by decide) ?_
          cases hf
          exact ik_iretW C hr hlk dX6_goes_78
      · have hf := ik_pos hc hf
        refine ik_aload_n C 0 rfl rfl dX6_goes_44 ?_
        refine ik_ldc C wl_5_6 dX6_goes_45 ?_
        obtain ⟨r4, g5, hc5, hf⟩ := ik_b2s hf
        refine ik_goW [0, 1] rfl rfl (wz_X6ofnt cI cS o0 np0 kp0 tp0 r0 t0 sh0 f0 nw0 nc0 np1 np2 np3 nw1 nw2 nw3 nw4 nc1 nc2 tw0 tc0 tp1 tp2 tp3 tw1 tw2 tw3 tw4 tc1 tc2 isk g5 nhour nair nrub nz nnb nkd ncl ngr noc nlit ncold nccell ncpow nsp nwm ndr thour tair trub tz tnb tkd tcl tgr toc tlit tcold tccell tcpow tsp twm tdr) rfl (ik_runV C (c_X6_tell l D cI cS o0 np0 kp0 tp0 r0 t0 sh0 f0 isk fnd (-1000005 : Int32) r4 g5 hc5) mv_X6_tell wl_5_16 ⟨rfl, rfl, Nat.le_of_ble_eq_true rfl, Nat.le_of_ble_eq_true rfl⟩ [0, 1] rfl (by decide) 0 rfl rfl rfl rfl (Nat.le_of_ble_eq_true rfl) dX6_goes_47) rfl ?_
        cases hf
        exact ik_iretW C hr hlk dX6_goes_50
  · have hf := ik_pos hc hf
    refine ik_aload_n C 0 rfl rfl dX6_goes_14 ?_
    refine ik_ldc C wl_5_3 dX6_goes_15 ?_
    obtain ⟨r2, g3, hc3, hf⟩ := ik_b2s hf
    refine ik_goW [0, 1] rfl rfl (wz_X6ofnt cI cS o0 np0 kp0 tp0 r0 t0 sh0 f0 nw0 nc0 np1 np2 np3 nw1 nw2 nw3 nw4 nc1 nc2 tw0 tc0 tp1 tp2 tp3 tw1 tw2 tw3 tw4 tc1 tc2 isk g3 nhour nair nrub nz nnb nkd ncl ngr noc nlit ncold nccell ncpow nsp nwm ndr thour tair trub tz tnb tkd tcl tgr toc tlit tcold tccell tcpow tsp twm tdr) rfl (ik_runV C (c_X6_tell l D cI cS o0 np0 kp0 tp0 r0 t0 sh0 f0 isk fnd (-1000001 : Int32) r2 g3 hc3) mv_X6_tell wl_5_16 ⟨rfl, rfl, Nat.le_of_ble_eq_true rfl, Nat.le_of_ble_eq_true rfl⟩ [0, 1] rfl (by decide) 0 rfl rfl rfl rfl (Nat.le_of_ble_eq_true rfl) dX6_goes_17) rfl ?_
    cases hf
    exact ik_iretW C hr hlk dX6_goes_20
theorem mv_X6_holds : ik_V yX6_holds RX6 cX6_holds 1 (some .int) 0 := ⟨wl_26_4, wl_26_5, wl_1_2, wl_26_6, by decide +kernel⟩
set_option maxHeartbeats 4000000 in
set_option maxRecDepth 100000 in
theorem c_X6_holds (l : Launch) (D : va_G) (cI cS : ClassId) (o0 np0 kp0 tp0 r0 t0 sh0 f0 nw0 nc0 np1 np2 np3 nw1 nw2 nw3 nw4 nc1 nc2 tw0 tc0 tp1 tp2 tp3 tw1 tw2 tw3 tw4 tc1 tc2 : Nat) (isk : Int32) (fnd : Nat → Int32) (nhour : Int32) (nair : Int32) (nrub : Int32) (nz : Int32) (nnb : Int32) (nkd : Nat → Int32) (ncl : Nat → Int32) (ngr : Nat → Int32) (noc : Nat → Int32) (nlit : Int32) (ncold : Int32) (nccell : Nat → Int32) (ncpow : Nat → Int32) (nsp : Nat → Int32) (nwm : Nat → Int32) (ndr : Nat → Int32) (thour : Int32) (tair : Int32) (trub : Int32) (tz : Int32) (tnb : Int32) (tkd : Nat → Int32) (tcl : Nat → Int32) (tgr : Nat → Int32) (toc : Nat → Int32) (tlit : Int32) (tcold : Int32) (tccell : Nat → Int32) (tcpow : Nat → Int32) (tsp : Nat → Int32) (twm : Nat → Int32) (tdr : Nat → Int32) (R : Int32) (fnd_r : Nat → Int32) (thour_r : Int32) (tair_r : Int32) (trub_r : Int32) (tz_r : Int32) (tnb_r : Int32) (tkd_r : Nat → Int32) (tcl_r : Nat → Int32) (tgr_r : Nat → Int32) (toc_r : Nat → Int32) (tlit_r : Int32) (tcold_r : Int32) (tccell_r : Nat → Int32) (tcpow_r : Nat → Int32) (tsp_r : Nat → Int32) (twm_r : Nat → Int32) (tdr_r : Nat → Int32) (hf : f_X6_holds fnd nhour nair nrub nz nnb nkd ncl ngr noc nlit ncold nccell ncpow nsp thour tair trub tz tnb tkd tcl tgr toc tlit tcold tccell tcpow tsp twm tdr = some (R, fnd_r, thour_r, tair_r, trub_r, tz_r, tnb_r, tkd_r, tcl_r, tgr_r, toc_r, tlit_r, tcold_r, tccell_r, tcpow_r, tsp_r, twm_r, tdr_r)) : Met l yX6_holds (ik_ws yX6_holds cX6_holds 1 (some .int)) ({ frames := 6, cells := 0, slots := 0, locals := 144 } : Room) (ik_P D cI cS [.ref o0] (wz_X6ofnt cI cS o0 np0 kp0 tp0 r0 t0 sh0 f0 nw0 nc0 np1 np2 np3 nw1 nw2 nw3 nw4 nc1 nc2 tw0 tc0 tp1 tp2 tp3 tw1 tw2 tw3 tw4 tc1 tc2 isk fnd nhour nair nrub nz nnb nkd ncl ngr noc nlit ncold nccell ncpow nsp nwm ndr thour tair trub tz tnb tkd tcl tgr toc tlit tcold tccell tcpow tsp twm tdr)) (ik_Q (some (.int R)) D (wz_X6ofnt cI cS o0 np0 kp0 tp0 r0 t0 sh0 f0 nw0 nc0 np1 np2 np3 nw1 nw2 nw3 nw4 nc1 nc2 tw0 tc0 tp1 tp2 tp3 tw1 tw2 tw3 tw4 tc1 tc2 isk fnd_r nhour nair nrub nz nnb nkd ncl ngr noc nlit ncold nccell ncpow nsp nwm ndr thour_r tair_r trub_r tz_r tnb_r tkd_r tcl_r tgr_r toc_r tlit_r tcold_r tccell_r tcpow_r tsp_r twm_r tdr_r) (wz_X6ofnt cI cS o0 np0 kp0 tp0 r0 t0 sh0 f0 nw0 nc0 np1 np2 np3 nw1 nw2 nw3 nw4 nc1 nc2 tw0 tc0 tp1 tp2 tp3 tw1 tw2 tw3 tw4 tc1 tc2 isk fnd nhour nair nrub nz nnb nkd ncl ngr noc nlit ncold nccell ncpow nsp nwm ndr thour tair trub tz tnb tkd tcl tgr toc tlit tcold tccell tcpow tsp twm tdr)) 0 0 (ik_in (wz_X6ofnt cI cS o0 np0 kp0 tp0 r0 t0 sh0 f0 nw0 nc0 np1 np2 np3 nw1 nw2 nw3 nw4 nc1 nc2 tw0 tc0 tp1 tp2 tp3 tw1 tw2 tw3 tw4 tc1 tc2 isk fnd nhour nair nrub nz nnb nkd ncl ngr noc nlit ncold nccell ncpow nsp nwm ndr thour tair trub tz tnb tkd tcl tgr toc tlit tcold tccell tcpow tsp twm tdr)) := by
  refine ik_metW RX6 rfl (by decide) (Nat.le_of_ble_eq_true rfl) [(0, .ref o0)] rfl ?_
  intro p e s m below meth c C hr hlk
  unfold f_X6_holds at hf
  refine ik_aload_n C 0 rfl rfl dX6_holds_0 ?_
  refine ik_bipush (v := (96 : Int32)) C (by decide) dX6_holds_1 ?_
  obtain ⟨r1, hc1, hf⟩ := ik_b1s hf
  refine ik_goR (ik_runV C (c_X6_hasHours l D cI cS o0 np0 kp0 tp0 r0 t0 sh0 f0 nw0 nc0 np1 np2 np3 nw1 nw2 nw3 nw4 nc1 nc2 isk nhour nair nrub nz nnb nkd ncl ngr noc nlit ncold nccell ncpow nsp nwm ndr (96 : Int32) r1 hc1) mv_X6_hasHours wl_17_22 ⟨rfl, rfl, Nat.le_of_ble_eq_true rfl, Nat.le_of_ble_eq_true rfl⟩ [0, 2, 3, 4, 5, 6, 7, 8, 9, 10, 11, 12, 13] rfl (by decide) 0 rfl rfl rfl rfl (Nat.le_of_ble_eq_true rfl) dX6_holds_3) rfl ?_
  refine ik_if_ne C 16 dX6_holds_6 (by decide) (fun hc => ?_) (fun hc => ?_)
  · have hf := ik_neg hc hf
    refine ik_aload_n C 0 rfl rfl dX6_holds_16 ?_
    obtain ⟨g2, g3, g4, g5, g6, g7, g8, g9, g10, g11, g12, g13, g14, g15, hc15, hf⟩ := ik_b14s hf
    refine ik_goW [0, 2, 3, 4, 5, 6, 7, 8, 9, 10, 11, 12, 13, 14, 15, 16, 17, 18, 19, 20, 21, 22, 23, 24, 25] rfl rfl (wz_X6ofnt cI cS o0 np0 kp0 tp0 r0 t0 sh0 f0 nw0 nc0 np1 np2 np3 nw1 nw2 nw3 nw4 nc1 nc2 tw0 tc0 tp1 tp2 tp3 tw1 tw2 tw3 tw4 tc1 tc2 isk fnd nhour nair nrub nz nnb nkd ncl ngr noc nlit ncold nccell ncpow nsp nwm ndr g2 g3 g4 g5 g6 g7 g8 g9 g10 g11 g12 g13 g14 g15 twm tdr) rfl (ik_runV C (c_X6_freshTrial l D cI cS o0 np0 kp0 tp0 r0 t0 sh0 f0 nw0 nc0 np1 np2 np3 nw1 nw2 nw3 nw4 nc1 nc2 tw0 tc0 tp1 tp2 tp3 tw1 tw2 tw3 tw4 tc1 tc2 isk nhour nair nrub nz nnb nkd ncl ngr noc nlit ncold nccell ncpow nsp nwm ndr thour tair trub tz tnb tkd tcl tgr toc tlit tcold tccell tcpow tsp twm tdr g2 g3 g4 g5 g6 g7 g8 g9 g10 g11 g12 g13 g14 g15 hc15) mv_X6_freshTrial wl_23_10 ⟨rfl, rfl, Nat.le_of_ble_eq_true rfl, Nat.le_of_ble_eq_true rfl⟩ [0, 2, 3, 4, 5, 6, 7, 8, 9, 10, 11, 12, 13, 14, 15, 16, 17, 18, 19, 20, 21, 22, 23, 24, 25] rfl (by decide) 0 rfl rfl rfl rfl (Nat.le_of_ble_eq_true rfl) dX6_holds_17) rfl ?_
    refine ik_bipush (v := (96 : Int32)) C (by decide) dX6_holds_20 ?_
    obtain ⟨r16, g17, g18, g19, g20, g21, g22, g23, g24, hc24, hf⟩ := ik_b9s hf
    refine ik_goW [14, 15, 16, 17, 18, 19, 20, 21, 22, 23, 24, 25] rfl rfl (wz_X6ofnt cI cS o0 np0 kp0 tp0 r0 t0 sh0 f0 nw0 nc0 np1 np2 np3 nw1 nw2 nw3 nw4 nc1 nc2 tw0 tc0 tp1 tp2 tp3 tw1 tw2 tw3 tw4 tc1 tc2 isk fnd nhour nair nrub nz nnb nkd ncl ngr noc nlit ncold nccell ncpow nsp nwm ndr g17 g18 g19 g5 g6 g7 g20 g21 g22 g11 g12 g13 g14 g15 g23 g24) rfl (ik_runV C (c_X1_hoursHeld l D cI cS tp0 tw0 tc0 tp1 tp2 tp3 tw1 tw2 tw3 tw4 tc1 tc2 g2 g3 g4 g5 g6 g7 g8 g9 g10 g11 g12 g13 g14 g15 twm tdr (96 : Int32) r16 g17 g18 g19 g20 g21 g22 g23 g24 hc24) mv_X1_hoursHeld wl_26_7 ⟨rfl, rfl, Nat.le_of_ble_eq_true rfl, Nat.le_of_ble_eq_true rfl⟩ [14, 15, 16, 17, 18, 19, 20, 21, 22, 23, 24, 25] rfl (by decide) 14 rfl rfl rfl rfl (Nat.le_of_ble_eq_true rfl) dX6_holds_22) rfl ?_
    cases hf
    exact ik_iretW C hr hlk dX6_holds_25
  · have hf := ik_pos hc hf
    refine ik_aload_n C 0 rfl rfl dX6_holds_9 ?_
    refine ik_ldc C wl_5_6 dX6_holds_10 ?_
    obtain ⟨r2, g3, hc3, hf⟩ := ik_b2s hf
    refine ik_goW [0, 1] rfl rfl (wz_X6ofnt cI cS o0 np0 kp0 tp0 r0 t0 sh0 f0 nw0 nc0 np1 np2 np3 nw1 nw2 nw3 nw4 nc1 nc2 tw0 tc0 tp1 tp2 tp3 tw1 tw2 tw3 tw4 tc1 tc2 isk g3 nhour nair nrub nz nnb nkd ncl ngr noc nlit ncold nccell ncpow nsp nwm ndr thour tair trub tz tnb tkd tcl tgr toc tlit tcold tccell tcpow tsp twm tdr) rfl (ik_runV C (c_X6_tell l D cI cS o0 np0 kp0 tp0 r0 t0 sh0 f0 isk fnd (-1000005 : Int32) r2 g3 hc3) mv_X6_tell wl_5_16 ⟨rfl, rfl, Nat.le_of_ble_eq_true rfl, Nat.le_of_ble_eq_true rfl⟩ [0, 1] rfl (by decide) 0 rfl rfl rfl rfl (Nat.le_of_ble_eq_true rfl) dX6_holds_12) rfl ?_
    cases hf
    exact ik_iretW C hr hlk dX6_holds_15
theorem mv_X6_deal : ik_V yX6_deal RX6 cX6_deal 7 (some .int) 1 := ⟨wl_26_20, wl_26_21, wl_1_2, wl_26_22, by decide +kernel⟩
set_option maxHeartbeats 4000000 in
set_option maxRecDepth 100000 in
theorem c_X6_deal (l : Launch) (D : va_G) (cI cS : ClassId) (o0 np0 kp0 tp0 r0 t0 sh0 f0 nw0 nc0 np1 np2 np3 nw1 nw2 nw3 nw4 nc1 nc2 tw0 tc0 tp1 tp2 tp3 tw1 tw2 tw3 tw4 tc1 tc2 : Nat) (isk : Int32) (fnd : Nat → Int32) (nhour : Int32) (nair : Int32) (nrub : Int32) (nz : Int32) (nnb : Int32) (nkd : Nat → Int32) (ncl : Nat → Int32) (ngr : Nat → Int32) (noc : Nat → Int32) (nlit : Int32) (ncold : Int32) (nccell : Nat → Int32) (ncpow : Nat → Int32) (nsp : Nat → Int32) (nwm : Nat → Int32) (ndr : Nat → Int32) (thour : Int32) (tair : Int32) (trub : Int32) (tz : Int32) (tnb : Int32) (tkd : Nat → Int32) (tcl : Nat → Int32) (tgr : Nat → Int32) (toc : Nat → Int32) (tlit : Int32) (tcold : Int32) (tccell : Nat → Int32) (tcpow : Nat → Int32) (tsp : Nat → Int32) (twm : Nat → Int32) (tdr : Nat → Int32) (x1 : Int32) (R : Int32) (fnd_r : Nat → Int32) (thour_r : Int32) (tair_r : Int32) (trub_r : Int32) (tz_r : Int32) (tnb_r : Int32) (tkd_r : Nat → Int32) (tcl_r : Nat → Int32) (tgr_r : Nat → Int32) (toc_r : Nat → Int32) (tlit_r : Int32) (tcold_r : Int32) (tccell_r : Nat → Int32) (tcpow_r : Nat → Int32) (tsp_r : Nat → Int32) (twm_r : Nat → Int32) (tdr_r : Nat → Int32) (hf : f_X6_deal fnd nhour nair nrub nz nnb nkd ncl ngr noc nlit ncold nccell ncpow nsp thour tair trub tz tnb tkd tcl tgr toc tlit tcold tccell tcpow tsp twm tdr x1 = some (R, fnd_r, thour_r, tair_r, trub_r, tz_r, tnb_r, tkd_r, tcl_r, tgr_r, toc_r, tlit_r, tcold_r, tccell_r, tcpow_r, tsp_r, twm_r, tdr_r)) : Met l yX6_deal (ik_ws yX6_deal cX6_deal 7 (some .int)) ({ frames := 6, cells := 0, slots := 0, locals := 144 } : Room) (ik_P D cI cS [.ref o0, .int x1] (wz_X6ofnt cI cS o0 np0 kp0 tp0 r0 t0 sh0 f0 nw0 nc0 np1 np2 np3 nw1 nw2 nw3 nw4 nc1 nc2 tw0 tc0 tp1 tp2 tp3 tw1 tw2 tw3 tw4 tc1 tc2 isk fnd nhour nair nrub nz nnb nkd ncl ngr noc nlit ncold nccell ncpow nsp nwm ndr thour tair trub tz tnb tkd tcl tgr toc tlit tcold tccell tcpow tsp twm tdr)) (ik_Q (some (.int R)) D (wz_X6ofnt cI cS o0 np0 kp0 tp0 r0 t0 sh0 f0 nw0 nc0 np1 np2 np3 nw1 nw2 nw3 nw4 nc1 nc2 tw0 tc0 tp1 tp2 tp3 tw1 tw2 tw3 tw4 tc1 tc2 isk fnd_r nhour nair nrub nz nnb nkd ncl ngr noc nlit ncold nccell ncpow nsp nwm ndr thour_r tair_r trub_r tz_r tnb_r tkd_r tcl_r tgr_r toc_r tlit_r tcold_r tccell_r tcpow_r tsp_r twm_r tdr_r) (wz_X6ofnt cI cS o0 np0 kp0 tp0 r0 t0 sh0 f0 nw0 nc0 np1 np2 np3 nw1 nw2 nw3 nw4 nc1 nc2 tw0 tc0 tp1 tp2 tp3 tw1 tw2 tw3 tw4 tc1 tc2 isk fnd nhour nair nrub nz nnb nkd ncl ngr noc nlit ncold nccell ncpow nsp nwm ndr thour tair trub tz tnb tkd tcl tgr toc tlit tcold tccell tcpow tsp twm tdr)) 0 0 (ik_in (wz_X6ofnt cI cS o0 np0 kp0 tp0 r0 t0 sh0 f0 nw0 nc0 np1 np2 np3 nw1 nw2 nw3 nw4 nc1 nc2 tw0 tc0 tp1 tp2 tp3 tw1 tw2 tw3 tw4 tc1 tc2 isk fnd nhour nair nrub nz nnb nkd ncl ngr noc nlit ncold nccell ncpow nsp nwm ndr thour tair trub tz tnb tkd tcl tgr toc tlit tcold tccell tcpow tsp twm tdr)) := by
  refine ik_metW RX6 rfl (by decide) (Nat.le_of_ble_eq_true rfl) [(0, .ref o0), (1, .int x1)] rfl ?_
  intro p e s m below meth c C hr hlk
  unfold f_X6_deal at hf
  refine ik_iload_n C 1 rfl rfl dX6_deal_0 ?_
  refine ik_iconst (v := (1 : Int32)) C (by decide) dX6_deal_1 ?_
  refine ik_bipush (v := (48 : Int32)) C (by decide) dX6_deal_2 ?_
  obtain ⟨r1, hc1, hf⟩ := ik_b1s hf
  refine ik_goR (ik_runS C (c_X6_isWithin l D cI cS x1 (1 : Int32) (48 : Int32) r1 hc1) ms_X6_isWithin wl_5_10 ⟨rfl, rfl, Nat.le_of_ble_eq_true rfl, Nat.le_of_ble_eq_true rfl⟩ [] rfl (by decide) rfl rfl (Nat.le_of_ble_eq_true rfl) dX6_deal_4) rfl ?_
  refine ik_if_ne C 17 dX6_deal_7 (by decide) (fun hc => ?_) (fun hc => ?_)
  · have hf := ik_neg hc hf
    refine ik_aload_n C 0 rfl rfl dX6_deal_17 ?_
    refine ik_iload_n C 1 rfl rfl dX6_deal_18 ?_
    obtain ⟨r2, hc2, hf⟩ := ik_b1s hf
    refine ik_goR (ik_runV C (c_X6_hasHours l D cI cS o0 np0 kp0 tp0 r0 t0 sh0 f0 nw0 nc0 np1 np2 np3 nw1 nw2 nw3 nw4 nc1 nc2 isk nhour nair nrub nz nnb nkd ncl ngr noc nlit ncold nccell ncpow nsp nwm ndr x1 r2 hc2) mv_X6_hasHours wl_17_22 ⟨rfl, rfl, Nat.le_of_ble_eq_true rfl, Nat.le_of_ble_eq_true rfl⟩ [0, 2, 3, 4, 5, 6, 7, 8, 9, 10, 11, 12, 13] rfl (by decide) 0 rfl rfl rfl rfl (Nat.le_of_ble_eq_true rfl) dX6_deal_19) rfl ?_
    refine ik_if_ne C 32 dX6_deal_22 (by decide) (fun hc => ?_) (fun hc => ?_)
    · have hf := ik_neg hc hf
      refine ik_iconst (v := (-1 : Int32)) C (by decide) dX6_deal_32 ?_
      refine ik_istore_n C [(2, .int (-1 : Int32)), (0, .ref o0), (1, .int x1)] rfl (by decide) rfl dX6_deal_33 ?_
      refine ik_iconst (v := (-1 : Int32)) C (by decide) dX6_deal_34 ?_
      refine ik_istore_n C [(3, .int (-1 : Int32)), (2, .int (-1 : Int32)), (0, .ref o0), (1, .int x1)] rfl (by decide) rfl dX6_deal_35 ?_
      refine ik_iconst (v := (0 : Int32)) C (by decide) dX6_deal_36 ?_
      refine ik_istore C [(4, .int (0 : Int32)), (3, .int (-1 : Int32)), (2, .int (-1 : Int32)), (0, .ref o0), (1, .int x1)] (by decide) rfl dX6_deal_37 ?_
      have hL_39 : ∀ (n_39 : Nat) (thour_39 : Int32) (tair_39 : Int32) (trub_39 : Int32) (tz_39 : Int32) (tnb_39 : Int32) (tkd_39 : Nat → Int32) (tcl_39 : Nat → Int32) (tgr_39 : Nat → Int32) (toc_39 : Nat → Int32) (tlit_39 : Int32) (tcold_39 : Int32) (tccell_39 : Nat → Int32) (tcpow_39 : Nat → Int32) (tsp_39 : Nat → Int32) (twm_39 : Nat → Int32) (tdr_39 : Nat → Int32) (x2_39 : Int32) (x3_39 : Int32) (x4_39 : Int32), ik_lp19 (b_X6_deal_39 fnd nhour nair nrub nz nnb nkd ncl ngr noc nlit ncold nccell ncpow nsp x1) n_39 thour_39 tair_39 trub_39 tz_39 tnb_39 tkd_39 tcl_39 tgr_39 toc_39 tlit_39 tcold_39 tccell_39 tcpow_39 tsp_39 twm_39 tdr_39 x2_39 x3_39 x4_39 = some (R, fnd_r, thour_r, tair_r, trub_r, tz_r, tnb_r, tkd_r, tcl_r, tgr_r, toc_r, tlit_r, tcold_r, tccell_r, tcpow_r, tsp_r, twm_r, tdr_r) → ik_G p l e ({ frames := 6, cells := 0, slots := 0, locals := 144 } : Room) s m ([.ref o0, .int x1] : List Value).toArray below meth c D (ik_in (wz_X6ofnt cI cS o0 np0 kp0 tp0 r0 t0 sh0 f0 nw0 nc0 np1 np2 np3 nw1 nw2 nw3 nw4 nc1 nc2 tw0 tc0 tp1 tp2 tp3 tw1 tw2 tw3 tw4 tc1 tc2 isk fnd nhour nair nrub nz nnb nkd ncl ngr noc nlit ncold nccell ncpow nsp nwm ndr thour tair trub tz tnb tkd tcl tgr toc tlit tcold tccell tcpow tsp twm tdr)) (ik_in (wz_X6ofnt cI cS o0 np0 kp0 tp0 r0 t0 sh0 f0 nw0 nc0 np1 np2 np3 nw1 nw2 nw3 nw4 nc1 nc2 tw0 tc0 tp1 tp2 tp3 tw1 tw2 tw3 tw4 tc1 tc2 isk fnd nhour nair nrub nz nnb nkd ncl ngr noc nlit ncold nccell ncpow nsp nwm ndr thour tair trub tz tnb tkd tcl tgr toc tlit tcold tccell tcpow tsp twm tdr)) 7 (MQ below (ik_Q (some (.int R)) D (wz_X6ofnt cI cS o0 np0 kp0 tp0 r0 t0 sh0 f0 nw0 nc0 np1 np2 np3 nw1 nw2 nw3 nw4 nc1 nc2 tw0 tc0 tp1 tp2 tp3 tw1 tw2 tw3 tw4 tc1 tc2 isk fnd_r nhour nair nrub nz nnb nkd ncl ngr noc nlit ncold nccell ncpow nsp nwm ndr thour_r tair_r trub_r tz_r tnb_r tkd_r tcl_r tgr_r toc_r tlit_r tcold_r tccell_r tcpow_r tsp_r twm_r tdr_r) (wz_X6ofnt cI cS o0 np0 kp0 tp0 r0 t0 sh0 f0 nw0 nc0 np1 np2 np3 nw1 nw2 nw3 nw4 nc1 nc2 tw0 tc0 tp1 tp2 tp3 tw1 tw2 tw3 tw4 tc1 tc2 isk fnd nhour nair nrub nz nnb nkd ncl ngr noc nlit ncold nccell ncpow nsp nwm ndr thour tair trub tz tnb tkd tcl tgr toc tlit tcold tccell tcpow tsp twm tdr)) ([.ref o0, .int x1] : List Value).toArray s 0 0 (ik_in (wz_X6ofnt cI cS o0 np0 kp0 tp0 r0 t0 sh0 f0 nw0 nc0 np1 np2 np3 nw1 nw2 nw3 nw4 nc1 nc2 tw0 tc0 tp1 tp2 tp3 tw1 tw2 tw3 tw4 tc1 tc2 isk fnd nhour nair nrub nz nnb nkd ncl ngr noc nlit ncold nccell ncpow nsp nwm ndr thour tair trub tz tnb tkd tcl tgr toc tlit tcold tccell tcpow tsp twm tdr))) 39 [(4, .int x4_39), (3, .int x3_39), (2, .int x2_39), (0, .ref o0), (1, .int x1)] [] (wz_X6ofnt cI cS o0 np0 kp0 tp0 r0 t0 sh0 f0 nw0 nc0 np1 np2 np3 nw1 nw2 nw3 nw4 nc1 nc2 tw0 tc0 tp1 tp2 tp3 tw1 tw2 tw3 tw4 tc1 tc2 isk fnd nhour nair nrub nz nnb nkd ncl ngr noc nlit ncold nccell ncpow nsp nwm ndr thour_39 tair_39 trub_39 tz_39 tnb_39 tkd_39 tcl_39 tgr_39 toc_39 tlit_39 tcold_39 tccell_39 tcpow_39 tsp_39 twm_39 tdr_39) := by
        intro n_39
        induction n_39 with
        | zero => intro _ _ _ _ _ _ _ _ _ _ _ _ _ _ _ _ _ _ _ hf; exact nomatch hf
        | succ n_39 ih_39 =>
          intro thour_39 tair_39 trub_39 tz_39 tnb_39 tkd_39 tcl_39 tgr_39 toc_39 tlit_39 tcold_39 tccell_39 tcpow_39 tsp_39 twm_39 tdr_39 x2_39 x3_39 x4_39 hf
          replace hf : b_X6_deal_39 fnd nhour nair nrub nz nnb nkd ncl ngr noc nlit ncold nccell ncpow nsp x1 (ik_lp19 (b_X6_deal_39 fnd nhour nair nrub nz nnb nkd ncl ngr noc nlit ncold nccell ncpow nsp x1) n_39) thour_39 tair_39 trub_39 tz_39 tnb_39 tkd_39 tcl_39 tgr_39 toc_39 tlit_39 tcold_39 tccell_39 tcpow_39 tsp_39 twm_39 tdr_39 x2_39 x3_39 x4_39 = some (R, fnd_r, thour_r, tair_r, trub_r, tz_r, tnb_r, tkd_r, tcl_r, tgr_r, toc_r, tlit_r, tcold_r, tccell_r, tcpow_r, tsp_r, twm_r, tdr_r) := hf
          unfold b_X6_deal_39 at hf
          refine ik_iload C 0 rfl dX6_deal_39 ?_
          refine ik_bipush (v := (64 : Int32)) C (by decide) dX6_deal_41 ?_
          refine ik_icmp_ge C 107 dX6_deal_43 (by decide) (fun hc => ?_) (fun hc => ?_)
          · have hf := ik_pos hc hf
            refine ik_iload_n C 2 rfl rfl dX6_deal_107 ?_
            refine ik_if_ge C 120 dX6_deal_108 (by decide) (fun hc => ?_) (fun hc => ?_)
            · have hf := ik_pos hc hf
              refine ik_iload_n C 2 rfl rfl dX6_deal_120 ?_
              cases hf
              exact ik_iretW C hr hlk dX6_deal_121
            · have hf := ik_neg hc hf
              refine ik_aload_n C 3 rfl rfl dX6_deal_111 ?_
              refine ik_ldc C wl_25_9 dX6_deal_112 ?_
              obtain ⟨r3, g4, hc4, hf⟩ := ik_b2s hf
              refine ik_goW [0, 1] rfl rfl (wz_X6ofnt cI cS o0 np0 kp0 tp0 r0 t0 sh0 f0 nw0 nc0 np1 np2 np3 nw1 nw2 nw3 nw4 nc1 nc2 tw0 tc0 tp1 tp2 tp3 tw1 tw2 tw3 tw4 tc1 tc2 isk g4 nhour nair nrub nz nnb nkd ncl ngr noc nlit ncold nccell ncpow nsp nwm ndr thour_39 tair_39 trub_39 tz_39 tnb_39 tkd_39 tcl_39 tgr_39 toc_39 tlit_39 tcold_39 tccell_39 tcpow_39 tsp_39 twm_39 tdr_39) rfl (ik_runV C (c_X6_tell l D cI cS o0 np0 kp0 tp0 r0 t0 sh0 f0 isk fnd (-1000004 : Int32) r3 g4 hc4) mv_X6_tell wl_5_16 ⟨rfl, rfl, Nat.le_of_ble_eq_true rfl, Nat.le_of_ble_eq_true rfl⟩ [0, 1] rfl (by decide) 0 rfl rfl rfl rfl (Nat.le_of_ble_eq_true rfl) dX6_deal_114) rfl ?_
              refine ik_goto C 121 dX6_deal_117 (by decide) ?_
              cases hf
              exact ik_iretW C hr hlk dX6_deal_121
          · have hf := ik_neg hc hf
            refine ik_aload_n C 3 rfl rfl dX6_deal_46 ?_
            refine ik_get C inlX6 0 rfl rfl 0 (by decide) wl_1_15 rfl (v := .ref np0) rfl dX6_deal_47 ?_
            refine ik_get C inlX1 2 rfl rfl 1 (by decide) wl_13_8 rfl (v := .ref nc0) rfl dX6_deal_50 ?_
            refine ik_iload C 0 rfl dX6_deal_53 ?_
            obtain ⟨r3, hc3, hf⟩ := ik_b1s hf
            refine ik_goR (ik_runV C (c_X0_lightOf l D cI cS nc0 nc1 nc2 nlit ncold nccell ncpow x4_39 r3 hc3) mv_X0_lightOf wl_17_10 ⟨rfl, rfl, Nat.le_of_ble_eq_true rfl, Nat.le_of_ble_eq_true rfl⟩ [8, 9, 10] rfl (by decide) 8 rfl rfl rfl rfl (Nat.le_of_ble_eq_true rfl) dX6_deal_55) rfl ?_
            refine ik_istore C [(5, .int r3), (4, .int x4_39), (3, .int x3_39), (2, .int x2_39), (0, .ref o0), (1, .int x1)] (by decide) rfl dX6_deal_58 ?_
            refine ik_iload C 0 rfl dX6_deal_60 ?_
            refine ik_iload_n C 2 rfl rfl dX6_deal_62 ?_
            refine ik_icmp_gt C 69 dX6_deal_63 (by decide) (fun hc => ?_) (fun hc => ?_)
            · have hf := ik_pos hc hf
              refine ik_aload_n C 4 rfl rfl dX6_deal_69 ?_
              obtain ⟨g4, g5, g6, g7, g8, g9, g10, g11, g12, g13, g14, g15, g16, g17, hc17, hf⟩ := ik_b14s hf
              refine ik_goW [0, 2, 3, 4, 5, 6, 7, 8, 9, 10, 11, 12, 13, 14, 15, 16, 17, 18, 19, 20, 21, 22, 23, 24, 25] rfl rfl (wz_X6ofnt cI cS o0 np0 kp0 tp0 r0 t0 sh0 f0 nw0 nc0 np1 np2 np3 nw1 nw2 nw3 nw4 nc1 nc2 tw0 tc0 tp1 tp2 tp3 tw1 tw2 tw3 tw4 tc1 tc2 isk fnd nhour nair nrub nz nnb nkd ncl ngr noc nlit ncold nccell ncpow nsp nwm ndr g4 g5 g6 g7 g8 g9 g10 g11 g12 g13 g14 g15 g16 g17 twm_39 tdr_39) rfl (ik_runV C (c_X6_freshTrial l D cI cS o0 np0 kp0 tp0 r0 t0 sh0 f0 nw0 nc0 np1 np2 np3 nw1 nw2 nw3 nw4 nc1 nc2 tw0 tc0 tp1 tp2 tp3 tw1 tw2 tw3 tw4 tc1 tc2 isk nhour nair nrub nz nnb nkd ncl ngr noc nlit ncold nccell ncpow nsp nwm ndr thour_39 tair_39 trub_39 tz_39 tnb_39 tkd_39 tcl_39 tgr_39 toc_39 tlit_39 tcold_39 tccell_39 tcpow_39 tsp_39 twm_39 tdr_39 g4 g5 g6 g7 g8 g9 g10 g11 g12 g13 g14 g15 g16 g17 hc17) mv_X6_freshTrial wl_23_10 ⟨rfl, rfl, Nat.le_of_ble_eq_true rfl, Nat.le_of_ble_eq_true rfl⟩ [0, 2, 3, 4, 5, 6, 7, 8, 9, 10, 11, 12, 13, 14, 15, 16, 17, 18, 19, 20, 21, 22, 23, 24, 25] rfl (by decide) 0 rfl rfl rfl rfl (Nat.le_of_ble_eq_true rfl) dX6_deal_70) rfl ?_
              refine ik_astore C [(6, .ref tp0), (5, .int r3), (4, .int x4_39), (3, .int x3_39), (2, .int x2_39), (0, .ref o0), (1, .int x1)] (by decide) rfl dX6_deal_73 ?_
              refine ik_aload C 0 rfl dX6_deal_75 ?_
              refine ik_get C inlX1 14 rfl rfl 1 (by decide) wl_13_8 rfl (v := .ref tc0) rfl dX6_deal_77 ?_
              refine ik_iload C 2 rfl dX6_deal_80 ?_
              refine ik_put C inlX0 tyX0 tyX0_ok nmX0 20 rfl rfl 2 (by decide) wl_17_9 rfl (by decide) rfl rfl (Nat.le_of_ble_eq_true rfl) (wz_X6ofnt cI cS o0 np0 kp0 tp0 r0 t0 sh0 f0 nw0 nc0 np1 np2 np3 nw1 nw2 nw3 nw4 nc1 nc2 tw0 tc0 tp1 tp2 tp3 tw1 tw2 tw3 tw4 tc1 tc2 isk fnd nhour nair nrub nz nnb nkd ncl ngr noc nlit ncold nccell ncpow nsp nwm ndr g4 g5 g6 g7 g8 g9 g10 g11 g12 x4_39 g14 g15 g16 g17 twm_39 tdr_39) rfl dX6_deal_82 ?_
              refine ik_aload C 0 rfl dX6_deal_85 ?_
              refine ik_iload_n C 6 rfl rfl dX6_deal_87 ?_
              obtain ⟨r18, g19, g20, g21, g22, g23, g24, g25, g26, hc26, hf⟩ := ik_b9s hf
              refine ik_goW [14, 15, 16, 17, 18, 19, 20, 21, 22, 23, 24, 25] rfl rfl (wz_X6ofnt cI cS o0 np0 kp0 tp0 r0 t0 sh0 f0 nw0 nc0 np1 np2 np3 nw1 nw2 nw3 nw4 nc1 nc2 tw0 tc0 tp1 tp2 tp3 tw1 tw2 tw3 tw4 tc1 tc2 isk fnd nhour nair nrub nz nnb nkd ncl ngr noc nlit ncold nccell ncpow nsp nwm ndr g19 g20 g21 g7 g8 g9 g22 g23 g24 x4_39 g14 g15 g16 g17 g25 g26) rfl (ik_runV C (c_X1_hoursHeld l D cI cS tp0 tw0 tc0 tp1 tp2 tp3 tw1 tw2 tw3 tw4 tc1 tc2 g4 g5 g6 g7 g8 g9 g10 g11 g12 x4_39 g14 g15 g16 g17 twm_39 tdr_39 x1 r18 g19 g20 g21 g22 g23 g24 g25 g26 hc26) mv_X1_hoursHeld wl_26_7 ⟨rfl, rfl, Nat.le_of_ble_eq_true rfl, Nat.le_of_ble_eq_true rfl⟩ [14, 15, 16, 17, 18, 19, 20, 21, 22, 23, 24, 25] rfl (by decide) 14 rfl rfl rfl rfl (Nat.le_of_ble_eq_true rfl) dX6_deal_88) rfl ?_
              refine ik_iload_n C 6 rfl rfl dX6_deal_91 ?_
              refine ik_icmp_ne C 101 dX6_deal_92 (by decide) (fun hc => ?_) (fun hc => ?_)
              · have hf := ik_neg hc hf
                refine ik_iinc C [(4, .int (x4_39 + (1 : Int32))), (6, .ref tp0), (5, .int r3), (3, .int x3_39), (2, .int x2_39), (0, .ref o0), (1, .int x1)] 2 rfl rfl (by decide) rfl dX6_deal_101 ?_
                refine ik_goto C 39 dX6_deal_104 (by decide) ?_
                exact ik_sub [0, 3, 4, 5, 6] [(4, .int (x4_39 + (1 : Int32))), (3, .int x3_39), (2, .int x2_39), (0, .ref o0), (1, .int x1)] rfl (ih_39 g19 g20 g21 g7 g8 g9 g22 g23 g24 x4_39 g14 g15 g16 g17 g25 g26 x2_39 x3_39 (x4_39 + (1 : Int32)) hf)
              · have hf := ik_pos hc hf
                refine ik_iload C 2 rfl dX6_deal_95 ?_
                refine ik_istore_n C [(2, .int x4_39), (6, .ref tp0), (5, .int r3), (4, .int x4_39), (3, .int x3_39), (0, .ref o0), (1, .int x1)] rfl (by decide) rfl dX6_deal_97 ?_
                refine ik_iload C 2 rfl dX6_deal_98 ?_
                refine ik_istore_n C [(3, .int r3), (2, .int x4_39), (6, .ref tp0), (5, .int r3), (4, .int x4_39), (0, .ref o0), (1, .int x1)] rfl (by decide) rfl dX6_deal_100 ?_
                refine ik_iinc C [(4, .int (x4_39 + (1 : Int32))), (3, .int r3), (2, .int x4_39), (6, .ref tp0), (5, .int r3), (0, .ref o0), (1, .int x1)] 4 rfl rfl (by decide) rfl dX6_deal_101 ?_
                refine ik_goto C 39 dX6_deal_104 (by decide) ?_
                exact ik_sub [0, 1, 2, 5, 6] [(4, .int (x4_39 + (1 : Int32))), (3, .int r3), (2, .int x4_39), (0, .ref o0), (1, .int x1)] rfl (ih_39 g19 g20 g21 g7 g8 g9 g22 g23 g24 x4_39 g14 g15 g16 g17 g25 g26 x4_39 r3 (x4_39 + (1 : Int32)) hf)
            · have hf := ik_neg hc hf
              refine ik_goto C 101 dX6_deal_66 (by decide) ?_
              refine ik_iinc C [(4, .int (x4_39 + (1 : Int32))), (5, .int r3), (3, .int x3_39), (2, .int x2_39), (0, .ref o0), (1, .int x1)] 1 rfl rfl (by decide) rfl dX6_deal_101 ?_
              refine ik_goto C 39 dX6_deal_104 (by decide) ?_
              exact ik_sub [0, 2, 3, 4, 5] [(4, .int (x4_39 + (1 : Int32))), (3, .int x3_39), (2, .int x2_39), (0, .ref o0), (1, .int x1)] rfl (ih_39 thour_39 tair_39 trub_39 tz_39 tnb_39 tkd_39 tcl_39 tgr_39 toc_39 tlit_39 tcold_39 tccell_39 tcpow_39 tsp_39 twm_39 tdr_39 x2_39 x3_39 (x4_39 + (1 : Int32)) hf)
      exact hL_39 ik_fu thour tair trub tz tnb tkd tcl tgr toc tlit tcold tccell tcpow tsp twm tdr (-1 : Int32) (-1 : Int32) (0 : Int32) hf
    · have hf := ik_pos hc hf
      refine ik_aload_n C 0 rfl rfl dX6_deal_25 ?_
      refine ik_ldc C wl_5_6 dX6_deal_26 ?_
      obtain ⟨r3, g4, hc4, hf⟩ := ik_b2s hf
      refine ik_goW [0, 1] rfl rfl (wz_X6ofnt cI cS o0 np0 kp0 tp0 r0 t0 sh0 f0 nw0 nc0 np1 np2 np3 nw1 nw2 nw3 nw4 nc1 nc2 tw0 tc0 tp1 tp2 tp3 tw1 tw2 tw3 tw4 tc1 tc2 isk g4 nhour nair nrub nz nnb nkd ncl ngr noc nlit ncold nccell ncpow nsp nwm ndr thour tair trub tz tnb tkd tcl tgr toc tlit tcold tccell tcpow tsp twm tdr) rfl (ik_runV C (c_X6_tell l D cI cS o0 np0 kp0 tp0 r0 t0 sh0 f0 isk fnd (-1000005 : Int32) r3 g4 hc4) mv_X6_tell wl_5_16 ⟨rfl, rfl, Nat.le_of_ble_eq_true rfl, Nat.le_of_ble_eq_true rfl⟩ [0, 1] rfl (by decide) 0 rfl rfl rfl rfl (Nat.le_of_ble_eq_true rfl) dX6_deal_28) rfl ?_
      cases hf
      exact ik_iretW C hr hlk dX6_deal_31
  · have hf := ik_pos hc hf
    refine ik_aload_n C 0 rfl rfl dX6_deal_10 ?_
    refine ik_ldc C wl_5_3 dX6_deal_11 ?_
    obtain ⟨r2, g3, hc3, hf⟩ := ik_b2s hf
    refine ik_goW [0, 1] rfl rfl (wz_X6ofnt cI cS o0 np0 kp0 tp0 r0 t0 sh0 f0 nw0 nc0 np1 np2 np3 nw1 nw2 nw3 nw4 nc1 nc2 tw0 tc0 tp1 tp2 tp3 tw1 tw2 tw3 tw4 tc1 tc2 isk g3 nhour nair nrub nz nnb nkd ncl ngr noc nlit ncold nccell ncpow nsp nwm ndr thour tair trub tz tnb tkd tcl tgr toc tlit tcold tccell tcpow tsp twm tdr) rfl (ik_runV C (c_X6_tell l D cI cS o0 np0 kp0 tp0 r0 t0 sh0 f0 isk fnd (-1000001 : Int32) r2 g3 hc3) mv_X6_tell wl_5_16 ⟨rfl, rfl, Nat.le_of_ble_eq_true rfl, Nat.le_of_ble_eq_true rfl⟩ [0, 1] rfl (by decide) 0 rfl rfl rfl rfl (Nat.le_of_ble_eq_true rfl) dX6_deal_13) rfl ?_
    cases hf
    exact ik_iretW C hr hlk dX6_deal_16
theorem mv_X6_bears : ik_V yX6_bears RX6 cX6_bears 4 (some .int) 1 := ⟨wl_27_13, wl_27_14, wl_1_2, wl_27_15, by decide +kernel⟩
set_option maxHeartbeats 4000000 in
set_option maxRecDepth 100000 in
theorem c_X6_bears (l : Launch) (D : va_G) (cI cS : ClassId) (o0 np0 kp0 tp0 r0 t0 sh0 f0 nw0 nc0 np1 np2 np3 nw1 nw2 nw3 nw4 nc1 nc2 tw0 tc0 tp1 tp2 tp3 tw1 tw2 tw3 tw4 tc1 tc2 : Nat) (isk : Int32) (fnd : Nat → Int32) (nhour : Int32) (nair : Int32) (nrub : Int32) (nz : Int32) (nnb : Int32) (nkd : Nat → Int32) (ncl : Nat → Int32) (ngr : Nat → Int32) (noc : Nat → Int32) (nlit : Int32) (ncold : Int32) (nccell : Nat → Int32) (ncpow : Nat → Int32) (nsp : Nat → Int32) (nwm : Nat → Int32) (ndr : Nat → Int32) (thour : Int32) (tair : Int32) (trub : Int32) (tz : Int32) (tnb : Int32) (tkd : Nat → Int32) (tcl : Nat → Int32) (tgr : Nat → Int32) (toc : Nat → Int32) (tlit : Int32) (tcold : Int32) (tccell : Nat → Int32) (tcpow : Nat → Int32) (tsp : Nat → Int32) (twm : Nat → Int32) (tdr : Nat → Int32) (x1 : Int32) (R : Int32) (fnd_r : Nat → Int32) (thour_r : Int32) (tair_r : Int32) (trub_r : Int32) (tz_r : Int32) (tnb_r : Int32) (tkd_r : Nat → Int32) (tcl_r : Nat → Int32) (tgr_r : Nat → Int32) (toc_r : Nat → Int32) (tlit_r : Int32) (tcold_r : Int32) (tccell_r : Nat → Int32) (tcpow_r : Nat → Int32) (tsp_r : Nat → Int32) (twm_r : Nat → Int32) (tdr_r : Nat → Int32) (hf : f_X6_bears fnd nhour nair nrub nz nnb nkd ncl ngr noc nlit ncold nccell ncpow nsp thour tair trub tz tnb tkd tcl tgr toc tlit tcold tccell tcpow tsp twm tdr x1 = some (R, fnd_r, thour_r, tair_r, trub_r, tz_r, tnb_r, tkd_r, tcl_r, tgr_r, toc_r, tlit_r, tcold_r, tccell_r, tcpow_r, tsp_r, twm_r, tdr_r)) : Met l yX6_bears (ik_ws yX6_bears cX6_bears 4 (some .int)) ({ frames := 6, cells := 0, slots := 0, locals := 144 } : Room) (ik_P D cI cS [.ref o0, .int x1] (wz_X6ofnt cI cS o0 np0 kp0 tp0 r0 t0 sh0 f0 nw0 nc0 np1 np2 np3 nw1 nw2 nw3 nw4 nc1 nc2 tw0 tc0 tp1 tp2 tp3 tw1 tw2 tw3 tw4 tc1 tc2 isk fnd nhour nair nrub nz nnb nkd ncl ngr noc nlit ncold nccell ncpow nsp nwm ndr thour tair trub tz tnb tkd tcl tgr toc tlit tcold tccell tcpow tsp twm tdr)) (ik_Q (some (.int R)) D (wz_X6ofnt cI cS o0 np0 kp0 tp0 r0 t0 sh0 f0 nw0 nc0 np1 np2 np3 nw1 nw2 nw3 nw4 nc1 nc2 tw0 tc0 tp1 tp2 tp3 tw1 tw2 tw3 tw4 tc1 tc2 isk fnd_r nhour nair nrub nz nnb nkd ncl ngr noc nlit ncold nccell ncpow nsp nwm ndr thour_r tair_r trub_r tz_r tnb_r tkd_r tcl_r tgr_r toc_r tlit_r tcold_r tccell_r tcpow_r tsp_r twm_r tdr_r) (wz_X6ofnt cI cS o0 np0 kp0 tp0 r0 t0 sh0 f0 nw0 nc0 np1 np2 np3 nw1 nw2 nw3 nw4 nc1 nc2 tw0 tc0 tp1 tp2 tp3 tw1 tw2 tw3 tw4 tc1 tc2 isk fnd nhour nair nrub nz nnb nkd ncl ngr noc nlit ncold nccell ncpow nsp nwm ndr thour tair trub tz tnb tkd tcl tgr toc tlit tcold tccell tcpow tsp twm tdr)) 0 0 (ik_in (wz_X6ofnt cI cS o0 np0 kp0 tp0 r0 t0 sh0 f0 nw0 nc0 np1 np2 np3 nw1 nw2 nw3 nw4 nc1 nc2 tw0 tc0 tp1 tp2 tp3 tw1 tw2 tw3 tw4 tc1 tc2 isk fnd nhour nair nrub nz nnb nkd ncl ngr noc nlit ncold nccell ncpow nsp nwm ndr thour tair trub tz tnb tkd tcl tgr toc tlit tcold tccell tcpow tsp twm tdr)) := by
  refine ik_metW RX6 rfl (by decide) (Nat.le_of_ble_eq_true rfl) [(0, .ref o0), (1, .int x1)] rfl ?_
  intro p e s m below meth c C hr hlk
  unfold f_X6_bears at hf
  refine ik_iload_n C 1 rfl rfl dX6_bears_0 ?_
  refine ik_iconst (v := (1 : Int32)) C (by decide) dX6_bears_1 ?_
  refine ik_bipush (v := (48 : Int32)) C (by decide) dX6_bears_2 ?_
  obtain ⟨r1, hc1, hf⟩ := ik_b1s hf
  refine ik_goR (ik_runS C (c_X6_isWithin l D cI cS x1 (1 : Int32) (48 : Int32) r1 hc1) ms_X6_isWithin wl_5_10 ⟨rfl, rfl, Nat.le_of_ble_eq_true rfl, Nat.le_of_ble_eq_true rfl⟩ [] rfl (by decide) rfl rfl (Nat.le_of_ble_eq_true rfl) dX6_bears_4) rfl ?_
  refine ik_if_ne C 17 dX6_bears_7 (by decide) (fun hc => ?_) (fun hc => ?_)
  · have hf := ik_neg hc hf
    refine ik_aload_n C 0 rfl rfl dX6_bears_17 ?_
    refine ik_iload_n C 1 rfl rfl dX6_bears_18 ?_
    obtain ⟨r2, hc2, hf⟩ := ik_b1s hf
    refine ik_goR (ik_runV C (c_X6_hasHours l D cI cS o0 np0 kp0 tp0 r0 t0 sh0 f0 nw0 nc0 np1 np2 np3 nw1 nw2 nw3 nw4 nc1 nc2 isk nhour nair nrub nz nnb nkd ncl ngr noc nlit ncold nccell ncpow nsp nwm ndr x1 r2 hc2) mv_X6_hasHours wl_17_22 ⟨rfl, rfl, Nat.le_of_ble_eq_true rfl, Nat.le_of_ble_eq_true rfl⟩ [0, 2, 3, 4, 5, 6, 7, 8, 9, 10, 11, 12, 13] rfl (by decide) 0 rfl rfl rfl rfl (Nat.le_of_ble_eq_true rfl) dX6_bears_19) rfl ?_
    refine ik_if_ne C 32 dX6_bears_22 (by decide) (fun hc => ?_) (fun hc => ?_)
    · have hf := ik_neg hc hf
      refine ik_bipush (v := (20 : Int32)) C (by decide) dX6_bears_32 ?_
      refine ik_istore_n C [(2, .int (20 : Int32)), (0, .ref o0), (1, .int x1)] rfl (by decide) rfl dX6_bears_34 ?_
      have hL_35 : ∀ (n_35 : Nat) (thour_35 : Int32) (tair_35 : Int32) (trub_35 : Int32) (tz_35 : Int32) (tnb_35 : Int32) (tkd_35 : Nat → Int32) (tcl_35 : Nat → Int32) (tgr_35 : Nat → Int32) (toc_35 : Nat → Int32) (tlit_35 : Int32) (tcold_35 : Int32) (tccell_35 : Nat → Int32) (tcpow_35 : Nat → Int32) (tsp_35 : Nat → Int32) (twm_35 : Nat → Int32) (tdr_35 : Nat → Int32) (x2_35 : Int32), ik_lp17 (b_X6_bears_35 fnd nhour nair nrub nz nnb nkd ncl ngr noc nlit ncold nccell ncpow nsp x1) n_35 thour_35 tair_35 trub_35 tz_35 tnb_35 tkd_35 tcl_35 tgr_35 toc_35 tlit_35 tcold_35 tccell_35 tcpow_35 tsp_35 twm_35 tdr_35 x2_35 = some (R, fnd_r, thour_r, tair_r, trub_r, tz_r, tnb_r, tkd_r, tcl_r, tgr_r, toc_r, tlit_r, tcold_r, tccell_r, tcpow_r, tsp_r, twm_r, tdr_r) → ik_G p l e ({ frames := 6, cells := 0, slots := 0, locals := 144 } : Room) s m ([.ref o0, .int x1] : List Value).toArray below meth c D (ik_in (wz_X6ofnt cI cS o0 np0 kp0 tp0 r0 t0 sh0 f0 nw0 nc0 np1 np2 np3 nw1 nw2 nw3 nw4 nc1 nc2 tw0 tc0 tp1 tp2 tp3 tw1 tw2 tw3 tw4 tc1 tc2 isk fnd nhour nair nrub nz nnb nkd ncl ngr noc nlit ncold nccell ncpow nsp nwm ndr thour tair trub tz tnb tkd tcl tgr toc tlit tcold tccell tcpow tsp twm tdr)) (ik_in (wz_X6ofnt cI cS o0 np0 kp0 tp0 r0 t0 sh0 f0 nw0 nc0 np1 np2 np3 nw1 nw2 nw3 nw4 nc1 nc2 tw0 tc0 tp1 tp2 tp3 tw1 tw2 tw3 tw4 tc1 tc2 isk fnd nhour nair nrub nz nnb nkd ncl ngr noc nlit ncold nccell ncpow nsp nwm ndr thour tair trub tz tnb tkd tcl tgr toc tlit tcold tccell tcpow tsp twm tdr)) 4 (MQ below (ik_Q (some (.int R)) D (wz_X6ofnt cI cS o0 np0 kp0 tp0 r0 t0 sh0 f0 nw0 nc0 np1 np2 np3 nw1 nw2 nw3 nw4 nc1 nc2 tw0 tc0 tp1 tp2 tp3 tw1 tw2 tw3 tw4 tc1 tc2 isk fnd_r nhour nair nrub nz nnb nkd ncl ngr noc nlit ncold nccell ncpow nsp nwm ndr thour_r tair_r trub_r tz_r tnb_r tkd_r tcl_r tgr_r toc_r tlit_r tcold_r tccell_r tcpow_r tsp_r twm_r tdr_r) (wz_X6ofnt cI cS o0 np0 kp0 tp0 r0 t0 sh0 f0 nw0 nc0 np1 np2 np3 nw1 nw2 nw3 nw4 nc1 nc2 tw0 tc0 tp1 tp2 tp3 tw1 tw2 tw3 tw4 tc1 tc2 isk fnd nhour nair nrub nz nnb nkd ncl ngr noc nlit ncold nccell ncpow nsp nwm ndr thour tair trub tz tnb tkd tcl tgr toc tlit tcold tccell tcpow tsp twm tdr)) ([.ref o0, .int x1] : List Value).toArray s 0 0 (ik_in (wz_X6ofnt cI cS o0 np0 kp0 tp0 r0 t0 sh0 f0 nw0 nc0 np1 np2 np3 nw1 nw2 nw3 nw4 nc1 nc2 tw0 tc0 tp1 tp2 tp3 tw1 tw2 tw3 tw4 tc1 tc2 isk fnd nhour nair nrub nz nnb nkd ncl ngr noc nlit ncold nccell ncpow nsp nwm ndr thour tair trub tz tnb tkd tcl tgr toc tlit tcold tccell tcpow tsp twm tdr))) 35 [(2, .int x2_35), (0, .ref o0), (1, .int x1)] [] (wz_X6ofnt cI cS o0 np0 kp0 tp0 r0 t0 sh0 f0 nw0 nc0 np1 np2 np3 nw1 nw2 nw3 nw4 nc1 nc2 tw0 tc0 tp1 tp2 tp3 tw1 tw2 tw3 tw4 tc1 tc2 isk fnd nhour nair nrub nz nnb nkd ncl ngr noc nlit ncold nccell ncpow nsp nwm ndr thour_35 tair_35 trub_35 tz_35 tnb_35 tkd_35 tcl_35 tgr_35 toc_35 tlit_35 tcold_35 tccell_35 tcpow_35 tsp_35 twm_35 tdr_35) := by
        intro n_35
        induction n_35 with
        | zero => intro _ _ _ _ _ _ _ _ _ _ _ _ _ _ _ _ _ hf; exact nomatch hf
        | succ n_35 ih_35 =>
          intro thour_35 tair_35 trub_35 tz_35 tnb_35 tkd_35 tcl_35 tgr_35 toc_35 tlit_35 tcold_35 tccell_35 tcpow_35 tsp_35 twm_35 tdr_35 x2_35 hf
          replace hf : b_X6_bears_35 fnd nhour nair nrub nz nnb nkd ncl ngr noc nlit ncold nccell ncpow nsp x1 (ik_lp17 (b_X6_bears_35 fnd nhour nair nrub nz nnb nkd ncl ngr noc nlit ncold nccell ncpow nsp x1) n_35) thour_35 tair_35 trub_35 tz_35 tnb_35 tkd_35 tcl_35 tgr_35 toc_35 tlit_35 tcold_35 tccell_35 tcpow_35 tsp_35 twm_35 tdr_35 x2_35 = some (R, fnd_r, thour_r, tair_r, trub_r, tz_r, tnb_r, tkd_r, tcl_r, tgr_r, toc_r, tlit_r, tcold_r, tccell_r, tcpow_r, tsp_r, twm_r, tdr_r) := hf
          unfold b_X6_bears_35 at hf
          refine ik_iload_n C 0 rfl rfl dX6_bears_35 ?_
          refine ik_bipush (v := (-20 : Int32)) C (by decide) dX6_bears_36 ?_
          refine ik_icmp_lt C 71 dX6_bears_38 (by decide) (fun hc => ?_) (fun hc => ?_)
          · have hf := ik_pos hc hf
            refine ik_aload_n C 1 rfl rfl dX6_bears_71 ?_
            refine ik_ldc C wl_25_9 dX6_bears_72 ?_
            obtain ⟨r3, g4, hc4, hf⟩ := ik_b2s hf
            refine ik_goW [0, 1] rfl rfl (wz_X6ofnt cI cS o0 np0 kp0 tp0 r0 t0 sh0 f0 nw0 nc0 np1 np2 np3 nw1 nw2 nw3 nw4 nc1 nc2 tw0 tc0 tp1 tp2 tp3 tw1 tw2 tw3 tw4 tc1 tc2 isk g4 nhour nair nrub nz nnb nkd ncl ngr noc nlit ncold nccell ncpow nsp nwm ndr thour_35 tair_35 trub_35 tz_35 tnb_35 tkd_35 tcl_35 tgr_35 toc_35 tlit_35 tcold_35 tccell_35 tcpow_35 tsp_35 twm_35 tdr_35) rfl (ik_runV C (c_X6_tell l D cI cS o0 np0 kp0 tp0 r0 t0 sh0 f0 isk fnd (-1000004 : Int32) r3 g4 hc4) mv_X6_tell wl_5_16 ⟨rfl, rfl, Nat.le_of_ble_eq_true rfl, Nat.le_of_ble_eq_true rfl⟩ [0, 1] rfl (by decide) 0 rfl rfl rfl rfl (Nat.le_of_ble_eq_true rfl) dX6_bears_74) rfl ?_
            cases hf
            exact ik_iretW C hr hlk dX6_bears_77
          · have hf := ik_neg hc hf
            refine ik_aload_n C 1 rfl rfl dX6_bears_41 ?_
            obtain ⟨g3, g4, g5, g6, g7, g8, g9, g10, g11, g12, g13, g14, g15, g16, hc16, hf⟩ := ik_b14s hf
            refine ik_goW [0, 2, 3, 4, 5, 6, 7, 8, 9, 10, 11, 12, 13, 14, 15, 16, 17, 18, 19, 20, 21, 22, 23, 24, 25] rfl rfl (wz_X6ofnt cI cS o0 np0 kp0 tp0 r0 t0 sh0 f0 nw0 nc0 np1 np2 np3 nw1 nw2 nw3 nw4 nc1 nc2 tw0 tc0 tp1 tp2 tp3 tw1 tw2 tw3 tw4 tc1 tc2 isk fnd nhour nair nrub nz nnb nkd ncl ngr noc nlit ncold nccell ncpow nsp nwm ndr g3 g4 g5 g6 g7 g8 g9 g10 g11 g12 g13 g14 g15 g16 twm_35 tdr_35) rfl (ik_runV C (c_X6_freshTrial l D cI cS o0 np0 kp0 tp0 r0 t0 sh0 f0 nw0 nc0 np1 np2 np3 nw1 nw2 nw3 nw4 nc1 nc2 tw0 tc0 tp1 tp2 tp3 tw1 tw2 tw3 tw4 tc1 tc2 isk nhour nair nrub nz nnb nkd ncl ngr noc nlit ncold nccell ncpow nsp nwm ndr thour_35 tair_35 trub_35 tz_35 tnb_35 tkd_35 tcl_35 tgr_35 toc_35 tlit_35 tcold_35 tccell_35 tcpow_35 tsp_35 twm_35 tdr_35 g3 g4 g5 g6 g7 g8 g9 g10 g11 g12 g13 g14 g15 g16 hc16) mv_X6_freshTrial wl_23_10 ⟨rfl, rfl, Nat.le_of_ble_eq_true rfl, Nat.le_of_ble_eq_true rfl⟩ [0, 2, 3, 4, 5, 6, 7, 8, 9, 10, 11, 12, 13, 14, 15, 16, 17, 18, 19, 20, 21, 22, 23, 24, 25] rfl (by decide) 0 rfl rfl rfl rfl (Nat.le_of_ble_eq_true rfl) dX6_bears_42) rfl ?_
            refine ik_astore_n C [(3, .ref tp0), (2, .int x2_35), (0, .ref o0), (1, .int x1)] rfl (by decide) rfl dX6_bears_45 ?_
            refine ik_aload_n C 0 rfl rfl dX6_bears_46 ?_
            refine ik_get C inlX1 14 rfl rfl 1 (by decide) wl_13_8 rfl (v := .ref tc0) rfl dX6_bears_47 ?_
            refine ik_iload_n C 1 rfl rfl dX6_bears_50 ?_
            refine ik_put C inlX0 tyX0 tyX0_ok nmX0 20 rfl rfl 3 (by decide) wl_16_14 rfl (by decide) rfl rfl (Nat.le_of_ble_eq_true rfl) (wz_X6ofnt cI cS o0 np0 kp0 tp0 r0 t0 sh0 f0 nw0 nc0 np1 np2 np3 nw1 nw2 nw3 nw4 nc1 nc2 tw0 tc0 tp1 tp2 tp3 tw1 tw2 tw3 tw4 tc1 tc2 isk fnd nhour nair nrub nz nnb nkd ncl ngr noc nlit ncold nccell ncpow nsp nwm ndr g3 g4 g5 g6 g7 g8 g9 g10 g11 g12 x2_35 g14 g15 g16 twm_35 tdr_35) rfl dX6_bears_51 ?_
            refine ik_aload_n C 0 rfl rfl dX6_bears_54 ?_
            refine ik_iload_n C 3 rfl rfl dX6_bears_55 ?_
            obtain ⟨r17, g18, g19, g20, g21, g22, g23, g24, g25, hc25, hf⟩ := ik_b9s hf
            refine ik_goW [14, 15, 16, 17, 18, 19, 20, 21, 22, 23, 24, 25] rfl rfl (wz_X6ofnt cI cS o0 np0 kp0 tp0 r0 t0 sh0 f0 nw0 nc0 np1 np2 np3 nw1 nw2 nw3 nw4 nc1 nc2 tw0 tc0 tp1 tp2 tp3 tw1 tw2 tw3 tw4 tc1 tc2 isk fnd nhour nair nrub nz nnb nkd ncl ngr noc nlit ncold nccell ncpow nsp nwm ndr g18 g19 g20 g6 g7 g8 g21 g22 g23 g12 x2_35 g14 g15 g16 g24 g25) rfl (ik_runV C (c_X1_hoursHeld l D cI cS tp0 tw0 tc0 tp1 tp2 tp3 tw1 tw2 tw3 tw4 tc1 tc2 g3 g4 g5 g6 g7 g8 g9 g10 g11 g12 x2_35 g14 g15 g16 twm_35 tdr_35 x1 r17 g18 g19 g20 g21 g22 g23 g24 g25 hc25) mv_X1_hoursHeld wl_26_7 ⟨rfl, rfl, Nat.le_of_ble_eq_true rfl, Nat.le_of_ble_eq_true rfl⟩ [14, 15, 16, 17, 18, 19, 20, 21, 22, 23, 24, 25] rfl (by decide) 14 rfl rfl rfl rfl (Nat.le_of_ble_eq_true rfl) dX6_bears_56) rfl ?_
            refine ik_iload_n C 3 rfl rfl dX6_bears_59 ?_
            refine ik_icmp_ne C 65 dX6_bears_60 (by decide) (fun hc => ?_) (fun hc => ?_)
            · have hf := ik_neg hc hf
              refine ik_iinc C [(2, .int (x2_35 + (-1 : Int32))), (3, .ref tp0), (0, .ref o0), (1, .int x1)] 1 rfl rfl (by decide) rfl dX6_bears_65 ?_
              refine ik_goto C 35 dX6_bears_68 (by decide) ?_
              exact ik_sub [0, 2, 3] [(2, .int (x2_35 + (-1 : Int32))), (0, .ref o0), (1, .int x1)] rfl (ih_35 g18 g19 g20 g6 g7 g8 g21 g22 g23 g12 x2_35 g14 g15 g16 g24 g25 (x2_35 + (-1 : Int32)) hf)
            · have hf := ik_pos hc hf
              refine ik_iload_n C 1 rfl rfl dX6_bears_63 ?_
              cases hf
              exact ik_iretW C hr hlk dX6_bears_64
      exact hL_35 ik_fu thour tair trub tz tnb tkd tcl tgr toc tlit tcold tccell tcpow tsp twm tdr (20 : Int32) hf
    · have hf := ik_pos hc hf
      refine ik_aload_n C 0 rfl rfl dX6_bears_25 ?_
      refine ik_ldc C wl_5_6 dX6_bears_26 ?_
      obtain ⟨r3, g4, hc4, hf⟩ := ik_b2s hf
      refine ik_goW [0, 1] rfl rfl (wz_X6ofnt cI cS o0 np0 kp0 tp0 r0 t0 sh0 f0 nw0 nc0 np1 np2 np3 nw1 nw2 nw3 nw4 nc1 nc2 tw0 tc0 tp1 tp2 tp3 tw1 tw2 tw3 tw4 tc1 tc2 isk g4 nhour nair nrub nz nnb nkd ncl ngr noc nlit ncold nccell ncpow nsp nwm ndr thour tair trub tz tnb tkd tcl tgr toc tlit tcold tccell tcpow tsp twm tdr) rfl (ik_runV C (c_X6_tell l D cI cS o0 np0 kp0 tp0 r0 t0 sh0 f0 isk fnd (-1000005 : Int32) r3 g4 hc4) mv_X6_tell wl_5_16 ⟨rfl, rfl, Nat.le_of_ble_eq_true rfl, Nat.le_of_ble_eq_true rfl⟩ [0, 1] rfl (by decide) 0 rfl rfl rfl rfl (Nat.le_of_ble_eq_true rfl) dX6_bears_28) rfl ?_
      cases hf
      exact ik_iretW C hr hlk dX6_bears_31
  · have hf := ik_pos hc hf
    refine ik_aload_n C 0 rfl rfl dX6_bears_10 ?_
    refine ik_ldc C wl_5_3 dX6_bears_11 ?_
    obtain ⟨r2, g3, hc3, hf⟩ := ik_b2s hf
    refine ik_goW [0, 1] rfl rfl (wz_X6ofnt cI cS o0 np0 kp0 tp0 r0 t0 sh0 f0 nw0 nc0 np1 np2 np3 nw1 nw2 nw3 nw4 nc1 nc2 tw0 tc0 tp1 tp2 tp3 tw1 tw2 tw3 tw4 tc1 tc2 isk g3 nhour nair nrub nz nnb nkd ncl ngr noc nlit ncold nccell ncpow nsp nwm ndr thour tair trub tz tnb tkd tcl tgr toc tlit tcold tccell tcpow tsp twm tdr) rfl (ik_runV C (c_X6_tell l D cI cS o0 np0 kp0 tp0 r0 t0 sh0 f0 isk fnd (-1000001 : Int32) r2 g3 hc3) mv_X6_tell wl_5_16 ⟨rfl, rfl, Nat.le_of_ble_eq_true rfl, Nat.le_of_ble_eq_true rfl⟩ [0, 1] rfl (by decide) 0 rfl rfl rfl rfl (Nat.le_of_ble_eq_true rfl) dX6_bears_13) rfl ?_
    cases hf
    exact ik_iretW C hr hlk dX6_bears_16
theorem mv_X6_needs : ik_V yX6_needs RX6 cX6_needs 6 (some .int) 2 := ⟨wl_27_21, wl_27_22, wl_1_2, wl_27_23, by decide +kernel⟩
set_option maxHeartbeats 4000000 in
set_option maxRecDepth 100000 in
theorem c_X6_needs (l : Launch) (D : va_G) (cI cS : ClassId) (o0 np0 kp0 tp0 r0 t0 sh0 f0 nw0 nc0 np1 np2 np3 nw1 nw2 nw3 nw4 nc1 nc2 tw0 tc0 tp1 tp2 tp3 tw1 tw2 tw3 tw4 tc1 tc2 : Nat) (isk : Int32) (fnd : Nat → Int32) (nhour : Int32) (nair : Int32) (nrub : Int32) (nz : Int32) (nnb : Int32) (nkd : Nat → Int32) (ncl : Nat → Int32) (ngr : Nat → Int32) (noc : Nat → Int32) (nlit : Int32) (ncold : Int32) (nccell : Nat → Int32) (ncpow : Nat → Int32) (nsp : Nat → Int32) (nwm : Nat → Int32) (ndr : Nat → Int32) (thour : Int32) (tair : Int32) (trub : Int32) (tz : Int32) (tnb : Int32) (tkd : Nat → Int32) (tcl : Nat → Int32) (tgr : Nat → Int32) (toc : Nat → Int32) (tlit : Int32) (tcold : Int32) (tccell : Nat → Int32) (tcpow : Nat → Int32) (tsp : Nat → Int32) (twm : Nat → Int32) (tdr : Nat → Int32) (x1 : Int32) (x2 : Int32) (R : Int32) (fnd_r : Nat → Int32) (thour_r : Int32) (tair_r : Int32) (trub_r : Int32) (tz_r : Int32) (tnb_r : Int32) (tkd_r : Nat → Int32) (tcl_r : Nat → Int32) (tgr_r : Nat → Int32) (toc_r : Nat → Int32) (tlit_r : Int32) (tcold_r : Int32) (tccell_r : Nat → Int32) (tcpow_r : Nat → Int32) (tsp_r : Nat → Int32) (twm_r : Nat → Int32) (tdr_r : Nat → Int32) (hf : f_X6_needs fnd nhour nair nrub nz nnb nkd ncl ngr noc nlit ncold nccell ncpow nsp thour tair trub tz tnb tkd tcl tgr toc tlit tcold tccell tcpow tsp twm tdr x1 x2 = some (R, fnd_r, thour_r, tair_r, trub_r, tz_r, tnb_r, tkd_r, tcl_r, tgr_r, toc_r, tlit_r, tcold_r, tccell_r, tcpow_r, tsp_r, twm_r, tdr_r)) : Met l yX6_needs (ik_ws yX6_needs cX6_needs 6 (some .int)) ({ frames := 6, cells := 0, slots := 0, locals := 144 } : Room) (ik_P D cI cS [.ref o0, .int x1, .int x2] (wz_X6ofnt cI cS o0 np0 kp0 tp0 r0 t0 sh0 f0 nw0 nc0 np1 np2 np3 nw1 nw2 nw3 nw4 nc1 nc2 tw0 tc0 tp1 tp2 tp3 tw1 tw2 tw3 tw4 tc1 tc2 isk fnd nhour nair nrub nz nnb nkd ncl ngr noc nlit ncold nccell ncpow nsp nwm ndr thour tair trub tz tnb tkd tcl tgr toc tlit tcold tccell tcpow tsp twm tdr)) (ik_Q (some (.int R)) D (wz_X6ofnt cI cS o0 np0 kp0 tp0 r0 t0 sh0 f0 nw0 nc0 np1 np2 np3 nw1 nw2 nw3 nw4 nc1 nc2 tw0 tc0 tp1 tp2 tp3 tw1 tw2 tw3 tw4 tc1 tc2 isk fnd_r nhour nair nrub nz nnb nkd ncl ngr noc nlit ncold nccell ncpow nsp nwm ndr thour_r tair_r trub_r tz_r tnb_r tkd_r tcl_r tgr_r toc_r tlit_r tcold_r tccell_r tcpow_r tsp_r twm_r tdr_r) (wz_X6ofnt cI cS o0 np0 kp0 tp0 r0 t0 sh0 f0 nw0 nc0 np1 np2 np3 nw1 nw2 nw3 nw4 nc1 nc2 tw0 tc0 tp1 tp2 tp3 tw1 tw2 tw3 tw4 tc1 tc2 isk fnd nhour nair nrub nz nnb nkd ncl ngr noc nlit ncold nccell ncpow nsp nwm ndr thour tair trub tz tnb tkd tcl tgr toc tlit tcold tccell tcpow tsp twm tdr)) 0 0 (ik_in (wz_X6ofnt cI cS o0 np0 kp0 tp0 r0 t0 sh0 f0 nw0 nc0 np1 np2 np3 nw1 nw2 nw3 nw4 nc1 nc2 tw0 tc0 tp1 tp2 tp3 tw1 tw2 tw3 tw4 tc1 tc2 isk fnd nhour nair nrub nz nnb nkd ncl ngr noc nlit ncold nccell ncpow nsp nwm ndr thour tair trub tz tnb tkd tcl tgr toc tlit tcold tccell tcpow tsp twm tdr)) := by
  refine ik_metW RX6 rfl (by decide) (Nat.le_of_ble_eq_true rfl) [(0, .ref o0), (1, .int x1), (2, .int x2)] rfl ?_
  intro p e s m below meth c C hr hlk
  unfold f_X6_needs at hf
  refine ik_aload_n C 0 rfl rfl dX6_needs_0 ?_
  refine ik_get C inlX6 0 rfl rfl 0 (by decide) wl_1_15 rfl (v := .ref np0) rfl dX6_needs_1 ?_
  refine ik_get C inlX1 2 rfl rfl 0 (by decide) wl_5_4 rfl (v := .ref nw0) rfl dX6_needs_4 ?_
  refine ik_iload_n C 1 rfl rfl dX6_needs_7 ?_
  obtain ⟨r1, hc1, hf⟩ := ik_b1s hf
  refine ik_goR (ik_runV C (c_X5_isBlock l D cI cS nw0 nw1 nw2 nw3 nw4 nnb nkd ncl ngr noc x1 r1 hc1) mv_X5_isBlock wl_8_7 ⟨rfl, rfl, Nat.le_of_ble_eq_true rfl, Nat.le_of_ble_eq_true rfl⟩ [3, 4, 5, 6, 7] rfl (by decide) 3 rfl rfl rfl rfl (Nat.le_of_ble_eq_true rfl) dX6_needs_8) rfl ?_
  refine ik_if_eq C 24 dX6_needs_11 (by decide) (fun hc => ?_) (fun hc => ?_)
  · have hf := ik_pos hc hf
    refine ik_aload_n C 0 rfl rfl dX6_needs_24 ?_
    refine ik_ldc C wl_5_3 dX6_needs_25 ?_
    obtain ⟨r2, g3, hc3, hf⟩ := ik_b2s hf
    refine ik_goW [0, 1] rfl rfl (wz_X6ofnt cI cS o0 np0 kp0 tp0 r0 t0 sh0 f0 nw0 nc0 np1 np2 np3 nw1 nw2 nw3 nw4 nc1 nc2 tw0 tc0 tp1 tp2 tp3 tw1 tw2 tw3 tw4 tc1 tc2 isk g3 nhour nair nrub nz nnb nkd ncl ngr noc nlit ncold nccell ncpow nsp nwm ndr thour tair trub tz tnb tkd tcl tgr toc tlit tcold tccell tcpow tsp twm tdr) rfl (ik_runV C (c_X6_tell l D cI cS o0 np0 kp0 tp0 r0 t0 sh0 f0 isk fnd (-1000001 : Int32) r2 g3 hc3) mv_X6_tell wl_5_16 ⟨rfl, rfl, Nat.le_of_ble_eq_true rfl, Nat.le_of_ble_eq_true rfl⟩ [0, 1] rfl (by decide) 0 rfl rfl rfl rfl (Nat.le_of_ble_eq_true rfl) dX6_needs_27) rfl ?_
    cases hf
    exact ik_iretW C hr hlk dX6_needs_30
  · have hf := ik_neg hc hf
    refine ik_iload_n C 2 rfl rfl dX6_needs_14 ?_
    refine ik_iconst (v := (1 : Int32)) C (by decide) dX6_needs_15 ?_
    refine ik_bipush (v := (48 : Int32)) C (by decide) dX6_needs_16 ?_
    obtain ⟨r2, hc2, hf⟩ := ik_b1s hf
    refine ik_goR (ik_runS C (c_X6_isWithin l D cI cS x2 (1 : Int32) (48 : Int32) r2 hc2) ms_X6_isWithin wl_5_10 ⟨rfl, rfl, Nat.le_of_ble_eq_true rfl, Nat.le_of_ble_eq_true rfl⟩ [] rfl (by decide) rfl rfl (Nat.le_of_ble_eq_true rfl) dX6_needs_18) rfl ?_
    refine ik_if_ne C 31 dX6_needs_21 (by decide) (fun hc => ?_) (fun hc => ?_)
    · have hf := ik_neg hc hf
      refine ik_aload_n C 0 rfl rfl dX6_needs_31 ?_
      refine ik_get C inlX6 0 rfl rfl 0 (by decide) wl_1_15 rfl (v := .ref np0) rfl dX6_needs_32 ?_
      refine ik_get C inlX1 2 rfl rfl 0 (by decide) wl_5_4 rfl (v := .ref nw0) rfl dX6_needs_35 ?_
      refine ik_iload_n C 1 rfl rfl dX6_needs_38 ?_
      obtain ⟨r3, hc3, hf⟩ := ik_b1s hf
      refine ik_goR (ik_runV C (c_X5_isGone l D cI cS nw0 nw1 nw2 nw3 nw4 nnb nkd ncl ngr noc x1 r3 hc3) mv_X5_isGone wl_8_11 ⟨rfl, rfl, Nat.le_of_ble_eq_true rfl, Nat.le_of_ble_eq_true rfl⟩ [3, 4, 5, 6, 7] rfl (by decide) 3 rfl rfl rfl rfl (Nat.le_of_ble_eq_true rfl) dX6_needs_39) rfl ?_
      refine ik_if_ne C 53 dX6_needs_42 (by decide) (fun hc => ?_) (fun hc => ?_)
      · have hf := ik_neg hc hf
        refine ik_aload_n C 0 rfl rfl dX6_needs_53 ?_
        refine ik_ldc C wl_5_6 dX6_needs_54 ?_
        obtain ⟨r4, g5, hc5, hf⟩ := ik_b2s hf
        refine ik_goW [0, 1] rfl rfl (wz_X6ofnt cI cS o0 np0 kp0 tp0 r0 t0 sh0 f0 nw0 nc0 np1 np2 np3 nw1 nw2 nw3 nw4 nc1 nc2 tw0 tc0 tp1 tp2 tp3 tw1 tw2 tw3 tw4 tc1 tc2 isk g5 nhour nair nrub nz nnb nkd ncl ngr noc nlit ncold nccell ncpow nsp nwm ndr thour tair trub tz tnb tkd tcl tgr toc tlit tcold tccell tcpow tsp twm tdr) rfl (ik_runV C (c_X6_tell l D cI cS o0 np0 kp0 tp0 r0 t0 sh0 f0 isk fnd (-1000005 : Int32) r4 g5 hc5) mv_X6_tell wl_5_16 ⟨rfl, rfl, Nat.le_of_ble_eq_true rfl, Nat.le_of_ble_eq_true rfl⟩ [0, 1] rfl (by decide) 0 rfl rfl rfl rfl (Nat.le_of_ble_eq_true rfl) dX6_needs_56) rfl ?_
        cases hf
        exact ik_iretW C hr hlk dX6_needs_59
      · have hf := ik_pos hc hf
        refine ik_aload_n C 0 rfl rfl dX6_needs_45 ?_
        refine ik_iload_n C 2 rfl rfl dX6_needs_46 ?_
        obtain ⟨r4, hc4, hf⟩ := ik_b1s hf
        refine ik_goR (ik_runV C (c_X6_hasHours l D cI cS o0 np0 kp0 tp0 r0 t0 sh0 f0 nw0 nc0 np1 np2 np3 nw1 nw2 nw3 nw4 nc1 nc2 isk nhour nair nrub nz nnb nkd ncl ngr noc nlit ncold nccell ncpow nsp nwm ndr x2 r4 hc4) mv_X6_hasHours wl_17_22 ⟨rfl, rfl, Nat.le_of_ble_eq_true rfl, Nat.le_of_ble_eq_true rfl⟩ [0, 2, 3, 4, 5, 6, 7, 8, 9, 10, 11, 12, 13] rfl (by decide) 0 rfl rfl rfl rfl (Nat.le_of_ble_eq_true rfl) dX6_needs_47) rfl ?_
        refine ik_if_ne C 60 dX6_needs_50 (by decide) (fun hc => ?_) (fun hc => ?_)
        · have hf := ik_neg hc hf
          refine ik_bipush (v := (99 : Int32)) C (by decide) dX6_needs_60 ?_
          refine ik_aload_n C 0 rfl rfl dX6_needs_62 ?_
          refine ik_get C inlX6 0 rfl rfl 0 (by decide) wl_1_15 rfl (v := .ref np0) rfl dX6_needs_63 ?_
          refine ik_get C inlX1 2 rfl rfl 0 (by decide) wl_5_4 rfl (v := .ref nw0) rfl dX6_needs_66 ?_
          refine ik_get C inlX5 3 rfl rfl 3 (by decide) wl_8_6 rfl (v := .ref nw3) rfl dX6_needs_69 ?_
          refine ik_iload_n C 1 rfl rfl dX6_needs_72 ?_
          have hg := ik_gdi hf
          have hf := ik_gdk hf
          refine ik_iald C 6 rfl hg dX6_needs_73 ?_
          refine ik_isub C dX6_needs_74 ?_
          refine ik_istore_n C [(3, .int ((99 : Int32) - (ngr (x1).toNatClampNeg))), (0, .ref o0), (1, .int x1), (2, .int x2)] rfl (by decide) rfl dX6_needs_75 ?_
          refine ik_iconst (v := (0 : Int32)) C (by decide) dX6_needs_76 ?_
          refine ik_istore C [(4, .int (0 : Int32)), (3, .int ((99 : Int32) - (ngr (x1).toNatClampNeg))), (0, .ref o0), (1, .int x1), (2, .int x2)] (by decide) rfl dX6_needs_77 ?_
          have hL_79 : ∀ (n_79 : Nat) (thour_79 : Int32) (tair_79 : Int32) (trub_79 : Int32) (tz_79 : Int32) (tnb_79 : Int32) (tkd_79 : Nat → Int32) (tcl_79 : Nat → Int32) (tgr_79 : Nat → Int32) (toc_79 : Nat → Int32) (tlit_79 : Int32) (tcold_79 : Int32) (tccell_79 : Nat → Int32) (tcpow_79 : Nat → Int32) (tsp_79 : Nat → Int32) (twm_79 : Nat → Int32) (tdr_79 : Nat → Int32) (x4_79 : Int32), ik_lp17 (b_X6_needs_79 fnd nhour nair nrub nz nnb nkd ncl ngr noc nlit ncold nccell ncpow nsp x1 x2) n_79 thour_79 tair_79 trub_79 tz_79 tnb_79 tkd_79 tcl_79 tgr_79 toc_79 tlit_79 tcold_79 tccell_79 tcpow_79 tsp_79 twm_79 tdr_79 x4_79 = some (R, fnd_r, thour_r, tair_r, trub_r, tz_r, tnb_r, tkd_r, tcl_r, tgr_r, toc_r, tlit_r, tcold_r, tccell_r, tcpow_r, tsp_r, twm_r, tdr_r) → ik_G p l e ({ frames := 6, cells := 0, slots := 0, locals := 144 } : Room) s m ([.ref o0, .int x1, .int x2] : List Value).toArray below meth c D (ik_in (wz_X6ofnt cI cS o0 np0 kp0 tp0 r0 t0 sh0 f0 nw0 nc0 np1 np2 np3 nw1 nw2 nw3 nw4 nc1 nc2 tw0 tc0 tp1 tp2 tp3 tw1 tw2 tw3 tw4 tc1 tc2 isk fnd nhour nair nrub nz nnb nkd ncl ngr noc nlit ncold nccell ncpow nsp nwm ndr thour tair trub tz tnb tkd tcl tgr toc tlit tcold tccell tcpow tsp twm tdr)) (ik_in (wz_X6ofnt cI cS o0 np0 kp0 tp0 r0 t0 sh0 f0 nw0 nc0 np1 np2 np3 nw1 nw2 nw3 nw4 nc1 nc2 tw0 tc0 tp1 tp2 tp3 tw1 tw2 tw3 tw4 tc1 tc2 isk fnd nhour nair nrub nz nnb nkd ncl ngr noc nlit ncold nccell ncpow nsp nwm ndr thour tair trub tz tnb tkd tcl tgr toc tlit tcold tccell tcpow tsp twm tdr)) 6 (MQ below (ik_Q (some (.int R)) D (wz_X6ofnt cI cS o0 np0 kp0 tp0 r0 t0 sh0 f0 nw0 nc0 np1 np2 np3 nw1 nw2 nw3 nw4 nc1 nc2 tw0 tc0 tp1 tp2 tp3 tw1 tw2 tw3 tw4 tc1 tc2 isk fnd_r nhour nair nrub nz nnb nkd ncl ngr noc nlit ncold nccell ncpow nsp nwm ndr thour_r tair_r trub_r tz_r tnb_r tkd_r tcl_r tgr_r toc_r tlit_r tcold_r tccell_r tcpow_r tsp_r twm_r tdr_r) (wz_X6ofnt cI cS o0 np0 kp0 tp0 r0 t0 sh0 f0 nw0 nc0 np1 np2 np3 nw1 nw2 nw3 nw4 nc1 nc2 tw0 tc0 tp1 tp2 tp3 tw1 tw2 tw3 tw4 tc1 tc2 isk fnd nhour nair nrub nz nnb nkd ncl ngr noc nlit ncold nccell ncpow nsp nwm ndr thour tair trub tz tnb tkd tcl tgr toc tlit tcold tccell tcpow tsp twm tdr)) ([.ref o0, .int x1, .int x2] : List Value).toArray s 0 0 (ik_in (wz_X6ofnt cI cS o0 np0 kp0 tp0 r0 t0 sh0 f0 nw0 nc0 np1 np2 np3 nw1 nw2 nw3 nw4 nc1 nc2 tw0 tc0 tp1 tp2 tp3 tw1 tw2 tw3 tw4 tc1 tc2 isk fnd nhour nair nrub nz nnb nkd ncl ngr noc nlit ncold nccell ncpow nsp nwm ndr thour tair trub tz tnb tkd tcl tgr toc tlit tcold tccell tcpow tsp twm tdr))) 79 [(4, .int x4_79), (3, .int ((99 : Int32) - (ngr (x1).toNatClampNeg))), (0, .ref o0), (1, .int x1), (2, .int x2)] [] (wz_X6ofnt cI cS o0 np0 kp0 tp0 r0 t0 sh0 f0 nw0 nc0 np1 np2 np3 nw1 nw2 nw3 nw4 nc1 nc2 tw0 tc0 tp1 tp2 tp3 tw1 tw2 tw3 tw4 tc1 tc2 isk fnd nhour nair nrub nz nnb nkd ncl ngr noc nlit ncold nccell ncpow nsp nwm ndr thour_79 tair_79 trub_79 tz_79 tnb_79 tkd_79 tcl_79 tgr_79 toc_79 tlit_79 tcold_79 tccell_79 tcpow_79 tsp_79 twm_79 tdr_79) := by
            intro n_79
            induction n_79 with
            | zero => intro _ _ _ _ _ _ _ _ _ _ _ _ _ _ _ _ _ hf; exact nomatch hf
            | succ n_79 ih_79 =>
              intro thour_79 tair_79 trub_79 tz_79 tnb_79 tkd_79 tcl_79 tgr_79 toc_79 tlit_79 tcold_79 tccell_79 tcpow_79 tsp_79 twm_79 tdr_79 x4_79 hf
              replace hf : b_X6_needs_79 fnd nhour nair nrub nz nnb nkd ncl ngr noc nlit ncold nccell ncpow nsp x1 x2 (ik_lp17 (b_X6_needs_79 fnd nhour nair nrub nz nnb nkd ncl ngr noc nlit ncold nccell ncpow nsp x1 x2) n_79) thour_79 tair_79 trub_79 tz_79 tnb_79 tkd_79 tcl_79 tgr_79 toc_79 tlit_79 tcold_79 tccell_79 tcpow_79 tsp_79 twm_79 tdr_79 x4_79 = some (R, fnd_r, thour_r, tair_r, trub_r, tz_r, tnb_r, tkd_r, tcl_r, tgr_r, toc_r, tlit_r, tcold_r, tccell_r, tcpow_r, tsp_r, twm_r, tdr_r) := hf
              unfold b_X6_needs_79 at hf
              refine ik_iload C 0 rfl dX6_needs_79 ?_
              refine ik_iload_n C 1 rfl rfl dX6_needs_81 ?_
              refine ik_icmp_gt C 122 dX6_needs_82 (by decide) (fun hc => ?_) (fun hc => ?_)
              · have hf := ik_pos hc hf
                refine ik_aload_n C 2 rfl rfl dX6_needs_122 ?_
                refine ik_ldc C wl_25_9 dX6_needs_123 ?_
                obtain ⟨r5, g6, hc6, hf⟩ := ik_b2s hf
                refine ik_goW [0, 1] rfl rfl (wz_X6ofnt cI cS o0 np0 kp0 tp0 r0 t0 sh0 f0 nw0 nc0 np1 np2 np3 nw1 nw2 nw3 nw4 nc1 nc2 tw0 tc0 tp1 tp2 tp3 tw1 tw2 tw3 tw4 tc1 tc2 isk g6 nhour nair nrub nz nnb nkd ncl ngr noc nlit ncold nccell ncpow nsp nwm ndr thour_79 tair_79 trub_79 tz_79 tnb_79 tkd_79 tcl_79 tgr_79 toc_79 tlit_79 tcold_79 tccell_79 tcpow_79 tsp_79 twm_79 tdr_79) rfl (ik_runV C (c_X6_tell l D cI cS o0 np0 kp0 tp0 r0 t0 sh0 f0 isk fnd (-1000004 : Int32) r5 g6 hc6) mv_X6_tell wl_5_16 ⟨rfl, rfl, Nat.le_of_ble_eq_true rfl, Nat.le_of_ble_eq_true rfl⟩ [0, 1] rfl (by decide) 0 rfl rfl rfl rfl (Nat.le_of_ble_eq_true rfl) dX6_needs_125) rfl ?_
                cases hf
                exact ik_iretW C hr hlk dX6_needs_128
              · have hf := ik_neg hc hf
                refine ik_aload_n C 2 rfl rfl dX6_needs_85 ?_
                obtain ⟨g5, g6, g7, g8, g9, g10, g11, g12, g13, g14, g15, g16, g17, g18, hc18, hf⟩ := ik_b14s hf
                refine ik_goW [0, 2, 3, 4, 5, 6, 7, 8, 9, 10, 11, 12, 13, 14, 15, 16, 17, 18, 19, 20, 21, 22, 23, 24, 25] rfl rfl (wz_X6ofnt cI cS o0 np0 kp0 tp0 r0 t0 sh0 f0 nw0 nc0 np1 np2 np3 nw1 nw2 nw3 nw4 nc1 nc2 tw0 tc0 tp1 tp2 tp3 tw1 tw2 tw3 tw4 tc1 tc2 isk fnd nhour nair nrub nz nnb nkd ncl ngr noc nlit ncold nccell ncpow nsp nwm ndr g5 g6 g7 g8 g9 g10 g11 g12 g13 g14 g15 g16 g17 g18 twm_79 tdr_79) rfl (ik_runV C (c_X6_freshTrial l D cI cS o0 np0 kp0 tp0 r0 t0 sh0 f0 nw0 nc0 np1 np2 np3 nw1 nw2 nw3 nw4 nc1 nc2 tw0 tc0 tp1 tp2 tp3 tw1 tw2 tw3 tw4 tc1 tc2 isk nhour nair nrub nz nnb nkd ncl ngr noc nlit ncold nccell ncpow nsp nwm ndr thour_79 tair_79 trub_79 tz_79 tnb_79 tkd_79 tcl_79 tgr_79 toc_79 tlit_79 tcold_79 tccell_79 tcpow_79 tsp_79 twm_79 tdr_79 g5 g6 g7 g8 g9 g10 g11 g12 g13 g14 g15 g16 g17 g18 hc18) mv_X6_freshTrial wl_23_10 ⟨rfl, rfl, Nat.le_of_ble_eq_true rfl, Nat.le_of_ble_eq_true rfl⟩ [0, 2, 3, 4, 5, 6, 7, 8, 9, 10, 11, 12, 13, 14, 15, 16, 17, 18, 19, 20, 21, 22, 23, 24, 25] rfl (by decide) 0 rfl rfl rfl rfl (Nat.le_of_ble_eq_true rfl) dX6_needs_86) rfl ?_
                refine ik_astore C [(5, .ref tp0), (4, .int x4_79), (3, .int ((99 : Int32) - (ngr (x1).toNatClampNeg))), (0, .ref o0), (1, .int x1), (2, .int x2)] (by decide) rfl dX6_needs_89 ?_
                refine ik_aload C 0 rfl dX6_needs_91 ?_
                refine ik_get C inlX1 14 rfl rfl 0 (by decide) wl_5_4 rfl (v := .ref tw0) rfl dX6_needs_93 ?_
                refine ik_iload_n C 4 rfl rfl dX6_needs_96 ?_
                refine ik_iload C 1 rfl dX6_needs_97 ?_
                obtain ⟨r19, g20, hc20, hf⟩ := ik_b2s hf
                refine ik_goW [15, 16, 17, 18, 19] rfl rfl (wz_X6ofnt cI cS o0 np0 kp0 tp0 r0 t0 sh0 f0 nw0 nc0 np1 np2 np3 nw1 nw2 nw3 nw4 nc1 nc2 tw0 tc0 tp1 tp2 tp3 tw1 tw2 tw3 tw4 tc1 tc2 isk fnd nhour nair nrub nz nnb nkd ncl ngr noc nlit ncold nccell ncpow nsp nwm ndr g5 g6 g7 g8 g9 g10 g11 g20 g13 g14 g15 g16 g17 g18 twm_79 tdr_79) rfl (ik_runV C (c_X5_thicken l D cI cS tw0 tw1 tw2 tw3 tw4 g9 g10 g11 g12 g13 x1 x4_79 r19 g20 hc20) mv_X5_thicken wl_14_1 ⟨rfl, rfl, Nat.le_of_ble_eq_true rfl, Nat.le_of_ble_eq_true rfl⟩ [15, 16, 17, 18, 19] rfl (by decide) 15 rfl rfl rfl rfl (Nat.le_of_ble_eq_true rfl) dX6_needs_99) rfl ?_
                refine ik_pop C rfl dX6_needs_102 ?_
                refine ik_aload C 0 rfl dX6_needs_103 ?_
                refine ik_iload_n C 5 rfl rfl dX6_needs_105 ?_
                obtain ⟨r21, g22, g23, g24, g25, g26, g27, g28, g29, hc29, hf⟩ := ik_b9s hf
                refine ik_goW [14, 15, 16, 17, 18, 19, 20, 21, 22, 23, 24, 25] rfl rfl (wz_X6ofnt cI cS o0 np0 kp0 tp0 r0 t0 sh0 f0 nw0 nc0 np1 np2 np3 nw1 nw2 nw3 nw4 nc1 nc2 tw0 tc0 tp1 tp2 tp3 tw1 tw2 tw3 tw4 tc1 tc2 isk fnd nhour nair nrub nz nnb nkd ncl ngr noc nlit ncold nccell ncpow nsp nwm ndr g22 g23 g24 g8 g9 g10 g25 g26 g27 g14 g15 g16 g17 g18 g28 g29) rfl (ik_runV C (c_X1_hoursHeld l D cI cS tp0 tw0 tc0 tp1 tp2 tp3 tw1 tw2 tw3 tw4 tc1 tc2 g5 g6 g7 g8 g9 g10 g11 g20 g13 g14 g15 g16 g17 g18 twm_79 tdr_79 x2 r21 g22 g23 g24 g25 g26 g27 g28 g29 hc29) mv_X1_hoursHeld wl_26_7 ⟨rfl, rfl, Nat.le_of_ble_eq_true rfl, Nat.le_of_ble_eq_true rfl⟩ [14, 15, 16, 17, 18, 19, 20, 21, 22, 23, 24, 25] rfl (by decide) 14 rfl rfl rfl rfl (Nat.le_of_ble_eq_true rfl) dX6_needs_106) rfl ?_
                refine ik_iload_n C 5 rfl rfl dX6_needs_109 ?_
                refine ik_icmp_ne C 116 dX6_needs_110 (by decide) (fun hc => ?_) (fun hc => ?_)
                · have hf := ik_neg hc hf
                  refine ik_iinc C [(4, .int (x4_79 + (1 : Int32))), (5, .ref tp0), (3, .int ((99 : Int32) - (ngr (x1).toNatClampNeg))), (0, .ref o0), (1, .int x1), (2, .int x2)] 1 rfl rfl (by decide) rfl dX6_needs_116 ?_
                  refine ik_goto C 79 dX6_needs_119 (by decide) ?_
                  exact ik_sub [0, 2, 3, 4, 5] [(4, .int (x4_79 + (1 : Int32))), (3, .int ((99 : Int32) - (ngr (x1).toNatClampNeg))), (0, .ref o0), (1, .int x1), (2, .int x2)] rfl (ih_79 g22 g23 g24 g8 g9 g10 g25 g26 g27 g14 g15 g16 g17 g18 g28 g29 (x4_79 + (1 : Int32)) hf)
                · have hf := ik_pos hc hf
                  refine ik_iload C 1 rfl dX6_needs_113 ?_
                  cases hf
                  exact ik_iretW C hr hlk dX6_needs_115
          exact hL_79 ik_fu thour tair trub tz tnb tkd tcl tgr toc tlit tcold tccell tcpow tsp twm tdr (0 : Int32) hf
        · have hf := ik_pos hc hf
          refine ik_aload_n C 0 rfl rfl dX6_needs_53 ?_
          refine ik_ldc C wl_5_6 dX6_needs_54 ?_
          obtain ⟨r5, g6, hc6, hf⟩ := ik_b2s hf
          refine ik_goW [0, 1] rfl rfl (wz_X6ofnt cI cS o0 np0 kp0 tp0 r0 t0 sh0 f0 nw0 nc0 np1 np2 np3 nw1 nw2 nw3 nw4 nc1 nc2 tw0 tc0 tp1 tp2 tp3 tw1 tw2 tw3 tw4 tc1 tc2 isk g6 nhour nair nrub nz nnb nkd ncl ngr noc nlit ncold nccell ncpow nsp nwm ndr thour tair trub tz tnb tkd tcl tgr toc tlit tcold tccell tcpow tsp twm tdr) rfl (ik_runV C (c_X6_tell l D cI cS o0 np0 kp0 tp0 r0 t0 sh0 f0 isk fnd (-1000005 : Int32) r5 g6 hc6) mv_X6_tell wl_5_16 ⟨rfl, rfl, Nat.le_of_ble_eq_true rfl, Nat.le_of_ble_eq_true rfl⟩ [0, 1] rfl (by decide) 0 rfl rfl rfl rfl (Nat.le_of_ble_eq_true rfl) dX6_needs_56) rfl ?_
          cases hf
          exact ik_iretW C hr hlk dX6_needs_59
    · have hf := ik_pos hc hf
      refine ik_aload_n C 0 rfl rfl dX6_needs_24 ?_
      refine ik_ldc C wl_5_3 dX6_needs_25 ?_
      obtain ⟨r3, g4, hc4, hf⟩ := ik_b2s hf
      refine ik_goW [0, 1] rfl rfl (wz_X6ofnt cI cS o0 np0 kp0 tp0 r0 t0 sh0 f0 nw0 nc0 np1 np2 np3 nw1 nw2 nw3 nw4 nc1 nc2 tw0 tc0 tp1 tp2 tp3 tw1 tw2 tw3 tw4 tc1 tc2 isk g4 nhour nair nrub nz nnb nkd ncl ngr noc nlit ncold nccell ncpow nsp nwm ndr thour tair trub tz tnb tkd tcl tgr toc tlit tcold tccell tcpow tsp twm tdr) rfl (ik_runV C (c_X6_tell l D cI cS o0 np0 kp0 tp0 r0 t0 sh0 f0 isk fnd (-1000001 : Int32) r3 g4 hc4) mv_X6_tell wl_5_16 ⟨rfl, rfl, Nat.le_of_ble_eq_true rfl, Nat.le_of_ble_eq_true rfl⟩ [0, 1] rfl (by decide) 0 rfl rfl rfl rfl (Nat.le_of_ble_eq_true rfl) dX6_needs_27) rfl ?_
      cases hf
      exact ik_iretW C hr hlk dX6_needs_30
theorem mv_X6_mend : ik_V yX6_mend RX6 cX6_mend 7 (some .int) 1 := ⟨wl_28_12, wl_28_13, wl_1_2, wl_28_14, by decide +kernel⟩
set_option maxHeartbeats 4000000 in
set_option maxRecDepth 100000 in
theorem c_X6_mend (l : Launch) (D : va_G) (cI cS : ClassId) (o0 np0 kp0 tp0 r0 t0 sh0 f0 nw0 nc0 np1 np2 np3 nw1 nw2 nw3 nw4 nc1 nc2 tw0 tc0 tp1 tp2 tp3 tw1 tw2 tw3 tw4 tc1 tc2 : Nat) (isk : Int32) (fnd : Nat → Int32) (nhour : Int32) (nair : Int32) (nrub : Int32) (nz : Int32) (nnb : Int32) (nkd : Nat → Int32) (ncl : Nat → Int32) (ngr : Nat → Int32) (noc : Nat → Int32) (nlit : Int32) (ncold : Int32) (nccell : Nat → Int32) (ncpow : Nat → Int32) (nsp : Nat → Int32) (nwm : Nat → Int32) (ndr : Nat → Int32) (thour : Int32) (tair : Int32) (trub : Int32) (tz : Int32) (tnb : Int32) (tkd : Nat → Int32) (tcl : Nat → Int32) (tgr : Nat → Int32) (toc : Nat → Int32) (tlit : Int32) (tcold : Int32) (tccell : Nat → Int32) (tcpow : Nat → Int32) (tsp : Nat → Int32) (twm : Nat → Int32) (tdr : Nat → Int32) (x1 : Int32) (R : Int32) (fnd_r : Nat → Int32) (thour_r : Int32) (tair_r : Int32) (trub_r : Int32) (tz_r : Int32) (tnb_r : Int32) (tkd_r : Nat → Int32) (tcl_r : Nat → Int32) (tgr_r : Nat → Int32) (toc_r : Nat → Int32) (tlit_r : Int32) (tcold_r : Int32) (tccell_r : Nat → Int32) (tcpow_r : Nat → Int32) (tsp_r : Nat → Int32) (twm_r : Nat → Int32) (tdr_r : Nat → Int32) (hf : f_X6_mend fnd nhour nair nrub nz nnb nkd ncl ngr noc nlit ncold nccell ncpow nsp thour tair trub tz tnb tkd tcl tgr toc tlit tcold tccell tcpow tsp twm tdr x1 = some (R, fnd_r, thour_r, tair_r, trub_r, tz_r, tnb_r, tkd_r, tcl_r, tgr_r, toc_r, tlit_r, tcold_r, tccell_r, tcpow_r, tsp_r, twm_r, tdr_r)) : Met l yX6_mend (ik_ws yX6_mend cX6_mend 7 (some .int)) ({ frames := 6, cells := 0, slots := 0, locals := 144 } : Room) (ik_P D cI cS [.ref o0, .int x1] (wz_X6ofnt cI cS o0 np0 kp0 tp0 r0 t0 sh0 f0 nw0 nc0 np1 np2 np3 nw1 nw2 nw3 nw4 nc1 nc2 tw0 tc0 tp1 tp2 tp3 tw1 tw2 tw3 tw4 tc1 tc2 isk fnd nhour nair nrub nz nnb nkd ncl ngr noc nlit ncold nccell ncpow nsp nwm ndr thour tair trub tz tnb tkd tcl tgr toc tlit tcold tccell tcpow tsp twm tdr)) (ik_Q (some (.int R)) D (wz_X6ofnt cI cS o0 np0 kp0 tp0 r0 t0 sh0 f0 nw0 nc0 np1 np2 np3 nw1 nw2 nw3 nw4 nc1 nc2 tw0 tc0 tp1 tp2 tp3 tw1 tw2 tw3 tw4 tc1 tc2 isk fnd_r nhour nair nrub nz nnb nkd ncl ngr noc nlit ncold nccell ncpow nsp nwm ndr thour_r tair_r trub_r tz_r tnb_r tkd_r tcl_r tgr_r toc_r tlit_r tcold_r tccell_r tcpow_r tsp_r twm_r tdr_r) (wz_X6ofnt cI cS o0 np0 kp0 tp0 r0 t0 sh0 f0 nw0 nc0 np1 np2 np3 nw1 nw2 nw3 nw4 nc1 nc2 tw0 tc0 tp1 tp2 tp3 tw1 tw2 tw3 tw4 tc1 tc2 isk fnd nhour nair nrub nz nnb nkd ncl ngr noc nlit ncold nccell ncpow nsp nwm ndr thour tair trub tz tnb tkd tcl tgr toc tlit tcold tccell tcpow tsp twm tdr)) 0 0 (ik_in (wz_X6ofnt cI cS o0 np0 kp0 tp0 r0 t0 sh0 f0 nw0 nc0 np1 np2 np3 nw1 nw2 nw3 nw4 nc1 nc2 tw0 tc0 tp1 tp2 tp3 tw1 tw2 tw3 tw4 tc1 tc2 isk fnd nhour nair nrub nz nnb nkd ncl ngr noc nlit ncold nccell ncpow nsp nwm ndr thour tair trub tz tnb tkd tcl tgr toc tlit tcold tccell tcpow tsp twm tdr)) := by
  refine ik_metW RX6 rfl (by decide) (Nat.le_of_ble_eq_true rfl) [(0, .ref o0), (1, .int x1)] rfl ?_
  intro p e s m below meth c C hr hlk
  unfold f_X6_mend at hf
  refine ik_iload_n C 1 rfl rfl dX6_mend_0 ?_
  refine ik_iconst (v := (1 : Int32)) C (by decide) dX6_mend_1 ?_
  refine ik_bipush (v := (98 : Int32)) C (by decide) dX6_mend_2 ?_
  obtain ⟨r1, hc1, hf⟩ := ik_b1s hf
  refine ik_goR (ik_runS C (c_X6_isWithin l D cI cS x1 (1 : Int32) (98 : Int32) r1 hc1) ms_X6_isWithin wl_5_10 ⟨rfl, rfl, Nat.le_of_ble_eq_true rfl, Nat.le_of_ble_eq_true rfl⟩ [] rfl (by decide) rfl rfl (Nat.le_of_ble_eq_true rfl) dX6_mend_4) rfl ?_
  refine ik_if_ne C 17 dX6_mend_7 (by decide) (fun hc => ?_) (fun hc => ?_)
  · have hf := ik_neg hc hf
    refine ik_aload_n C 0 rfl rfl dX6_mend_17 ?_
    refine ik_bipush (v := (96 : Int32)) C (by decide) dX6_mend_18 ?_
    obtain ⟨r2, hc2, hf⟩ := ik_b1s hf
    refine ik_goR (ik_runV C (c_X6_hasHours l D cI cS o0 np0 kp0 tp0 r0 t0 sh0 f0 nw0 nc0 np1 np2 np3 nw1 nw2 nw3 nw4 nc1 nc2 isk nhour nair nrub nz nnb nkd ncl ngr noc nlit ncold nccell ncpow nsp nwm ndr (96 : Int32) r2 hc2) mv_X6_hasHours wl_17_22 ⟨rfl, rfl, Nat.le_of_ble_eq_true rfl, Nat.le_of_ble_eq_true rfl⟩ [0, 2, 3, 4, 5, 6, 7, 8, 9, 10, 11, 12, 13] rfl (by decide) 0 rfl rfl rfl rfl (Nat.le_of_ble_eq_true rfl) dX6_mend_20) rfl ?_
    refine ik_if_ne C 33 dX6_mend_23 (by decide) (fun hc => ?_) (fun hc => ?_)
    · have hf := ik_neg hc hf
      refine ik_iconst (v := (-1 : Int32)) C (by decide) dX6_mend_33 ?_
      refine ik_istore_n C [(2, .int (-1 : Int32)), (0, .ref o0), (1, .int x1)] rfl (by decide) rfl dX6_mend_34 ?_
      refine ik_iconst (v := (-1 : Int32)) C (by decide) dX6_mend_35 ?_
      refine ik_istore_n C [(3, .int (-1 : Int32)), (2, .int (-1 : Int32)), (0, .ref o0), (1, .int x1)] rfl (by decide) rfl dX6_mend_36 ?_
      refine ik_iconst (v := (0 : Int32)) C (by decide) dX6_mend_37 ?_
      refine ik_istore C [(4, .int (0 : Int32)), (3, .int (-1 : Int32)), (2, .int (-1 : Int32)), (0, .ref o0), (1, .int x1)] (by decide) rfl dX6_mend_38 ?_
      have hL_40 : ∀ (n_40 : Nat) (thour_40 : Int32) (tair_40 : Int32) (trub_40 : Int32) (tz_40 : Int32) (tnb_40 : Int32) (tkd_40 : Nat → Int32) (tcl_40 : Nat → Int32) (tgr_40 : Nat → Int32) (toc_40 : Nat → Int32) (tlit_40 : Int32) (tcold_40 : Int32) (tccell_40 : Nat → Int32) (tcpow_40 : Nat → Int32) (tsp_40 : Nat → Int32) (twm_40 : Nat → Int32) (tdr_40 : Nat → Int32) (x2_40 : Int32) (x3_40 : Int32) (x4_40 : Int32), ik_lp19 (b_X6_mend_40 fnd nhour nair nrub nz nnb nkd ncl ngr noc nlit ncold nccell ncpow nsp x1) n_40 thour_40 tair_40 trub_40 tz_40 tnb_40 tkd_40 tcl_40 tgr_40 toc_40 tlit_40 tcold_40 tccell_40 tcpow_40 tsp_40 twm_40 tdr_40 x2_40 x3_40 x4_40 = some (R, fnd_r, thour_r, tair_r, trub_r, tz_r, tnb_r, tkd_r, tcl_r, tgr_r, toc_r, tlit_r, tcold_r, tccell_r, tcpow_r, tsp_r, twm_r, tdr_r) → ik_G p l e ({ frames := 6, cells := 0, slots := 0, locals := 144 } : Room) s m ([.ref o0, .int x1] : List Value).toArray below meth c D (ik_in (wz_X6ofnt cI cS o0 np0 kp0 tp0 r0 t0 sh0 f0 nw0 nc0 np1 np2 np3 nw1 nw2 nw3 nw4 nc1 nc2 tw0 tc0 tp1 tp2 tp3 tw1 tw2 tw3 tw4 tc1 tc2 isk fnd nhour nair nrub nz nnb nkd ncl ngr noc nlit ncold nccell ncpow nsp nwm ndr thour tair trub tz tnb tkd tcl tgr toc tlit tcold tccell tcpow tsp twm tdr)) (ik_in (wz_X6ofnt cI cS o0 np0 kp0 tp0 r0 t0 sh0 f0 nw0 nc0 np1 np2 np3 nw1 nw2 nw3 nw4 nc1 nc2 tw0 tc0 tp1 tp2 tp3 tw1 tw2 tw3 tw4 tc1 tc2 isk fnd nhour nair nrub nz nnb nkd ncl ngr noc nlit ncold nccell ncpow nsp nwm ndr thour tair trub tz tnb tkd tcl tgr toc tlit tcold tccell tcpow tsp twm tdr)) 7 (MQ below (ik_Q (some (.int R)) D (wz_X6ofnt cI cS o0 np0 kp0 tp0 r0 t0 sh0 f0 nw0 nc0 np1 np2 np3 nw1 nw2 nw3 nw4 nc1 nc2 tw0 tc0 tp1 tp2 tp3 tw1 tw2 tw3 tw4 tc1 tc2 isk fnd_r nhour nair nrub nz nnb nkd ncl ngr noc nlit ncold nccell ncpow nsp nwm ndr thour_r tair_r trub_r tz_r tnb_r tkd_r tcl_r tgr_r toc_r tlit_r tcold_r tccell_r tcpow_r tsp_r twm_r tdr_r) (wz_X6ofnt cI cS o0 np0 kp0 tp0 r0 t0 sh0 f0 nw0 nc0 np1 np2 np3 nw1 nw2 nw3 nw4 nc1 nc2 tw0 tc0 tp1 tp2 tp3 tw1 tw2 tw3 tw4 tc1 tc2 isk fnd nhour nair nrub nz nnb nkd ncl ngr noc nlit ncold nccell ncpow nsp nwm ndr thour tair trub tz tnb tkd tcl tgr toc tlit tcold tccell tcpow tsp twm tdr)) ([.ref o0, .int x1] : List Value).toArray s 0 0 (ik_in (wz_X6ofnt cI cS o0 np0 kp0 tp0 r0 t0 sh0 f0 nw0 nc0 np1 np2 np3 nw1 nw2 nw3 nw4 nc1 nc2 tw0 tc0 tp1 tp2 tp3 tw1 tw2 tw3 tw4 tc1 tc2 isk fnd nhour nair nrub nz nnb nkd ncl ngr noc nlit ncold nccell ncpow nsp nwm ndr thour tair trub tz tnb tkd tcl tgr toc tlit tcold tccell tcpow tsp twm tdr))) 40 [(4, .int x4_40), (3, .int x3_40), (2, .int x2_40), (0, .ref o0), (1, .int x1)] [] (wz_X6ofnt cI cS o0 np0 kp0 tp0 r0 t0 sh0 f0 nw0 nc0 np1 np2 np3 nw1 nw2 nw3 nw4 nc1 nc2 tw0 tc0 tp1 tp2 tp3 tw1 tw2 tw3 tw4 tc1 tc2 isk fnd nhour nair nrub nz nnb nkd ncl ngr noc nlit ncold nccell ncpow nsp nwm ndr thour_40 tair_40 trub_40 tz_40 tnb_40 tkd_40 tcl_40 tgr_40 toc_40 tlit_40 tcold_40 tccell_40 tcpow_40 tsp_40 twm_40 tdr_40) := by
        intro n_40
        induction n_40 with
        | zero => intro _ _ _ _ _ _ _ _ _ _ _ _ _ _ _ _ _ _ _ hf; exact nomatch hf
        | succ n_40 ih_40 =>
          intro thour_40 tair_40 trub_40 tz_40 tnb_40 tkd_40 tcl_40 tgr_40 toc_40 tlit_40 tcold_40 tccell_40 tcpow_40 tsp_40 twm_40 tdr_40 x2_40 x3_40 x4_40 hf
          replace hf : b_X6_mend_40 fnd nhour nair nrub nz nnb nkd ncl ngr noc nlit ncold nccell ncpow nsp x1 (ik_lp19 (b_X6_mend_40 fnd nhour nair nrub nz nnb nkd ncl ngr noc nlit ncold nccell ncpow nsp x1) n_40) thour_40 tair_40 trub_40 tz_40 tnb_40 tkd_40 tcl_40 tgr_40 toc_40 tlit_40 tcold_40 tccell_40 tcpow_40 tsp_40 twm_40 tdr_40 x2_40 x3_40 x4_40 = some (R, fnd_r, thour_r, tair_r, trub_r, tz_r, tnb_r, tkd_r, tcl_r, tgr_r, toc_r, tlit_r, tcold_r, tccell_r, tcpow_r, tsp_r, twm_r, tdr_r) := hf
          unfold b_X6_mend_40 at hf
          refine ik_iload C 0 rfl dX6_mend_40 ?_
          refine ik_aload_n C 3 rfl rfl dX6_mend_42 ?_
          refine ik_get C inlX6 0 rfl rfl 0 (by decide) wl_1_15 rfl (v := .ref np0) rfl dX6_mend_43 ?_
          refine ik_get C inlX1 2 rfl rfl 0 (by decide) wl_5_4 rfl (v := .ref nw0) rfl dX6_mend_46 ?_
          refine ik_get C inlX5 3 rfl rfl 0 (by decide) wl_28_15 rfl (v := .int nnb) rfl dX6_mend_49 ?_
          refine ik_icmp_ge C 118 dX6_mend_52 (by decide) (fun hc => ?_) (fun hc => ?_)
          · have hf := ik_pos hc hf
            refine ik_iload_n C 2 rfl rfl dX6_mend_118 ?_
            refine ik_if_ge C 131 dX6_mend_119 (by decide) (fun hc => ?_) (fun hc => ?_)
            · have hf := ik_pos hc hf
              refine ik_iload_n C 2 rfl rfl dX6_mend_131 ?_
              cases hf
              exact ik_iretW C hr hlk dX6_mend_132
            · have hf := ik_neg hc hf
              refine ik_aload_n C 3 rfl rfl dX6_mend_122 ?_
              refine ik_ldc C wl_25_9 dX6_mend_123 ?_
              obtain ⟨r3, g4, hc4, hf⟩ := ik_b2s hf
              refine ik_goW [0, 1] rfl rfl (wz_X6ofnt cI cS o0 np0 kp0 tp0 r0 t0 sh0 f0 nw0 nc0 np1 np2 np3 nw1 nw2 nw3 nw4 nc1 nc2 tw0 tc0 tp1 tp2 tp3 tw1 tw2 tw3 tw4 tc1 tc2 isk g4 nhour nair nrub nz nnb nkd ncl ngr noc nlit ncold nccell ncpow nsp nwm ndr thour_40 tair_40 trub_40 tz_40 tnb_40 tkd_40 tcl_40 tgr_40 toc_40 tlit_40 tcold_40 tccell_40 tcpow_40 tsp_40 twm_40 tdr_40) rfl (ik_runV C (c_X6_tell l D cI cS o0 np0 kp0 tp0 r0 t0 sh0 f0 isk fnd (-1000004 : Int32) r3 g4 hc4) mv_X6_tell wl_5_16 ⟨rfl, rfl, Nat.le_of_ble_eq_true rfl, Nat.le_of_ble_eq_true rfl⟩ [0, 1] rfl (by decide) 0 rfl rfl rfl rfl (Nat.le_of_ble_eq_true rfl) dX6_mend_125) rfl ?_
              refine ik_goto C 132 dX6_mend_128 (by decide) ?_
              cases hf
              exact ik_iretW C hr hlk dX6_mend_132
          · have hf := ik_neg hc hf
            refine ik_aload_n C 3 rfl rfl dX6_mend_55 ?_
            refine ik_get C inlX6 0 rfl rfl 0 (by decide) wl_1_15 rfl (v := .ref np0) rfl dX6_mend_56 ?_
            refine ik_get C inlX1 2 rfl rfl 0 (by decide) wl_5_4 rfl (v := .ref nw0) rfl dX6_mend_59 ?_
            refine ik_iload C 0 rfl dX6_mend_62 ?_
            obtain ⟨r3, hc3, hf⟩ := ik_b1s hf
            refine ik_goR (ik_runV C (c_X5_isGone l D cI cS nw0 nw1 nw2 nw3 nw4 nnb nkd ncl ngr noc x4_40 r3 hc3) mv_X5_isGone wl_8_11 ⟨rfl, rfl, Nat.le_of_ble_eq_true rfl, Nat.le_of_ble_eq_true rfl⟩ [3, 4, 5, 6, 7] rfl (by decide) 3 rfl rfl rfl rfl (Nat.le_of_ble_eq_true rfl) dX6_mend_64) rfl ?_
            refine ik_if_eq C 73 dX6_mend_67 (by decide) (fun hc => ?_) (fun hc => ?_)
            · have hf := ik_pos hc hf
              refine ik_aload_n C 3 rfl rfl dX6_mend_73 ?_
              obtain ⟨g4, g5, g6, g7, g8, g9, g10, g11, g12, g13, g14, g15, g16, g17, hc17, hf⟩ := ik_b14s hf
              refine ik_goW [0, 2, 3, 4, 5, 6, 7, 8, 9, 10, 11, 12, 13, 14, 15, 16, 17, 18, 19, 20, 21, 22, 23, 24, 25] rfl rfl (wz_X6ofnt cI cS o0 np0 kp0 tp0 r0 t0 sh0 f0 nw0 nc0 np1 np2 np3 nw1 nw2 nw3 nw4 nc1 nc2 tw0 tc0 tp1 tp2 tp3 tw1 tw2 tw3 tw4 tc1 tc2 isk fnd nhour nair nrub nz nnb nkd ncl ngr noc nlit ncold nccell ncpow nsp nwm ndr g4 g5 g6 g7 g8 g9 g10 g11 g12 g13 g14 g15 g16 g17 twm_40 tdr_40) rfl (ik_runV C (c_X6_freshTrial l D cI cS o0 np0 kp0 tp0 r0 t0 sh0 f0 nw0 nc0 np1 np2 np3 nw1 nw2 nw3 nw4 nc1 nc2 tw0 tc0 tp1 tp2 tp3 tw1 tw2 tw3 tw4 tc1 tc2 isk nhour nair nrub nz nnb nkd ncl ngr noc nlit ncold nccell ncpow nsp nwm ndr thour_40 tair_40 trub_40 tz_40 tnb_40 tkd_40 tcl_40 tgr_40 toc_40 tlit_40 tcold_40 tccell_40 tcpow_40 tsp_40 twm_40 tdr_40 g4 g5 g6 g7 g8 g9 g10 g11 g12 g13 g14 g15 g16 g17 hc17) mv_X6_freshTrial wl_23_10 ⟨rfl, rfl, Nat.le_of_ble_eq_true rfl, Nat.le_of_ble_eq_true rfl⟩ [0, 2, 3, 4, 5, 6, 7, 8, 9, 10, 11, 12, 13, 14, 15, 16, 17, 18, 19, 20, 21, 22, 23, 24, 25] rfl (by decide) 0 rfl rfl rfl rfl (Nat.le_of_ble_eq_true rfl) dX6_mend_74) rfl ?_
              refine ik_astore C [(5, .ref tp0), (4, .int x4_40), (3, .int x3_40), (2, .int x2_40), (0, .ref o0), (1, .int x1)] (by decide) rfl dX6_mend_77 ?_
              refine ik_aload C 0 rfl dX6_mend_79 ?_
              refine ik_get C inlX1 14 rfl rfl 0 (by decide) wl_5_4 rfl (v := .ref tw0) rfl dX6_mend_81 ?_
              refine ik_iload C 1 rfl dX6_mend_84 ?_
              refine ik_iload_n C 5 rfl rfl dX6_mend_86 ?_
              obtain ⟨r18, g19, hc19, hf⟩ := ik_b2s hf
              refine ik_goW [15, 16, 17, 18, 19] rfl rfl (wz_X6ofnt cI cS o0 np0 kp0 tp0 r0 t0 sh0 f0 nw0 nc0 np1 np2 np3 nw1 nw2 nw3 nw4 nc1 nc2 tw0 tc0 tp1 tp2 tp3 tw1 tw2 tw3 tw4 tc1 tc2 isk fnd nhour nair nrub nz nnb nkd ncl ngr noc nlit ncold nccell ncpow nsp nwm ndr g4 g5 g6 g7 g8 g9 g10 g19 g12 g13 g14 g15 g16 g17 twm_40 tdr_40) rfl (ik_runV C (c_X5_thicken l D cI cS tw0 tw1 tw2 tw3 tw4 g8 g9 g10 g11 g12 x4_40 x1 r18 g19 hc19) mv_X5_thicken wl_14_1 ⟨rfl, rfl, Nat.le_of_ble_eq_true rfl, Nat.le_of_ble_eq_true rfl⟩ [15, 16, 17, 18, 19] rfl (by decide) 15 rfl rfl rfl rfl (Nat.le_of_ble_eq_true rfl) dX6_mend_87) rfl ?_
              refine ik_pop C rfl dX6_mend_90 ?_
              refine ik_aload C 0 rfl dX6_mend_91 ?_
              refine ik_bipush (v := (96 : Int32)) C (by decide) dX6_mend_93 ?_
              obtain ⟨r20, g21, g22, g23, g24, g25, g26, g27, g28, hc28, hf⟩ := ik_b9s hf
              refine ik_goW [14, 15, 16, 17, 18, 19, 20, 21, 22, 23, 24, 25] rfl rfl (wz_X6ofnt cI cS o0 np0 kp0 tp0 r0 t0 sh0 f0 nw0 nc0 np1 np2 np3 nw1 nw2 nw3 nw4 nc1 nc2 tw0 tc0 tp1 tp2 tp3 tw1 tw2 tw3 tw4 tc1 tc2 isk fnd nhour nair nrub nz nnb nkd ncl ngr noc nlit ncold nccell ncpow nsp nwm ndr g21 g22 g23 g7 g8 g9 g24 g25 g26 g13 g14 g15 g16 g17 g27 g28) rfl (ik_runV C (c_X1_hoursHeld l D cI cS tp0 tw0 tc0 tp1 tp2 tp3 tw1 tw2 tw3 tw4 tc1 tc2 g4 g5 g6 g7 g8 g9 g10 g19 g12 g13 g14 g15 g16 g17 twm_40 tdr_40 (96 : Int32) r20 g21 g22 g23 g24 g25 g26 g27 g28 hc28) mv_X1_hoursHeld wl_26_7 ⟨rfl, rfl, Nat.le_of_ble_eq_true rfl, Nat.le_of_ble_eq_true rfl⟩ [14, 15, 16, 17, 18, 19, 20, 21, 22, 23, 24, 25] rfl (by decide) 14 rfl rfl rfl rfl (Nat.le_of_ble_eq_true rfl) dX6_mend_95) rfl ?_
              refine ik_istore C [(6, .int r20), (5, .ref tp0), (4, .int x4_40), (3, .int x3_40), (2, .int x2_40), (0, .ref o0), (1, .int x1)] (by decide) rfl dX6_mend_98 ?_
              refine ik_iload C 0 rfl dX6_mend_100 ?_
              refine ik_iload_n C 3 rfl rfl dX6_mend_102 ?_
              refine ik_icmp_le C 112 dX6_mend_103 (by decide) (fun hc => ?_) (fun hc => ?_)
              · have hf := ik_pos hc hf
                refine ik_iinc C [(4, .int (x4_40 + (1 : Int32))), (6, .int r20), (5, .ref tp0), (3, .int x3_40), (2, .int x2_40), (0, .ref o0), (1, .int x1)] 2 rfl rfl (by decide) rfl dX6_mend_112 ?_
                refine ik_goto C 40 dX6_mend_115 (by decide) ?_
                exact ik_sub [0, 3, 4, 5, 6] [(4, .int (x4_40 + (1 : Int32))), (3, .int x3_40), (2, .int x2_40), (0, .ref o0), (1, .int x1)] rfl (ih_40 g21 g22 g23 g7 g8 g9 g24 g25 g26 g13 g14 g15 g16 g17 g27 g28 x2_40 x3_40 (x4_40 + (1 : Int32)) hf)
              · have hf := ik_neg hc hf
                refine ik_iload C 2 rfl dX6_mend_106 ?_
                refine ik_istore_n C [(2, .int x4_40), (6, .int r20), (5, .ref tp0), (4, .int x4_40), (3, .int x3_40), (0, .ref o0), (1, .int x1)] rfl (by decide) rfl dX6_mend_108 ?_
                refine ik_iload C 1 rfl dX6_mend_109 ?_
                refine ik_istore_n C [(3, .int r20), (2, .int x4_40), (6, .int r20), (5, .ref tp0), (4, .int x4_40), (0, .ref o0), (1, .int x1)] rfl (by decide) rfl dX6_mend_111 ?_
                refine ik_iinc C [(4, .int (x4_40 + (1 : Int32))), (3, .int r20), (2, .int x4_40), (6, .int r20), (5, .ref tp0), (0, .ref o0), (1, .int x1)] 4 rfl rfl (by decide) rfl dX6_mend_112 ?_
                refine ik_goto C 40 dX6_mend_115 (by decide) ?_
                exact ik_sub [0, 1, 2, 5, 6] [(4, .int (x4_40 + (1 : Int32))), (3, .int r20), (2, .int x4_40), (0, .ref o0), (1, .int x1)] rfl (ih_40 g21 g22 g23 g7 g8 g9 g24 g25 g26 g13 g14 g15 g16 g17 g27 g28 x4_40 r20 (x4_40 + (1 : Int32)) hf)
            · have hf := ik_neg hc hf
              refine ik_goto C 112 dX6_mend_70 (by decide) ?_
              refine ik_iinc C [(4, .int (x4_40 + (1 : Int32))), (3, .int x3_40), (2, .int x2_40), (0, .ref o0), (1, .int x1)] 0 rfl rfl (by decide) rfl dX6_mend_112 ?_
              refine ik_goto C 40 dX6_mend_115 (by decide) ?_
              exact ik_sub [0, 1, 2, 3, 4] [(4, .int (x4_40 + (1 : Int32))), (3, .int x3_40), (2, .int x2_40), (0, .ref o0), (1, .int x1)] rfl (ih_40 thour_40 tair_40 trub_40 tz_40 tnb_40 tkd_40 tcl_40 tgr_40 toc_40 tlit_40 tcold_40 tccell_40 tcpow_40 tsp_40 twm_40 tdr_40 x2_40 x3_40 (x4_40 + (1 : Int32)) hf)
      exact hL_40 ik_fu thour tair trub tz tnb tkd tcl tgr toc tlit tcold tccell tcpow tsp twm tdr (-1 : Int32) (-1 : Int32) (0 : Int32) hf
    · have hf := ik_pos hc hf
      refine ik_aload_n C 0 rfl rfl dX6_mend_26 ?_
      refine ik_ldc C wl_5_6 dX6_mend_27 ?_
      obtain ⟨r3, g4, hc4, hf⟩ := ik_b2s hf
      refine ik_goW [0, 1] rfl rfl (wz_X6ofnt cI cS o0 np0 kp0 tp0 r0 t0 sh0 f0 nw0 nc0 np1 np2 np3 nw1 nw2 nw3 nw4 nc1 nc2 tw0 tc0 tp1 tp2 tp3 tw1 tw2 tw3 tw4 tc1 tc2 isk g4 nhour nair nrub nz nnb nkd ncl ngr noc nlit ncold nccell ncpow nsp nwm ndr thour tair trub tz tnb tkd tcl tgr toc tlit tcold tccell tcpow tsp twm tdr) rfl (ik_runV C (c_X6_tell l D cI cS o0 np0 kp0 tp0 r0 t0 sh0 f0 isk fnd (-1000005 : Int32) r3 g4 hc4) mv_X6_tell wl_5_16 ⟨rfl, rfl, Nat.le_of_ble_eq_true rfl, Nat.le_of_ble_eq_true rfl⟩ [0, 1] rfl (by decide) 0 rfl rfl rfl rfl (Nat.le_of_ble_eq_true rfl) dX6_mend_29) rfl ?_
      cases hf
      exact ik_iretW C hr hlk dX6_mend_32
  · have hf := ik_pos hc hf
    refine ik_aload_n C 0 rfl rfl dX6_mend_10 ?_
    refine ik_ldc C wl_5_3 dX6_mend_11 ?_
    obtain ⟨r2, g3, hc3, hf⟩ := ik_b2s hf
    refine ik_goW [0, 1] rfl rfl (wz_X6ofnt cI cS o0 np0 kp0 tp0 r0 t0 sh0 f0 nw0 nc0 np1 np2 np3 nw1 nw2 nw3 nw4 nc1 nc2 tw0 tc0 tp1 tp2 tp3 tw1 tw2 tw3 tw4 tc1 tc2 isk g3 nhour nair nrub nz nnb nkd ncl ngr noc nlit ncold nccell ncpow nsp nwm ndr thour tair trub tz tnb tkd tcl tgr toc tlit tcold tccell tcpow tsp twm tdr) rfl (ik_runV C (c_X6_tell l D cI cS o0 np0 kp0 tp0 r0 t0 sh0 f0 isk fnd (-1000001 : Int32) r2 g3 hc3) mv_X6_tell wl_5_16 ⟨rfl, rfl, Nat.le_of_ble_eq_true rfl, Nat.le_of_ble_eq_true rfl⟩ [0, 1] rfl (by decide) 0 rfl rfl rfl rfl (Nat.le_of_ble_eq_true rfl) dX6_mend_13) rfl ?_
    cases hf
    exact ik_iretW C hr hlk dX6_mend_16
theorem mv_X6_whose : ik_V yX6_whose RX6 cX6_whose 7 (some .int) 1 := ⟨wl_28_22, wl_28_23, wl_1_2, wl_29_0, by decide +kernel⟩
set_option maxHeartbeats 4000000 in
set_option maxRecDepth 100000 in
theorem c_X6_whose (l : Launch) (D : va_G) (cI cS : ClassId) (o0 np0 kp0 tp0 r0 t0 sh0 f0 nw0 nc0 np1 np2 np3 nw1 nw2 nw3 nw4 nc1 nc2 tw0 tc0 tp1 tp2 tp3 tw1 tw2 tw3 tw4 tc1 tc2 : Nat) (isk : Int32) (fnd : Nat → Int32) (nhour : Int32) (nair : Int32) (nrub : Int32) (nz : Int32) (nnb : Int32) (nkd : Nat → Int32) (ncl : Nat → Int32) (ngr : Nat → Int32) (noc : Nat → Int32) (nlit : Int32) (ncold : Int32) (nccell : Nat → Int32) (ncpow : Nat → Int32) (nsp : Nat → Int32) (nwm : Nat → Int32) (ndr : Nat → Int32) (thour : Int32) (tair : Int32) (trub : Int32) (tz : Int32) (tnb : Int32) (tkd : Nat → Int32) (tcl : Nat → Int32) (tgr : Nat → Int32) (toc : Nat → Int32) (tlit : Int32) (tcold : Int32) (tccell : Nat → Int32) (tcpow : Nat → Int32) (tsp : Nat → Int32) (twm : Nat → Int32) (tdr : Nat → Int32) (x1 : Int32) (R : Int32) (fnd_r : Nat → Int32) (thour_r : Int32) (tair_r : Int32) (trub_r : Int32) (tz_r : Int32) (tnb_r : Int32) (tkd_r : Nat → Int32) (tcl_r : Nat → Int32) (tgr_r : Nat → Int32) (toc_r : Nat → Int32) (tlit_r : Int32) (tcold_r : Int32) (tccell_r : Nat → Int32) (tcpow_r : Nat → Int32) (tsp_r : Nat → Int32) (twm_r : Nat → Int32) (tdr_r : Nat → Int32) (hf : f_X6_whose fnd nhour nair nrub nz nnb nkd ncl ngr noc nlit ncold nccell ncpow nsp thour tair trub tz tnb tkd tcl tgr toc tlit tcold tccell tcpow tsp twm tdr x1 = some (R, fnd_r, thour_r, tair_r, trub_r, tz_r, tnb_r, tkd_r, tcl_r, tgr_r, toc_r, tlit_r, tcold_r, tccell_r, tcpow_r, tsp_r, twm_r, tdr_r)) : Met l yX6_whose (ik_ws yX6_whose cX6_whose 7 (some .int)) ({ frames := 6, cells := 0, slots := 0, locals := 145 } : Room) (ik_P D cI cS [.ref o0, .int x1] (wz_X6ofnt cI cS o0 np0 kp0 tp0 r0 t0 sh0 f0 nw0 nc0 np1 np2 np3 nw1 nw2 nw3 nw4 nc1 nc2 tw0 tc0 tp1 tp2 tp3 tw1 tw2 tw3 tw4 tc1 tc2 isk fnd nhour nair nrub nz nnb nkd ncl ngr noc nlit ncold nccell ncpow nsp nwm ndr thour tair trub tz tnb tkd tcl tgr toc tlit tcold tccell tcpow tsp twm tdr)) (ik_Q (some (.int R)) D (wz_X6ofnt cI cS o0 np0 kp0 tp0 r0 t0 sh0 f0 nw0 nc0 np1 np2 np3 nw1 nw2 nw3 nw4 nc1 nc2 tw0 tc0 tp1 tp2 tp3 tw1 tw2 tw3 tw4 tc1 tc2 isk fnd_r nhour nair nrub nz nnb nkd ncl ngr noc nlit ncold nccell ncpow nsp nwm ndr thour_r tair_r trub_r tz_r tnb_r tkd_r tcl_r tgr_r toc_r tlit_r tcold_r tccell_r tcpow_r tsp_r twm_r tdr_r) (wz_X6ofnt cI cS o0 np0 kp0 tp0 r0 t0 sh0 f0 nw0 nc0 np1 np2 np3 nw1 nw2 nw3 nw4 nc1 nc2 tw0 tc0 tp1 tp2 tp3 tw1 tw2 tw3 tw4 tc1 tc2 isk fnd nhour nair nrub nz nnb nkd ncl ngr noc nlit ncold nccell ncpow nsp nwm ndr thour tair trub tz tnb tkd tcl tgr toc tlit tcold tccell tcpow tsp twm tdr)) 0 0 (ik_in (wz_X6ofnt cI cS o0 np0 kp0 tp0 r0 t0 sh0 f0 nw0 nc0 np1 np2 np3 nw1 nw2 nw3 nw4 nc1 nc2 tw0 tc0 tp1 tp2 tp3 tw1 tw2 tw3 tw4 tc1 tc2 isk fnd nhour nair nrub nz nnb nkd ncl ngr noc nlit ncold nccell ncpow nsp nwm ndr thour tair trub tz tnb tkd tcl tgr toc tlit tcold tccell tcpow tsp twm tdr)) := by
  refine ik_metW RX6 rfl (by decide) (Nat.le_of_ble_eq_true rfl) [(0, .ref o0), (1, .int x1)] rfl ?_
  intro p e s m below meth c C hr hlk
  unfold f_X6_whose at hf
  refine ik_aload_n C 0 rfl rfl dX6_whose_0 ?_
  refine ik_get C inlX6 0 rfl rfl 0 (by decide) wl_1_15 rfl (v := .ref np0) rfl dX6_whose_1 ?_
  refine ik_get C inlX1 2 rfl rfl 0 (by decide) wl_5_4 rfl (v := .ref nw0) rfl dX6_whose_4 ?_
  refine ik_iload_n C 1 rfl rfl dX6_whose_7 ?_
  obtain ⟨r1, hc1, hf⟩ := ik_b1s hf
  refine ik_goR (ik_runV C (c_X5_isBlock l D cI cS nw0 nw1 nw2 nw3 nw4 nnb nkd ncl ngr noc x1 r1 hc1) mv_X5_isBlock wl_8_7 ⟨rfl, rfl, Nat.le_of_ble_eq_true rfl, Nat.le_of_ble_eq_true rfl⟩ [3, 4, 5, 6, 7] rfl (by decide) 3 rfl rfl rfl rfl (Nat.le_of_ble_eq_true rfl) dX6_whose_8) rfl ?_
  refine ik_if_ne C 21 dX6_whose_11 (by decide) (fun hc => ?_) (fun hc => ?_)
  · have hf := ik_neg hc hf
    refine ik_aload_n C 0 rfl rfl dX6_whose_21 ?_
    refine ik_get C inlX6 0 rfl rfl 0 (by decide) wl_1_15 rfl (v := .ref np0) rfl dX6_whose_22 ?_
    refine ik_get C inlX1 2 rfl rfl 0 (by decide) wl_5_4 rfl (v := .ref nw0) rfl dX6_whose_25 ?_
    refine ik_iload_n C 1 rfl rfl dX6_whose_28 ?_
    obtain ⟨r2, hc2, hf⟩ := ik_b1s hf
    refine ik_goR (ik_runV C (c_X5_isGone l D cI cS nw0 nw1 nw2 nw3 nw4 nnb nkd ncl ngr noc x1 r2 hc2) mv_X5_isGone wl_8_11 ⟨rfl, rfl, Nat.le_of_ble_eq_true rfl, Nat.le_of_ble_eq_true rfl⟩ [3, 4, 5, 6, 7] rfl (by decide) 3 rfl rfl rfl rfl (Nat.le_of_ble_eq_true rfl) dX6_whose_29) rfl ?_
    refine ik_if_ne C 44 dX6_whose_32 (by decide) (fun hc => ?_) (fun hc => ?_)
    · have hf := ik_neg hc hf
      refine ik_aload_n C 0 rfl rfl dX6_whose_44 ?_
      refine ik_ldc C wl_5_6 dX6_whose_45 ?_
      obtain ⟨r3, g4, hc4, hf⟩ := ik_b2s hf
      refine ik_goW [0, 1] rfl rfl (wz_X6ofnt cI cS o0 np0 kp0 tp0 r0 t0 sh0 f0 nw0 nc0 np1 np2 np3 nw1 nw2 nw3 nw4 nc1 nc2 tw0 tc0 tp1 tp2 tp3 tw1 tw2 tw3 tw4 tc1 tc2 isk g4 nhour nair nrub nz nnb nkd ncl ngr noc nlit ncold nccell ncpow nsp nwm ndr thour tair trub tz tnb tkd tcl tgr toc tlit tcold tccell tcpow tsp twm tdr) rfl (ik_runV C (c_X6_tell l D cI cS o0 np0 kp0 tp0 r0 t0 sh0 f0 isk fnd (-1000005 : Int32) r3 g4 hc4) mv_X6_tell wl_5_16 ⟨rfl, rfl, Nat.le_of_ble_eq_true rfl, Nat.le_of_ble_eq_true rfl⟩ [0, 1] rfl (by decide) 0 rfl rfl rfl rfl (Nat.le_of_ble_eq_true rfl) dX6_whose_47) rfl ?_
      cases hf
      exact ik_iretW C hr hlk dX6_whose_50
    · have hf := ik_pos hc hf
      refine ik_aload_n C 0 rfl rfl dX6_whose_35 ?_
      refine ik_bipush (v := (96 : Int32)) C (by decide) dX6_whose_36 ?_
      obtain ⟨r3, hc3, hf⟩ := ik_b1s hf
      refine ik_goR (ik_runV C (c_X6_hasHours l D cI cS o0 np0 kp0 tp0 r0 t0 sh0 f0 nw0 nc0 np1 np2 np3 nw1 nw2 nw3 nw4 nc1 nc2 isk nhour nair nrub nz nnb nkd ncl ngr noc nlit ncold nccell ncpow nsp nwm ndr (96 : Int32) r3 hc3) mv_X6_hasHours wl_17_22 ⟨rfl, rfl, Nat.le_of_ble_eq_true rfl, Nat.le_of_ble_eq_true rfl⟩ [0, 2, 3, 4, 5, 6, 7, 8, 9, 10, 11, 12, 13] rfl (by decide) 0 rfl rfl rfl rfl (Nat.le_of_ble_eq_true rfl) dX6_whose_38) rfl ?_
      refine ik_if_ne C 51 dX6_whose_41 (by decide) (fun hc => ?_) (fun hc => ?_)
      · have hf := ik_neg hc hf
        refine ik_iconst (v := (-1 : Int32)) C (by decide) dX6_whose_51 ?_
        refine ik_istore_n C [(2, .int (-1 : Int32)), (0, .ref o0), (1, .int x1)] rfl (by decide) rfl dX6_whose_52 ?_
        refine ik_iconst (v := (0 : Int32)) C (by decide) dX6_whose_53 ?_
        refine ik_istore_n C [(3, .int (0 : Int32)), (2, .int (-1 : Int32)), (0, .ref o0), (1, .int x1)] rfl (by decide) rfl dX6_whose_54 ?_
        refine ik_iconst (v := (0 : Int32)) C (by decide) dX6_whose_55 ?_
        refine ik_istore C [(4, .int (0 : Int32)), (3, .int (0 : Int32)), (2, .int (-1 : Int32)), (0, .ref o0), (1, .int x1)] (by decide) rfl dX6_whose_56 ?_
        have hL_58 : ∀ (n_58 : Nat) (thour_58 : Int32) (tair_58 : Int32) (trub_58 : Int32) (tz_58 : Int32) (tnb_58 : Int32) (tkd_58 : Nat → Int32) (tcl_58 : Nat → Int32) (tgr_58 : Nat → Int32) (toc_58 : Nat → Int32) (tlit_58 : Int32) (tcold_58 : Int32) (tccell_58 : Nat → Int32) (tcpow_58 : Nat → Int32) (tsp_58 : Nat → Int32) (twm_58 : Nat → Int32) (tdr_58 : Nat → Int32) (x2_58 : Int32) (x3_58 : Int32) (x4_58 : Int32), ik_lp19 (b_X6_whose_58 fnd nhour nair nrub nz nnb nkd ncl ngr noc nlit ncold nccell ncpow nsp x1) n_58 thour_58 tair_58 trub_58 tz_58 tnb_58 tkd_58 tcl_58 tgr_58 toc_58 tlit_58 tcold_58 tccell_58 tcpow_58 tsp_58 twm_58 tdr_58 x2_58 x3_58 x4_58 = some (R, fnd_r, thour_r, tair_r, trub_r, tz_r, tnb_r, tkd_r, tcl_r, tgr_r, toc_r, tlit_r, tcold_r, tccell_r, tcpow_r, tsp_r, twm_r, tdr_r) → ik_G p l e ({ frames := 6, cells := 0, slots := 0, locals := 145 } : Room) s m ([.ref o0, .int x1] : List Value).toArray below meth c D (ik_in (wz_X6ofnt cI cS o0 np0 kp0 tp0 r0 t0 sh0 f0 nw0 nc0 np1 np2 np3 nw1 nw2 nw3 nw4 nc1 nc2 tw0 tc0 tp1 tp2 tp3 tw1 tw2 tw3 tw4 tc1 tc2 isk fnd nhour nair nrub nz nnb nkd ncl ngr noc nlit ncold nccell ncpow nsp nwm ndr thour tair trub tz tnb tkd tcl tgr toc tlit tcold tccell tcpow tsp twm tdr)) (ik_in (wz_X6ofnt cI cS o0 np0 kp0 tp0 r0 t0 sh0 f0 nw0 nc0 np1 np2 np3 nw1 nw2 nw3 nw4 nc1 nc2 tw0 tc0 tp1 tp2 tp3 tw1 tw2 tw3 tw4 tc1 tc2 isk fnd nhour nair nrub nz nnb nkd ncl ngr noc nlit ncold nccell ncpow nsp nwm ndr thour tair trub tz tnb tkd tcl tgr toc tlit tcold tccell tcpow tsp twm tdr)) 7 (MQ below (ik_Q (some (.int R)) D (wz_X6ofnt cI cS o0 np0 kp0 tp0 r0 t0 sh0 f0 nw0 nc0 np1 np2 np3 nw1 nw2 nw3 nw4 nc1 nc2 tw0 tc0 tp1 tp2 tp3 tw1 tw2 tw3 tw4 tc1 tc2 isk fnd_r nhour nair nrub nz nnb nkd ncl ngr noc nlit ncold nccell ncpow nsp nwm ndr thour_r tair_r trub_r tz_r tnb_r tkd_r tcl_r tgr_r toc_r tlit_r tcold_r tccell_r tcpow_r tsp_r twm_r tdr_r) (wz_X6ofnt cI cS o0 np0 kp0 tp0 r0 t0 sh0 f0 nw0 nc0 np1 np2 np3 nw1 nw2 nw3 nw4 nc1 nc2 tw0 tc0 tp1 tp2 tp3 tw1 tw2 tw3 tw4 tc1 tc2 isk fnd nhour nair nrub nz nnb nkd ncl ngr noc nlit ncold nccell ncpow nsp nwm ndr thour tair trub tz tnb tkd tcl tgr toc tlit tcold tccell tcpow tsp twm tdr)) ([.ref o0, .int x1] : List Value).toArray s 0 0 (ik_in (wz_X6ofnt cI cS o0 np0 kp0 tp0 r0 t0 sh0 f0 nw0 nc0 np1 np2 np3 nw1 nw2 nw3 nw4 nc1 nc2 tw0 tc0 tp1 tp2 tp3 tw1 tw2 tw3 tw4 tc1 tc2 isk fnd nhour nair nrub nz nnb nkd ncl ngr noc nlit ncold nccell ncpow nsp nwm ndr thour tair trub tz tnb tkd tcl tgr toc tlit tcold tccell tcpow tsp twm tdr))) 58 [(4, .int x4_58), (3, .int x3_58), (2, .int x2_58), (0, .ref o0), (1, .int x1)] [] (wz_X6ofnt cI cS o0 np0 kp0 tp0 r0 t0 sh0 f0 nw0 nc0 np1 np2 np3 nw1 nw2 nw3 nw4 nc1 nc2 tw0 tc0 tp1 tp2 tp3 tw1 tw2 tw3 tw4 tc1 tc2 isk fnd nhour nair nrub nz nnb nkd ncl ngr noc nlit ncold nccell ncpow nsp nwm ndr thour_58 tair_58 trub_58 tz_58 tnb_58 tkd_58 tcl_58 tgr_58 toc_58 tlit_58 tcold_58 tccell_58 tcpow_58 tsp_58 twm_58 tdr_58) := by
          intro n_58
          induction n_58 with
          | zero => intro _ _ _ _ _ _ _ _ _ _ _ _ _ _ _ _ _ _ _ hf; exact nomatch hf
          | succ n_58 ih_58 =>
            intro thour_58 tair_58 trub_58 tz_58 tnb_58 tkd_58 tcl_58 tgr_58 toc_58 tlit_58 tcold_58 tccell_58 tcpow_58 tsp_58 twm_58 tdr_58 x2_58 x3_58 x4_58 hf
            replace hf : b_X6_whose_58 fnd nhour nair nrub nz nnb nkd ncl ngr noc nlit ncold nccell ncpow nsp x1 (ik_lp19 (b_X6_whose_58 fnd nhour nair nrub nz nnb nkd ncl ngr noc nlit ncold nccell ncpow nsp x1) n_58) thour_58 tair_58 trub_58 tz_58 tnb_58 tkd_58 tcl_58 tgr_58 toc_58 tlit_58 tcold_58 tccell_58 tcpow_58 tsp_58 twm_58 tdr_58 x2_58 x3_58 x4_58 = some (R, fnd_r, thour_r, tair_r, trub_r, tz_r, tnb_r, tkd_r, tcl_r, tgr_r, toc_r, tlit_r, tcold_r, tccell_r, tcpow_r, tsp_r, twm_r, tdr_r) := hf
            unfold b_X6_whose_58 at hf
            refine ik_iload C 0 rfl dX6_whose_58 ?_
            refine ik_bipush (v := (6 : Int32)) C (by decide) dX6_whose_60 ?_
            refine ik_icmp_ge C 128 dX6_whose_62 (by decide) (fun hc => ?_) (fun hc => ?_)
            · have hf := ik_pos hc hf
              refine ik_iload_n C 2 rfl rfl dX6_whose_128 ?_
              refine ik_if_ge C 141 dX6_whose_129 (by decide) (fun hc => ?_) (fun hc => ?_)
              · have hf := ik_pos hc hf
                refine ik_iload_n C 2 rfl rfl dX6_whose_141 ?_
                cases hf
                exact ik_iretW C hr hlk dX6_whose_142
              · have hf := ik_neg hc hf
                refine ik_aload_n C 3 rfl rfl dX6_whose_132 ?_
                refine ik_ldc C wl_25_9 dX6_whose_133 ?_
                obtain ⟨r4, g5, hc5, hf⟩ := ik_b2s hf
                refine ik_goW [0, 1] rfl rfl (wz_X6ofnt cI cS o0 np0 kp0 tp0 r0 t0 sh0 f0 nw0 nc0 np1 np2 np3 nw1 nw2 nw3 nw4 nc1 nc2 tw0 tc0 tp1 tp2 tp3 tw1 tw2 tw3 tw4 tc1 tc2 isk g5 nhour nair nrub nz nnb nkd ncl ngr noc nlit ncold nccell ncpow nsp nwm ndr thour_58 tair_58 trub_58 tz_58 tnb_58 tkd_58 tcl_58 tgr_58 toc_58 tlit_58 tcold_58 tccell_58 tcpow_58 tsp_58 twm_58 tdr_58) rfl (ik_runV C (c_X6_tell l D cI cS o0 np0 kp0 tp0 r0 t0 sh0 f0 isk fnd (-1000004 : Int32) r4 g5 hc5) mv_X6_tell wl_5_16 ⟨rfl, rfl, Nat.le_of_ble_eq_true rfl, Nat.le_of_ble_eq_true rfl⟩ [0, 1] rfl (by decide) 0 rfl rfl rfl rfl (Nat.le_of_ble_eq_true rfl) dX6_whose_135) rfl ?_
                refine ik_goto C 142 dX6_whose_138 (by decide) ?_
                cases hf
                exact ik_iretW C hr hlk dX6_whose_142
            · have hf := ik_neg hc hf
              refine ik_aload_n C 3 rfl rfl dX6_whose_65 ?_
              refine ik_get C inlX6 0 rfl rfl 0 (by decide) wl_1_15 rfl (v := .ref np0) rfl dX6_whose_66 ?_
              refine ik_get C inlX1 2 rfl rfl 1 (by decide) wl_13_8 rfl (v := .ref nc0) rfl dX6_whose_69 ?_
              refine ik_iload C 0 rfl dX6_whose_72 ?_
              obtain ⟨r4, hc4, hf⟩ := ik_b1s hf
              refine ik_goR (ik_runV C (c_X0_isLit l D cI cS nc0 nc1 nc2 nlit ncold nccell ncpow x4_58 r4 hc4) mv_X0_isLit wl_16_1 ⟨rfl, rfl, Nat.le_of_ble_eq_true rfl, Nat.le_of_ble_eq_true rfl⟩ [8, 9, 10] rfl (by decide) 8 rfl rfl rfl rfl (Nat.le_of_ble_eq_true rfl) dX6_whose_74) rfl ?_
              refine ik_if_ne C 83 dX6_whose_77 (by decide) (fun hc => ?_) (fun hc => ?_)
              · have hf := ik_neg hc hf
                refine ik_aload_n C 3 rfl rfl dX6_whose_83 ?_
                obtain ⟨g5, g6, g7, g8, g9, g10, g11, g12, g13, g14, g15, g16, g17, g18, hc18, hf⟩ := ik_b14s hf
                refine ik_goW [0, 2, 3, 4, 5, 6, 7, 8, 9, 10, 11, 12, 13, 14, 15, 16, 17, 18, 19, 20, 21, 22, 23, 24, 25] rfl rfl (wz_X6ofnt cI cS o0 np0 kp0 tp0 r0 t0 sh0 f0 nw0 nc0 np1 np2 np3 nw1 nw2 nw3 nw4 nc1 nc2 tw0 tc0 tp1 tp2 tp3 tw1 tw2 tw3 tw4 tc1 tc2 isk fnd nhour nair nrub nz nnb nkd ncl ngr noc nlit ncold nccell ncpow nsp nwm ndr g5 g6 g7 g8 g9 g10 g11 g12 g13 g14 g15 g16 g17 g18 twm_58 tdr_58) rfl (ik_runV C (c_X6_freshTrial l D cI cS o0 np0 kp0 tp0 r0 t0 sh0 f0 nw0 nc0 np1 np2 np3 nw1 nw2 nw3 nw4 nc1 nc2 tw0 tc0 tp1 tp2 tp3 tw1 tw2 tw3 tw4 tc1 tc2 isk nhour nair nrub nz nnb nkd ncl ngr noc nlit ncold nccell ncpow nsp nwm ndr thour_58 tair_58 trub_58 tz_58 tnb_58 tkd_58 tcl_58 tgr_58 toc_58 tlit_58 tcold_58 tccell_58 tcpow_58 tsp_58 twm_58 tdr_58 g5 g6 g7 g8 g9 g10 g11 g12 g13 g14 g15 g16 g17 g18 hc18) mv_X6_freshTrial wl_23_10 ⟨rfl, rfl, Nat.le_of_ble_eq_true rfl, Nat.le_of_ble_eq_true rfl⟩ [0, 2, 3, 4, 5, 6, 7, 8, 9, 10, 11, 12, 13, 14, 15, 16, 17, 18, 19, 20, 21, 22, 23, 24, 25] rfl (by decide) 0 rfl rfl rfl rfl (Nat.le_of_ble_eq_true rfl) dX6_whose_84) rfl ?_
                refine ik_astore C [(5, .ref tp0), (4, .int x4_58), (3, .int x3_58), (2, .int x2_58), (0, .ref o0), (1, .int x1)] (by decide) rfl dX6_whose_87 ?_
                refine ik_aload C 0 rfl dX6_whose_89 ?_
                refine ik_get C inlX1 14 rfl rfl 1 (by decide) wl_13_8 rfl (v := .ref tc0) rfl dX6_whose_91 ?_
                refine ik_iload C 1 rfl dX6_whose_94 ?_
                refine ik_iconst (v := (0 : Int32)) C (by decide) dX6_whose_96 ?_
                obtain ⟨g19, hc19, hf⟩ := ik_b1s hf
                refine ik_goW [20, 21, 22] rfl rfl (wz_X6ofnt cI cS o0 np0 kp0 tp0 r0 t0 sh0 f0 nw0 nc0 np1 np2 np3 nw1 nw2 nw3 nw4 nc1 nc2 tw0 tc0 tp1 tp2 tp3 tw1 tw2 tw3 tw4 tc1 tc2 isk fnd nhour nair nrub nz nnb nkd ncl ngr noc nlit ncold nccell ncpow nsp nwm ndr g5 g6 g7 g8 g9 g10 g11 g12 g13 g19 g15 g16 g17 g18 twm_58 tdr_58) rfl (ik_runV C (c_X0_setLit l D cI cS tc0 tc1 tc2 g14 g15 g16 g17 x4_58 (0 : Int32) g19 hc19) mv_X0_setLit wl_16_2 ⟨rfl, rfl, Nat.le_of_ble_eq_true rfl, Nat.le_of_ble_eq_true rfl⟩ [20, 21, 22] rfl (by decide) 20 rfl rfl rfl rfl (Nat.le_of_ble_eq_true rfl) dX6_whose_97) rfl ?_
                refine ik_aload C 0 rfl dX6_whose_100 ?_
                refine ik_iload_n C 5 rfl rfl dX6_whose_102 ?_
                refine ik_bipush (v := (96 : Int32)) C (by decide) dX6_whose_103 ?_
                obtain ⟨r20, g21, g22, g23, g24, g25, g26, g27, g28, hc28, hf⟩ := ik_b9s hf
                refine ik_goW [14, 15, 16, 17, 18, 19, 20, 21, 22, 23, 24, 25] rfl rfl (wz_X6ofnt cI cS o0 np0 kp0 tp0 r0 t0 sh0 f0 nw0 nc0 np1 np2 np3 nw1 nw2 nw3 nw4 nc1 nc2 tw0 tc0 tp1 tp2 tp3 tw1 tw2 tw3 tw4 tc1 tc2 isk fnd nhour nair nrub nz nnb nkd ncl ngr noc nlit ncold nccell ncpow nsp nwm ndr g21 g22 g23 g8 g9 g10 g24 g25 g26 g19 g15 g16 g17 g18 g27 g28) rfl (ik_runV C (c_X1_goneIn l D cI cS tp0 tw0 tc0 tp1 tp2 tp3 tw1 tw2 tw3 tw4 tc1 tc2 g5 g6 g7 g8 g9 g10 g11 g12 g13 g19 g15 g16 g17 g18 twm_58 tdr_58 x1 (96 : Int32) r20 g21 g22 g23 g24 g25 g26 g27 g28 hc28) mv_X1_goneIn wl_25_10 ⟨rfl, rfl, Nat.le_of_ble_eq_true rfl, Nat.le_of_ble_eq_true rfl⟩ [14, 15, 16, 17, 18, 19, 20, 21, 22, 23, 24, 25] rfl (by decide) 14 rfl rfl rfl rfl (Nat.le_of_ble_eq_true rfl) dX6_whose_105) rfl ?_
                refine ik_istore C [(6, .int r20), (5, .ref tp0), (4, .int x4_58), (3, .int x3_58), (2, .int x2_58), (0, .ref o0), (1, .int x1)] (by decide) rfl dX6_whose_108 ?_
                refine ik_iload C 0 rfl dX6_whose_110 ?_
                refine ik_iload_n C 3 rfl rfl dX6_whose_112 ?_
                refine ik_icmp_le C 122 dX6_whose_113 (by decide) (fun hc => ?_) (fun hc => ?_)
                · have hf := ik_pos hc hf
                  refine ik_iinc C [(4, .int (x4_58 + (1 : Int32))), (6, .int r20), (5, .ref tp0), (3, .int x3_58), (2, .int x2_58), (0, .ref o0), (1, .int x1)] 2 rfl rfl (by decide) rfl dX6_whose_122 ?_
                  refine ik_goto C 58 dX6_whose_125 (by decide) ?_
                  exact ik_sub [0, 3, 4, 5, 6] [(4, .int (x4_58 + (1 : Int32))), (3, .int x3_58), (2, .int x2_58), (0, .ref o0), (1, .int x1)] rfl (ih_58 g21 g22 g23 g8 g9 g10 g24 g25 g26 g19 g15 g16 g17 g18 g27 g28 x2_58 x3_58 (x4_58 + (1 : Int32)) hf)
                · have hf := ik_neg hc hf
                  refine ik_iload C 2 rfl dX6_whose_116 ?_
                  refine ik_istore_n C [(2, .int x4_58), (6, .int r20), (5, .ref tp0), (4, .int x4_58), (3, .int x3_58), (0, .ref o0), (1, .int x1)] rfl (by decide) rfl dX6_whose_118 ?_
                  refine ik_iload C 1 rfl dX6_whose_119 ?_
                  refine ik_istore_n C [(3, .int r20), (2, .int x4_58), (6, .int r20), (5, .ref tp0), (4, .int x4_58), (0, .ref o0), (1, .int x1)] rfl (by decide) rfl dX6_whose_121 ?_
                  refine ik_iinc C [(4, .int (x4_58 + (1 : Int32))), (3, .int r20), (2, .int x4_58), (6, .int r20), (5, .ref tp0), (0, .ref o0), (1, .int x1)] 4 rfl rfl (by decide) rfl dX6_whose_122 ?_
                  refine ik_goto C 58 dX6_whose_125 (by decide) ?_
                  exact ik_sub [0, 1, 2, 5, 6] [(4, .int (x4_58 + (1 : Int32))), (3, .int r20), (2, .int x4_58), (0, .ref o0), (1, .int x1)] rfl (ih_58 g21 g22 g23 g8 g9 g10 g24 g25 g26 g19 g15 g16 g17 g18 g27 g28 x4_58 r20 (x4_58 + (1 : Int32)) hf)
              · have hf := ik_pos hc hf
                refine ik_goto C 122 dX6_whose_80 (by decide) ?_
                refine ik_iinc C [(4, .int (x4_58 + (1 : Int32))), (3, .int x3_58), (2, .int x2_58), (0, .ref o0), (1, .int x1)] 0 rfl rfl (by decide) rfl dX6_whose_122 ?_
                refine ik_goto C 58 dX6_whose_125 (by decide) ?_
                exact ik_sub [0, 1, 2, 3, 4] [(4, .int (x4_58 + (1 : Int32))), (3, .int x3_58), (2, .int x2_58), (0, .ref o0), (1, .int x1)] rfl (ih_58 thour_58 tair_58 trub_58 tz_58 tnb_58 tkd_58 tcl_58 tgr_58 toc_58 tlit_58 tcold_58 tccell_58 tcpow_58 tsp_58 twm_58 tdr_58 x2_58 x3_58 (x4_58 + (1 : Int32)) hf)
        exact hL_58 ik_fu thour tair trub tz tnb tkd tcl tgr toc tlit tcold tccell tcpow tsp twm tdr (-1 : Int32) (0 : Int32) (0 : Int32) hf
      · have hf := ik_pos hc hf
        refine ik_aload_n C 0 rfl rfl dX6_whose_44 ?_
        refine ik_ldc C wl_5_6 dX6_whose_45 ?_
        obtain ⟨r4, g5, hc5, hf⟩ := ik_b2s hf
        refine ik_goW [0, 1] rfl rfl (wz_X6ofnt cI cS o0 np0 kp0 tp0 r0 t0 sh0 f0 nw0 nc0 np1 np2 np3 nw1 nw2 nw3 nw4 nc1 nc2 tw0 tc0 tp1 tp2 tp3 tw1 tw2 tw3 tw4 tc1 tc2 isk g5 nhour nair nrub nz nnb nkd ncl ngr noc nlit ncold nccell ncpow nsp nwm ndr thour tair trub tz tnb tkd tcl tgr toc tlit tcold tccell tcpow tsp twm tdr) rfl (ik_runV C (c_X6_tell l D cI cS o0 np0 kp0 tp0 r0 t0 sh0 f0 isk fnd (-1000005 : Int32) r4 g5 hc5) mv_X6_tell wl_5_16 ⟨rfl, rfl, Nat.le_of_ble_eq_true rfl, Nat.le_of_ble_eq_true rfl⟩ [0, 1] rfl (by decide) 0 rfl rfl rfl rfl (Nat.le_of_ble_eq_true rfl) dX6_whose_47) rfl ?_
        cases hf
        exact ik_iretW C hr hlk dX6_whose_50
  · have hf := ik_pos hc hf
    refine ik_aload_n C 0 rfl rfl dX6_whose_14 ?_
    refine ik_ldc C wl_5_3 dX6_whose_15 ?_
    obtain ⟨r2, g3, hc3, hf⟩ := ik_b2s hf
    refine ik_goW [0, 1] rfl rfl (wz_X6ofnt cI cS o0 np0 kp0 tp0 r0 t0 sh0 f0 nw0 nc0 np1 np2 np3 nw1 nw2 nw3 nw4 nc1 nc2 tw0 tc0 tp1 tp2 tp3 tw1 tw2 tw3 tw4 tc1 tc2 isk g3 nhour nair nrub nz nnb nkd ncl ngr noc nlit ncold nccell ncpow nsp nwm ndr thour tair trub tz tnb tkd tcl tgr toc tlit tcold tccell tcpow tsp twm tdr) rfl (ik_runV C (c_X6_tell l D cI cS o0 np0 kp0 tp0 r0 t0 sh0 f0 isk fnd (-1000001 : Int32) r2 g3 hc3) mv_X6_tell wl_5_16 ⟨rfl, rfl, Nat.le_of_ble_eq_true rfl, Nat.le_of_ble_eq_true rfl⟩ [0, 1] rfl (by decide) 0 rfl rfl rfl rfl (Nat.le_of_ble_eq_true rfl) dX6_whose_17) rfl ?_
    cases hf
    exact ik_iretW C hr hlk dX6_whose_20
theorem mv_X6_drawing : ik_V yX6_drawing RX6 cX6_drawing 8 (some .int) 3 := ⟨wl_29_6, wl_29_7, wl_1_2, wl_29_8, by decide +kernel⟩
set_option maxHeartbeats 4000000 in
set_option maxRecDepth 100000 in
theorem c_X6_drawing (l : Launch) (D : va_G) (cI cS : ClassId) (o0 np0 kp0 tp0 r0 t0 sh0 f0 nw0 nc0 np1 np2 np3 nw1 nw2 nw3 nw4 nc1 nc2 tw0 tc0 tp1 tp2 tp3 tw1 tw2 tw3 tw4 tc1 tc2 : Nat) (isk : Int32) (fnd : Nat → Int32) (nhour : Int32) (nair : Int32) (nrub : Int32) (nz : Int32) (nnb : Int32) (nkd : Nat → Int32) (ncl : Nat → Int32) (ngr : Nat → Int32) (noc : Nat → Int32) (nlit : Int32) (ncold : Int32) (nccell : Nat → Int32) (ncpow : Nat → Int32) (nsp : Nat → Int32) (nwm : Nat → Int32) (ndr : Nat → Int32) (thour : Int32) (tair : Int32) (trub : Int32) (tz : Int32) (tnb : Int32) (tkd : Nat → Int32) (tcl : Nat → Int32) (tgr : Nat → Int32) (toc : Nat → Int32) (tlit : Int32) (tcold : Int32) (tccell : Nat → Int32) (tcpow : Nat → Int32) (tsp : Nat → Int32) (twm : Nat → Int32) (tdr : Nat → Int32) (x1 : Int32) (x2 : Int32) (x3 : Int32) (R : Int32) (fnd_r : Nat → Int32) (thour_r : Int32) (tair_r : Int32) (trub_r : Int32) (tz_r : Int32) (tnb_r : Int32) (tkd_r : Nat → Int32) (tcl_r : Nat → Int32) (tgr_r : Nat → Int32) (toc_r : Nat → Int32) (tlit_r : Int32) (tcold_r : Int32) (tccell_r : Nat → Int32) (tcpow_r : Nat → Int32) (tsp_r : Nat → Int32) (twm_r : Nat → Int32) (tdr_r : Nat → Int32) (hf : f_X6_drawing fnd nhour nair nrub nz nnb nkd ncl ngr noc nlit ncold nccell ncpow nsp thour tair trub tz tnb tkd tcl tgr toc tlit tcold tccell tcpow tsp twm tdr x1 x2 x3 = some (R, fnd_r, thour_r, tair_r, trub_r, tz_r, tnb_r, tkd_r, tcl_r, tgr_r, toc_r, tlit_r, tcold_r, tccell_r, tcpow_r, tsp_r, twm_r, tdr_r)) : Met l yX6_drawing (ik_ws yX6_drawing cX6_drawing 8 (some .int)) ({ frames := 6, cells := 0, slots := 0, locals := 145 } : Room) (ik_P D cI cS [.ref o0, .int x1, .int x2, .int x3] (wz_X6ofnt cI cS o0 np0 kp0 tp0 r0 t0 sh0 f0 nw0 nc0 np1 np2 np3 nw1 nw2 nw3 nw4 nc1 nc2 tw0 tc0 tp1 tp2 tp3 tw1 tw2 tw3 tw4 tc1 tc2 isk fnd nhour nair nrub nz nnb nkd ncl ngr noc nlit ncold nccell ncpow nsp nwm ndr thour tair trub tz tnb tkd tcl tgr toc tlit tcold tccell tcpow tsp twm tdr)) (ik_Q (some (.int R)) D (wz_X6ofnt cI cS o0 np0 kp0 tp0 r0 t0 sh0 f0 nw0 nc0 np1 np2 np3 nw1 nw2 nw3 nw4 nc1 nc2 tw0 tc0 tp1 tp2 tp3 tw1 tw2 tw3 tw4 tc1 tc2 isk fnd_r nhour nair nrub nz nnb nkd ncl ngr noc nlit ncold nccell ncpow nsp nwm ndr thour_r tair_r trub_r tz_r tnb_r tkd_r tcl_r tgr_r toc_r tlit_r tcold_r tccell_r tcpow_r tsp_r twm_r tdr_r) (wz_X6ofnt cI cS o0 np0 kp0 tp0 r0 t0 sh0 f0 nw0 nc0 np1 np2 np3 nw1 nw2 nw3 nw4 nc1 nc2 tw0 tc0 tp1 tp2 tp3 tw1 tw2 tw3 tw4 tc1 tc2 isk fnd nhour nair nrub nz nnb nkd ncl ngr noc nlit ncold nccell ncpow nsp nwm ndr thour tair trub tz tnb tkd tcl tgr toc tlit tcold tccell tcpow tsp twm tdr)) 0 0 (ik_in (wz_X6ofnt cI cS o0 np0 kp0 tp0 r0 t0 sh0 f0 nw0 nc0 np1 np2 np3 nw1 nw2 nw3 nw4 nc1 nc2 tw0 tc0 tp1 tp2 tp3 tw1 tw2 tw3 tw4 tc1 tc2 isk fnd nhour nair nrub nz nnb nkd ncl ngr noc nlit ncold nccell ncpow nsp nwm ndr thour tair trub tz tnb tkd tcl tgr toc tlit tcold tccell tcpow tsp twm tdr)) := by
  refine ik_metW RX6 rfl (by decide) (Nat.le_of_ble_eq_true rfl) [(0, .ref o0), (1, .int x1), (2, .int x2), (3, .int x3)] rfl ?_
  intro p e s m below meth c C hr hlk
  unfold f_X6_drawing at hf
  refine ik_aload_n C 0 rfl rfl dX6_drawing_0 ?_
  refine ik_get C inlX6 0 rfl rfl 0 (by decide) wl_1_15 rfl (v := .ref np0) rfl dX6_drawing_1 ?_
  refine ik_get C inlX1 2 rfl rfl 0 (by decide) wl_5_4 rfl (v := .ref nw0) rfl dX6_drawing_4 ?_
  refine ik_iload_n C 1 rfl rfl dX6_drawing_7 ?_
  obtain ⟨r1, hc1, hf⟩ := ik_b1s hf
  refine ik_goR (ik_runV C (c_X5_isBlock l D cI cS nw0 nw1 nw2 nw3 nw4 nnb nkd ncl ngr noc x1 r1 hc1) mv_X5_isBlock wl_8_7 ⟨rfl, rfl, Nat.le_of_ble_eq_true rfl, Nat.le_of_ble_eq_true rfl⟩ [3, 4, 5, 6, 7] rfl (by decide) 3 rfl rfl rfl rfl (Nat.le_of_ble_eq_true rfl) dX6_drawing_8) rfl ?_
  refine ik_if_eq C 34 dX6_drawing_11 (by decide) (fun hc => ?_) (fun hc => ?_)
  · have hf := ik_pos hc hf
    refine ik_aload_n C 0 rfl rfl dX6_drawing_34 ?_
    refine ik_ldc C wl_5_3 dX6_drawing_35 ?_
    obtain ⟨r2, g3, hc3, hf⟩ := ik_b2s hf
    refine ik_goW [0, 1] rfl rfl (wz_X6ofnt cI cS o0 np0 kp0 tp0 r0 t0 sh0 f0 nw0 nc0 np1 np2 np3 nw1 nw2 nw3 nw4 nc1 nc2 tw0 tc0 tp1 tp2 tp3 tw1 tw2 tw3 tw4 tc1 tc2 isk g3 nhour nair nrub nz nnb nkd ncl ngr noc nlit ncold nccell ncpow nsp nwm ndr thour tair trub tz tnb tkd tcl tgr toc tlit tcold tccell tcpow tsp twm tdr) rfl (ik_runV C (c_X6_tell l D cI cS o0 np0 kp0 tp0 r0 t0 sh0 f0 isk fnd (-1000001 : Int32) r2 g3 hc3) mv_X6_tell wl_5_16 ⟨rfl, rfl, Nat.le_of_ble_eq_true rfl, Nat.le_of_ble_eq_true rfl⟩ [0, 1] rfl (by decide) 0 rfl rfl rfl rfl (Nat.le_of_ble_eq_true rfl) dX6_drawing_37) rfl ?_
    cases hf
    exact ik_iretW C hr hlk dX6_drawing_40
  · have hf := ik_neg hc hf
    refine ik_iload_n C 2 rfl rfl dX6_drawing_14 ?_
    refine ik_iconst (v := (1 : Int32)) C (by decide) dX6_drawing_15 ?_
    refine ik_bipush (v := (24 : Int32)) C (by decide) dX6_drawing_16 ?_
    obtain ⟨r2, hc2, hf⟩ := ik_b1s hf
    refine ik_goR (ik_runS C (c_X6_isWithin l D cI cS x2 (1 : Int32) (24 : Int32) r2 hc2) ms_X6_isWithin wl_5_10 ⟨rfl, rfl, Nat.le_of_ble_eq_true rfl, Nat.le_of_ble_eq_true rfl⟩ [] rfl (by decide) rfl rfl (Nat.le_of_ble_eq_true rfl) dX6_drawing_18) rfl ?_
    refine ik_if_eq C 34 dX6_drawing_21 (by decide) (fun hc => ?_) (fun hc => ?_)
    · have hf := ik_pos hc hf
      refine ik_aload_n C 0 rfl rfl dX6_drawing_34 ?_
      refine ik_ldc C wl_5_3 dX6_drawing_35 ?_
      obtain ⟨r3, g4, hc4, hf⟩ := ik_b2s hf
      refine ik_goW [0, 1] rfl rfl (wz_X6ofnt cI cS o0 np0 kp0 tp0 r0 t0 sh0 f0 nw0 nc0 np1 np2 np3 nw1 nw2 nw3 nw4 nc1 nc2 tw0 tc0 tp1 tp2 tp3 tw1 tw2 tw3 tw4 tc1 tc2 isk g4 nhour nair nrub nz nnb nkd ncl ngr noc nlit ncold nccell ncpow nsp nwm ndr thour tair trub tz tnb tkd tcl tgr toc tlit tcold tccell tcpow tsp twm tdr) rfl (ik_runV C (c_X6_tell l D cI cS o0 np0 kp0 tp0 r0 t0 sh0 f0 isk fnd (-1000001 : Int32) r3 g4 hc4) mv_X6_tell wl_5_16 ⟨rfl, rfl, Nat.le_of_ble_eq_true rfl, Nat.le_of_ble_eq_true rfl⟩ [0, 1] rfl (by decide) 0 rfl rfl rfl rfl (Nat.le_of_ble_eq_true rfl) dX6_drawing_37) rfl ?_
      cases hf
      exact ik_iretW C hr hlk dX6_drawing_40
    · have hf := ik_neg hc hf
      refine ik_iload_n C 3 rfl rfl dX6_drawing_24 ?_
      refine ik_iconst (v := (0 : Int32)) C (by decide) dX6_drawing_25 ?_
      refine ik_bipush (v := (99 : Int32)) C (by decide) dX6_drawing_26 ?_
      obtain ⟨r3, hc3, hf⟩ := ik_b1s hf
      refine ik_goR (ik_runS C (c_X6_isWithin l D cI cS x3 (0 : Int32) (99 : Int32) r3 hc3) ms_X6_isWithin wl_5_10 ⟨rfl, rfl, Nat.le_of_ble_eq_true rfl, Nat.le_of_ble_eq_true rfl⟩ [] rfl (by decide) rfl rfl (Nat.le_of_ble_eq_true rfl) dX6_drawing_28) rfl ?_
      refine ik_if_ne C 41 dX6_drawing_31 (by decide) (fun hc => ?_) (fun hc => ?_)
      · have hf := ik_neg hc hf
        refine ik_aload_n C 0 rfl rfl dX6_drawing_41 ?_
        refine ik_get C inlX6 0 rfl rfl 0 (by decide) wl_1_15 rfl (v := .ref np0) rfl dX6_drawing_42 ?_
        refine ik_get C inlX1 2 rfl rfl 0 (by decide) wl_5_4 rfl (v := .ref nw0) rfl dX6_drawing_45 ?_
        refine ik_iload_n C 1 rfl rfl dX6_drawing_48 ?_
        obtain ⟨r4, hc4, hf⟩ := ik_b1s hf
        refine ik_goR (ik_runV C (c_X5_isGone l D cI cS nw0 nw1 nw2 nw3 nw4 nnb nkd ncl ngr noc x1 r4 hc4) mv_X5_isGone wl_8_11 ⟨rfl, rfl, Nat.le_of_ble_eq_true rfl, Nat.le_of_ble_eq_true rfl⟩ [3, 4, 5, 6, 7] rfl (by decide) 3 rfl rfl rfl rfl (Nat.le_of_ble_eq_true rfl) dX6_drawing_49) rfl ?_
        refine ik_if_ne C 63 dX6_drawing_52 (by decide) (fun hc => ?_) (fun hc => ?_)
        · have hf := ik_neg hc hf
          refine ik_aload_n C 0 rfl rfl dX6_drawing_63 ?_
          refine ik_ldc C wl_5_6 dX6_drawing_64 ?_
          obtain ⟨r5, g6, hc6, hf⟩ := ik_b2s hf
          refine ik_goW [0, 1] rfl rfl (wz_X6ofnt cI cS o0 np0 kp0 tp0 r0 t0 sh0 f0 nw0 nc0 np1 np2 np3 nw1 nw2 nw3 nw4 nc1 nc2 tw0 tc0 tp1 tp2 tp3 tw1 tw2 tw3 tw4 tc1 tc2 isk g6 nhour nair nrub nz nnb nkd ncl ngr noc nlit ncold nccell ncpow nsp nwm ndr thour tair trub tz tnb tkd tcl tgr toc tlit tcold tccell tcpow tsp twm tdr) rfl (ik_runV C (c_X6_tell l D cI cS o0 np0 kp0 tp0 r0 t0 sh0 f0 isk fnd (-1000005 : Int32) r5 g6 hc6) mv_X6_tell wl_5_16 ⟨rfl, rfl, Nat.le_of_ble_eq_true rfl, Nat.le_of_ble_eq_true rfl⟩ [0, 1] rfl (by decide) 0 rfl rfl rfl rfl (Nat.le_of_ble_eq_true rfl) dX6_drawing_66) rfl ?_
          cases hf
          exact ik_iretW C hr hlk dX6_drawing_69
        · have hf := ik_pos hc hf
          refine ik_aload_n C 0 rfl rfl dX6_drawing_55 ?_
          refine ik_iload_n C 2 rfl rfl dX6_drawing_56 ?_
          obtain ⟨r5, hc5, hf⟩ := ik_b1s hf
          refine ik_goR (ik_runV C (c_X6_hasHours l D cI cS o0 np0 kp0 tp0 r0 t0 sh0 f0 nw0 nc0 np1 np2 np3 nw1 nw2 nw3 nw4 nc1 nc2 isk nhour nair nrub nz nnb nkd ncl ngr noc nlit ncold nccell ncpow nsp nwm ndr x2 r5 hc5) mv_X6_hasHours wl_17_22 ⟨rfl, rfl, Nat.le_of_ble_eq_true rfl, Nat.le_of_ble_eq_true rfl⟩ [0, 2, 3, 4, 5, 6, 7, 8, 9, 10, 11, 12, 13] rfl (by decide) 0 rfl rfl rfl rfl (Nat.le_of_ble_eq_true rfl) dX6_drawing_57) rfl ?_
          refine ik_if_ne C 70 dX6_drawing_60 (by decide) (fun hc => ?_) (fun hc => ?_)
          · have hf := ik_neg hc hf
            refine ik_iconst (v := (0 : Int32)) C (by decide) dX6_drawing_70 ?_
            refine ik_istore C [(4, .int (0 : Int32)), (0, .ref o0), (1, .int x1), (2, .int x2), (3, .int x3)] (by decide) rfl dX6_drawing_71 ?_
            refine ik_iconst (v := (0 : Int32)) C (by decide) dX6_drawing_73 ?_
            refine ik_istore C [(5, .int (0 : Int32)), (4, .int (0 : Int32)), (0, .ref o0), (1, .int x1), (2, .int x2), (3, .int x3)] (by decide) rfl dX6_drawing_74 ?_
            refine ik_bipush (v := (20 : Int32)) C (by decide) dX6_drawing_76 ?_
            refine ik_istore C [(6, .int (20 : Int32)), (5, .int (0 : Int32)), (4, .int (0 : Int32)), (0, .ref o0), (1, .int x1), (2, .int x2), (3, .int x3)] (by decide) rfl dX6_drawing_78 ?_
            have hL_80 : ∀ (n_80 : Nat) (thour_80 : Int32) (tair_80 : Int32) (trub_80 : Int32) (tz_80 : Int32) (tnb_80 : Int32) (tkd_80 : Nat → Int32) (tcl_80 : Nat → Int32) (tgr_80 : Nat → Int32) (toc_80 : Nat → Int32) (tlit_80 : Int32) (tcold_80 : Int32) (tccell_80 : Nat → Int32) (tcpow_80 : Nat → Int32) (tsp_80 : Nat → Int32) (twm_80 : Nat → Int32) (tdr_80 : Nat → Int32) (x4_80 : Int32) (x5_80 : Int32) (x6_80 : Int32), ik_lp19 (b_X6_drawing_80 fnd nhour nair nrub nz nnb nkd ncl ngr noc nlit ncold nccell ncpow nsp x1 x2 x3) n_80 thour_80 tair_80 trub_80 tz_80 tnb_80 tkd_80 tcl_80 tgr_80 toc_80 tlit_80 tcold_80 tccell_80 tcpow_80 tsp_80 twm_80 tdr_80 x4_80 x5_80 x6_80 = some (R, fnd_r, thour_r, tair_r, trub_r, tz_r, tnb_r, tkd_r, tcl_r, tgr_r, toc_r, tlit_r, tcold_r, tccell_r, tcpow_r, tsp_r, twm_r, tdr_r) → ik_G p l e ({ frames := 6, cells := 0, slots := 0, locals := 145 } : Room) s m ([.ref o0, .int x1, .int x2, .int x3] : List Value).toArray below meth c D (ik_in (wz_X6ofnt cI cS o0 np0 kp0 tp0 r0 t0 sh0 f0 nw0 nc0 np1 np2 np3 nw1 nw2 nw3 nw4 nc1 nc2 tw0 tc0 tp1 tp2 tp3 tw1 tw2 tw3 tw4 tc1 tc2 isk fnd nhour nair nrub nz nnb nkd ncl ngr noc nlit ncold nccell ncpow nsp nwm ndr thour tair trub tz tnb tkd tcl tgr toc tlit tcold tccell tcpow tsp twm tdr)) (ik_in (wz_X6ofnt cI cS o0 np0 kp0 tp0 r0 t0 sh0 f0 nw0 nc0 np1 np2 np3 nw1 nw2 nw3 nw4 nc1 nc2 tw0 tc0 tp1 tp2 tp3 tw1 tw2 tw3 tw4 tc1 tc2 isk fnd nhour nair nrub nz nnb nkd ncl ngr noc nlit ncold nccell ncpow nsp nwm ndr thour tair trub tz tnb tkd tcl tgr toc tlit tcold tccell tcpow tsp twm tdr)) 8 (MQ below (ik_Q (some (.int R)) D (wz_X6ofnt cI cS o0 np0 kp0 tp0 r0 t0 sh0 f0 nw0 nc0 np1 np2 np3 nw1 nw2 nw3 nw4 nc1 nc2 tw0 tc0 tp1 tp2 tp3 tw1 tw2 tw3 tw4 tc1 tc2 isk fnd_r nhour nair nrub nz nnb nkd ncl ngr noc nlit ncold nccell ncpow nsp nwm ndr thour_r tair_r trub_r tz_r tnb_r tkd_r tcl_r tgr_r toc_r tlit_r tcold_r tccell_r tcpow_r tsp_r twm_r tdr_r) (wz_X6ofnt cI cS o0 np0 kp0 tp0 r0 t0 sh0 f0 nw0 nc0 np1 np2 np3 nw1 nw2 nw3 nw4 nc1 nc2 tw0 tc0 tp1 tp2 tp3 tw1 tw2 tw3 tw4 tc1 tc2 isk fnd nhour nair nrub nz nnb nkd ncl ngr noc nlit ncold nccell ncpow nsp nwm ndr thour tair trub tz tnb tkd tcl tgr toc tlit tcold tccell tcpow tsp twm tdr)) ([.ref o0, .int x1, .int x2, .int x3] : List Value).toArray s 0 0 (ik_in (wz_X6ofnt cI cS o0 np0 kp0 tp0 r0 t0 sh0 f0 nw0 nc0 np1 np2 np3 nw1 nw2 nw3 nw4 nc1 nc2 tw0 tc0 tp1 tp2 tp3 tw1 tw2 tw3 tw4 tc1 tc2 isk fnd nhour nair nrub nz nnb nkd ncl ngr noc nlit ncold nccell ncpow nsp nwm ndr thour tair trub tz tnb tkd tcl tgr toc tlit tcold tccell tcpow tsp twm tdr))) 80 [(6, .int x6_80), (5, .int x5_80), (4, .int x4_80), (0, .ref o0), (1, .int x1), (2, .int x2), (3, .int x3)] [] (wz_X6ofnt cI cS o0 np0 kp0 tp0 r0 t0 sh0 f0 nw0 nc0 np1 np2 np3 nw1 nw2 nw3 nw4 nc1 nc2 tw0 tc0 tp1 tp2 tp3 tw1 tw2 tw3 tw4 tc1 tc2 isk fnd nhour nair nrub nz nnb nkd ncl ngr noc nlit ncold nccell ncpow nsp nwm ndr thour_80 tair_80 trub_80 tz_80 tnb_80 tkd_80 tcl_80 tgr_80 toc_80 tlit_80 tcold_80 tccell_80 tcpow_80 tsp_80 twm_80 tdr_80) := by
              intro n_80
              induction n_80 with
              | zero => intro _ _ _ _ _ _ _ _ _ _ _ _ _ _ _ _ _ _ _ hf; exact nomatch hf
              | succ n_80 ih_80 =>
                intro thour_80 tair_80 trub_80 tz_80 tnb_80 tkd_80 tcl_80 tgr_80 toc_80 tlit_80 tcold_80 tccell_80 tcpow_80 tsp_80 twm_80 tdr_80 x4_80 x5_80 x6_80 hf
                replace hf : b_X6_drawing_80 fnd nhour nair nrub nz nnb nkd ncl ngr noc nlit ncold nccell ncpow nsp x1 x2 x3 (ik_lp19 (b_X6_drawing_80 fnd nhour nair nrub nz nnb nkd ncl ngr noc nlit ncold nccell ncpow nsp x1 x2 x3) n_80) thour_80 tair_80 trub_80 tz_80 tnb_80 tkd_80 tcl_80 tgr_80 toc_80 tlit_80 tcold_80 tccell_80 tcpow_80 tsp_80 twm_80 tdr_80 x4_80 x5_80 x6_80 = some (R, fnd_r, thour_r, tair_r, trub_r, tz_r, tnb_r, tkd_r, tcl_r, tgr_r, toc_r, tlit_r, tcold_r, tccell_r, tcpow_r, tsp_r, twm_r, tdr_r) := hf
                unfold b_X6_drawing_80 at hf
                refine ik_iload C 0 rfl dX6_drawing_80 ?_
                refine ik_bipush (v := (-20 : Int32)) C (by decide) dX6_drawing_82 ?_
                refine ik_icmp_lt C 137 dX6_drawing_84 (by decide) (fun hc => ?_) (fun hc => ?_)
                · have hf := ik_pos hc hf
                  refine ik_iload C 2 rfl dX6_drawing_137 ?_
                  refine ik_if_ne C 151 dX6_drawing_139 (by decide) (fun hc => ?_) (fun hc => ?_)
                  · have hf := ik_neg hc hf
                    refine ik_bipush (v := (100 : Int32)) C (by decide) dX6_drawing_151 ?_
                    refine ik_iload C 2 rfl dX6_drawing_153 ?_
                    refine ik_imul C dX6_drawing_155 ?_
                    refine ik_bipush (v := (20 : Int32)) C (by decide) dX6_drawing_156 ?_
                    refine ik_iadd C dX6_drawing_158 ?_
                    refine ik_iload C 1 rfl dX6_drawing_159 ?_
                    refine ik_iadd C dX6_drawing_161 ?_
                    cases hf
                    exact ik_iretW C hr hlk dX6_drawing_162
                  · have hf := ik_pos hc hf
                    refine ik_aload_n C 3 rfl rfl dX6_drawing_142 ?_
                    refine ik_ldc C wl_25_9 dX6_drawing_143 ?_
                    obtain ⟨r6, g7, hc7, hf⟩ := ik_b2s hf
                    refine ik_goW [0, 1] rfl rfl (wz_X6ofnt cI cS o0 np0 kp0 tp0 r0 t0 sh0 f0 nw0 nc0 np1 np2 np3 nw1 nw2 nw3 nw4 nc1 nc2 tw0 tc0 tp1 tp2 tp3 tw1 tw2 tw3 tw4 tc1 tc2 isk g7 nhour nair nrub nz nnb nkd ncl ngr noc nlit ncold nccell ncpow nsp nwm ndr thour_80 tair_80 trub_80 tz_80 tnb_80 tkd_80 tcl_80 tgr_80 toc_80 tlit_80 tcold_80 tccell_80 tcpow_80 tsp_80 twm_80 tdr_80) rfl (ik_runV C (c_X6_tell l D cI cS o0 np0 kp0 tp0 r0 t0 sh0 f0 isk fnd (-1000004 : Int32) r6 g7 hc7) mv_X6_tell wl_5_16 ⟨rfl, rfl, Nat.le_of_ble_eq_true rfl, Nat.le_of_ble_eq_true rfl⟩ [0, 1] rfl (by decide) 0 rfl rfl rfl rfl (Nat.le_of_ble_eq_true rfl) dX6_drawing_145) rfl ?_
                    refine ik_goto C 162 dX6_drawing_148 (by decide) ?_
                    cases hf
                    exact ik_iretW C hr hlk dX6_drawing_162
                · have hf := ik_neg hc hf
                  refine ik_aload_n C 3 rfl rfl dX6_drawing_87 ?_
                  obtain ⟨g6, g7, g8, g9, g10, g11, g12, g13, g14, g15, g16, g17, g18, g19, hc19, hf⟩ := ik_b14s hf
                  refine ik_goW [0, 2, 3, 4, 5, 6, 7, 8, 9, 10, 11, 12, 13, 14, 15, 16, 17, 18, 19, 20, 21, 22, 23, 24, 25] rfl rfl (wz_X6ofnt cI cS o0 np0 kp0 tp0 r0 t0 sh0 f0 nw0 nc0 np1 np2 np3 nw1 nw2 nw3 nw4 nc1 nc2 tw0 tc0 tp1 tp2 tp3 tw1 tw2 tw3 tw4 tc1 tc2 isk fnd nhour nair nrub nz nnb nkd ncl ngr noc nlit ncold nccell ncpow nsp nwm ndr g6 g7 g8 g9 g10 g11 g12 g13 g14 g15 g16 g17 g18 g19 twm_80 tdr_80) rfl (ik_runV C (c_X6_freshTrial l D cI cS o0 np0 kp0 tp0 r0 t0 sh0 f0 nw0 nc0 np1 np2 np3 nw1 nw2 nw3 nw4 nc1 nc2 tw0 tc0 tp1 tp2 tp3 tw1 tw2 tw3 tw4 tc1 tc2 isk nhour nair nrub nz nnb nkd ncl ngr noc nlit ncold nccell ncpow nsp nwm ndr thour_80 tair_80 trub_80 tz_80 tnb_80 tkd_80 tcl_80 tgr_80 toc_80 tlit_80 tcold_80 tccell_80 tcpow_80 tsp_80 twm_80 tdr_80 g6 g7 g8 g9 g10 g11 g12 g13 g14 g15 g16 g17 g18 g19 hc19) mv_X6_freshTrial wl_23_10 ⟨rfl, rfl, Nat.le_of_ble_eq_true rfl, Nat.le_of_ble_eq_true rfl⟩ [0, 2, 3, 4, 5, 6, 7, 8, 9, 10, 11, 12, 13, 14, 15, 16, 17, 18, 19, 20, 21, 22, 23, 24, 25] rfl (by decide) 0 rfl rfl rfl rfl (Nat.le_of_ble_eq_true rfl) dX6_drawing_88) rfl ?_
                  refine ik_astore C [(7, .ref tp0), (6, .int x6_80), (5, .int x5_80), (4, .int x4_80), (0, .ref o0), (1, .int x1), (2, .int x2), (3, .int x3)] (by decide) rfl dX6_drawing_91 ?_
                  refine ik_aload C 0 rfl dX6_drawing_93 ?_
                  refine ik_get C inlX1 14 rfl rfl 1 (by decide) wl_13_8 rfl (v := .ref tc0) rfl dX6_drawing_95 ?_
                  refine ik_iload C 1 rfl dX6_drawing_98 ?_
                  refine ik_put C inlX0 tyX0 tyX0_ok nmX0 20 rfl rfl 3 (by decide) wl_16_14 rfl (by decide) rfl rfl (Nat.le_of_ble_eq_true rfl) (wz_X6ofnt cI cS o0 np0 kp0 tp0 r0 t0 sh0 f0 nw0 nc0 np1 np2 np3 nw1 nw2 nw3 nw4 nc1 nc2 tw0 tc0 tp1 tp2 tp3 tw1 tw2 tw3 tw4 tc1 tc2 isk fnd nhour nair nrub nz nnb nkd ncl ngr noc nlit ncold nccell ncpow nsp nwm ndr g6 g7 g8 g9 g10 g11 g12 g13 g14 g15 x6_80 g17 g18 g19 twm_80 tdr_80) rfl dX6_drawing_100 ?_
                  refine ik_aload C 0 rfl dX6_drawing_103 ?_
                  refine ik_iload_n C 6 rfl rfl dX6_drawing_105 ?_
                  obtain ⟨r20, g21, g22, g23, g24, g25, g26, g27, g28, hc28, hf⟩ := ik_b9s hf
                  refine ik_goW [14, 15, 16, 17, 18, 19, 20, 21, 22, 23, 24, 25] rfl rfl (wz_X6ofnt cI cS o0 np0 kp0 tp0 r0 t0 sh0 f0 nw0 nc0 np1 np2 np3 nw1 nw2 nw3 nw4 nc1 nc2 tw0 tc0 tp1 tp2 tp3 tw1 tw2 tw3 tw4 tc1 tc2 isk fnd nhour nair nrub nz nnb nkd ncl ngr noc nlit ncold nccell ncpow nsp nwm ndr g21 g22 g23 g9 g10 g11 g24 g25 g26 g15 x6_80 g17 g18 g19 g27 g28) rfl (ik_runV C (c_X1_passHours l D cI cS tp0 tw0 tc0 tp1 tp2 tp3 tw1 tw2 tw3 tw4 tc1 tc2 g6 g7 g8 g9 g10 g11 g12 g13 g14 g15 x6_80 g17 g18 g19 twm_80 tdr_80 x2 r20 g21 g22 g23 g24 g25 g26 g27 g28 hc28) mv_X1_passHours wl_18_3 ⟨rfl, rfl, Nat.le_of_ble_eq_true rfl, Nat.le_of_ble_eq_true rfl⟩ [14, 15, 16, 17, 18, 19, 20, 21, 22, 23, 24, 25] rfl (by decide) 14 rfl rfl rfl rfl (Nat.le_of_ble_eq_true rfl) dX6_drawing_106) rfl ?_
                  refine ik_pop C rfl dX6_drawing_109 ?_
                  refine ik_aload C 0 rfl dX6_drawing_110 ?_
                  refine ik_get C inlX1 14 rfl rfl 0 (by decide) wl_5_4 rfl (v := .ref tw0) rfl dX6_drawing_112 ?_
                  refine ik_get C inlX5 15 rfl rfl 3 (by decide) wl_8_6 rfl (v := .ref tw3) rfl dX6_drawing_115 ?_
                  refine ik_iload_n C 5 rfl rfl dX6_drawing_118 ?_
                  have hg := ik_gdi hf
                  have hf := ik_gdk hf
                  refine ik_iald C 18 rfl hg dX6_drawing_119 ?_
                  refine ik_iload_n C 7 rfl rfl dX6_drawing_120 ?_
                  refine ik_icmp_ne C 131 dX6_drawing_121 (by decide) (fun hc => ?_) (fun hc => ?_)
                  · have hf := ik_neg hc hf
                    refine ik_iinc C [(6, .int (x6_80 + (-1 : Int32))), (7, .ref tp0), (5, .int x5_80), (4, .int x4_80), (0, .ref o0), (1, .int x1), (2, .int x2), (3, .int x3)] 1 rfl rfl (by decide) rfl dX6_drawing_131 ?_
                    refine ik_goto C 80 dX6_drawing_134 (by decide) ?_
                    exact ik_sub [0, 2, 3, 4, 5, 6, 7] [(6, .int (x6_80 + (-1 : Int32))), (5, .int x5_80), (4, .int x4_80), (0, .ref o0), (1, .int x1), (2, .int x2), (3, .int x3)] rfl (ih_80 g21 g22 g23 g9 g10 g11 g24 g25 g26 g15 x6_80 g17 g18 g19 g27 g28 x4_80 x5_80 (x6_80 + (-1 : Int32)) hf)
                  · have hf := ik_pos hc hf
                    refine ik_iinc C [(4, .int (x4_80 + (1 : Int32))), (7, .ref tp0), (6, .int x6_80), (5, .int x5_80), (0, .ref o0), (1, .int x1), (2, .int x2), (3, .int x3)] 3 rfl rfl (by decide) rfl dX6_drawing_124 ?_
                    refine ik_iload C 2 rfl dX6_drawing_127 ?_
                    refine ik_istore C [(5, .int x6_80), (4, .int (x4_80 + (1 : Int32))), (7, .ref tp0), (6, .int x6_80), (0, .ref o0), (1, .int x1), (2, .int x2), (3, .int x3)] (by decide) rfl dX6_drawing_129 ?_
                    refine ik_iinc C [(6, .int (x6_80 + (-1 : Int32))), (5, .int x6_80), (4, .int (x4_80 + (1 : Int32))), (7, .ref tp0), (0, .ref o0), (1, .int x1), (2, .int x2), (3, .int x3)] 3 rfl rfl (by decide) rfl dX6_drawing_131 ?_
                    refine ik_goto C 80 dX6_drawing_134 (by decide) ?_
                    exact ik_sub [0, 1, 2, 4, 5, 6, 7] [(6, .int (x6_80 + (-1 : Int32))), (5, .int x6_80), (4, .int (x4_80 + (1 : Int32))), (0, .ref o0), (1, .int x1), (2, .int x2), (3, .int x3)] rfl (ih_80 g21 g22 g23 g9 g10 g11 g24 g25 g26 g15 x6_80 g17 g18 g19 g27 g28 (x4_80 + (1 : Int32)) x6_80 (x6_80 + (-1 : Int32)) hf)
            exact hL_80 ik_fu thour tair trub tz tnb tkd tcl tgr toc tlit tcold tccell tcpow tsp twm tdr (0 : Int32) (0 : Int32) (20 : Int32) hf
          · have hf := ik_pos hc hf
            refine ik_aload_n C 0 rfl rfl dX6_drawing_63 ?_
            refine ik_ldc C wl_5_6 dX6_drawing_64 ?_
            obtain ⟨r6, g7, hc7, hf⟩ := ik_b2s hf
            refine ik_goW [0, 1] rfl rfl (wz_X6ofnt cI cS o0 np0 kp0 tp0 r0 t0 sh0 f0 nw0 nc0 np1 np2 np3 nw1 nw2 nw3 nw4 nc1 nc2 tw0 tc0 tp1 tp2 tp3 tw1 tw2 tw3 tw4 tc1 tc2 isk g7 nhour nair nrub nz nnb nkd ncl ngr noc nlit ncold nccell ncpow nsp nwm ndr thour tair trub tz tnb tkd tcl tgr toc tlit tcold tccell tcpow tsp twm tdr) rfl (ik_runV C (c_X6_tell l D cI cS o0 np0 kp0 tp0 r0 t0 sh0 f0 isk fnd (-1000005 : Int32) r6 g7 hc7) mv_X6_tell wl_5_16 ⟨rfl, rfl, Nat.le_of_ble_eq_true rfl, Nat.le_of_ble_eq_true rfl⟩ [0, 1] rfl (by decide) 0 rfl rfl rfl rfl (Nat.le_of_ble_eq_true rfl) dX6_drawing_66) rfl ?_
            cases hf
            exact ik_iretW C hr hlk dX6_drawing_69
      · have hf := ik_pos hc hf
        refine ik_aload_n C 0 rfl rfl dX6_drawing_34 ?_
        refine ik_ldc C wl_5_3 dX6_drawing_35 ?_
        obtain ⟨r4, g5, hc5, hf⟩ := ik_b2s hf
        refine ik_goW [0, 1] rfl rfl (wz_X6ofnt cI cS o0 np0 kp0 tp0 r0 t0 sh0 f0 nw0 nc0 np1 np2 np3 nw1 nw2 nw3 nw4 nc1 nc2 tw0 tc0 tp1 tp2 tp3 tw1 tw2 tw3 tw4 tc1 tc2 isk g5 nhour nair nrub nz nnb nkd ncl ngr noc nlit ncold nccell ncpow nsp nwm ndr thour tair trub tz tnb tkd tcl tgr toc tlit tcold tccell tcpow tsp twm tdr) rfl (ik_runV C (c_X6_tell l D cI cS o0 np0 kp0 tp0 r0 t0 sh0 f0 isk fnd (-1000001 : Int32) r4 g5 hc5) mv_X6_tell wl_5_16 ⟨rfl, rfl, Nat.le_of_ble_eq_true rfl, Nat.le_of_ble_eq_true rfl⟩ [0, 1] rfl (by decide) 0 rfl rfl rfl rfl (Nat.le_of_ble_eq_true rfl) dX6_drawing_37) rfl ?_
        cases hf
        exact ik_iretW C hr hlk dX6_drawing_40
