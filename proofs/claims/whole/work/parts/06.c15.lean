theorem mv_X6_deal : ik_V yX6_deal RX6 cX6_deal 7 (some .int) 1 := ⟨wl_26_20, wl_26_21, wl_1_2, wl_26_22, by decide +kernel⟩
set_option maxHeartbeats 4000000 in
set_option maxRecDepth 100000 in
theorem c_X6_deal (l : Launch) (D : va_G) (cI cS : ClassId) (o0 np0 kp0 tp0 r0 t0 sh0 f0 nw0 nc0 np1 np2 np3 nw1 nw2 nw3 nw4 nc1 nc2 tw0 tc0 tp1 tp2 tp3 tw1 tw2 tw3 tw4 tc1 tc2 : Nat) (isk : Int32) (fnd : Nat → Int32) (nhour : Int32) (nair : Int32) (nrub : Int32) (nz : Int32) (nnb : Int32) (nkd : Nat → Int32) (ncl : Nat → Int32) (ngr : Nat → Int32) (noc : Nat → Int32) (nlit : Int32) (ncold : Int32) (nccell : Nat → Int32) (ncpow : Nat → Int32) (nsp : Nat → Int32) (nwm : Nat → Int32) (ndr : Nat → Int32) (thour : Int32) (tair : Int32) (trub : Int32) (tz : Int32) (tnb : Int32) (tkd : Nat → Int32) (tcl : Nat → Int32) (tgr : Nat → Int32) (toc : Nat → Int32) (tlit : Int32) (tcold : Int32) (tccell : Nat → Int32) (tcpow : Nat → Int32) (tsp : Nat → Int32) (twm : Nat → Int32) (tdr : Nat → Int32) (x1 : Int32) (R : Int32) (fnd_r : Nat → Int32) (thour_r : Int32) (tair_r : Int32) (trub_r : Int32) (tz_r : Int32) (tnb_r : Int32) (tkd_r : Nat → Int32) (tcl_r : Nat → Int32) (tgr_r : Nat → Int32) (toc_r : Nat → Int32) (tlit_r : Int32) (tcold_r : Int32) (tccell_r : Nat → Int32) (tcpow_r : Nat → Int32) (tsp_r : Nat → Int32) (twm_r : Nat → Int32) (tdr_r : Nat → Int32) (hf : f_X6_deal fnd nhour nair nrub nz nnb nkd ncl ngr noc nlit ncold nccell ncpow nsp thour tair trub tz tnb tkd tcl tgr toc tlit tcold tccell tcpow tsp twm tdr x1 = some (R, fnd_r, thour_r, tair_r, trub_r, tz_r, tnb_r, tkd_r, tcl_r, tgr_r, toc_r, tlit_r, tcold_r, tccell_r, tcpow_r, tsp_r, twm_r, tdr_r)) : Met l yX6_deal (ik_ws yX6_deal cX6_deal 7 (some .int)) ({ frames := 6, cells := 0, slots := 0, locals := 144 } : Room) (ik_P D cI cS [.ref o0, .int x1] (wz_X6ofnt cI cS o0 np0 kp0 tp0 r0 t0 sh0 f0 nw0 nc0 np1 np2 np3 nw1 nw2 nw3 nw4 nc1 nc2 tw0 tc0 tp1 tp2 tp3 tw1 tw2 tw3 tw4 tc1 tc2 isk fnd nhour nair nrub nz nnb nkd ncl ngr noc nlit ncold nccell ncpow nsp nwm ndr thour tair trub tz tnb tkd tcl tgr toc tlit tcold tccell tcpow tsp twm tdr)) (ik_Q (some (.int R)) D (wz_X6ofnt cI cS o0 np0 kp0 tp0 r0 t0 sh0 f0 nw0 nc0 np1 np2 np3 nw1 nw2 nw3 nw4 nc1 nc2 tw0 tc0 tp1 tp2 tp3 tw1 tw2 tw3 tw4 tc1 tc2 isk fnd_r nhour nair nrub nz nnb nkd ncl ngr noc nlit ncold nccell ncpow nsp nwm ndr thour_r tair_r trub_r tz_r tnb_r tkd_r tcl_r tgr_r toc_r tlit_r tcold_r tccell_r tcpow_r tsp_r twm_r tdr_r) (wz_X6ofnt cI cS o0 np0 kp0 tp0 r0 t0 sh0 f0 nw0 nc0 np1 np2 np3 nw1 nw2 nw3 nw4 nc1 nc2 tw0 tc0 tp1 tp2 tp3 tw1 tw2 tw3 tw4 tc1 tc2 isk fnd nhour nair nrub nz nnb nkd ncl ngr noc nlit ncold nccell ncpow nsp nwm ndr thour tair trub tz tnb tkd tcl tgr toc tlit tcold tccell tcpow tsp twm tdr)) 0 0 (ik_in (wz_X6ofnt cI cS o0 np0 kp0 tp0 r0 t0 sh0 f0 nw0 nc0 np1 np2 np3 nw1 nw2 nw3 nw4 nc1 nc2 tw0 tc0 tp1 tp2 tp3 tw1 tw2 tw3 tw4 tc1 tc2 isk fnd nhour nair nrub nz nnb nkd ncl ngr noc nlit ncold nccell ncpow nsp nwm ndr thour tair trub tz tnb tkd tcl tgr toc tlit tcold tccell tcpow tsp twm tdr)) := by
  refine ik_metW RX6 rfl (by decide) (Nat.le_of_ble_eq_true rfl) [(0, .ref o0), (1, .int x1)] rfl ?_
  intro p e s m below meth c C hr hlk
  unfold f_X6_deal at hf
  refine ik_iload_n C 1 rfl rfl dX6_deal_0 ?_
  refine ik_iconst (v := (1 : Int32)) C (by decide) dX6_deal_1 ?_
  refine ik_bipush (v := (48 : Int32)) C (by decide) dX6_deal_2 ?_
  obtain ⟨r1, hc1, hf⟩ := ik_b1s hf
  have hM := (c_X6_isWithin l D cI cS x1 (1 : Int32) (48 : Int32) r1 hc1)
  refine ik_goR (ik_runS (st := []) (As := [.int x1, .int (1 : Int32), .int (48 : Int32)]) C hM ms_X6_isWithin wl_5_10 ⟨rfl, rfl, Nat.le_of_ble_eq_true rfl, Nat.le_of_ble_eq_true rfl⟩ [] rfl (by decide +kernel) rfl rfl (Nat.le_of_ble_eq_true rfl) dX6_deal_4) rfl ?_
  refine ik_if_ne C 17 dX6_deal_7 (by decide) (fun hc => ?_) (fun hc => ?_)
  · have hf := ik_neg hc hf
    refine ik_aload_n C 0 rfl rfl dX6_deal_17 ?_
    refine ik_iload_n C 1 rfl rfl dX6_deal_18 ?_
    obtain ⟨r2, hc2, hf⟩ := ik_b1s hf
    have hM := (c_X6_hasHours l D cI cS o0 np0 kp0 tp0 r0 t0 sh0 f0 nw0 nc0 np1 np2 np3 nw1 nw2 nw3 nw4 nc1 nc2 isk nhour nair nrub nz nnb nkd ncl ngr noc nlit ncold nccell ncpow nsp nwm ndr x1 r2 hc2)
    refine ik_goR (ik_runV (st := []) (As := [.int x1]) C hM mv_X6_hasHours wl_17_22 ⟨rfl, rfl, Nat.le_of_ble_eq_true rfl, Nat.le_of_ble_eq_true rfl⟩ [0, 2, 3, 4, 5, 6, 7, 8, 9, 10, 11, 12, 13] rfl (by decide +kernel) 0 rfl rfl rfl rfl (Nat.le_of_ble_eq_true rfl) dX6_deal_19) rfl ?_
    refine ik_if_ne C 32 dX6_deal_22 (by decide) (fun hc => ?_) (fun hc => ?_)
    · have hf := ik_neg hc hf
      refine ik_iconst (v := (-1 : Int32)) C (by decide) dX6_deal_32 ?_
      refine ik_istore_n C [(2, .int (-1 : Int32)), (0, .ref o0), (1, .int x1)] rfl (by decide) rfl dX6_deal_33 ?_
      refine ik_iconst (v := (-1 : Int32)) C (by decide) dX6_deal_34 ?_
      refine ik_istore_n C [(3, .int (-1 : Int32)), (2, .int (-1 : Int32)), (0, .ref o0), (1, .int x1)] rfl (by decide) rfl dX6_deal_35 ?_
      refine ik_iconst (v := (0 : Int32)) C (by decide) dX6_deal_36 ?_
      refine ik_istore C [(4, .int (0 : Int32)), (3, .int (-1 : Int32)), (2, .int (-1 : Int32)), (0, .ref o0), (1, .int x1)] (by decide) rfl dX6_deal_37 ?_
      have hL_39 : ∀ (n_39 : Nat) (thour_39 : Int32) (tair_39 : Int32) (trub_39 : Int32) (tz_39 : Int32) (tnb_39 : Int32) (tkd_39 : Nat → Int32) (tcl_39 : Nat → Int32) (tgr_39 : Nat → Int32) (toc_39 : Nat → Int32) (tlit_39 : Int32) (tcold_39 : Int32) (tccell_39 : Nat → Int32) (tcpow_39 : Nat → Int32) (tsp_39 : Nat → Int32) (twm_39 : Nat → Int32) (tdr_39 : Nat → Int32) (x2_39 : Int32) (x3_39 : Int32) (x4_39 : Int32), ik_lp19 (b_X6_deal_39 fnd nhour nair nrub nz nnb nkd ncl ngr noc nlit ncold nccell ncpow nsp x1) n_39 thour_39 tair_39 trub_39 tz_39 tnb_39 tkd_39 tcl_39 tgr_39 toc_39 tlit_39 tcold_39 tccell_39 tcpow_39 tsp_39 twm_39 tdr_39 x2_39 x3_39 x4_39 = some (R, fnd_r, thour_r, tair_r, trub_r, tz_r, tnb_r, tkd_r, tcl_r, tgr_r, toc_r, tlit_r, tcold_r, tccell_r, tcpow_r, tsp_r, twm_r, tdr_r) → ik_G p l e ({ frames := 6, cells := 0, slots := 0, locals := 144 } : Room) s m ([.ref o0, .int x1] : List Value).toArray below meth c D (ik_in (wz_X6ofnt cI cS o0 np0 kp0 tp0 r0 t0 sh0 f0 nw0 nc0 np1 np2 np3 nw1 nw2 nw3 nw4 nc1 nc2 tw0 tc0 tp1 tp2 tp3 tw1 tw2 tw3 tw4 tc1 tc2 isk fnd nhour nair nrub nz nnb nkd ncl ngr noc nlit ncold nccell ncpow nsp nwm ndr thour tair trub tz tnb tkd tcl tgr toc tlit tcold tccell tcpow tsp twm tdr)) (ik_in (wz_X6ofnt cI cS o0 np0 kp0 tp0 r0 t0 sh0 f0 nw0 nc0 np1 np2 np3 nw1 nw2 nw3 nw4 nc1 nc2 tw0 tc0 tp1 tp2 tp3 tw1 tw2 tw3 tw4 tc1 tc2 isk fnd nhour nair nrub nz nnb nkd ncl ngr noc nlit ncold nccell ncpow nsp nwm ndr thour tair trub tz tnb tkd tcl tgr toc tlit tcold tccell tcpow tsp twm tdr)) 7 (MQ below (ik_Q (some (.int R)) D (wz_X6ofnt cI cS o0 np0 kp0 tp0 r0 t0 sh0 f0 nw0 nc0 np1 np2 np3 nw1 nw2 nw3 nw4 nc1 nc2 tw0 tc0 tp1 tp2 tp3 tw1 tw2 tw3 tw4 tc1 tc2 isk fnd_r nhour nair nrub nz nnb nkd ncl ngr noc nlit ncold nccell ncpow nsp nwm ndr thour_r tair_r trub_r tz_r tnb_r tkd_r tcl_r tgr_r toc_r tlit_r tcold_r tccell_r tcpow_r tsp_r twm_r tdr_r) (wz_X6ofnt cI cS o0 np0 kp0 tp0 r0 t0 sh0 f0 nw0 nc0 np1 np2 np3 nw1 nw2 nw3 nw4 nc1 nc2 tw0 tc0 tp1 tp2 tp3 tw1 tw2 tw3 tw4 tc1 tc2 isk fnd nhour nair nrub nz nnb nkd ncl ngr noc nlit ncold nccell ncpow nsp nwm ndr thour tair trub tz tnb tkd tcl tgr toc tlit tcold tccell tcpow tsp twm tdr)) ([.ref o0, .int x1] : List Value).toArray s 0 0 (ik_in (wz_X6ofnt cI cS o0 np0 kp0 tp0 r0 t0 sh0 f0 nw0 nc0 np1 np2 np3 nw1 nw2 nw3 nw4 nc1 nc2 tw0 tc0 tp1 tp2 tp3 tw1 tw2 tw3 tw4 tc1 tc2 isk fnd nhour nair nrub nz nnb nkd ncl ngr noc nlit ncold nccell ncpow nsp nwm ndr thour tair trub tz tnb tkd tcl tgr toc tlit tcold tccell tcpow tsp twm tdr))) 39 [(4, .int x4_39), (3, .int x3_39), (2, .int x2_39), (0, .ref o0), (1, .int x1)] [] (wz_X6ofnt cI cS o0 np0 kp0 tp0 r0 t0 sh0 f0 nw0 nc0 np1 np2 np3 nw1 nw2 nw3 nw4 nc1 nc2 tw0 tc0 tp1 tp2 tp3 tw1 tw2 tw3 tw4 tc1 tc2 isk fnd nhour nair nrub nz nnb nkd ncl ngr noc nlit ncold nccell ncpow nsp nwm ndr thour_39 tair_39 trub_39 tz_39 tnb_39 tkd_39 tcl_39 tgr_39 toc_39 tlit_39 tcold_39 tccell_39 tcpow_39 tsp_39 twm_39 tdr_39) := by
        intro n_39
        induction n_39 with
        | zero => intro _ _ _ _ _ _ _ _ _ _ _ _ _ _ _ _ _ _ _ hf; exact nomatch hf
        | succ n_39 ih_39 =>
          intro thour_39 tair_39 trub_39 tz_39 tnb_39 tkd_39 tcl_39 tgr_39 toc_39 tlit_39 tcold_39 tccell_39 tcpow_39 tsp_39 twm_39 tdr_39 x2_39 x3_39 x4_39 hf
          replace hf : b_X6_deal_39 fnd nhour nair nrub nz nnb nkd ncl ngr noc nlit ncold nccell ncpow nsp x1 (ik_lp19 (b_X6_deal_39 fnd nhour nair nrub nz nnb nkd ncl ngr noc nlit ncold nccell ncpow nsp x1) n_39) thour_39 tair_39 trub_39 tz_39 tnb_39 tkd_39 tcl_39 tgr_39 toc_39 tlit_39 tcold_39 tccell_39 tcpow_39 tsp_39 twm_39 tdr_39 x2_39 x3_39 x4_39 = some (R, fnd_r, thour_r, tair_r, trub_r, tz_r, tnb_r, tkd_r, tcl_r, tgr_r, toc_r, tlit_r, tcold_r, tccell_r, tcpow_r, tsp_r, twm_r, tdr_r) := hf
          unfold b_X6_deal_39 at hf
          refine ik_iload C 0 rfl dX6_deal_39 ?_
          refine ik_bipush (v := (64 : Int32)) C (by decide) dX6_deal_41 ?_
          refine ik_icmp_ge C 107 dX6_deal_43 (by decide) (fun hc => ?_) (fun hc => ?_)
          · have hf := ik_pos hc hf
            refine ik_iload_n C 2 rfl rfl dX6_deal_107 ?_
            refine ik_if_ge C 120 dX6_deal_108 (by decide) (fun hc => ?_) (fun hc => ?_)
            · have hf := ik_pos hc hf
              refine ik_iload_n C 2 rfl rfl dX6_deal_120 ?_
              cases hf
              exact ik_iretW C hr hlk dX6_deal_121
            · have hf := ik_neg hc hf
              refine ik_aload_n C 3 rfl rfl dX6_deal_111 ?_
              refine ik_ldc C wl_25_9 dX6_deal_112 ?_
              obtain ⟨r3, g4, hc4, hf⟩ := ik_b2s hf
              have hM := (c_X6_tell l D cI cS o0 np0 kp0 tp0 r0 t0 sh0 f0 isk fnd (-1000004 : Int32) r3 g4 hc4)
              refine ik_goW (v := (some (.int r3))) (wc := (wz_X6of cI cS o0 np0 kp0 tp0 r0 t0 sh0 f0 isk fnd)) (w1 := (wz_X6of cI cS o0 np0 kp0 tp0 r0 t0 sh0 f0 isk g4)) [0, 1] [2, 3, 4, 5, 6, 7, 8, 9, 10, 11, 12, 13, 14, 15, 16, 17, 18, 19, 20, 21, 22, 23, 24, 25] 26 rfl rfl (wz_X6ofnt cI cS o0 np0 kp0 tp0 r0 t0 sh0 f0 nw0 nc0 np1 np2 np3 nw1 nw2 nw3 nw4 nc1 nc2 tw0 tc0 tp1 tp2 tp3 tw1 tw2 tw3 tw4 tc1 tc2 isk g4 nhour nair nrub nz nnb nkd ncl ngr noc nlit ncold nccell ncpow nsp nwm ndr thour_39 tair_39 trub_39 tz_39 tnb_39 tkd_39 tcl_39 tgr_39 toc_39 tlit_39 tcold_39 tccell_39 tcpow_39 tsp_39 twm_39 tdr_39) rfl rfl rfl (by decide +kernel) (ik_runV (st := []) (As := [.int (-1000004 : Int32)]) C hM mv_X6_tell wl_5_16 ⟨rfl, rfl, Nat.le_of_ble_eq_true rfl, Nat.le_of_ble_eq_true rfl⟩ [0, 1] rfl (by decide +kernel) 0 rfl rfl rfl rfl (Nat.le_of_ble_eq_true rfl) dX6_deal_114) rfl ?_
              refine ik_goto C 121 dX6_deal_117 (by decide) ?_
              cases hf
              exact ik_iretW C hr hlk dX6_deal_121
          · have hf := ik_neg hc hf
            refine ik_aload_n C 3 rfl rfl dX6_deal_46 ?_
            refine ik_get C inlX6 0 rfl rfl 0 (by decide) wl_1_15 rfl (v := .ref np0) rfl dX6_deal_47 ?_
            refine ik_get C inlX1 2 rfl rfl 1 (by decide) wl_13_8 rfl (v := .ref nc0) rfl dX6_deal_50 ?_
            refine ik_iload C 0 rfl dX6_deal_53 ?_
            obtain ⟨r3, hc3, hf⟩ := ik_b1s hf
            have hM := (c_X0_lightOf l D cI cS nc0 nc1 nc2 nlit ncold nccell ncpow x4_39 r3 hc3)
            refine ik_goR (ik_runV (st := []) (As := [.int x4_39]) C hM mv_X0_lightOf wl_17_10 ⟨rfl, rfl, Nat.le_of_ble_eq_true rfl, Nat.le_of_ble_eq_true rfl⟩ [8, 9, 10] rfl (by decide +kernel) 8 rfl rfl rfl rfl (Nat.le_of_ble_eq_true rfl) dX6_deal_55) rfl ?_
            refine ik_istore C [(5, .int r3), (4, .int x4_39), (3, .int x3_39), (2, .int x2_39), (0, .ref o0), (1, .int x1)] (by decide) rfl dX6_deal_58 ?_
            refine ik_iload C 0 rfl dX6_deal_60 ?_
            refine ik_iload_n C 2 rfl rfl dX6_deal_62 ?_
            refine ik_icmp_gt C 69 dX6_deal_63 (by decide) (fun hc => ?_) (fun hc => ?_)
            · have hf := ik_pos hc hf
              refine ik_aload_n C 4 rfl rfl dX6_deal_69 ?_
              obtain ⟨g4, g5, g6, g7, g8, g9, g10, g11, g12, g13, g14, g15, g16, g17, hc17, hf⟩ := ik_b14s hf
              have hM := (c_X6_freshTrial l D cI cS o0 np0 kp0 tp0 r0 t0 sh0 f0 nw0 nc0 np1 np2 np3 nw1 nw2 nw3 nw4 nc1 nc2 tw0 tc0 tp1 tp2 tp3 tw1 tw2 tw3 tw4 tc1 tc2 isk nhour nair nrub nz nnb nkd ncl ngr noc nlit ncold nccell ncpow nsp nwm ndr thour_39 tair_39 trub_39 tz_39 tnb_39 tkd_39 tcl_39 tgr_39 toc_39 tlit_39 tcold_39 tccell_39 tcpow_39 tsp_39 twm_39 tdr_39 g4 g5 g6 g7 g8 g9 g10 g11 g12 g13 g14 g15 g16 g17 hc17)
              refine ik_goW (v := (some (.ref tp0))) (wc := (wz_X6ont cI cS o0 np0 kp0 tp0 r0 t0 sh0 f0 nw0 nc0 np1 np2 np3 nw1 nw2 nw3 nw4 nc1 nc2 tw0 tc0 tp1 tp2 tp3 tw1 tw2 tw3 tw4 tc1 tc2 isk nhour nair nrub nz nnb nkd ncl ngr noc nlit ncold nccell ncpow nsp nwm ndr thour_39 tair_39 trub_39 tz_39 tnb_39 tkd_39 tcl_39 tgr_39 toc_39 tlit_39 tcold_39 tccell_39 tcpow_39 tsp_39 twm_39 tdr_39)) (w1 := (wz_X6ont cI cS o0 np0 kp0 tp0 r0 t0 sh0 f0 nw0 nc0 np1 np2 np3 nw1 nw2 nw3 nw4 nc1 nc2 tw0 tc0 tp1 tp2 tp3 tw1 tw2 tw3 tw4 tc1 tc2 isk nhour nair nrub nz nnb nkd ncl ngr noc nlit ncold nccell ncpow nsp nwm ndr g4 g5 g6 g7 g8 g9 g10 g11 g12 g13 g14 g15 g16 g17 twm_39 tdr_39)) [0, 2, 3, 4, 5, 6, 7, 8, 9, 10, 11, 12, 13, 14, 15, 16, 17, 18, 19, 20, 21, 22, 23, 24, 25] [1] 26 rfl rfl (wz_X6ofnt cI cS o0 np0 kp0 tp0 r0 t0 sh0 f0 nw0 nc0 np1 np2 np3 nw1 nw2 nw3 nw4 nc1 nc2 tw0 tc0 tp1 tp2 tp3 tw1 tw2 tw3 tw4 tc1 tc2 isk fnd nhour nair nrub nz nnb nkd ncl ngr noc nlit ncold nccell ncpow nsp nwm ndr g4 g5 g6 g7 g8 g9 g10 g11 g12 g13 g14 g15 g16 g17 twm_39 tdr_39) rfl rfl rfl (by decide +kernel) (ik_runV (st := []) (As := []) C hM mv_X6_freshTrial wl_23_10 ⟨rfl, rfl, Nat.le_of_ble_eq_true rfl, Nat.le_of_ble_eq_true rfl⟩ [0, 2, 3, 4, 5, 6, 7, 8, 9, 10, 11, 12, 13, 14, 15, 16, 17, 18, 19, 20, 21, 22, 23, 24, 25] rfl (by decide +kernel) 0 rfl rfl rfl rfl (Nat.le_of_ble_eq_true rfl) dX6_deal_70) rfl ?_
              refine ik_astore C [(6, .ref tp0), (5, .int r3), (4, .int x4_39), (3, .int x3_39), (2, .int x2_39), (0, .ref o0), (1, .int x1)] (by decide) rfl dX6_deal_73 ?_
              refine ik_aload C 0 rfl dX6_deal_75 ?_
              refine ik_get C inlX1 14 rfl rfl 1 (by decide) wl_13_8 rfl (v := .ref tc0) rfl dX6_deal_77 ?_
              refine ik_iload C 2 rfl dX6_deal_80 ?_
              refine ik_put C inlX0 tyX0 tyX0_ok nmX0 20 rfl rfl 2 (by decide) wl_17_9 rfl (by decide) rfl rfl (Nat.le_of_ble_eq_true rfl) (wz_X6ofnt cI cS o0 np0 kp0 tp0 r0 t0 sh0 f0 nw0 nc0 np1 np2 np3 nw1 nw2 nw3 nw4 nc1 nc2 tw0 tc0 tp1 tp2 tp3 tw1 tw2 tw3 tw4 tc1 tc2 isk fnd nhour nair nrub nz nnb nkd ncl ngr noc nlit ncold nccell ncpow nsp nwm ndr g4 g5 g6 g7 g8 g9 g10 g11 g12 x4_39 g14 g15 g16 g17 twm_39 tdr_39) rfl dX6_deal_82 ?_
              refine ik_aload C 0 rfl dX6_deal_85 ?_
              refine ik_iload_n C 6 rfl rfl dX6_deal_87 ?_
              obtain ⟨r18, g19, g20, g21, g22, g23, g24, g25, g26, hc26, hf⟩ := ik_b9s hf
              have hM := (c_X1_hoursHeld l D cI cS tp0 tw0 tc0 tp1 tp2 tp3 tw1 tw2 tw3 tw4 tc1 tc2 g4 g5 g6 g7 g8 g9 g10 g11 g12 x4_39 g14 g15 g16 g17 twm_39 tdr_39 x1 r18 g19 g20 g21 g22 g23 g24 g25 g26 hc26)
              refine ik_goW (v := (some (.int r18))) (wc := (wz_X1 cI cS tp0 tw0 tc0 tp1 tp2 tp3 tw1 tw2 tw3 tw4 tc1 tc2 g4 g5 g6 g7 g8 g9 g10 g11 g12 x4_39 g14 g15 g16 g17 twm_39 tdr_39)) (w1 := (wz_X1 cI cS tp0 tw0 tc0 tp1 tp2 tp3 tw1 tw2 tw3 tw4 tc1 tc2 g19 g20 g21 g7 g8 g9 g22 g23 g24 x4_39 g14 g15 g16 g17 g25 g26)) [14, 15, 16, 17, 18, 19, 20, 21, 22, 23, 24, 25] [0, 1, 2, 3, 4, 5, 6, 7, 8, 9, 10, 11, 12, 13] 26 rfl rfl (wz_X6ofnt cI cS o0 np0 kp0 tp0 r0 t0 sh0 f0 nw0 nc0 np1 np2 np3 nw1 nw2 nw3 nw4 nc1 nc2 tw0 tc0 tp1 tp2 tp3 tw1 tw2 tw3 tw4 tc1 tc2 isk fnd nhour nair nrub nz nnb nkd ncl ngr noc nlit ncold nccell ncpow nsp nwm ndr g19 g20 g21 g7 g8 g9 g22 g23 g24 x4_39 g14 g15 g16 g17 g25 g26) rfl rfl rfl (by decide +kernel) (ik_runV (st := []) (As := [.int x1]) C hM mv_X1_hoursHeld wl_26_7 ⟨rfl, rfl, Nat.le_of_ble_eq_true rfl, Nat.le_of_ble_eq_true rfl⟩ [14, 15, 16, 17, 18, 19, 20, 21, 22, 23, 24, 25] rfl (by decide +kernel) 14 rfl rfl rfl rfl (Nat.le_of_ble_eq_true rfl) dX6_deal_88) rfl ?_
              refine ik_iload_n C 6 rfl rfl dX6_deal_91 ?_
              refine ik_icmp_ne C 101 dX6_deal_92 (by decide) (fun hc => ?_) (fun hc => ?_)
              · have hf := ik_neg hc hf
                refine ik_iinc C [(4, .int (x4_39 + (1 : Int32))), (6, .ref tp0), (5, .int r3), (3, .int x3_39), (2, .int x2_39), (0, .ref o0), (1, .int x1)] 2 rfl rfl (by decide) rfl dX6_deal_101 ?_
                refine ik_goto C 39 dX6_deal_104 (by decide) ?_
                exact ik_sub [0, 3, 4, 5, 6] [(4, .int (x4_39 + (1 : Int32))), (3, .int x3_39), (2, .int x2_39), (0, .ref o0), (1, .int x1)] rfl (ih_39 g19 g20 g21 g7 g8 g9 g22 g23 g24 x4_39 g14 g15 g16 g17 g25 g26 x2_39 x3_39 (x4_39 + (1 : Int32)) hf)
              · have hf := ik_pos hc hf
                refine ik_iload C 2 rfl dX6_deal_95 ?_
                refine ik_istore_n C [(2, .int x4_39), (6, .ref tp0), (5, .int r3), (4, .int x4_39), (3, .int x3_39), (0, .ref o0), (1, .int x1)] rfl (by decide) rfl dX6_deal_97 ?_
                refine ik_iload C 2 rfl dX6_deal_98 ?_
                refine ik_istore_n C [(3, .int r3), (2, .int x4_39), (6, .ref tp0), (5, .int r3), (4, .int x4_39), (0, .ref o0), (1, .int x1)] rfl (by decide) rfl dX6_deal_100 ?_
                refine ik_iinc C [(4, .int (x4_39 + (1 : Int32))), (3, .int r3), (2, .int x4_39), (6, .ref tp0), (5, .int r3), (0, .ref o0), (1, .int x1)] 4 rfl rfl (by decide) rfl dX6_deal_101 ?_
                refine ik_goto C 39 dX6_deal_104 (by decide) ?_
                exact ik_sub [0, 1, 2, 5, 6] [(4, .int (x4_39 + (1 : Int32))), (3, .int r3), (2, .int x4_39), (0, .ref o0), (1, .int x1)] rfl (ih_39 g19 g20 g21 g7 g8 g9 g22 g23 g24 x4_39 g14 g15 g16 g17 g25 g26 x4_39 r3 (x4_39 + (1 : Int32)) hf)
            · have hf := ik_neg hc hf
              refine ik_goto C 101 dX6_deal_66 (by decide) ?_
              refine ik_iinc C [(4, .int (x4_39 + (1 : Int32))), (5, .int r3), (3, .int x3_39), (2, .int x2_39), (0, .ref o0), (1, .int x1)] 1 rfl rfl (by decide) rfl dX6_deal_101 ?_
              refine ik_goto C 39 dX6_deal_104 (by decide) ?_
              exact ik_sub [0, 2, 3, 4, 5] [(4, .int (x4_39 + (1 : Int32))), (3, .int x3_39), (2, .int x2_39), (0, .ref o0), (1, .int x1)] rfl (ih_39 thour_39 tair_39 trub_39 tz_39 tnb_39 tkd_39 tcl_39 tgr_39 toc_39 tlit_39 tcold_39 tccell_39 tcpow_39 tsp_39 twm_39 tdr_39 x2_39 x3_39 (x4_39 + (1 : Int32)) hf)
      exact hL_39 ik_fu thour tair trub tz tnb tkd tcl tgr toc tlit tcold tccell tcpow tsp twm tdr (-1 : Int32) (-1 : Int32) (0 : Int32) hf
    · have hf := ik_pos hc hf
      refine ik_aload_n C 0 rfl rfl dX6_deal_25 ?_
      refine ik_ldc C wl_5_6 dX6_deal_26 ?_
      obtain ⟨r3, g4, hc4, hf⟩ := ik_b2s hf
      have hM := (c_X6_tell l D cI cS o0 np0 kp0 tp0 r0 t0 sh0 f0 isk fnd (-1000005 : Int32) r3 g4 hc4)
      refine ik_goW (v := (some (.int r3))) (wc := (wz_X6of cI cS o0 np0 kp0 tp0 r0 t0 sh0 f0 isk fnd)) (w1 := (wz_X6of cI cS o0 np0 kp0 tp0 r0 t0 sh0 f0 isk g4)) [0, 1] [2, 3, 4, 5, 6, 7, 8, 9, 10, 11, 12, 13, 14, 15, 16, 17, 18, 19, 20, 21, 22, 23, 24, 25] 26 rfl rfl (wz_X6ofnt cI cS o0 np0 kp0 tp0 r0 t0 sh0 f0 nw0 nc0 np1 np2 np3 nw1 nw2 nw3 nw4 nc1 nc2 tw0 tc0 tp1 tp2 tp3 tw1 tw2 tw3 tw4 tc1 tc2 isk g4 nhour nair nrub nz nnb nkd ncl ngr noc nlit ncold nccell ncpow nsp nwm ndr thour tair trub tz tnb tkd tcl tgr toc tlit tcold tccell tcpow tsp twm tdr) rfl rfl rfl (by decide +kernel) (ik_runV (st := []) (As := [.int (-1000005 : Int32)]) C hM mv_X6_tell wl_5_16 ⟨rfl, rfl, Nat.le_of_ble_eq_true rfl, Nat.le_of_ble_eq_true rfl⟩ [0, 1] rfl (by decide +kernel) 0 rfl rfl rfl rfl (Nat.le_of_ble_eq_true rfl) dX6_deal_28) rfl ?_
      cases hf
      exact ik_iretW C hr hlk dX6_deal_31
  · have hf := ik_pos hc hf
    refine ik_aload_n C 0 rfl rfl dX6_deal_10 ?_
    refine ik_ldc C wl_5_3 dX6_deal_11 ?_
    obtain ⟨r2, g3, hc3, hf⟩ := ik_b2s hf
    have hM := (c_X6_tell l D cI cS o0 np0 kp0 tp0 r0 t0 sh0 f0 isk fnd (-1000001 : Int32) r2 g3 hc3)
    refine ik_goW (v := (some (.int r2))) (wc := (wz_X6of cI cS o0 np0 kp0 tp0 r0 t0 sh0 f0 isk fnd)) (w1 := (wz_X6of cI cS o0 np0 kp0 tp0 r0 t0 sh0 f0 isk g3)) [0, 1] [2, 3, 4, 5, 6, 7, 8, 9, 10, 11, 12, 13, 14, 15, 16, 17, 18, 19, 20, 21, 22, 23, 24, 25] 26 rfl rfl (wz_X6ofnt cI cS o0 np0 kp0 tp0 r0 t0 sh0 f0 nw0 nc0 np1 np2 np3 nw1 nw2 nw3 nw4 nc1 nc2 tw0 tc0 tp1 tp2 tp3 tw1 tw2 tw3 tw4 tc1 tc2 isk g3 nhour nair nrub nz nnb nkd ncl ngr noc nlit ncold nccell ncpow nsp nwm ndr thour tair trub tz tnb tkd tcl tgr toc tlit tcold tccell tcpow tsp twm tdr) rfl rfl rfl (by decide +kernel) (ik_runV (st := []) (As := [.int (-1000001 : Int32)]) C hM mv_X6_tell wl_5_16 ⟨rfl, rfl, Nat.le_of_ble_eq_true rfl, Nat.le_of_ble_eq_true rfl⟩ [0, 1] rfl (by decide +kernel) 0 rfl rfl rfl rfl (Nat.le_of_ble_eq_true rfl) dX6_deal_13) rfl ?_
    cases hf
    exact ik_iretW C hr hlk dX6_deal_16
theorem mv_X6_bears : ik_V yX6_bears RX6 cX6_bears 4 (some .int) 1 := ⟨wl_27_13, wl_27_14, wl_1_2, wl_27_15, by decide +kernel⟩
set_option maxHeartbeats 4000000 in
set_option maxRecDepth 100000 in
theorem c_X6_bears (l : Launch) (D : va_G) (cI cS : ClassId) (o0 np0 kp0 tp0 r0 t0 sh0 f0 nw0 nc0 np1 np2 np3 nw1 nw2 nw3 nw4 nc1 nc2 tw0 tc0 tp1 tp2 tp3 tw1 tw2 tw3 tw4 tc1 tc2 : Nat) (isk : Int32) (fnd : Nat → Int32) (nhour : Int32) (nair : Int32) (nrub : Int32) (nz : Int32) (nnb : Int32) (nkd : Nat → Int32) (ncl : Nat → Int32) (ngr : Nat → Int32) (noc : Nat → Int32) (nlit : Int32) (ncold : Int32) (nccell : Nat → Int32) (ncpow : Nat → Int32) (nsp : Nat → Int32) (nwm : Nat → Int32) (ndr : Nat → Int32) (thour : Int32) (tair : Int32) (trub : Int32) (tz : Int32) (tnb : Int32) (tkd : Nat → Int32) (tcl : Nat → Int32) (tgr : Nat → Int32) (toc : Nat → Int32) (tlit : Int32) (tcold : Int32) (tccell : Nat → Int32) (tcpow : Nat → Int32) (tsp : Nat → Int32) (twm : Nat → Int32) (tdr : Nat → Int32) (x1 : Int32) (R : Int32) (fnd_r : Nat → Int32) (thour_r : Int32) (tair_r : Int32) (trub_r : Int32) (tz_r : Int32) (tnb_r : Int32) (tkd_r : Nat → Int32) (tcl_r : Nat → Int32) (tgr_r : Nat → Int32) (toc_r : Nat → Int32) (tlit_r : Int32) (tcold_r : Int32) (tccell_r : Nat → Int32) (tcpow_r : Nat → Int32) (tsp_r : Nat → Int32) (twm_r : Nat → Int32) (tdr_r : Nat → Int32) (hf : f_X6_bears fnd nhour nair nrub nz nnb nkd ncl ngr noc nlit ncold nccell ncpow nsp thour tair trub tz tnb tkd tcl tgr toc tlit tcold tccell tcpow tsp twm tdr x1 = some (R, fnd_r, thour_r, tair_r, trub_r, tz_r, tnb_r, tkd_r, tcl_r, tgr_r, toc_r, tlit_r, tcold_r, tccell_r, tcpow_r, tsp_r, twm_r, tdr_r)) : Met l yX6_bears (ik_ws yX6_bears cX6_bears 4 (some .int)) ({ frames := 6, cells := 0, slots := 0, locals := 144 } : Room) (ik_P D cI cS [.ref o0, .int x1] (wz_X6ofnt cI cS o0 np0 kp0 tp0 r0 t0 sh0 f0 nw0 nc0 np1 np2 np3 nw1 nw2 nw3 nw4 nc1 nc2 tw0 tc0 tp1 tp2 tp3 tw1 tw2 tw3 tw4 tc1 tc2 isk fnd nhour nair nrub nz nnb nkd ncl ngr noc nlit ncold nccell ncpow nsp nwm ndr thour tair trub tz tnb tkd tcl tgr toc tlit tcold tccell tcpow tsp twm tdr)) (ik_Q (some (.int R)) D (wz_X6ofnt cI cS o0 np0 kp0 tp0 r0 t0 sh0 f0 nw0 nc0 np1 np2 np3 nw1 nw2 nw3 nw4 nc1 nc2 tw0 tc0 tp1 tp2 tp3 tw1 tw2 tw3 tw4 tc1 tc2 isk fnd_r nhour nair nrub nz nnb nkd ncl ngr noc nlit ncold nccell ncpow nsp nwm ndr thour_r tair_r trub_r tz_r tnb_r tkd_r tcl_r tgr_r toc_r tlit_r tcold_r tccell_r tcpow_r tsp_r twm_r tdr_r) (wz_X6ofnt cI cS o0 np0 kp0 tp0 r0 t0 sh0 f0 nw0 nc0 np1 np2 np3 nw1 nw2 nw3 nw4 nc1 nc2 tw0 tc0 tp1 tp2 tp3 tw1 tw2 tw3 tw4 tc1 tc2 isk fnd nhour nair nrub nz nnb nkd ncl ngr noc nlit ncold nccell ncpow nsp nwm ndr thour tair trub tz tnb tkd tcl tgr toc tlit tcold tccell tcpow tsp twm tdr)) 0 0 (ik_in (wz_X6ofnt cI cS o0 np0 kp0 tp0 r0 t0 sh0 f0 nw0 nc0 np1 np2 np3 nw1 nw2 nw3 nw4 nc1 nc2 tw0 tc0 tp1 tp2 tp3 tw1 tw2 tw3 tw4 tc1 tc2 isk fnd nhour nair nrub nz nnb nkd ncl ngr noc nlit ncold nccell ncpow nsp nwm ndr thour tair trub tz tnb tkd tcl tgr toc tlit tcold tccell tcpow tsp twm tdr)) := by
  refine ik_metW RX6 rfl (by decide) (Nat.le_of_ble_eq_true rfl) [(0, .ref o0), (1, .int x1)] rfl ?_
  intro p e s m below meth c C hr hlk
  unfold f_X6_bears at hf
  refine ik_iload_n C 1 rfl rfl dX6_bears_0 ?_
  refine ik_iconst (v := (1 : Int32)) C (by decide) dX6_bears_1 ?_
  refine ik_bipush (v := (48 : Int32)) C (by decide) dX6_bears_2 ?_
  obtain ⟨r1, hc1, hf⟩ := ik_b1s hf
  have hM := (c_X6_isWithin l D cI cS x1 (1 : Int32) (48 : Int32) r1 hc1)
  refine ik_goR (ik_runS (st := []) (As := [.int x1, .int (1 : Int32), .int (48 : Int32)]) C hM ms_X6_isWithin wl_5_10 ⟨rfl, rfl, Nat.le_of_ble_eq_true rfl, Nat.le_of_ble_eq_true rfl⟩ [] rfl (by decide +kernel) rfl rfl (Nat.le_of_ble_eq_true rfl) dX6_bears_4) rfl ?_
  refine ik_if_ne C 17 dX6_bears_7 (by decide) (fun hc => ?_) (fun hc => ?_)
  · have hf := ik_neg hc hf
    refine ik_aload_n C 0 rfl rfl dX6_bears_17 ?_
    refine ik_iload_n C 1 rfl rfl dX6_bears_18 ?_
    obtain ⟨r2, hc2, hf⟩ := ik_b1s hf
    have hM := (c_X6_hasHours l D cI cS o0 np0 kp0 tp0 r0 t0 sh0 f0 nw0 nc0 np1 np2 np3 nw1 nw2 nw3 nw4 nc1 nc2 isk nhour nair nrub nz nnb nkd ncl ngr noc nlit ncold nccell ncpow nsp nwm ndr x1 r2 hc2)
    refine ik_goR (ik_runV (st := []) (As := [.int x1]) C hM mv_X6_hasHours wl_17_22 ⟨rfl, rfl, Nat.le_of_ble_eq_true rfl, Nat.le_of_ble_eq_true rfl⟩ [0, 2, 3, 4, 5, 6, 7, 8, 9, 10, 11, 12, 13] rfl (by decide +kernel) 0 rfl rfl rfl rfl (Nat.le_of_ble_eq_true rfl) dX6_bears_19) rfl ?_
    refine ik_if_ne C 32 dX6_bears_22 (by decide) (fun hc => ?_) (fun hc => ?_)
    · have hf := ik_neg hc hf
      refine ik_bipush (v := (20 : Int32)) C (by decide) dX6_bears_32 ?_
      refine ik_istore_n C [(2, .int (20 : Int32)), (0, .ref o0), (1, .int x1)] rfl (by decide) rfl dX6_bears_34 ?_
      have hL_35 : ∀ (n_35 : Nat) (thour_35 : Int32) (tair_35 : Int32) (trub_35 : Int32) (tz_35 : Int32) (tnb_35 : Int32) (tkd_35 : Nat → Int32) (tcl_35 : Nat → Int32) (tgr_35 : Nat → Int32) (toc_35 : Nat → Int32) (tlit_35 : Int32) (tcold_35 : Int32) (tccell_35 : Nat → Int32) (tcpow_35 : Nat → Int32) (tsp_35 : Nat → Int32) (twm_35 : Nat → Int32) (tdr_35 : Nat → Int32) (x2_35 : Int32), ik_lp17 (b_X6_bears_35 fnd nhour nair nrub nz nnb nkd ncl ngr noc nlit ncold nccell ncpow nsp x1) n_35 thour_35 tair_35 trub_35 tz_35 tnb_35 tkd_35 tcl_35 tgr_35 toc_35 tlit_35 tcold_35 tccell_35 tcpow_35 tsp_35 twm_35 tdr_35 x2_35 = some (R, fnd_r, thour_r, tair_r, trub_r, tz_r, tnb_r, tkd_r, tcl_r, tgr_r, toc_r, tlit_r, tcold_r, tccell_r, tcpow_r, tsp_r, twm_r, tdr_r) → ik_G p l e ({ frames := 6, cells := 0, slots := 0, locals := 144 } : Room) s m ([.ref o0, .int x1] : List Value).toArray below meth c D (ik_in (wz_X6ofnt cI cS o0 np0 kp0 tp0 r0 t0 sh0 f0 nw0 nc0 np1 np2 np3 nw1 nw2 nw3 nw4 nc1 nc2 tw0 tc0 tp1 tp2 tp3 tw1 tw2 tw3 tw4 tc1 tc2 isk fnd nhour nair nrub nz nnb nkd ncl ngr noc nlit ncold nccell ncpow nsp nwm ndr thour tair trub tz tnb tkd tcl tgr toc tlit tcold tccell tcpow tsp twm tdr)) (ik_in (wz_X6ofnt cI cS o0 np0 kp0 tp0 r0 t0 sh0 f0 nw0 nc0 np1 np2 np3 nw1 nw2 nw3 nw4 nc1 nc2 tw0 tc0 tp1 tp2 tp3 tw1 tw2 tw3 tw4 tc1 tc2 isk fnd nhour nair nrub nz nnb nkd ncl ngr noc nlit ncold nccell ncpow nsp nwm ndr thour tair trub tz tnb tkd tcl tgr toc tlit tcold tccell tcpow tsp twm tdr)) 4 (MQ below (ik_Q (some (.int R)) D (wz_X6ofnt cI cS o0 np0 kp0 tp0 r0 t0 sh0 f0 nw0 nc0 np1 np2 np3 nw1 nw2 nw3 nw4 nc1 nc2 tw0 tc0 tp1 tp2 tp3 tw1 tw2 tw3 tw4 tc1 tc2 isk fnd_r nhour nair nrub nz nnb nkd ncl ngr noc nlit ncold nccell ncpow nsp nwm ndr thour_r tair_r trub_r tz_r tnb_r tkd_r tcl_r tgr_r toc_r tlit_r tcold_r tccell_r tcpow_r tsp_r twm_r tdr_r) (wz_X6ofnt cI cS o0 np0 kp0 tp0 r0 t0 sh0 f0 nw0 nc0 np1 np2 np3 nw1 nw2 nw3 nw4 nc1 nc2 tw0 tc0 tp1 tp2 tp3 tw1 tw2 tw3 tw4 tc1 tc2 isk fnd nhour nair nrub nz nnb nkd ncl ngr noc nlit ncold nccell ncpow nsp nwm ndr thour tair trub tz tnb tkd tcl tgr toc tlit tcold tccell tcpow tsp twm tdr)) ([.ref o0, .int x1] : List Value).toArray s 0 0 (ik_in (wz_X6ofnt cI cS o0 np0 kp0 tp0 r0 t0 sh0 f0 nw0 nc0 np1 np2 np3 nw1 nw2 nw3 nw4 nc1 nc2 tw0 tc0 tp1 tp2 tp3 tw1 tw2 tw3 tw4 tc1 tc2 isk fnd nhour nair nrub nz nnb nkd ncl ngr noc nlit ncold nccell ncpow nsp nwm ndr thour tair trub tz tnb tkd tcl tgr toc tlit tcold tccell tcpow tsp twm tdr))) 35 [(2, .int x2_35), (0, .ref o0), (1, .int x1)] [] (wz_X6ofnt cI cS o0 np0 kp0 tp0 r0 t0 sh0 f0 nw0 nc0 np1 np2 np3 nw1 nw2 nw3 nw4 nc1 nc2 tw0 tc0 tp1 tp2 tp3 tw1 tw2 tw3 tw4 tc1 tc2 isk fnd nhour nair nrub nz nnb nkd ncl ngr noc nlit ncold nccell ncpow nsp nwm ndr thour_35 tair_35 trub_35 tz_35 tnb_35 tkd_35 tcl_35 tgr_35 toc_35 tlit_35 tcold_35 tccell_35 tcpow_35 tsp_35 twm_35 tdr_35) := by
        intro n_35
        induction n_35 with
        | zero => intro _ _ _ _ _ _ _ _ _ _ _ _ _ _ _ _ _ hf; exact nomatch hf
        | succ n_35 ih_35 =>
          intro thour_35 tair_35 trub_35 tz_35 tnb_35 tkd_35 tcl_35 tgr_35 toc_35 tlit_35 tcold_35 tccell_35 tcpow_35 tsp_35 twm_35 tdr_35 x2_35 hf
          replace hf : b_X6_bears_35 fnd nhour nair nrub nz nnb nkd ncl ngr noc nlit ncold nccell ncpow nsp x1 (ik_lp17 (b_X6_bears_35 fnd nhour nair nrub nz nnb nkd ncl ngr noc nlit ncold nccell ncpow nsp x1) n_35) thour_35 tair_35 trub_35 tz_35 tnb_35 tkd_35 tcl_35 tgr_35 toc_35 tlit_35 tcold_35 tccell_35 tcpow_35 tsp_35 twm_35 tdr_35 x2_35 = some (R, fnd_r, thour_r, tair_r, trub_r, tz_r, tnb_r, tkd_r, tcl_r, tgr_r, toc_r, tlit_r, tcold_r, tccell_r, tcpow_r, tsp_r, twm_r, tdr_r) := hf
          unfold b_X6_bears_35 at hf
          refine ik_iload_n C 0 rfl rfl dX6_bears_35 ?_
          refine ik_bipush (v := (-20 : Int32)) C (by decide) dX6_bears_36 ?_
          refine ik_icmp_lt C 71 dX6_bears_38 (by decide) (fun hc => ?_) (fun hc => ?_)
          · have hf := ik_pos hc hf
            refine ik_aload_n C 1 rfl rfl dX6_bears_71 ?_
            refine ik_ldc C wl_25_9 dX6_bears_72 ?_
            obtain ⟨r3, g4, hc4, hf⟩ := ik_b2s hf
            have hM := (c_X6_tell l D cI cS o0 np0 kp0 tp0 r0 t0 sh0 f0 isk fnd (-1000004 : Int32) r3 g4 hc4)
            refine ik_goW (v := (some (.int r3))) (wc := (wz_X6of cI cS o0 np0 kp0 tp0 r0 t0 sh0 f0 isk fnd)) (w1 := (wz_X6of cI cS o0 np0 kp0 tp0 r0 t0 sh0 f0 isk g4)) [0, 1] [2, 3, 4, 5, 6, 7, 8, 9, 10, 11, 12, 13, 14, 15, 16, 17, 18, 19, 20, 21, 22, 23, 24, 25] 26 rfl rfl (wz_X6ofnt cI cS o0 np0 kp0 tp0 r0 t0 sh0 f0 nw0 nc0 np1 np2 np3 nw1 nw2 nw3 nw4 nc1 nc2 tw0 tc0 tp1 tp2 tp3 tw1 tw2 tw3 tw4 tc1 tc2 isk g4 nhour nair nrub nz nnb nkd ncl ngr noc nlit ncold nccell ncpow nsp nwm ndr thour_35 tair_35 trub_35 tz_35 tnb_35 tkd_35 tcl_35 tgr_35 toc_35 tlit_35 tcold_35 tccell_35 tcpow_35 tsp_35 twm_35 tdr_35) rfl rfl rfl (by decide +kernel) (ik_runV (st := []) (As := [.int (-1000004 : Int32)]) C hM mv_X6_tell wl_5_16 ⟨rfl, rfl, Nat.le_of_ble_eq_true rfl, Nat.le_of_ble_eq_true rfl⟩ [0, 1] rfl (by decide +kernel) 0 rfl rfl rfl rfl (Nat.le_of_ble_eq_true rfl) dX6_bears_74) rfl ?_
            cases hf
            exact ik_iretW C hr hlk dX6_bears_77
          · have hf := ik_neg hc hf
            refine ik_aload_n C 1 rfl rfl dX6_bears_41 ?_
            obtain ⟨g3, g4, g5, g6, g7, g8, g9, g10, g11, g12, g13, g14, g15, g16, hc16, hf⟩ := ik_b14s hf
            have hM := (c_X6_freshTrial l D cI cS o0 np0 kp0 tp0 r0 t0 sh0 f0 nw0 nc0 np1 np2 np3 nw1 nw2 nw3 nw4 nc1 nc2 tw0 tc0 tp1 tp2 tp3 tw1 tw2 tw3 tw4 tc1 tc2 isk nhour nair nrub nz nnb nkd ncl ngr noc nlit ncold nccell ncpow nsp nwm ndr thour_35 tair_35 trub_35 tz_35 tnb_35 tkd_35 tcl_35 tgr_35 toc_35 tlit_35 tcold_35 tccell_35 tcpow_35 tsp_35 twm_35 tdr_35 g3 g4 g5 g6 g7 g8 g9 g10 g11 g12 g13 g14 g15 g16 hc16)
            refine ik_goW (v := (some (.ref tp0))) (wc := (wz_X6ont cI cS o0 np0 kp0 tp0 r0 t0 sh0 f0 nw0 nc0 np1 np2 np3 nw1 nw2 nw3 nw4 nc1 nc2 tw0 tc0 tp1 tp2 tp3 tw1 tw2 tw3 tw4 tc1 tc2 isk nhour nair nrub nz nnb nkd ncl ngr noc nlit ncold nccell ncpow nsp nwm ndr thour_35 tair_35 trub_35 tz_35 tnb_35 tkd_35 tcl_35 tgr_35 toc_35 tlit_35 tcold_35 tccell_35 tcpow_35 tsp_35 twm_35 tdr_35)) (w1 := (wz_X6ont cI cS o0 np0 kp0 tp0 r0 t0 sh0 f0 nw0 nc0 np1 np2 np3 nw1 nw2 nw3 nw4 nc1 nc2 tw0 tc0 tp1 tp2 tp3 tw1 tw2 tw3 tw4 tc1 tc2 isk nhour nair nrub nz nnb nkd ncl ngr noc nlit ncold nccell ncpow nsp nwm ndr g3 g4 g5 g6 g7 g8 g9 g10 g11 g12 g13 g14 g15 g16 twm_35 tdr_35)) [0, 2, 3, 4, 5, 6, 7, 8, 9, 10, 11, 12, 13, 14, 15, 16, 17, 18, 19, 20, 21, 22, 23, 24, 25] [1] 26 rfl rfl (wz_X6ofnt cI cS o0 np0 kp0 tp0 r0 t0 sh0 f0 nw0 nc0 np1 np2 np3 nw1 nw2 nw3 nw4 nc1 nc2 tw0 tc0 tp1 tp2 tp3 tw1 tw2 tw3 tw4 tc1 tc2 isk fnd nhour nair nrub nz nnb nkd ncl ngr noc nlit ncold nccell ncpow nsp nwm ndr g3 g4 g5 g6 g7 g8 g9 g10 g11 g12 g13 g14 g15 g16 twm_35 tdr_35) rfl rfl rfl (by decide +kernel) (ik_runV (st := []) (As := []) C hM mv_X6_freshTrial wl_23_10 ⟨rfl, rfl, Nat.le_of_ble_eq_true rfl, Nat.le_of_ble_eq_true rfl⟩ [0, 2, 3, 4, 5, 6, 7, 8, 9, 10, 11, 12, 13, 14, 15, 16, 17, 18, 19, 20, 21, 22, 23, 24, 25] rfl (by decide +kernel) 0 rfl rfl rfl rfl (Nat.le_of_ble_eq_true rfl) dX6_bears_42) rfl ?_
            refine ik_astore_n C [(3, .ref tp0), (2, .int x2_35), (0, .ref o0), (1, .int x1)] rfl (by decide) rfl dX6_bears_45 ?_
            refine ik_aload_n C 0 rfl rfl dX6_bears_46 ?_
            refine ik_get C inlX1 14 rfl rfl 1 (by decide) wl_13_8 rfl (v := .ref tc0) rfl dX6_bears_47 ?_
            refine ik_iload_n C 1 rfl rfl dX6_bears_50 ?_
            refine ik_put C inlX0 tyX0 tyX0_ok nmX0 20 rfl rfl 3 (by decide) wl_16_14 rfl (by decide) rfl rfl (Nat.le_of_ble_eq_true rfl) (wz_X6ofnt cI cS o0 np0 kp0 tp0 r0 t0 sh0 f0 nw0 nc0 np1 np2 np3 nw1 nw2 nw3 nw4 nc1 nc2 tw0 tc0 tp1 tp2 tp3 tw1 tw2 tw3 tw4 tc1 tc2 isk fnd nhour nair nrub nz nnb nkd ncl ngr noc nlit ncold nccell ncpow nsp nwm ndr g3 g4 g5 g6 g7 g8 g9 g10 g11 g12 x2_35 g14 g15 g16 twm_35 tdr_35) rfl dX6_bears_51 ?_
            refine ik_aload_n C 0 rfl rfl dX6_bears_54 ?_
            refine ik_iload_n C 3 rfl rfl dX6_bears_55 ?_
            obtain ⟨r17, g18, g19, g20, g21, g22, g23, g24, g25, hc25, hf⟩ := ik_b9s hf
            have hM := (c_X1_hoursHeld l D cI cS tp0 tw0 tc0 tp1 tp2 tp3 tw1 tw2 tw3 tw4 tc1 tc2 g3 g4 g5 g6 g7 g8 g9 g10 g11 g12 x2_35 g14 g15 g16 twm_35 tdr_35 x1 r17 g18 g19 g20 g21 g22 g23 g24 g25 hc25)
            refine ik_goW (v := (some (.int r17))) (wc := (wz_X1 cI cS tp0 tw0 tc0 tp1 tp2 tp3 tw1 tw2 tw3 tw4 tc1 tc2 g3 g4 g5 g6 g7 g8 g9 g10 g11 g12 x2_35 g14 g15 g16 twm_35 tdr_35)) (w1 := (wz_X1 cI cS tp0 tw0 tc0 tp1 tp2 tp3 tw1 tw2 tw3 tw4 tc1 tc2 g18 g19 g20 g6 g7 g8 g21 g22 g23 g12 x2_35 g14 g15 g16 g24 g25)) [14, 15, 16, 17, 18, 19, 20, 21, 22, 23, 24, 25] [0, 1, 2, 3, 4, 5, 6, 7, 8, 9, 10, 11, 12, 13] 26 rfl rfl (wz_X6ofnt cI cS o0 np0 kp0 tp0 r0 t0 sh0 f0 nw0 nc0 np1 np2 np3 nw1 nw2 nw3 nw4 nc1 nc2 tw0 tc0 tp1 tp2 tp3 tw1 tw2 tw3 tw4 tc1 tc2 isk fnd nhour nair nrub nz nnb nkd ncl ngr noc nlit ncold nccell ncpow nsp nwm ndr g18 g19 g20 g6 g7 g8 g21 g22 g23 g12 x2_35 g14 g15 g16 g24 g25) rfl rfl rfl (by decide +kernel) (ik_runV (st := []) (As := [.int x1]) C hM mv_X1_hoursHeld wl_26_7 ⟨rfl, rfl, Nat.le_of_ble_eq_true rfl, Nat.le_of_ble_eq_true rfl⟩ [14, 15, 16, 17, 18, 19, 20, 21, 22, 23, 24, 25] rfl (by decide +kernel) 14 rfl rfl rfl rfl (Nat.le_of_ble_eq_true rfl) dX6_bears_56) rfl ?_
            refine ik_iload_n C 3 rfl rfl dX6_bears_59 ?_
            refine ik_icmp_ne C 65 dX6_bears_60 (by decide) (fun hc => ?_) (fun hc => ?_)
            · have hf := ik_neg hc hf
              refine ik_iinc C [(2, .int (x2_35 + (-1 : Int32))), (3, .ref tp0), (0, .ref o0), (1, .int x1)] 1 rfl (congrArg (fun t => x2_35 + t) (show Int32.ofInt (-1) = (-1 : Int32) by decide)) (by decide) rfl dX6_bears_65 ?_
              refine ik_goto C 35 dX6_bears_68 (by decide) ?_
              exact ik_sub [0, 2, 3] [(2, .int (x2_35 + (-1 : Int32))), (0, .ref o0), (1, .int x1)] rfl (ih_35 g18 g19 g20 g6 g7 g8 g21 g22 g23 g12 x2_35 g14 g15 g16 g24 g25 (x2_35 + (-1 : Int32)) hf)
            · have hf := ik_pos hc hf
              refine ik_iload_n C 1 rfl rfl dX6_bears_63 ?_
              cases hf
              exact ik_iretW C hr hlk dX6_bears_64
      exact hL_35 ik_fu thour tair trub tz tnb tkd tcl tgr toc tlit tcold tccell tcpow tsp twm tdr (20 : Int32) hf
    · have hf := ik_pos hc hf
      refine ik_aload_n C 0 rfl rfl dX6_bears_25 ?_
      refine ik_ldc C wl_5_6 dX6_bears_26 ?_
      obtain ⟨r3, g4, hc4, hf⟩ := ik_b2s hf
      have hM := (c_X6_tell l D cI cS o0 np0 kp0 tp0 r0 t0 sh0 f0 isk fnd (-1000005 : Int32) r3 g4 hc4)
      refine ik_goW (v := (some (.int r3))) (wc := (wz_X6of cI cS o0 np0 kp0 tp0 r0 t0 sh0 f0 isk fnd)) (w1 := (wz_X6of cI cS o0 np0 kp0 tp0 r0 t0 sh0 f0 isk g4)) [0, 1] [2, 3, 4, 5, 6, 7, 8, 9, 10, 11, 12, 13, 14, 15, 16, 17, 18, 19, 20, 21, 22, 23, 24, 25] 26 rfl rfl (wz_X6ofnt cI cS o0 np0 kp0 tp0 r0 t0 sh0 f0 nw0 nc0 np1 np2 np3 nw1 nw2 nw3 nw4 nc1 nc2 tw0 tc0 tp1 tp2 tp3 tw1 tw2 tw3 tw4 tc1 tc2 isk g4 nhour nair nrub nz nnb nkd ncl ngr noc nlit ncold nccell ncpow nsp nwm ndr thour tair trub tz tnb tkd tcl tgr toc tlit tcold tccell tcpow tsp twm tdr) rfl rfl rfl (by decide +kernel) (ik_runV (st := []) (As := [.int (-1000005 : Int32)]) C hM mv_X6_tell wl_5_16 ⟨rfl, rfl, Nat.le_of_ble_eq_true rfl, Nat.le_of_ble_eq_true rfl⟩ [0, 1] rfl (by decide +kernel) 0 rfl rfl rfl rfl (Nat.le_of_ble_eq_true rfl) dX6_bears_28) rfl ?_
      cases hf
      exact ik_iretW C hr hlk dX6_bears_31
  · have hf := ik_pos hc hf
    refine ik_aload_n C 0 rfl rfl dX6_bears_10 ?_
    refine ik_ldc C wl_5_3 dX6_bears_11 ?_
    obtain ⟨r2, g3, hc3, hf⟩ := ik_b2s hf
    have hM := (c_X6_tell l D cI cS o0 np0 kp0 tp0 r0 t0 sh0 f0 isk fnd (-1000001 : Int32) r2 g3 hc3)
    refine ik_goW (v := (some (.int r2))) (wc := (wz_X6of cI cS o0 np0 kp0 tp0 r0 t0 sh0 f0 isk fnd)) (w1 := (wz_X6of cI cS o0 np0 kp0 tp0 r0 t0 sh0 f0 isk g3)) [0, 1] [2, 3, 4, 5, 6, 7, 8, 9, 10, 11, 12, 13, 14, 15, 16, 17, 18, 19, 20, 21, 22, 23, 24, 25] 26 rfl rfl (wz_X6ofnt cI cS o0 np0 kp0 tp0 r0 t0 sh0 f0 nw0 nc0 np1 np2 np3 nw1 nw2 nw3 nw4 nc1 nc2 tw0 tc0 tp1 tp2 tp3 tw1 tw2 tw3 tw4 tc1 tc2 isk g3 nhour nair nrub nz nnb nkd ncl ngr noc nlit ncold nccell ncpow nsp nwm ndr thour tair trub tz tnb tkd tcl tgr toc tlit tcold tccell tcpow tsp twm tdr) rfl rfl rfl (by decide +kernel) (ik_runV (st := []) (As := [.int (-1000001 : Int32)]) C hM mv_X6_tell wl_5_16 ⟨rfl, rfl, Nat.le_of_ble_eq_true rfl, Nat.le_of_ble_eq_true rfl⟩ [0, 1] rfl (by decide +kernel) 0 rfl rfl rfl rfl (Nat.le_of_ble_eq_true rfl) dX6_bears_13) rfl ?_
    cases hf
    exact ik_iretW C hr hlk dX6_bears_16
theorem mv_X6_needs : ik_V yX6_needs RX6 cX6_needs 6 (some .int) 2 := ⟨wl_27_21, wl_27_22, wl_1_2, wl_27_23, by decide +kernel⟩
set_option maxHeartbeats 4000000 in
set_option maxRecDepth 100000 in
theorem c_X6_needs (l : Launch) (D : va_G) (cI cS : ClassId) (o0 np0 kp0 tp0 r0 t0 sh0 f0 nw0 nc0 np1 np2 np3 nw1 nw2 nw3 nw4 nc1 nc2 tw0 tc0 tp1 tp2 tp3 tw1 tw2 tw3 tw4 tc1 tc2 : Nat) (isk : Int32) (fnd : Nat → Int32) (nhour : Int32) (nair : Int32) (nrub : Int32) (nz : Int32) (nnb : Int32) (nkd : Nat → Int32) (ncl : Nat → Int32) (ngr : Nat → Int32) (noc : Nat → Int32) (nlit : Int32) (ncold : Int32) (nccell : Nat → Int32) (ncpow : Nat → Int32) (nsp : Nat → Int32) (nwm : Nat → Int32) (ndr : Nat → Int32) (thour : Int32) (tair : Int32) (trub : Int32) (tz : Int32) (tnb : Int32) (tkd : Nat → Int32) (tcl : Nat → Int32) (tgr : Nat → Int32) (toc : Nat → Int32) (tlit : Int32) (tcold : Int32) (tccell : Nat → Int32) (tcpow : Nat → Int32) (tsp : Nat → Int32) (twm : Nat → Int32) (tdr : Nat → Int32) (x1 : Int32) (x2 : Int32) (R : Int32) (fnd_r : Nat → Int32) (thour_r : Int32) (tair_r : Int32) (trub_r : Int32) (tz_r : Int32) (tnb_r : Int32) (tkd_r : Nat → Int32) (tcl_r : Nat → Int32) (tgr_r : Nat → Int32) (toc_r : Nat → Int32) (tlit_r : Int32) (tcold_r : Int32) (tccell_r : Nat → Int32) (tcpow_r : Nat → Int32) (tsp_r : Nat → Int32) (twm_r : Nat → Int32) (tdr_r : Nat → Int32) (hf : f_X6_needs fnd nhour nair nrub nz nnb nkd ncl ngr noc nlit ncold nccell ncpow nsp thour tair trub tz tnb tkd tcl tgr toc tlit tcold tccell tcpow tsp twm tdr x1 x2 = some (R, fnd_r, thour_r, tair_r, trub_r, tz_r, tnb_r, tkd_r, tcl_r, tgr_r, toc_r, tlit_r, tcold_r, tccell_r, tcpow_r, tsp_r, twm_r, tdr_r)) : Met l yX6_needs (ik_ws yX6_needs cX6_needs 6 (some .int)) ({ frames := 6, cells := 0, slots := 0, locals := 144 } : Room) (ik_P D cI cS [.ref o0, .int x1, .int x2] (wz_X6ofnt cI cS o0 np0 kp0 tp0 r0 t0 sh0 f0 nw0 nc0 np1 np2 np3 nw1 nw2 nw3 nw4 nc1 nc2 tw0 tc0 tp1 tp2 tp3 tw1 tw2 tw3 tw4 tc1 tc2 isk fnd nhour nair nrub nz nnb nkd ncl ngr noc nlit ncold nccell ncpow nsp nwm ndr thour tair trub tz tnb tkd tcl tgr toc tlit tcold tccell tcpow tsp twm tdr)) (ik_Q (some (.int R)) D (wz_X6ofnt cI cS o0 np0 kp0 tp0 r0 t0 sh0 f0 nw0 nc0 np1 np2 np3 nw1 nw2 nw3 nw4 nc1 nc2 tw0 tc0 tp1 tp2 tp3 tw1 tw2 tw3 tw4 tc1 tc2 isk fnd_r nhour nair nrub nz nnb nkd ncl ngr noc nlit ncold nccell ncpow nsp nwm ndr thour_r tair_r trub_r tz_r tnb_r tkd_r tcl_r tgr_r toc_r tlit_r tcold_r tccell_r tcpow_r tsp_r twm_r tdr_r) (wz_X6ofnt cI cS o0 np0 kp0 tp0 r0 t0 sh0 f0 nw0 nc0 np1 np2 np3 nw1 nw2 nw3 nw4 nc1 nc2 tw0 tc0 tp1 tp2 tp3 tw1 tw2 tw3 tw4 tc1 tc2 isk fnd nhour nair nrub nz nnb nkd ncl ngr noc nlit ncold nccell ncpow nsp nwm ndr thour tair trub tz tnb tkd tcl tgr toc tlit tcold tccell tcpow tsp twm tdr)) 0 0 (ik_in (wz_X6ofnt cI cS o0 np0 kp0 tp0 r0 t0 sh0 f0 nw0 nc0 np1 np2 np3 nw1 nw2 nw3 nw4 nc1 nc2 tw0 tc0 tp1 tp2 tp3 tw1 tw2 tw3 tw4 tc1 tc2 isk fnd nhour nair nrub nz nnb nkd ncl ngr noc nlit ncold nccell ncpow nsp nwm ndr thour tair trub tz tnb tkd tcl tgr toc tlit tcold tccell tcpow tsp twm tdr)) := by
  refine ik_metW RX6 rfl (by decide) (Nat.le_of_ble_eq_true rfl) [(0, .ref o0), (1, .int x1), (2, .int x2)] rfl ?_
  intro p e s m below meth c C hr hlk
  unfold f_X6_needs at hf
  refine ik_aload_n C 0 rfl rfl dX6_needs_0 ?_
  refine ik_get C inlX6 0 rfl rfl 0 (by decide) wl_1_15 rfl (v := .ref np0) rfl dX6_needs_1 ?_
  refine ik_get C inlX1 2 rfl rfl 0 (by decide) wl_5_4 rfl (v := .ref nw0) rfl dX6_needs_4 ?_
  refine ik_iload_n C 1 rfl rfl dX6_needs_7 ?_
  obtain ⟨r1, hc1, hf⟩ := ik_b1s hf
  have hM := (c_X5_isBlock l D cI cS nw0 nw1 nw2 nw3 nw4 nnb nkd ncl ngr noc x1 r1 hc1)
  refine ik_goR (ik_runV (st := []) (As := [.int x1]) C hM mv_X5_isBlock wl_8_7 ⟨rfl, rfl, Nat.le_of_ble_eq_true rfl, Nat.le_of_ble_eq_true rfl⟩ [3, 4, 5, 6, 7] rfl (by decide +kernel) 3 rfl rfl rfl rfl (Nat.le_of_ble_eq_true rfl) dX6_needs_8) rfl ?_
  refine ik_if_eq C 24 dX6_needs_11 (by decide) (fun hc => ?_) (fun hc => ?_)
  · have hf := ik_pos hc hf
    refine ik_aload_n C 0 rfl rfl dX6_needs_24 ?_
    refine ik_ldc C wl_5_3 dX6_needs_25 ?_
    obtain ⟨r2, g3, hc3, hf⟩ := ik_b2s hf
    have hM := (c_X6_tell l D cI cS o0 np0 kp0 tp0 r0 t0 sh0 f0 isk fnd (-1000001 : Int32) r2 g3 hc3)
    refine ik_goW (v := (some (.int r2))) (wc := (wz_X6of cI cS o0 np0 kp0 tp0 r0 t0 sh0 f0 isk fnd)) (w1 := (wz_X6of cI cS o0 np0 kp0 tp0 r0 t0 sh0 f0 isk g3)) [0, 1] [2, 3, 4, 5, 6, 7, 8, 9, 10, 11, 12, 13, 14, 15, 16, 17, 18, 19, 20, 21, 22, 23, 24, 25] 26 rfl rfl (wz_X6ofnt cI cS o0 np0 kp0 tp0 r0 t0 sh0 f0 nw0 nc0 np1 np2 np3 nw1 nw2 nw3 nw4 nc1 nc2 tw0 tc0 tp1 tp2 tp3 tw1 tw2 tw3 tw4 tc1 tc2 isk g3 nhour nair nrub nz nnb nkd ncl ngr noc nlit ncold nccell ncpow nsp nwm ndr thour tair trub tz tnb tkd tcl tgr toc tlit tcold tccell tcpow tsp twm tdr) rfl rfl rfl (by decide +kernel) (ik_runV (st := []) (As := [.int (-1000001 : Int32)]) C hM mv_X6_tell wl_5_16 ⟨rfl, rfl, Nat.le_of_ble_eq_true rfl, Nat.le_of_ble_eq_true rfl⟩ [0, 1] rfl (by decide +kernel) 0 rfl rfl rfl rfl (Nat.le_of_ble_eq_true rfl) dX6_needs_27) rfl ?_
    cases hf
    exact ik_iretW C hr hlk dX6_needs_30
  · have hf := ik_neg hc hf
    refine ik_iload_n C 2 rfl rfl dX6_needs_14 ?_
    refine ik_iconst (v := (1 : Int32)) C (by decide) dX6_needs_15 ?_
    refine ik_bipush (v := (48 : Int32)) C (by decide) dX6_needs_16 ?_
    obtain ⟨r2, hc2, hf⟩ := ik_b1s hf
    have hM := (c_X6_isWithin l D cI cS x2 (1 : Int32) (48 : Int32) r2 hc2)
    refine ik_goR (ik_runS (st := []) (As := [.int x2, .int (1 : Int32), .int (48 : Int32)]) C hM ms_X6_isWithin wl_5_10 ⟨rfl, rfl, Nat.le_of_ble_eq_true rfl, Nat.le_of_ble_eq_true rfl⟩ [] rfl (by decide +kernel) rfl rfl (Nat.le_of_ble_eq_true rfl) dX6_needs_18) rfl ?_
    refine ik_if_ne C 31 dX6_needs_21 (by decide) (fun hc => ?_) (fun hc => ?_)
    · have hf := ik_neg hc hf
      refine ik_aload_n C 0 rfl rfl dX6_needs_31 ?_
      refine ik_get C inlX6 0 rfl rfl 0 (by decide) wl_1_15 rfl (v := .ref np0) rfl dX6_needs_32 ?_
      refine ik_get C inlX1 2 rfl rfl 0 (by decide) wl_5_4 rfl (v := .ref nw0) rfl dX6_needs_35 ?_
      refine ik_iload_n C 1 rfl rfl dX6_needs_38 ?_
      obtain ⟨r3, hc3, hf⟩ := ik_b1s hf
      have hM := (c_X5_isGone l D cI cS nw0 nw1 nw2 nw3 nw4 nnb nkd ncl ngr noc x1 r3 hc3)
      refine ik_goR (ik_runV (st := []) (As := [.int x1]) C hM mv_X5_isGone wl_8_11 ⟨rfl, rfl, Nat.le_of_ble_eq_true rfl, Nat.le_of_ble_eq_true rfl⟩ [3, 4, 5, 6, 7] rfl (by decide +kernel) 3 rfl rfl rfl rfl (Nat.le_of_ble_eq_true rfl) dX6_needs_39) rfl ?_
      refine ik_if_ne C 53 dX6_needs_42 (by decide) (fun hc => ?_) (fun hc => ?_)
      · have hf := ik_neg hc hf
        refine ik_aload_n C 0 rfl rfl dX6_needs_53 ?_
        refine ik_ldc C wl_5_6 dX6_needs_54 ?_
        obtain ⟨r4, g5, hc5, hf⟩ := ik_b2s hf
        have hM := (c_X6_tell l D cI cS o0 np0 kp0 tp0 r0 t0 sh0 f0 isk fnd (-1000005 : Int32) r4 g5 hc5)
        refine ik_goW (v := (some (.int r4))) (wc := (wz_X6of cI cS o0 np0 kp0 tp0 r0 t0 sh0 f0 isk fnd)) (w1 := (wz_X6of cI cS o0 np0 kp0 tp0 r0 t0 sh0 f0 isk g5)) [0, 1] [2, 3, 4, 5, 6, 7, 8, 9, 10, 11, 12, 13, 14, 15, 16, 17, 18, 19, 20, 21, 22, 23, 24, 25] 26 rfl rfl (wz_X6ofnt cI cS o0 np0 kp0 tp0 r0 t0 sh0 f0 nw0 nc0 np1 np2 np3 nw1 nw2 nw3 nw4 nc1 nc2 tw0 tc0 tp1 tp2 tp3 tw1 tw2 tw3 tw4 tc1 tc2 isk g5 nhour nair nrub nz nnb nkd ncl ngr noc nlit ncold nccell ncpow nsp nwm ndr thour tair trub tz tnb tkd tcl tgr toc tlit tcold tccell tcpow tsp twm tdr) rfl rfl rfl (by decide +kernel) (ik_runV (st := []) (As := [.int (-1000005 : Int32)]) C hM mv_X6_tell wl_5_16 ⟨rfl, rfl, Nat.le_of_ble_eq_true rfl, Nat.le_of_ble_eq_true rfl⟩ [0, 1] rfl (by decide +kernel) 0 rfl rfl rfl rfl (Nat.le_of_ble_eq_true rfl) dX6_needs_56) rfl ?_
        cases hf
        exact ik_iretW C hr hlk dX6_needs_59
      · have hf := ik_pos hc hf
        refine ik_aload_n C 0 rfl rfl dX6_needs_45 ?_
        refine ik_iload_n C 2 rfl rfl dX6_needs_46 ?_
        obtain ⟨r4, hc4, hf⟩ := ik_b1s hf
        have hM := (c_X6_hasHours l D cI cS o0 np0 kp0 tp0 r0 t0 sh0 f0 nw0 nc0 np1 np2 np3 nw1 nw2 nw3 nw4 nc1 nc2 isk nhour nair nrub nz nnb nkd ncl ngr noc nlit ncold nccell ncpow nsp nwm ndr x2 r4 hc4)
        refine ik_goR (ik_runV (st := []) (As := [.int x2]) C hM mv_X6_hasHours wl_17_22 ⟨rfl, rfl, Nat.le_of_ble_eq_true rfl, Nat.le_of_ble_eq_true rfl⟩ [0, 2, 3, 4, 5, 6, 7, 8, 9, 10, 11, 12, 13] rfl (by decide +kernel) 0 rfl rfl rfl rfl (Nat.le_of_ble_eq_true rfl) dX6_needs_47) rfl ?_
        refine ik_if_ne C 60 dX6_needs_50 (by decide) (fun hc => ?_) (fun hc => ?_)
        · have hf := ik_neg hc hf
          refine ik_bipush (v := (99 : Int32)) C (by decide) dX6_needs_60 ?_
          refine ik_aload_n C 0 rfl rfl dX6_needs_62 ?_
          refine ik_get C inlX6 0 rfl rfl 0 (by decide) wl_1_15 rfl (v := .ref np0) rfl dX6_needs_63 ?_
          refine ik_get C inlX1 2 rfl rfl 0 (by decide) wl_5_4 rfl (v := .ref nw0) rfl dX6_needs_66 ?_
          refine ik_get C inlX5 3 rfl rfl 3 (by decide) wl_8_6 rfl (v := .ref nw3) rfl dX6_needs_69 ?_
          refine ik_iload_n C 1 rfl rfl dX6_needs_72 ?_
          have hg := ik_gdi hf
          have hf := ik_gdk hf
          refine ik_iald C 6 rfl hg dX6_needs_73 ?_
          refine ik_isub C dX6_needs_74 ?_
          refine ik_istore_n C [(3, .int ((99 : Int32) - (ngr (x1).toNatClampNeg))), (0, .ref o0), (1, .int x1), (2, .int x2)] rfl (by decide) rfl dX6_needs_75 ?_
          refine ik_iconst (v := (0 : Int32)) C (by decide) dX6_needs_76 ?_
          refine ik_istore C [(4, .int (0 : Int32)), (3, .int ((99 : Int32) - (ngr (x1).toNatClampNeg))), (0, .ref o0), (1, .int x1), (2, .int x2)] (by decide) rfl dX6_needs_77 ?_
          have hL_79 : ∀ (n_79 : Nat) (thour_79 : Int32) (tair_79 : Int32) (trub_79 : Int32) (tz_79 : Int32) (tnb_79 : Int32) (tkd_79 : Nat → Int32) (tcl_79 : Nat → Int32) (tgr_79 : Nat → Int32) (toc_79 : Nat → Int32) (tlit_79 : Int32) (tcold_79 : Int32) (tccell_79 : Nat → Int32) (tcpow_79 : Nat → Int32) (tsp_79 : Nat → Int32) (twm_79 : Nat → Int32) (tdr_79 : Nat → Int32) (x4_79 : Int32), ik_lp17 (b_X6_needs_79 fnd nhour nair nrub nz nnb nkd ncl ngr noc nlit ncold nccell ncpow nsp x1 x2) n_79 thour_79 tair_79 trub_79 tz_79 tnb_79 tkd_79 tcl_79 tgr_79 toc_79 tlit_79 tcold_79 tccell_79 tcpow_79 tsp_79 twm_79 tdr_79 x4_79 = some (R, fnd_r, thour_r, tair_r, trub_r, tz_r, tnb_r, tkd_r, tcl_r, tgr_r, toc_r, tlit_r, tcold_r, tccell_r, tcpow_r, tsp_r, twm_r, tdr_r) → ik_G p l e ({ frames := 6, cells := 0, slots := 0, locals := 144 } : Room) s m ([.ref o0, .int x1, .int x2] : List Value).toArray below meth c D (ik_in (wz_X6ofnt cI cS o0 np0 kp0 tp0 r0 t0 sh0 f0 nw0 nc0 np1 np2 np3 nw1 nw2 nw3 nw4 nc1 nc2 tw0 tc0 tp1 tp2 tp3 tw1 tw2 tw3 tw4 tc1 tc2 isk fnd nhour nair nrub nz nnb nkd ncl ngr noc nlit ncold nccell ncpow nsp nwm ndr thour tair trub tz tnb tkd tcl tgr toc tlit tcold tccell tcpow tsp twm tdr)) (ik_in (wz_X6ofnt cI cS o0 np0 kp0 tp0 r0 t0 sh0 f0 nw0 nc0 np1 np2 np3 nw1 nw2 nw3 nw4 nc1 nc2 tw0 tc0 tp1 tp2 tp3 tw1 tw2 tw3 tw4 tc1 tc2 isk fnd nhour nair nrub nz nnb nkd ncl ngr noc nlit ncold nccell ncpow nsp nwm ndr thour tair trub tz tnb tkd tcl tgr toc tlit tcold tccell tcpow tsp twm tdr)) 6 (MQ below (ik_Q (some (.int R)) D (wz_X6ofnt cI cS o0 np0 kp0 tp0 r0 t0 sh0 f0 nw0 nc0 np1 np2 np3 nw1 nw2 nw3 nw4 nc1 nc2 tw0 tc0 tp1 tp2 tp3 tw1 tw2 tw3 tw4 tc1 tc2 isk fnd_r nhour nair nrub nz nnb nkd ncl ngr noc nlit ncold nccell ncpow nsp nwm ndr thour_r tair_r trub_r tz_r tnb_r tkd_r tcl_r tgr_r toc_r tlit_r tcold_r tccell_r tcpow_r tsp_r twm_r tdr_r) (wz_X6ofnt cI cS o0 np0 kp0 tp0 r0 t0 sh0 f0 nw0 nc0 np1 np2 np3 nw1 nw2 nw3 nw4 nc1 nc2 tw0 tc0 tp1 tp2 tp3 tw1 tw2 tw3 tw4 tc1 tc2 isk fnd nhour nair nrub nz nnb nkd ncl ngr noc nlit ncold nccell ncpow nsp nwm ndr thour tair trub tz tnb tkd tcl tgr toc tlit tcold tccell tcpow tsp twm tdr)) ([.ref o0, .int x1, .int x2] : List Value).toArray s 0 0 (ik_in (wz_X6ofnt cI cS o0 np0 kp0 tp0 r0 t0 sh0 f0 nw0 nc0 np1 np2 np3 nw1 nw2 nw3 nw4 nc1 nc2 tw0 tc0 tp1 tp2 tp3 tw1 tw2 tw3 tw4 tc1 tc2 isk fnd nhour nair nrub nz nnb nkd ncl ngr noc nlit ncold nccell ncpow nsp nwm ndr thour tair trub tz tnb tkd tcl tgr toc tlit tcold tccell tcpow tsp twm tdr))) 79 [(4, .int x4_79), (3, .int ((99 : Int32) - (ngr (x1).toNatClampNeg))), (0, .ref o0), (1, .int x1), (2, .int x2)] [] (wz_X6ofnt cI cS o0 np0 kp0 tp0 r0 t0 sh0 f0 nw0 nc0 np1 np2 np3 nw1 nw2 nw3 nw4 nc1 nc2 tw0 tc0 tp1 tp2 tp3 tw1 tw2 tw3 tw4 tc1 tc2 isk fnd nhour nair nrub nz nnb nkd ncl ngr noc nlit ncold nccell ncpow nsp nwm ndr thour_79 tair_79 trub_79 tz_79 tnb_79 tkd_79 tcl_79 tgr_79 toc_79 tlit_79 tcold_79 tccell_79 tcpow_79 tsp_79 twm_79 tdr_79) := by
            intro n_79
            induction n_79 with
            | zero => intro _ _ _ _ _ _ _ _ _ _ _ _ _ _ _ _ _ hf; exact nomatch hf
            | succ n_79 ih_79 =>
              intro thour_79 tair_79 trub_79 tz_79 tnb_79 tkd_79 tcl_79 tgr_79 toc_79 tlit_79 tcold_79 tccell_79 tcpow_79 tsp_79 twm_79 tdr_79 x4_79 hf
              replace hf : b_X6_needs_79 fnd nhour nair nrub nz nnb nkd ncl ngr noc nlit ncold nccell ncpow nsp x1 x2 (ik_lp17 (b_X6_needs_79 fnd nhour nair nrub nz nnb nkd ncl ngr noc nlit ncold nccell ncpow nsp x1 x2) n_79) thour_79 tair_79 trub_79 tz_79 tnb_79 tkd_79 tcl_79 tgr_79 toc_79 tlit_79 tcold_79 tccell_79 tcpow_79 tsp_79 twm_79 tdr_79 x4_79 = some (R, fnd_r, thour_r, tair_r, trub_r, tz_r, tnb_r, tkd_r, tcl_r, tgr_r, toc_r, tlit_r, tcold_r, tccell_r, tcpow_r, tsp_r, twm_r, tdr_r) := hf
              unfold b_X6_needs_79 at hf
              refine ik_iload C 0 rfl dX6_needs_79 ?_
              refine ik_iload_n C 1 rfl rfl dX6_needs_81 ?_
              refine ik_icmp_gt C 122 dX6_needs_82 (by decide) (fun hc => ?_) (fun hc => ?_)
              · have hf := ik_pos hc hf
                refine ik_aload_n C 2 rfl rfl dX6_needs_122 ?_
                refine ik_ldc C wl_25_9 dX6_needs_123 ?_
                obtain ⟨r5, g6, hc6, hf⟩ := ik_b2s hf
                have hM := (c_X6_tell l D cI cS o0 np0 kp0 tp0 r0 t0 sh0 f0 isk fnd (-1000004 : Int32) r5 g6 hc6)
                refine ik_goW (v := (some (.int r5))) (wc := (wz_X6of cI cS o0 np0 kp0 tp0 r0 t0 sh0 f0 isk fnd)) (w1 := (wz_X6of cI cS o0 np0 kp0 tp0 r0 t0 sh0 f0 isk g6)) [0, 1] [2, 3, 4, 5, 6, 7, 8, 9, 10, 11, 12, 13, 14, 15, 16, 17, 18, 19, 20, 21, 22, 23, 24, 25] 26 rfl rfl (wz_X6ofnt cI cS o0 np0 kp0 tp0 r0 t0 sh0 f0 nw0 nc0 np1 np2 np3 nw1 nw2 nw3 nw4 nc1 nc2 tw0 tc0 tp1 tp2 tp3 tw1 tw2 tw3 tw4 tc1 tc2 isk g6 nhour nair nrub nz nnb nkd ncl ngr noc nlit ncold nccell ncpow nsp nwm ndr thour_79 tair_79 trub_79 tz_79 tnb_79 tkd_79 tcl_79 tgr_79 toc_79 tlit_79 tcold_79 tccell_79 tcpow_79 tsp_79 twm_79 tdr_79) rfl rfl rfl (by decide +kernel) (ik_runV (st := []) (As := [.int (-1000004 : Int32)]) C hM mv_X6_tell wl_5_16 ⟨rfl, rfl, Nat.le_of_ble_eq_true rfl, Nat.le_of_ble_eq_true rfl⟩ [0, 1] rfl (by decide +kernel) 0 rfl rfl rfl rfl (Nat.le_of_ble_eq_true rfl) dX6_needs_125) rfl ?_
                cases hf
                exact ik_iretW C hr hlk dX6_needs_128
              · have hf := ik_neg hc hf
                refine ik_aload_n C 2 rfl rfl dX6_needs_85 ?_
                obtain ⟨g5, g6, g7, g8, g9, g10, g11, g12, g13, g14, g15, g16, g17, g18, hc18, hf⟩ := ik_b14s hf
                have hM := (c_X6_freshTrial l D cI cS o0 np0 kp0 tp0 r0 t0 sh0 f0 nw0 nc0 np1 np2 np3 nw1 nw2 nw3 nw4 nc1 nc2 tw0 tc0 tp1 tp2 tp3 tw1 tw2 tw3 tw4 tc1 tc2 isk nhour nair nrub nz nnb nkd ncl ngr noc nlit ncold nccell ncpow nsp nwm ndr thour_79 tair_79 trub_79 tz_79 tnb_79 tkd_79 tcl_79 tgr_79 toc_79 tlit_79 tcold_79 tccell_79 tcpow_79 tsp_79 twm_79 tdr_79 g5 g6 g7 g8 g9 g10 g11 g12 g13 g14 g15 g16 g17 g18 hc18)
                refine ik_goW (v := (some (.ref tp0))) (wc := (wz_X6ont cI cS o0 np0 kp0 tp0 r0 t0 sh0 f0 nw0 nc0 np1 np2 np3 nw1 nw2 nw3 nw4 nc1 nc2 tw0 tc0 tp1 tp2 tp3 tw1 tw2 tw3 tw4 tc1 tc2 isk nhour nair nrub nz nnb nkd ncl ngr noc nlit ncold nccell ncpow nsp nwm ndr thour_79 tair_79 trub_79 tz_79 tnb_79 tkd_79 tcl_79 tgr_79 toc_79 tlit_79 tcold_79 tccell_79 tcpow_79 tsp_79 twm_79 tdr_79)) (w1 := (wz_X6ont cI cS o0 np0 kp0 tp0 r0 t0 sh0 f0 nw0 nc0 np1 np2 np3 nw1 nw2 nw3 nw4 nc1 nc2 tw0 tc0 tp1 tp2 tp3 tw1 tw2 tw3 tw4 tc1 tc2 isk nhour nair nrub nz nnb nkd ncl ngr noc nlit ncold nccell ncpow nsp nwm ndr g5 g6 g7 g8 g9 g10 g11 g12 g13 g14 g15 g16 g17 g18 twm_79 tdr_79)) [0, 2, 3, 4, 5, 6, 7, 8, 9, 10, 11, 12, 13, 14, 15, 16, 17, 18, 19, 20, 21, 22, 23, 24, 25] [1] 26 rfl rfl (wz_X6ofnt cI cS o0 np0 kp0 tp0 r0 t0 sh0 f0 nw0 nc0 np1 np2 np3 nw1 nw2 nw3 nw4 nc1 nc2 tw0 tc0 tp1 tp2 tp3 tw1 tw2 tw3 tw4 tc1 tc2 isk fnd nhour nair nrub nz nnb nkd ncl ngr noc nlit ncold nccell ncpow nsp nwm ndr g5 g6 g7 g8 g9 g10 g11 g12 g13 g14 g15 g16 g17 g18 twm_79 tdr_79) rfl rfl rfl (by decide +kernel) (ik_runV (st := []) (As := []) C hM mv_X6_freshTrial wl_23_10 ⟨rfl, rfl, Nat.le_of_ble_eq_true rfl, Nat.le_of_ble_eq_true rfl⟩ [0, 2, 3, 4, 5, 6, 7, 8, 9, 10, 11, 12, 13, 14, 15, 16, 17, 18, 19, 20, 21, 22, 23, 24, 25] rfl (by decide +kernel) 0 rfl rfl rfl rfl (Nat.le_of_ble_eq_true rfl) dX6_needs_86) rfl ?_
                refine ik_astore C [(5, .ref tp0), (4, .int x4_79), (3, .int ((99 : Int32) - (ngr (x1).toNatClampNeg))), (0, .ref o0), (1, .int x1), (2, .int x2)] (by decide) rfl dX6_needs_89 ?_
                refine ik_aload C 0 rfl dX6_needs_91 ?_
                refine ik_get C inlX1 14 rfl rfl 0 (by decide) wl_5_4 rfl (v := .ref tw0) rfl dX6_needs_93 ?_
                refine ik_iload_n C 4 rfl rfl dX6_needs_96 ?_
                refine ik_iload C 1 rfl dX6_needs_97 ?_
                obtain ⟨r19, g20, hc20, hf⟩ := ik_b2s hf
                have hM := (c_X5_thicken l D cI cS tw0 tw1 tw2 tw3 tw4 g9 g10 g11 g12 g13 x1 x4_79 r19 g20 hc20)
                refine ik_goW (v := (some (.int r19))) (wc := (wz_X5 cI cS tw0 tw1 tw2 tw3 tw4 g9 g10 g11 g12 g13)) (w1 := (wz_X5 cI cS tw0 tw1 tw2 tw3 tw4 g9 g10 g11 g20 g13)) [15, 16, 17, 18, 19] [0, 1, 2, 3, 4, 5, 6, 7, 8, 9, 10, 11, 12, 13, 14, 20, 21, 22, 23, 24, 25] 26 rfl rfl (wz_X6ofnt cI cS o0 np0 kp0 tp0 r0 t0 sh0 f0 nw0 nc0 np1 np2 np3 nw1 nw2 nw3 nw4 nc1 nc2 tw0 tc0 tp1 tp2 tp3 tw1 tw2 tw3 tw4 tc1 tc2 isk fnd nhour nair nrub nz nnb nkd ncl ngr noc nlit ncold nccell ncpow nsp nwm ndr g5 g6 g7 g8 g9 g10 g11 g20 g13 g14 g15 g16 g17 g18 twm_79 tdr_79) rfl rfl rfl (by decide +kernel) (ik_runV (st := []) (As := [.int x1, .int x4_79]) C hM mv_X5_thicken wl_14_1 ⟨rfl, rfl, Nat.le_of_ble_eq_true rfl, Nat.le_of_ble_eq_true rfl⟩ [15, 16, 17, 18, 19] rfl (by decide +kernel) 15 rfl rfl rfl rfl (Nat.le_of_ble_eq_true rfl) dX6_needs_99) rfl ?_
                refine ik_pop C rfl dX6_needs_102 ?_
                refine ik_aload C 0 rfl dX6_needs_103 ?_
                refine ik_iload_n C 5 rfl rfl dX6_needs_105 ?_
                obtain ⟨r21, g22, g23, g24, g25, g26, g27, g28, g29, hc29, hf⟩ := ik_b9s hf
                have hM := (c_X1_hoursHeld l D cI cS tp0 tw0 tc0 tp1 tp2 tp3 tw1 tw2 tw3 tw4 tc1 tc2 g5 g6 g7 g8 g9 g10 g11 g20 g13 g14 g15 g16 g17 g18 twm_79 tdr_79 x2 r21 g22 g23 g24 g25 g26 g27 g28 g29 hc29)
                refine ik_goW (v := (some (.int r21))) (wc := (wz_X1 cI cS tp0 tw0 tc0 tp1 tp2 tp3 tw1 tw2 tw3 tw4 tc1 tc2 g5 g6 g7 g8 g9 g10 g11 g20 g13 g14 g15 g16 g17 g18 twm_79 tdr_79)) (w1 := (wz_X1 cI cS tp0 tw0 tc0 tp1 tp2 tp3 tw1 tw2 tw3 tw4 tc1 tc2 g22 g23 g24 g8 g9 g10 g25 g26 g27 g14 g15 g16 g17 g18 g28 g29)) [14, 15, 16, 17, 18, 19, 20, 21, 22, 23, 24, 25] [0, 1, 2, 3, 4, 5, 6, 7, 8, 9, 10, 11, 12, 13] 26 rfl rfl (wz_X6ofnt cI cS o0 np0 kp0 tp0 r0 t0 sh0 f0 nw0 nc0 np1 np2 np3 nw1 nw2 nw3 nw4 nc1 nc2 tw0 tc0 tp1 tp2 tp3 tw1 tw2 tw3 tw4 tc1 tc2 isk fnd nhour nair nrub nz nnb nkd ncl ngr noc nlit ncold nccell ncpow nsp nwm ndr g22 g23 g24 g8 g9 g10 g25 g26 g27 g14 g15 g16 g17 g18 g28 g29) rfl rfl rfl (by decide +kernel) (ik_runV (st := []) (As := [.int x2]) C hM mv_X1_hoursHeld wl_26_7 ⟨rfl, rfl, Nat.le_of_ble_eq_true rfl, Nat.le_of_ble_eq_true rfl⟩ [14, 15, 16, 17, 18, 19, 20, 21, 22, 23, 24, 25] rfl (by decide +kernel) 14 rfl rfl rfl rfl (Nat.le_of_ble_eq_true rfl) dX6_needs_106) rfl ?_
                refine ik_iload_n C 5 rfl rfl dX6_needs_109 ?_
                refine ik_icmp_ne C 116 dX6_needs_110 (by decide) (fun hc => ?_) (fun hc => ?_)
                · have hf := ik_neg hc hf
                  refine ik_iinc C [(4, .int (x4_79 + (1 : Int32))), (5, .ref tp0), (3, .int ((99 : Int32) - (ngr (x1).toNatClampNeg))), (0, .ref o0), (1, .int x1), (2, .int x2)] 1 rfl rfl (by decide) rfl dX6_needs_116 ?_
                  refine ik_goto C 79 dX6_needs_119 (by decide) ?_
                  exact ik_sub [0, 2, 3, 4, 5] [(4, .int (x4_79 + (1 : Int32))), (3, .int ((99 : Int32) - (ngr (x1).toNatClampNeg))), (0, .ref o0), (1, .int x1), (2, .int x2)] rfl (ih_79 g22 g23 g24 g8 g9 g10 g25 g26 g27 g14 g15 g16 g17 g18 g28 g29 (x4_79 + (1 : Int32)) hf)
                · have hf := ik_pos hc hf
                  refine ik_iload C 1 rfl dX6_needs_113 ?_
                  cases hf
                  exact ik_iretW C hr hlk dX6_needs_115
          exact hL_79 ik_fu thour tair trub tz tnb tkd tcl tgr toc tlit tcold tccell tcpow tsp twm tdr (0 : Int32) hf
        · have hf := ik_pos hc hf
          refine ik_aload_n C 0 rfl rfl dX6_needs_53 ?_
          refine ik_ldc C wl_5_6 dX6_needs_54 ?_
          obtain ⟨r5, g6, hc6, hf⟩ := ik_b2s hf
          have hM := (c_X6_tell l D cI cS o0 np0 kp0 tp0 r0 t0 sh0 f0 isk fnd (-1000005 : Int32) r5 g6 hc6)
          refine ik_goW (v := (some (.int r5))) (wc := (wz_X6of cI cS o0 np0 kp0 tp0 r0 t0 sh0 f0 isk fnd)) (w1 := (wz_X6of cI cS o0 np0 kp0 tp0 r0 t0 sh0 f0 isk g6)) [0, 1] [2, 3, 4, 5, 6, 7, 8, 9, 10, 11, 12, 13, 14, 15, 16, 17, 18, 19, 20, 21, 22, 23, 24, 25] 26 rfl rfl (wz_X6ofnt cI cS o0 np0 kp0 tp0 r0 t0 sh0 f0 nw0 nc0 np1 np2 np3 nw1 nw2 nw3 nw4 nc1 nc2 tw0 tc0 tp1 tp2 tp3 tw1 tw2 tw3 tw4 tc1 tc2 isk g6 nhour nair nrub nz nnb nkd ncl ngr noc nlit ncold nccell ncpow nsp nwm ndr thour tair trub tz tnb tkd tcl tgr toc tlit tcold tccell tcpow tsp twm tdr) rfl rfl rfl (by decide +kernel) (ik_runV (st := []) (As := [.int (-1000005 : Int32)]) C hM mv_X6_tell wl_5_16 ⟨rfl, rfl, Nat.le_of_ble_eq_true rfl, Nat.le_of_ble_eq_true rfl⟩ [0, 1] rfl (by decide +kernel) 0 rfl rfl rfl rfl (Nat.le_of_ble_eq_true rfl) dX6_needs_56) rfl ?_
          cases hf
          exact ik_iretW C hr hlk dX6_needs_59
    · have hf := ik_pos hc hf
      refine ik_aload_n C 0 rfl rfl dX6_needs_24 ?_
      refine ik_ldc C wl_5_3 dX6_needs_25 ?_
      obtain ⟨r3, g4, hc4, hf⟩ := ik_b2s hf
      have hM := (c_X6_tell l D cI cS o0 np0 kp0 tp0 r0 t0 sh0 f0 isk fnd (-1000001 : Int32) r3 g4 hc4)
      refine ik_goW (v := (some (.int r3))) (wc := (wz_X6of cI cS o0 np0 kp0 tp0 r0 t0 sh0 f0 isk fnd)) (w1 := (wz_X6of cI cS o0 np0 kp0 tp0 r0 t0 sh0 f0 isk g4)) [0, 1] [2, 3, 4, 5, 6, 7, 8, 9, 10, 11, 12, 13, 14, 15, 16, 17, 18, 19, 20, 21, 22, 23, 24, 25] 26 rfl rfl (wz_X6ofnt cI cS o0 np0 kp0 tp0 r0 t0 sh0 f0 nw0 nc0 np1 np2 np3 nw1 nw2 nw3 nw4 nc1 nc2 tw0 tc0 tp1 tp2 tp3 tw1 tw2 tw3 tw4 tc1 tc2 isk g4 nhour nair nrub nz nnb nkd ncl ngr noc nlit ncold nccell ncpow nsp nwm ndr thour tair trub tz tnb tkd tcl tgr toc tlit tcold tccell tcpow tsp twm tdr) rfl rfl rfl (by decide +kernel) (ik_runV (st := []) (As := [.int (-1000001 : Int32)]) C hM mv_X6_tell wl_5_16 ⟨rfl, rfl, Nat.le_of_ble_eq_true rfl, Nat.le_of_ble_eq_true rfl⟩ [0, 1] rfl (by decide +kernel) 0 rfl rfl rfl rfl (Nat.le_of_ble_eq_true rfl) dX6_needs_27) rfl ?_
      cases hf
      exact ik_iretW C hr hlk dX6_needs_30
theorem mv_X6_mend : ik_V yX6_mend RX6 cX6_mend 7 (some .int) 1 := ⟨wl_28_12, wl_28_13, wl_1_2, wl_28_14, by decide +kernel⟩
set_option maxHeartbeats 4000000 in
set_option maxRecDepth 100000 in
theorem c_X6_mend (l : Launch) (D : va_G) (cI cS : ClassId) (o0 np0 kp0 tp0 r0 t0 sh0 f0 nw0 nc0 np1 np2 np3 nw1 nw2 nw3 nw4 nc1 nc2 tw0 tc0 tp1 tp2 tp3 tw1 tw2 tw3 tw4 tc1 tc2 : Nat) (isk : Int32) (fnd : Nat → Int32) (nhour : Int32) (nair : Int32) (nrub : Int32) (nz : Int32) (nnb : Int32) (nkd : Nat → Int32) (ncl : Nat → Int32) (ngr : Nat → Int32) (noc : Nat → Int32) (nlit : Int32) (ncold : Int32) (nccell : Nat → Int32) (ncpow : Nat → Int32) (nsp : Nat → Int32) (nwm : Nat → Int32) (ndr : Nat → Int32) (thour : Int32) (tair : Int32) (trub : Int32) (tz : Int32) (tnb : Int32) (tkd : Nat → Int32) (tcl : Nat → Int32) (tgr : Nat → Int32) (toc : Nat → Int32) (tlit : Int32) (tcold : Int32) (tccell : Nat → Int32) (tcpow : Nat → Int32) (tsp : Nat → Int32) (twm : Nat → Int32) (tdr : Nat → Int32) (x1 : Int32) (R : Int32) (fnd_r : Nat → Int32) (thour_r : Int32) (tair_r : Int32) (trub_r : Int32) (tz_r : Int32) (tnb_r : Int32) (tkd_r : Nat → Int32) (tcl_r : Nat → Int32) (tgr_r : Nat → Int32) (toc_r : Nat → Int32) (tlit_r : Int32) (tcold_r : Int32) (tccell_r : Nat → Int32) (tcpow_r : Nat → Int32) (tsp_r : Nat → Int32) (twm_r : Nat → Int32) (tdr_r : Nat → Int32) (hf : f_X6_mend fnd nhour nair nrub nz nnb nkd ncl ngr noc nlit ncold nccell ncpow nsp thour tair trub tz tnb tkd tcl tgr toc tlit tcold tccell tcpow tsp twm tdr x1 = some (R, fnd_r, thour_r, tair_r, trub_r, tz_r, tnb_r, tkd_r, tcl_r, tgr_r, toc_r, tlit_r, tcold_r, tccell_r, tcpow_r, tsp_r, twm_r, tdr_r)) : Met l yX6_mend (ik_ws yX6_mend cX6_mend 7 (some .int)) ({ frames := 6, cells := 0, slots := 0, locals := 144 } : Room) (ik_P D cI cS [.ref o0, .int x1] (wz_X6ofnt cI cS o0 np0 kp0 tp0 r0 t0 sh0 f0 nw0 nc0 np1 np2 np3 nw1 nw2 nw3 nw4 nc1 nc2 tw0 tc0 tp1 tp2 tp3 tw1 tw2 tw3 tw4 tc1 tc2 isk fnd nhour nair nrub nz nnb nkd ncl ngr noc nlit ncold nccell ncpow nsp nwm ndr thour tair trub tz tnb tkd tcl tgr toc tlit tcold tccell tcpow tsp twm tdr)) (ik_Q (some (.int R)) D (wz_X6ofnt cI cS o0 np0 kp0 tp0 r0 t0 sh0 f0 nw0 nc0 np1 np2 np3 nw1 nw2 nw3 nw4 nc1 nc2 tw0 tc0 tp1 tp2 tp3 tw1 tw2 tw3 tw4 tc1 tc2 isk fnd_r nhour nair nrub nz nnb nkd ncl ngr noc nlit ncold nccell ncpow nsp nwm ndr thour_r tair_r trub_r tz_r tnb_r tkd_r tcl_r tgr_r toc_r tlit_r tcold_r tccell_r tcpow_r tsp_r twm_r tdr_r) (wz_X6ofnt cI cS o0 np0 kp0 tp0 r0 t0 sh0 f0 nw0 nc0 np1 np2 np3 nw1 nw2 nw3 nw4 nc1 nc2 tw0 tc0 tp1 tp2 tp3 tw1 tw2 tw3 tw4 tc1 tc2 isk fnd nhour nair nrub nz nnb nkd ncl ngr noc nlit ncold nccell ncpow nsp nwm ndr thour tair trub tz tnb tkd tcl tgr toc tlit tcold tccell tcpow tsp twm tdr)) 0 0 (ik_in (wz_X6ofnt cI cS o0 np0 kp0 tp0 r0 t0 sh0 f0 nw0 nc0 np1 np2 np3 nw1 nw2 nw3 nw4 nc1 nc2 tw0 tc0 tp1 tp2 tp3 tw1 tw2 tw3 tw4 tc1 tc2 isk fnd nhour nair nrub nz nnb nkd ncl ngr noc nlit ncold nccell ncpow nsp nwm ndr thour tair trub tz tnb tkd tcl tgr toc tlit tcold tccell tcpow tsp twm tdr)) := by
  refine ik_metW RX6 rfl (by decide) (Nat.le_of_ble_eq_true rfl) [(0, .ref o0), (1, .int x1)] rfl ?_
  intro p e s m below meth c C hr hlk
  unfold f_X6_mend at hf
  refine ik_iload_n C 1 rfl rfl dX6_mend_0 ?_
  refine ik_iconst (v := (1 : Int32)) C (by decide) dX6_mend_1 ?_
  refine ik_bipush (v := (98 : Int32)) C (by decide) dX6_mend_2 ?_
  obtain ⟨r1, hc1, hf⟩ := ik_b1s hf
  have hM := (c_X6_isWithin l D cI cS x1 (1 : Int32) (98 : Int32) r1 hc1)
  refine ik_goR (ik_runS (st := []) (As := [.int x1, .int (1 : Int32), .int (98 : Int32)]) C hM ms_X6_isWithin wl_5_10 ⟨rfl, rfl, Nat.le_of_ble_eq_true rfl, Nat.le_of_ble_eq_true rfl⟩ [] rfl (by decide +kernel) rfl rfl (Nat.le_of_ble_eq_true rfl) dX6_mend_4) rfl ?_
  refine ik_if_ne C 17 dX6_mend_7 (by decide) (fun hc => ?_) (fun hc => ?_)
  · have hf := ik_neg hc hf
    refine ik_aload_n C 0 rfl rfl dX6_mend_17 ?_
    refine ik_bipush (v := (96 : Int32)) C (by decide) dX6_mend_18 ?_
    obtain ⟨r2, hc2, hf⟩ := ik_b1s hf
    have hM := (c_X6_hasHours l D cI cS o0 np0 kp0 tp0 r0 t0 sh0 f0 nw0 nc0 np1 np2 np3 nw1 nw2 nw3 nw4 nc1 nc2 isk nhour nair nrub nz nnb nkd ncl ngr noc nlit ncold nccell ncpow nsp nwm ndr (96 : Int32) r2 hc2)
    refine ik_goR (ik_runV (st := []) (As := [.int (96 : Int32)]) C hM mv_X6_hasHours wl_17_22 ⟨rfl, rfl, Nat.le_of_ble_eq_true rfl, Nat.le_of_ble_eq_true rfl⟩ [0, 2, 3, 4, 5, 6, 7, 8, 9, 10, 11, 12, 13] rfl (by decide +kernel) 0 rfl rfl rfl rfl (Nat.le_of_ble_eq_true rfl) dX6_mend_20) rfl ?_
    refine ik_if_ne C 33 dX6_mend_23 (by decide) (fun hc => ?_) (fun hc => ?_)
    · have hf := ik_neg hc hf
      refine ik_iconst (v := (-1 : Int32)) C (by decide) dX6_mend_33 ?_
      refine ik_istore_n C [(2, .int (-1 : Int32)), (0, .ref o0), (1, .int x1)] rfl (by decide) rfl dX6_mend_34 ?_
      refine ik_iconst (v := (-1 : Int32)) C (by decide) dX6_mend_35 ?_
      refine ik_istore_n C [(3, .int (-1 : Int32)), (2, .int (-1 : Int32)), (0, .ref o0), (1, .int x1)] rfl (by decide) rfl dX6_mend_36 ?_
      refine ik_iconst (v := (0 : Int32)) C (by decide) dX6_mend_37 ?_
      refine ik_istore C [(4, .int (0 : Int32)), (3, .int (-1 : Int32)), (2, .int (-1 : Int32)), (0, .ref o0), (1, .int x1)] (by decide) rfl dX6_mend_38 ?_
      have hL_40 : ∀ (n_40 : Nat) (thour_40 : Int32) (tair_40 : Int32) (trub_40 : Int32) (tz_40 : Int32) (tnb_40 : Int32) (tkd_40 : Nat → Int32) (tcl_40 : Nat → Int32) (tgr_40 : Nat → Int32) (toc_40 : Nat → Int32) (tlit_40 : Int32) (tcold_40 : Int32) (tccell_40 : Nat → Int32) (tcpow_40 : Nat → Int32) (tsp_40 : Nat → Int32) (twm_40 : Nat → Int32) (tdr_40 : Nat → Int32) (x2_40 : Int32) (x3_40 : Int32) (x4_40 : Int32), ik_lp19 (b_X6_mend_40 fnd nhour nair nrub nz nnb nkd ncl ngr noc nlit ncold nccell ncpow nsp x1) n_40 thour_40 tair_40 trub_40 tz_40 tnb_40 tkd_40 tcl_40 tgr_40 toc_40 tlit_40 tcold_40 tccell_40 tcpow_40 tsp_40 twm_40 tdr_40 x2_40 x3_40 x4_40 = some (R, fnd_r, thour_r, tair_r, trub_r, tz_r, tnb_r, tkd_r, tcl_r, tgr_r, toc_r, tlit_r, tcold_r, tccell_r, tcpow_r, tsp_r, twm_r, tdr_r) → ik_G p l e ({ frames := 6, cells := 0, slots := 0, locals := 144 } : Room) s m ([.ref o0, .int x1] : List Value).toArray below meth c D (ik_in (wz_X6ofnt cI cS o0 np0 kp0 tp0 r0 t0 sh0 f0 nw0 nc0 np1 np2 np3 nw1 nw2 nw3 nw4 nc1 nc2 tw0 tc0 tp1 tp2 tp3 tw1 tw2 tw3 tw4 tc1 tc2 isk fnd nhour nair nrub nz nnb nkd ncl ngr noc nlit ncold nccell ncpow nsp nwm ndr thour tair trub tz tnb tkd tcl tgr toc tlit tcold tccell tcpow tsp twm tdr)) (ik_in (wz_X6ofnt cI cS o0 np0 kp0 tp0 r0 t0 sh0 f0 nw0 nc0 np1 np2 np3 nw1 nw2 nw3 nw4 nc1 nc2 tw0 tc0 tp1 tp2 tp3 tw1 tw2 tw3 tw4 tc1 tc2 isk fnd nhour nair nrub nz nnb nkd ncl ngr noc nlit ncold nccell ncpow nsp nwm ndr thour tair trub tz tnb tkd tcl tgr toc tlit tcold tccell tcpow tsp twm tdr)) 7 (MQ below (ik_Q (some (.int R)) D (wz_X6ofnt cI cS o0 np0 kp0 tp0 r0 t0 sh0 f0 nw0 nc0 np1 np2 np3 nw1 nw2 nw3 nw4 nc1 nc2 tw0 tc0 tp1 tp2 tp3 tw1 tw2 tw3 tw4 tc1 tc2 isk fnd_r nhour nair nrub nz nnb nkd ncl ngr noc nlit ncold nccell ncpow nsp nwm ndr thour_r tair_r trub_r tz_r tnb_r tkd_r tcl_r tgr_r toc_r tlit_r tcold_r tccell_r tcpow_r tsp_r twm_r tdr_r) (wz_X6ofnt cI cS o0 np0 kp0 tp0 r0 t0 sh0 f0 nw0 nc0 np1 np2 np3 nw1 nw2 nw3 nw4 nc1 nc2 tw0 tc0 tp1 tp2 tp3 tw1 tw2 tw3 tw4 tc1 tc2 isk fnd nhour nair nrub nz nnb nkd ncl ngr noc nlit ncold nccell ncpow nsp nwm ndr thour tair trub tz tnb tkd tcl tgr toc tlit tcold tccell tcpow tsp twm tdr)) ([.ref o0, .int x1] : List Value).toArray s 0 0 (ik_in (wz_X6ofnt cI cS o0 np0 kp0 tp0 r0 t0 sh0 f0 nw0 nc0 np1 np2 np3 nw1 nw2 nw3 nw4 nc1 nc2 tw0 tc0 tp1 tp2 tp3 tw1 tw2 tw3 tw4 tc1 tc2 isk fnd nhour nair nrub nz nnb nkd ncl ngr noc nlit ncold nccell ncpow nsp nwm ndr thour tair trub tz tnb tkd tcl tgr toc tlit tcold tccell tcpow tsp twm tdr))) 40 [(4, .int x4_40), (3, .int x3_40), (2, .int x2_40), (0, .ref o0), (1, .int x1)] [] (wz_X6ofnt cI cS o0 np0 kp0 tp0 r0 t0 sh0 f0 nw0 nc0 np1 np2 np3 nw1 nw2 nw3 nw4 nc1 nc2 tw0 tc0 tp1 tp2 tp3 tw1 tw2 tw3 tw4 tc1 tc2 isk fnd nhour nair nrub nz nnb nkd ncl ngr noc nlit ncold nccell ncpow nsp nwm ndr thour_40 tair_40 trub_40 tz_40 tnb_40 tkd_40 tcl_40 tgr_40 toc_40 tlit_40 tcold_40 tccell_40 tcpow_40 tsp_40 twm_40 tdr_40) := by
        intro n_40
        induction n_40 with
        | zero => intro _ _ _ _ _ _ _ _ _ _ _ _ _ _ _ _ _ _ _ hf; exact nomatch hf
        | succ n_40 ih_40 =>
          intro thour_40 tair_40 trub_40 tz_40 tnb_40 tkd_40 tcl_40 tgr_40 toc_40 tlit_40 tcold_40 tccell_40 tcpow_40 tsp_40 twm_40 tdr_40 x2_40 x3_40 x4_40 hf
          replace hf : b_X6_mend_40 fnd nhour nair nrub nz nnb nkd ncl ngr noc nlit ncold nccell ncpow nsp x1 (ik_lp19 (b_X6_mend_40 fnd nhour nair nrub nz nnb nkd ncl ngr noc nlit ncold nccell ncpow nsp x1) n_40) thour_40 tair_40 trub_40 tz_40 tnb_40 tkd_40 tcl_40 tgr_40 toc_40 tlit_40 tcold_40 tccell_40 tcpow_40 tsp_40 twm_40 tdr_40 x2_40 x3_40 x4_40 = some (R, fnd_r, thour_r, tair_r, trub_r, tz_r, tnb_r, tkd_r, tcl_r, tgr_r, toc_r, tlit_r, tcold_r, tccell_r, tcpow_r, tsp_r, twm_r, tdr_r) := hf
          unfold b_X6_mend_40 at hf
          refine ik_iload C 0 rfl dX6_mend_40 ?_
          refine ik_aload_n C 3 rfl rfl dX6_mend_42 ?_
          refine ik_get C inlX6 0 rfl rfl 0 (by decide) wl_1_15 rfl (v := .ref np0) rfl dX6_mend_43 ?_
          refine ik_get C inlX1 2 rfl rfl 0 (by decide) wl_5_4 rfl (v := .ref nw0) rfl dX6_mend_46 ?_
          refine ik_get C inlX5 3 rfl rfl 0 (by decide) wl_28_15 rfl (v := .int nnb) rfl dX6_mend_49 ?_
          refine ik_icmp_ge C 118 dX6_mend_52 (by decide) (fun hc => ?_) (fun hc => ?_)
          · have hf := ik_pos hc hf
            refine ik_iload_n C 2 rfl rfl dX6_mend_118 ?_
            refine ik_if_ge C 131 dX6_mend_119 (by decide) (fun hc => ?_) (fun hc => ?_)
            · have hf := ik_pos hc hf
              refine ik_iload_n C 2 rfl rfl dX6_mend_131 ?_
              cases hf
              exact ik_iretW C hr hlk dX6_mend_132
            · have hf := ik_neg hc hf
              refine ik_aload_n C 3 rfl rfl dX6_mend_122 ?_
              refine ik_ldc C wl_25_9 dX6_mend_123 ?_
              obtain ⟨r3, g4, hc4, hf⟩ := ik_b2s hf
              have hM := (c_X6_tell l D cI cS o0 np0 kp0 tp0 r0 t0 sh0 f0 isk fnd (-1000004 : Int32) r3 g4 hc4)
              refine ik_goW (v := (some (.int r3))) (wc := (wz_X6of cI cS o0 np0 kp0 tp0 r0 t0 sh0 f0 isk fnd)) (w1 := (wz_X6of cI cS o0 np0 kp0 tp0 r0 t0 sh0 f0 isk g4)) [0, 1] [2, 3, 4, 5, 6, 7, 8, 9, 10, 11, 12, 13, 14, 15, 16, 17, 18, 19, 20, 21, 22, 23, 24, 25] 26 rfl rfl (wz_X6ofnt cI cS o0 np0 kp0 tp0 r0 t0 sh0 f0 nw0 nc0 np1 np2 np3 nw1 nw2 nw3 nw4 nc1 nc2 tw0 tc0 tp1 tp2 tp3 tw1 tw2 tw3 tw4 tc1 tc2 isk g4 nhour nair nrub nz nnb nkd ncl ngr noc nlit ncold nccell ncpow nsp nwm ndr thour_40 tair_40 trub_40 tz_40 tnb_40 tkd_40 tcl_40 tgr_40 toc_40 tlit_40 tcold_40 tccell_40 tcpow_40 tsp_40 twm_40 tdr_40) rfl rfl rfl (by decide +kernel) (ik_runV (st := []) (As := [.int (-1000004 : Int32)]) C hM mv_X6_tell wl_5_16 ⟨rfl, rfl, Nat.le_of_ble_eq_true rfl, Nat.le_of_ble_eq_true rfl⟩ [0, 1] rfl (by decide +kernel) 0 rfl rfl rfl rfl (Nat.le_of_ble_eq_true rfl) dX6_mend_125) rfl ?_
              refine ik_goto C 132 dX6_mend_128 (by decide) ?_
              cases hf
              exact ik_iretW C hr hlk dX6_mend_132
          · have hf := ik_neg hc hf
            refine ik_aload_n C 3 rfl rfl dX6_mend_55 ?_
            refine ik_get C inlX6 0 rfl rfl 0 (by decide) wl_1_15 rfl (v := .ref np0) rfl dX6_mend_56 ?_
            refine ik_get C inlX1 2 rfl rfl 0 (by decide) wl_5_4 rfl (v := .ref nw0) rfl dX6_mend_59 ?_
            refine ik_iload C 0 rfl dX6_mend_62 ?_
            obtain ⟨r3, hc3, hf⟩ := ik_b1s hf
            have hM := (c_X5_isGone l D cI cS nw0 nw1 nw2 nw3 nw4 nnb nkd ncl ngr noc x4_40 r3 hc3)
            refine ik_goR (ik_runV (st := []) (As := [.int x4_40]) C hM mv_X5_isGone wl_8_11 ⟨rfl, rfl, Nat.le_of_ble_eq_true rfl, Nat.le_of_ble_eq_true rfl⟩ [3, 4, 5, 6, 7] rfl (by decide +kernel) 3 rfl rfl rfl rfl (Nat.le_of_ble_eq_true rfl) dX6_mend_64) rfl ?_
            refine ik_if_eq C 73 dX6_mend_67 (by decide) (fun hc => ?_) (fun hc => ?_)
            · have hf := ik_pos hc hf
              refine ik_aload_n C 3 rfl rfl dX6_mend_73 ?_
              obtain ⟨g4, g5, g6, g7, g8, g9, g10, g11, g12, g13, g14, g15, g16, g17, hc17, hf⟩ := ik_b14s hf
              have hM := (c_X6_freshTrial l D cI cS o0 np0 kp0 tp0 r0 t0 sh0 f0 nw0 nc0 np1 np2 np3 nw1 nw2 nw3 nw4 nc1 nc2 tw0 tc0 tp1 tp2 tp3 tw1 tw2 tw3 tw4 tc1 tc2 isk nhour nair nrub nz nnb nkd ncl ngr noc nlit ncold nccell ncpow nsp nwm ndr thour_40 tair_40 trub_40 tz_40 tnb_40 tkd_40 tcl_40 tgr_40 toc_40 tlit_40 tcold_40 tccell_40 tcpow_40 tsp_40 twm_40 tdr_40 g4 g5 g6 g7 g8 g9 g10 g11 g12 g13 g14 g15 g16 g17 hc17)
              refine ik_goW (v := (some (.ref tp0))) (wc := (wz_X6ont cI cS o0 np0 kp0 tp0 r0 t0 sh0 f0 nw0 nc0 np1 np2 np3 nw1 nw2 nw3 nw4 nc1 nc2 tw0 tc0 tp1 tp2 tp3 tw1 tw2 tw3 tw4 tc1 tc2 isk nhour nair nrub nz nnb nkd ncl ngr noc nlit ncold nccell ncpow nsp nwm ndr thour_40 tair_40 trub_40 tz_40 tnb_40 tkd_40 tcl_40 tgr_40 toc_40 tlit_40 tcold_40 tccell_40 tcpow_40 tsp_40 twm_40 tdr_40)) (w1 := (wz_X6ont cI cS o0 np0 kp0 tp0 r0 t0 sh0 f0 nw0 nc0 np1 np2 np3 nw1 nw2 nw3 nw4 nc1 nc2 tw0 tc0 tp1 tp2 tp3 tw1 tw2 tw3 tw4 tc1 tc2 isk nhour nair nrub nz nnb nkd ncl ngr noc nlit ncold nccell ncpow nsp nwm ndr g4 g5 g6 g7 g8 g9 g10 g11 g12 g13 g14 g15 g16 g17 twm_40 tdr_40)) [0, 2, 3, 4, 5, 6, 7, 8, 9, 10, 11, 12, 13, 14, 15, 16, 17, 18, 19, 20, 21, 22, 23, 24, 25] [1] 26 rfl rfl (wz_X6ofnt cI cS o0 np0 kp0 tp0 r0 t0 sh0 f0 nw0 nc0 np1 np2 np3 nw1 nw2 nw3 nw4 nc1 nc2 tw0 tc0 tp1 tp2 tp3 tw1 tw2 tw3 tw4 tc1 tc2 isk fnd nhour nair nrub nz nnb nkd ncl ngr noc nlit ncold nccell ncpow nsp nwm ndr g4 g5 g6 g7 g8 g9 g10 g11 g12 g13 g14 g15 g16 g17 twm_40 tdr_40) rfl rfl rfl (by decide +kernel) (ik_runV (st := []) (As := []) C hM mv_X6_freshTrial wl_23_10 ⟨rfl, rfl, Nat.le_of_ble_eq_true rfl, Nat.le_of_ble_eq_true rfl⟩ [0, 2, 3, 4, 5, 6, 7, 8, 9, 10, 11, 12, 13, 14, 15, 16, 17, 18, 19, 20, 21, 22, 23, 24, 25] rfl (by decide +kernel) 0 rfl rfl rfl rfl (Nat.le_of_ble_eq_true rfl) dX6_mend_74) rfl ?_
              refine ik_astore C [(5, .ref tp0), (4, .int x4_40), (3, .int x3_40), (2, .int x2_40), (0, .ref o0), (1, .int x1)] (by decide) rfl dX6_mend_77 ?_
              refine ik_aload C 0 rfl dX6_mend_79 ?_
              refine ik_get C inlX1 14 rfl rfl 0 (by decide) wl_5_4 rfl (v := .ref tw0) rfl dX6_mend_81 ?_
              refine ik_iload C 1 rfl dX6_mend_84 ?_
              refine ik_iload_n C 5 rfl rfl dX6_mend_86 ?_
              obtain ⟨r18, g19, hc19, hf⟩ := ik_b2s hf
              have hM := (c_X5_thicken l D cI cS tw0 tw1 tw2 tw3 tw4 g8 g9 g10 g11 g12 x4_40 x1 r18 g19 hc19)
              refine ik_goW (v := (some (.int r18))) (wc := (wz_X5 cI cS tw0 tw1 tw2 tw3 tw4 g8 g9 g10 g11 g12)) (w1 := (wz_X5 cI cS tw0 tw1 tw2 tw3 tw4 g8 g9 g10 g19 g12)) [15, 16, 17, 18, 19] [0, 1, 2, 3, 4, 5, 6, 7, 8, 9, 10, 11, 12, 13, 14, 20, 21, 22, 23, 24, 25] 26 rfl rfl (wz_X6ofnt cI cS o0 np0 kp0 tp0 r0 t0 sh0 f0 nw0 nc0 np1 np2 np3 nw1 nw2 nw3 nw4 nc1 nc2 tw0 tc0 tp1 tp2 tp3 tw1 tw2 tw3 tw4 tc1 tc2 isk fnd nhour nair nrub nz nnb nkd ncl ngr noc nlit ncold nccell ncpow nsp nwm ndr g4 g5 g6 g7 g8 g9 g10 g19 g12 g13 g14 g15 g16 g17 twm_40 tdr_40) rfl rfl rfl (by decide +kernel) (ik_runV (st := []) (As := [.int x4_40, .int x1]) C hM mv_X5_thicken wl_14_1 ⟨rfl, rfl, Nat.le_of_ble_eq_true rfl, Nat.le_of_ble_eq_true rfl⟩ [15, 16, 17, 18, 19] rfl (by decide +kernel) 15 rfl rfl rfl rfl (Nat.le_of_ble_eq_true rfl) dX6_mend_87) rfl ?_
              refine ik_pop C rfl dX6_mend_90 ?_
              refine ik_aload C 0 rfl dX6_mend_91 ?_
              refine ik_bipush (v := (96 : Int32)) C (by decide) dX6_mend_93 ?_
              obtain ⟨r20, g21, g22, g23, g24, g25, g26, g27, g28, hc28, hf⟩ := ik_b9s hf
              have hM := (c_X1_hoursHeld l D cI cS tp0 tw0 tc0 tp1 tp2 tp3 tw1 tw2 tw3 tw4 tc1 tc2 g4 g5 g6 g7 g8 g9 g10 g19 g12 g13 g14 g15 g16 g17 twm_40 tdr_40 (96 : Int32) r20 g21 g22 g23 g24 g25 g26 g27 g28 hc28)
              refine ik_goW (v := (some (.int r20))) (wc := (wz_X1 cI cS tp0 tw0 tc0 tp1 tp2 tp3 tw1 tw2 tw3 tw4 tc1 tc2 g4 g5 g6 g7 g8 g9 g10 g19 g12 g13 g14 g15 g16 g17 twm_40 tdr_40)) (w1 := (wz_X1 cI cS tp0 tw0 tc0 tp1 tp2 tp3 tw1 tw2 tw3 tw4 tc1 tc2 g21 g22 g23 g7 g8 g9 g24 g25 g26 g13 g14 g15 g16 g17 g27 g28)) [14, 15, 16, 17, 18, 19, 20, 21, 22, 23, 24, 25] [0, 1, 2, 3, 4, 5, 6, 7, 8, 9, 10, 11, 12, 13] 26 rfl rfl (wz_X6ofnt cI cS o0 np0 kp0 tp0 r0 t0 sh0 f0 nw0 nc0 np1 np2 np3 nw1 nw2 nw3 nw4 nc1 nc2 tw0 tc0 tp1 tp2 tp3 tw1 tw2 tw3 tw4 tc1 tc2 isk fnd nhour nair nrub nz nnb nkd ncl ngr noc nlit ncold nccell ncpow nsp nwm ndr g21 g22 g23 g7 g8 g9 g24 g25 g26 g13 g14 g15 g16 g17 g27 g28) rfl rfl rfl (by decide +kernel) (ik_runV (st := []) (As := [.int (96 : Int32)]) C hM mv_X1_hoursHeld wl_26_7 ⟨rfl, rfl, Nat.le_of_ble_eq_true rfl, Nat.le_of_ble_eq_true rfl⟩ [14, 15, 16, 17, 18, 19, 20, 21, 22, 23, 24, 25] rfl (by decide +kernel) 14 rfl rfl rfl rfl (Nat.le_of_ble_eq_true rfl) dX6_mend_95) rfl ?_
              refine ik_istore C [(6, .int r20), (5, .ref tp0), (4, .int x4_40), (3, .int x3_40), (2, .int x2_40), (0, .ref o0), (1, .int x1)] (by decide) rfl dX6_mend_98 ?_
              refine ik_iload C 0 rfl dX6_mend_100 ?_
              refine ik_iload_n C 3 rfl rfl dX6_mend_102 ?_
              refine ik_icmp_le C 112 dX6_mend_103 (by decide) (fun hc => ?_) (fun hc => ?_)
              · have hf := ik_pos hc hf
                refine ik_iinc C [(4, .int (x4_40 + (1 : Int32))), (6, .int r20), (5, .ref tp0), (3, .int x3_40), (2, .int x2_40), (0, .ref o0), (1, .int x1)] 2 rfl rfl (by decide) rfl dX6_mend_112 ?_
                refine ik_goto C 40 dX6_mend_115 (by decide) ?_
                exact ik_sub [0, 3, 4, 5, 6] [(4, .int (x4_40 + (1 : Int32))), (3, .int x3_40), (2, .int x2_40), (0, .ref o0), (1, .int x1)] rfl (ih_40 g21 g22 g23 g7 g8 g9 g24 g25 g26 g13 g14 g15 g16 g17 g27 g28 x2_40 x3_40 (x4_40 + (1 : Int32)) hf)
              · have hf := ik_neg hc hf
                refine ik_iload C 2 rfl dX6_mend_106 ?_
                refine ik_istore_n C [(2, .int x4_40), (6, .int r20), (5, .ref tp0), (4, .int x4_40), (3, .int x3_40), (0, .ref o0), (1, .int x1)] rfl (by decide) rfl dX6_mend_108 ?_
                refine ik_iload C 1 rfl dX6_mend_109 ?_
                refine ik_istore_n C [(3, .int r20), (2, .int x4_40), (6, .int r20), (5, .ref tp0), (4, .int x4_40), (0, .ref o0), (1, .int x1)] rfl (by decide) rfl dX6_mend_111 ?_
                refine ik_iinc C [(4, .int (x4_40 + (1 : Int32))), (3, .int r20), (2, .int x4_40), (6, .int r20), (5, .ref tp0), (0, .ref o0), (1, .int x1)] 4 rfl rfl (by decide) rfl dX6_mend_112 ?_
                refine ik_goto C 40 dX6_mend_115 (by decide) ?_
                exact ik_sub [0, 1, 2, 5, 6] [(4, .int (x4_40 + (1 : Int32))), (3, .int r20), (2, .int x4_40), (0, .ref o0), (1, .int x1)] rfl (ih_40 g21 g22 g23 g7 g8 g9 g24 g25 g26 g13 g14 g15 g16 g17 g27 g28 x4_40 r20 (x4_40 + (1 : Int32)) hf)
            · have hf := ik_neg hc hf
              refine ik_goto C 112 dX6_mend_70 (by decide) ?_
              refine ik_iinc C [(4, .int (x4_40 + (1 : Int32))), (3, .int x3_40), (2, .int x2_40), (0, .ref o0), (1, .int x1)] 0 rfl rfl (by decide) rfl dX6_mend_112 ?_
              refine ik_goto C 40 dX6_mend_115 (by decide) ?_
              exact ik_sub [0, 1, 2, 3, 4] [(4, .int (x4_40 + (1 : Int32))), (3, .int x3_40), (2, .int x2_40), (0, .ref o0), (1, .int x1)] rfl (ih_40 thour_40 tair_40 trub_40 tz_40 tnb_40 tkd_40 tcl_40 tgr_40 toc_40 tlit_40 tcold_40 tccell_40 tcpow_40 tsp_40 twm_40 tdr_40 x2_40 x3_40 (x4_40 + (1 : Int32)) hf)
      exact hL_40 ik_fu thour tair trub tz tnb tkd tcl tgr toc tlit tcold tccell tcpow tsp twm tdr (-1 : Int32) (-1 : Int32) (0 : Int32) hf
    · have hf := ik_pos hc hf
      refine ik_aload_n C 0 rfl rfl dX6_mend_26 ?_
      refine ik_ldc C wl_5_6 dX6_mend_27 ?_
      obtain ⟨r3, g4, hc4, hf⟩ := ik_b2s hf
      have hM := (c_X6_tell l D cI cS o0 np0 kp0 tp0 r0 t0 sh0 f0 isk fnd (-1000005 : Int32) r3 g4 hc4)
      refine ik_goW (v := (some (.int r3))) (wc := (wz_X6of cI cS o0 np0 kp0 tp0 r0 t0 sh0 f0 isk fnd)) (w1 := (wz_X6of cI cS o0 np0 kp0 tp0 r0 t0 sh0 f0 isk g4)) [0, 1] [2, 3, 4, 5, 6, 7, 8, 9, 10, 11, 12, 13, 14, 15, 16, 17, 18, 19, 20, 21, 22, 23, 24, 25] 26 rfl rfl (wz_X6ofnt cI cS o0 np0 kp0 tp0 r0 t0 sh0 f0 nw0 nc0 np1 np2 np3 nw1 nw2 nw3 nw4 nc1 nc2 tw0 tc0 tp1 tp2 tp3 tw1 tw2 tw3 tw4 tc1 tc2 isk g4 nhour nair nrub nz nnb nkd ncl ngr noc nlit ncold nccell ncpow nsp nwm ndr thour tair trub tz tnb tkd tcl tgr toc tlit tcold tccell tcpow tsp twm tdr) rfl rfl rfl (by decide +kernel) (ik_runV (st := []) (As := [.int (-1000005 : Int32)]) C hM mv_X6_tell wl_5_16 ⟨rfl, rfl, Nat.le_of_ble_eq_true rfl, Nat.le_of_ble_eq_true rfl⟩ [0, 1] rfl (by decide +kernel) 0 rfl rfl rfl rfl (Nat.le_of_ble_eq_true rfl) dX6_mend_29) rfl ?_
      cases hf
      exact ik_iretW C hr hlk dX6_mend_32
  · have hf := ik_pos hc hf
    refine ik_aload_n C 0 rfl rfl dX6_mend_10 ?_
    refine ik_ldc C wl_5_3 dX6_mend_11 ?_
    obtain ⟨r2, g3, hc3, hf⟩ := ik_b2s hf
    have hM := (c_X6_tell l D cI cS o0 np0 kp0 tp0 r0 t0 sh0 f0 isk fnd (-1000001 : Int32) r2 g3 hc3)
    refine ik_goW (v := (some (.int r2))) (wc := (wz_X6of cI cS o0 np0 kp0 tp0 r0 t0 sh0 f0 isk fnd)) (w1 := (wz_X6of cI cS o0 np0 kp0 tp0 r0 t0 sh0 f0 isk g3)) [0, 1] [2, 3, 4, 5, 6, 7, 8, 9, 10, 11, 12, 13, 14, 15, 16, 17, 18, 19, 20, 21, 22, 23, 24, 25] 26 rfl rfl (wz_X6ofnt cI cS o0 np0 kp0 tp0 r0 t0 sh0 f0 nw0 nc0 np1 np2 np3 nw1 nw2 nw3 nw4 nc1 nc2 tw0 tc0 tp1 tp2 tp3 tw1 tw2 tw3 tw4 tc1 tc2 isk g3 nhour nair nrub nz nnb nkd ncl ngr noc nlit ncold nccell ncpow nsp nwm ndr thour tair trub tz tnb tkd tcl tgr toc tlit tcold tccell tcpow tsp twm tdr) rfl rfl rfl (by decide +kernel) (ik_runV (st := []) (As := [.int (-1000001 : Int32)]) C hM mv_X6_tell wl_5_16 ⟨rfl, rfl, Nat.le_of_ble_eq_true rfl, Nat.le_of_ble_eq_true rfl⟩ [0, 1] rfl (by decide +kernel) 0 rfl rfl rfl rfl (Nat.le_of_ble_eq_true rfl) dX6_mend_13) rfl ?_
    cases hf
    exact ik_iretW C hr hlk dX6_mend_16
theorem mv_X6_whose : ik_V yX6_whose RX6 cX6_whose 7 (some .int) 1 := ⟨wl_28_22, wl_28_23, wl_1_2, wl_29_0, by decide +kernel⟩
set_option maxHeartbeats 4000000 in
set_option maxRecDepth 100000 in
theorem c_X6_whose (l : Launch) (D : va_G) (cI cS : ClassId) (o0 np0 kp0 tp0 r0 t0 sh0 f0 nw0 nc0 np1 np2 np3 nw1 nw2 nw3 nw4 nc1 nc2 tw0 tc0 tp1 tp2 tp3 tw1 tw2 tw3 tw4 tc1 tc2 : Nat) (isk : Int32) (fnd : Nat → Int32) (nhour : Int32) (nair : Int32) (nrub : Int32) (nz : Int32) (nnb : Int32) (nkd : Nat → Int32) (ncl : Nat → Int32) (ngr : Nat → Int32) (noc : Nat → Int32) (nlit : Int32) (ncold : Int32) (nccell : Nat → Int32) (ncpow : Nat → Int32) (nsp : Nat → Int32) (nwm : Nat → Int32) (ndr : Nat → Int32) (thour : Int32) (tair : Int32) (trub : Int32) (tz : Int32) (tnb : Int32) (tkd : Nat → Int32) (tcl : Nat → Int32) (tgr : Nat → Int32) (toc : Nat → Int32) (tlit : Int32) (tcold : Int32) (tccell : Nat → Int32) (tcpow : Nat → Int32) (tsp : Nat → Int32) (twm : Nat → Int32) (tdr : Nat → Int32) (x1 : Int32) (R : Int32) (fnd_r : Nat → Int32) (thour_r : Int32) (tair_r : Int32) (trub_r : Int32) (tz_r : Int32) (tnb_r : Int32) (tkd_r : Nat → Int32) (tcl_r : Nat → Int32) (tgr_r : Nat → Int32) (toc_r : Nat → Int32) (tlit_r : Int32) (tcold_r : Int32) (tccell_r : Nat → Int32) (tcpow_r : Nat → Int32) (tsp_r : Nat → Int32) (twm_r : Nat → Int32) (tdr_r : Nat → Int32) (hf : f_X6_whose fnd nhour nair nrub nz nnb nkd ncl ngr noc nlit ncold nccell ncpow nsp thour tair trub tz tnb tkd tcl tgr toc tlit tcold tccell tcpow tsp twm tdr x1 = some (R, fnd_r, thour_r, tair_r, trub_r, tz_r, tnb_r, tkd_r, tcl_r, tgr_r, toc_r, tlit_r, tcold_r, tccell_r, tcpow_r, tsp_r, twm_r, tdr_r)) : Met l yX6_whose (ik_ws yX6_whose cX6_whose 7 (some .int)) ({ frames := 6, cells := 0, slots := 0, locals := 145 } : Room) (ik_P D cI cS [.ref o0, .int x1] (wz_X6ofnt cI cS o0 np0 kp0 tp0 r0 t0 sh0 f0 nw0 nc0 np1 np2 np3 nw1 nw2 nw3 nw4 nc1 nc2 tw0 tc0 tp1 tp2 tp3 tw1 tw2 tw3 tw4 tc1 tc2 isk fnd nhour nair nrub nz nnb nkd ncl ngr noc nlit ncold nccell ncpow nsp nwm ndr thour tair trub tz tnb tkd tcl tgr toc tlit tcold tccell tcpow tsp twm tdr)) (ik_Q (some (.int R)) D (wz_X6ofnt cI cS o0 np0 kp0 tp0 r0 t0 sh0 f0 nw0 nc0 np1 np2 np3 nw1 nw2 nw3 nw4 nc1 nc2 tw0 tc0 tp1 tp2 tp3 tw1 tw2 tw3 tw4 tc1 tc2 isk fnd_r nhour nair nrub nz nnb nkd ncl ngr noc nlit ncold nccell ncpow nsp nwm ndr thour_r tair_r trub_r tz_r tnb_r tkd_r tcl_r tgr_r toc_r tlit_r tcold_r tccell_r tcpow_r tsp_r twm_r tdr_r) (wz_X6ofnt cI cS o0 np0 kp0 tp0 r0 t0 sh0 f0 nw0 nc0 np1 np2 np3 nw1 nw2 nw3 nw4 nc1 nc2 tw0 tc0 tp1 tp2 tp3 tw1 tw2 tw3 tw4 tc1 tc2 isk fnd nhour nair nrub nz nnb nkd ncl ngr noc nlit ncold nccell ncpow nsp nwm ndr thour tair trub tz tnb tkd tcl tgr toc tlit tcold tccell tcpow tsp twm tdr)) 0 0 (ik_in (wz_X6ofnt cI cS o0 np0 kp0 tp0 r0 t0 sh0 f0 nw0 nc0 np1 np2 np3 nw1 nw2 nw3 nw4 nc1 nc2 tw0 tc0 tp1 tp2 tp3 tw1 tw2 tw3 tw4 tc1 tc2 isk fnd nhour nair nrub nz nnb nkd ncl ngr noc nlit ncold nccell ncpow nsp nwm ndr thour tair trub tz tnb tkd tcl tgr toc tlit tcold tccell tcpow tsp twm tdr)) := by
  refine ik_metW RX6 rfl (by decide) (Nat.le_of_ble_eq_true rfl) [(0, .ref o0), (1, .int x1)] rfl ?_
  intro p e s m below meth c C hr hlk
  unfold f_X6_whose at hf
  refine ik_aload_n C 0 rfl rfl dX6_whose_0 ?_
  refine ik_get C inlX6 0 rfl rfl 0 (by decide) wl_1_15 rfl (v := .ref np0) rfl dX6_whose_1 ?_
  refine ik_get C inlX1 2 rfl rfl 0 (by decide) wl_5_4 rfl (v := .ref nw0) rfl dX6_whose_4 ?_
  refine ik_iload_n C 1 rfl rfl dX6_whose_7 ?_
  obtain ⟨r1, hc1, hf⟩ := ik_b1s hf
  have hM := (c_X5_isBlock l D cI cS nw0 nw1 nw2 nw3 nw4 nnb nkd ncl ngr noc x1 r1 hc1)
  refine ik_goR (ik_runV (st := []) (As := [.int x1]) C hM mv_X5_isBlock wl_8_7 ⟨rfl, rfl, Nat.le_of_ble_eq_true rfl, Nat.le_of_ble_eq_true rfl⟩ [3, 4, 5, 6, 7] rfl (by decide +kernel) 3 rfl rfl rfl rfl (Nat.le_of_ble_eq_true rfl) dX6_whose_8) rfl ?_
  refine ik_if_ne C 21 dX6_whose_11 (by decide) (fun hc => ?_) (fun hc => ?_)
  · have hf := ik_neg hc hf
    refine ik_aload_n C 0 rfl rfl dX6_whose_21 ?_
    refine ik_get C inlX6 0 rfl rfl 0 (by decide) wl_1_15 rfl (v := .ref np0) rfl dX6_whose_22 ?_
    refine ik_get C inlX1 2 rfl rfl 0 (by decide) wl_5_4 rfl (v := .ref nw0) rfl dX6_whose_25 ?_
    refine ik_iload_n C 1 rfl rfl dX6_whose_28 ?_
    obtain ⟨r2, hc2, hf⟩ := ik_b1s hf
    have hM := (c_X5_isGone l D cI cS nw0 nw1 nw2 nw3 nw4 nnb nkd ncl ngr noc x1 r2 hc2)
    refine ik_goR (ik_runV (st := []) (As := [.int x1]) C hM mv_X5_isGone wl_8_11 ⟨rfl, rfl, Nat.le_of_ble_eq_true rfl, Nat.le_of_ble_eq_true rfl⟩ [3, 4, 5, 6, 7] rfl (by decide +kernel) 3 rfl rfl rfl rfl (Nat.le_of_ble_eq_true rfl) dX6_whose_29) rfl ?_
    refine ik_if_ne C 44 dX6_whose_32 (by decide) (fun hc => ?_) (fun hc => ?_)
    · have hf := ik_neg hc hf
      refine ik_aload_n C 0 rfl rfl dX6_whose_44 ?_
      refine ik_ldc C wl_5_6 dX6_whose_45 ?_
      obtain ⟨r3, g4, hc4, hf⟩ := ik_b2s hf
      have hM := (c_X6_tell l D cI cS o0 np0 kp0 tp0 r0 t0 sh0 f0 isk fnd (-1000005 : Int32) r3 g4 hc4)
      refine ik_goW (v := (some (.int r3))) (wc := (wz_X6of cI cS o0 np0 kp0 tp0 r0 t0 sh0 f0 isk fnd)) (w1 := (wz_X6of cI cS o0 np0 kp0 tp0 r0 t0 sh0 f0 isk g4)) [0, 1] [2, 3, 4, 5, 6, 7, 8, 9, 10, 11, 12, 13, 14, 15, 16, 17, 18, 19, 20, 21, 22, 23, 24, 25] 26 rfl rfl (wz_X6ofnt cI cS o0 np0 kp0 tp0 r0 t0 sh0 f0 nw0 nc0 np1 np2 np3 nw1 nw2 nw3 nw4 nc1 nc2 tw0 tc0 tp1 tp2 tp3 tw1 tw2 tw3 tw4 tc1 tc2 isk g4 nhour nair nrub nz nnb nkd ncl ngr noc nlit ncold nccell ncpow nsp nwm ndr thour tair trub tz tnb tkd tcl tgr toc tlit tcold tccell tcpow tsp twm tdr) rfl rfl rfl (by decide +kernel) (ik_runV (st := []) (As := [.int (-1000005 : Int32)]) C hM mv_X6_tell wl_5_16 ⟨rfl, rfl, Nat.le_of_ble_eq_true rfl, Nat.le_of_ble_eq_true rfl⟩ [0, 1] rfl (by decide +kernel) 0 rfl rfl rfl rfl (Nat.le_of_ble_eq_true rfl) dX6_whose_47) rfl ?_
      cases hf
      exact ik_iretW C hr hlk dX6_whose_50
    · have hf := ik_pos hc hf
      refine ik_aload_n C 0 rfl rfl dX6_whose_35 ?_
      refine ik_bipush (v := (96 : Int32)) C (by decide) dX6_whose_36 ?_
      obtain ⟨r3, hc3, hf⟩ := ik_b1s hf
      have hM := (c_X6_hasHours l D cI cS o0 np0 kp0 tp0 r0 t0 sh0 f0 nw0 nc0 np1 np2 np3 nw1 nw2 nw3 nw4 nc1 nc2 isk nhour nair nrub nz nnb nkd ncl ngr noc nlit ncold nccell ncpow nsp nwm ndr (96 : Int32) r3 hc3)
      refine ik_goR (ik_runV (st := []) (As := [.int (96 : Int32)]) C hM mv_X6_hasHours wl_17_22 ⟨rfl, rfl, Nat.le_of_ble_eq_true rfl, Nat.le_of_ble_eq_true rfl⟩ [0, 2, 3, 4, 5, 6, 7, 8, 9, 10, 11, 12, 13] rfl (by decide +kernel) 0 rfl rfl rfl rfl (Nat.le_of_ble_eq_true rfl) dX6_whose_38) rfl ?_
      refine ik_if_ne C 51 dX6_whose_41 (by decide) (fun hc => ?_) (fun hc => ?_)
      · have hf := ik_neg hc hf
        refine ik_iconst (v := (-1 : Int32)) C (by decide) dX6_whose_51 ?_
        refine ik_istore_n C [(2, .int (-1 : Int32)), (0, .ref o0), (1, .int x1)] rfl (by decide) rfl dX6_whose_52 ?_
        refine ik_iconst (v := (0 : Int32)) C (by decide) dX6_whose_53 ?_
        refine ik_istore_n C [(3, .int (0 : Int32)), (2, .int (-1 : Int32)), (0, .ref o0), (1, .int x1)] rfl (by decide) rfl dX6_whose_54 ?_
        refine ik_iconst (v := (0 : Int32)) C (by decide) dX6_whose_55 ?_
        refine ik_istore C [(4, .int (0 : Int32)), (3, .int (0 : Int32)), (2, .int (-1 : Int32)), (0, .ref o0), (1, .int x1)] (by decide) rfl dX6_whose_56 ?_
        have hL_58 : ∀ (n_58 : Nat) (thour_58 : Int32) (tair_58 : Int32) (trub_58 : Int32) (tz_58 : Int32) (tnb_58 : Int32) (tkd_58 : Nat → Int32) (tcl_58 : Nat → Int32) (tgr_58 : Nat → Int32) (toc_58 : Nat → Int32) (tlit_58 : Int32) (tcold_58 : Int32) (tccell_58 : Nat → Int32) (tcpow_58 : Nat → Int32) (tsp_58 : Nat → Int32) (twm_58 : Nat → Int32) (tdr_58 : Nat → Int32) (x2_58 : Int32) (x3_58 : Int32) (x4_58 : Int32), ik_lp19 (b_X6_whose_58 fnd nhour nair nrub nz nnb nkd ncl ngr noc nlit ncold nccell ncpow nsp x1) n_58 thour_58 tair_58 trub_58 tz_58 tnb_58 tkd_58 tcl_58 tgr_58 toc_58 tlit_58 tcold_58 tccell_58 tcpow_58 tsp_58 twm_58 tdr_58 x2_58 x3_58 x4_58 = some (R, fnd_r, thour_r, tair_r, trub_r, tz_r, tnb_r, tkd_r, tcl_r, tgr_r, toc_r, tlit_r, tcold_r, tccell_r, tcpow_r, tsp_r, twm_r, tdr_r) → ik_G p l e ({ frames := 6, cells := 0, slots := 0, locals := 145 } : Room) s m ([.ref o0, .int x1] : List Value).toArray below meth c D (ik_in (wz_X6ofnt cI cS o0 np0 kp0 tp0 r0 t0 sh0 f0 nw0 nc0 np1 np2 np3 nw1 nw2 nw3 nw4 nc1 nc2 tw0 tc0 tp1 tp2 tp3 tw1 tw2 tw3 tw4 tc1 tc2 isk fnd nhour nair nrub nz nnb nkd ncl ngr noc nlit ncold nccell ncpow nsp nwm ndr thour tair trub tz tnb tkd tcl tgr toc tlit tcold tccell tcpow tsp twm tdr)) (ik_in (wz_X6ofnt cI cS o0 np0 kp0 tp0 r0 t0 sh0 f0 nw0 nc0 np1 np2 np3 nw1 nw2 nw3 nw4 nc1 nc2 tw0 tc0 tp1 tp2 tp3 tw1 tw2 tw3 tw4 tc1 tc2 isk fnd nhour nair nrub nz nnb nkd ncl ngr noc nlit ncold nccell ncpow nsp nwm ndr thour tair trub tz tnb tkd tcl tgr toc tlit tcold tccell tcpow tsp twm tdr)) 7 (MQ below (ik_Q (some (.int R)) D (wz_X6ofnt cI cS o0 np0 kp0 tp0 r0 t0 sh0 f0 nw0 nc0 np1 np2 np3 nw1 nw2 nw3 nw4 nc1 nc2 tw0 tc0 tp1 tp2 tp3 tw1 tw2 tw3 tw4 tc1 tc2 isk fnd_r nhour nair nrub nz nnb nkd ncl ngr noc nlit ncold nccell ncpow nsp nwm ndr thour_r tair_r trub_r tz_r tnb_r tkd_r tcl_r tgr_r toc_r tlit_r tcold_r tccell_r tcpow_r tsp_r twm_r tdr_r) (wz_X6ofnt cI cS o0 np0 kp0 tp0 r0 t0 sh0 f0 nw0 nc0 np1 np2 np3 nw1 nw2 nw3 nw4 nc1 nc2 tw0 tc0 tp1 tp2 tp3 tw1 tw2 tw3 tw4 tc1 tc2 isk fnd nhour nair nrub nz nnb nkd ncl ngr noc nlit ncold nccell ncpow nsp nwm ndr thour tair trub tz tnb tkd tcl tgr toc tlit tcold tccell tcpow tsp twm tdr)) ([.ref o0, .int x1] : List Value).toArray s 0 0 (ik_in (wz_X6ofnt cI cS o0 np0 kp0 tp0 r0 t0 sh0 f0 nw0 nc0 np1 np2 np3 nw1 nw2 nw3 nw4 nc1 nc2 tw0 tc0 tp1 tp2 tp3 tw1 tw2 tw3 tw4 tc1 tc2 isk fnd nhour nair nrub nz nnb nkd ncl ngr noc nlit ncold nccell ncpow nsp nwm ndr thour tair trub tz tnb tkd tcl tgr toc tlit tcold tccell tcpow tsp twm tdr))) 58 [(4, .int x4_58), (3, .int x3_58), (2, .int x2_58), (0, .ref o0), (1, .int x1)] [] (wz_X6ofnt cI cS o0 np0 kp0 tp0 r0 t0 sh0 f0 nw0 nc0 np1 np2 np3 nw1 nw2 nw3 nw4 nc1 nc2 tw0 tc0 tp1 tp2 tp3 tw1 tw2 tw3 tw4 tc1 tc2 isk fnd nhour nair nrub nz nnb nkd ncl ngr noc nlit ncold nccell ncpow nsp nwm ndr thour_58 tair_58 trub_58 tz_58 tnb_58 tkd_58 tcl_58 tgr_58 toc_58 tlit_58 tcold_58 tccell_58 tcpow_58 tsp_58 twm_58 tdr_58) := by
          intro n_58
          induction n_58 with
          | zero => intro _ _ _ _ _ _ _ _ _ _ _ _ _ _ _ _ _ _ _ hf; exact nomatch hf
          | succ n_58 ih_58 =>
            intro thour_58 tair_58 trub_58 tz_58 tnb_58 tkd_58 tcl_58 tgr_58 toc_58 tlit_58 tcold_58 tccell_58 tcpow_58 tsp_58 twm_58 tdr_58 x2_58 x3_58 x4_58 hf
            replace hf : b_X6_whose_58 fnd nhour nair nrub nz nnb nkd ncl ngr noc nlit ncold nccell ncpow nsp x1 (ik_lp19 (b_X6_whose_58 fnd nhour nair nrub nz nnb nkd ncl ngr noc nlit ncold nccell ncpow nsp x1) n_58) thour_58 tair_58 trub_58 tz_58 tnb_58 tkd_58 tcl_58 tgr_58 toc_58 tlit_58 tcold_58 tccell_58 tcpow_58 tsp_58 twm_58 tdr_58 x2_58 x3_58 x4_58 = some (R, fnd_r, thour_r, tair_r, trub_r, tz_r, tnb_r, tkd_r, tcl_r, tgr_r, toc_r, tlit_r, tcold_r, tccell_r, tcpow_r, tsp_r, twm_r, tdr_r) := hf
            unfold b_X6_whose_58 at hf
            refine ik_iload C 0 rfl dX6_whose_58 ?_
            refine ik_bipush (v := (6 : Int32)) C (by decide) dX6_whose_60 ?_
            refine ik_icmp_ge C 128 dX6_whose_62 (by decide) (fun hc => ?_) (fun hc => ?_)
            · have hf := ik_pos hc hf
              refine ik_iload_n C 2 rfl rfl dX6_whose_128 ?_
              refine ik_if_ge C 141 dX6_whose_129 (by decide) (fun hc => ?_) (fun hc => ?_)
              · have hf := ik_pos hc hf
                refine ik_iload_n C 2 rfl rfl dX6_whose_141 ?_
                cases hf
                exact ik_iretW C hr hlk dX6_whose_142
              · have hf := ik_neg hc hf
                refine ik_aload_n C 3 rfl rfl dX6_whose_132 ?_
                refine ik_ldc C wl_25_9 dX6_whose_133 ?_
                obtain ⟨r4, g5, hc5, hf⟩ := ik_b2s hf
                have hM := (c_X6_tell l D cI cS o0 np0 kp0 tp0 r0 t0 sh0 f0 isk fnd (-1000004 : Int32) r4 g5 hc5)
                refine ik_goW (v := (some (.int r4))) (wc := (wz_X6of cI cS o0 np0 kp0 tp0 r0 t0 sh0 f0 isk fnd)) (w1 := (wz_X6of cI cS o0 np0 kp0 tp0 r0 t0 sh0 f0 isk g5)) [0, 1] [2, 3, 4, 5, 6, 7, 8, 9, 10, 11, 12, 13, 14, 15, 16, 17, 18, 19, 20, 21, 22, 23, 24, 25] 26 rfl rfl (wz_X6ofnt cI cS o0 np0 kp0 tp0 r0 t0 sh0 f0 nw0 nc0 np1 np2 np3 nw1 nw2 nw3 nw4 nc1 nc2 tw0 tc0 tp1 tp2 tp3 tw1 tw2 tw3 tw4 tc1 tc2 isk g5 nhour nair nrub nz nnb nkd ncl ngr noc nlit ncold nccell ncpow nsp nwm ndr thour_58 tair_58 trub_58 tz_58 tnb_58 tkd_58 tcl_58 tgr_58 toc_58 tlit_58 tcold_58 tccell_58 tcpow_58 tsp_58 twm_58 tdr_58) rfl rfl rfl (by decide +kernel) (ik_runV (st := []) (As := [.int (-1000004 : Int32)]) C hM mv_X6_tell wl_5_16 ⟨rfl, rfl, Nat.le_of_ble_eq_true rfl, Nat.le_of_ble_eq_true rfl⟩ [0, 1] rfl (by decide +kernel) 0 rfl rfl rfl rfl (Nat.le_of_ble_eq_true rfl) dX6_whose_135) rfl ?_
                refine ik_goto C 142 dX6_whose_138 (by decide) ?_
                cases hf
                exact ik_iretW C hr hlk dX6_whose_142
            · have hf := ik_neg hc hf
              refine ik_aload_n C 3 rfl rfl dX6_whose_65 ?_
              refine ik_get C inlX6 0 rfl rfl 0 (by decide) wl_1_15 rfl (v := .ref np0) rfl dX6_whose_66 ?_
              refine ik_get C inlX1 2 rfl rfl 1 (by decide) wl_13_8 rfl (v := .ref nc0) rfl dX6_whose_69 ?_
              refine ik_iload C 0 rfl dX6_whose_72 ?_
              obtain ⟨r4, hc4, hf⟩ := ik_b1s hf
              have hM := (c_X0_isLit l D cI cS nc0 nc1 nc2 nlit ncold nccell ncpow x4_58 r4 hc4)
              refine ik_goR (ik_runV (st := []) (As := [.int x4_58]) C hM mv_X0_isLit wl_16_1 ⟨rfl, rfl, Nat.le_of_ble_eq_true rfl, Nat.le_of_ble_eq_true rfl⟩ [8, 9, 10] rfl (by decide +kernel) 8 rfl rfl rfl rfl (Nat.le_of_ble_eq_true rfl) dX6_whose_74) rfl ?_
              refine ik_if_ne C 83 dX6_whose_77 (by decide) (fun hc => ?_) (fun hc => ?_)
              · have hf := ik_neg hc hf
                refine ik_aload_n C 3 rfl rfl dX6_whose_83 ?_
                obtain ⟨g5, g6, g7, g8, g9, g10, g11, g12, g13, g14, g15, g16, g17, g18, hc18, hf⟩ := ik_b14s hf
                have hM := (c_X6_freshTrial l D cI cS o0 np0 kp0 tp0 r0 t0 sh0 f0 nw0 nc0 np1 np2 np3 nw1 nw2 nw3 nw4 nc1 nc2 tw0 tc0 tp1 tp2 tp3 tw1 tw2 tw3 tw4 tc1 tc2 isk nhour nair nrub nz nnb nkd ncl ngr noc nlit ncold nccell ncpow nsp nwm ndr thour_58 tair_58 trub_58 tz_58 tnb_58 tkd_58 tcl_58 tgr_58 toc_58 tlit_58 tcold_58 tccell_58 tcpow_58 tsp_58 twm_58 tdr_58 g5 g6 g7 g8 g9 g10 g11 g12 g13 g14 g15 g16 g17 g18 hc18)
                refine ik_goW (v := (some (.ref tp0))) (wc := (wz_X6ont cI cS o0 np0 kp0 tp0 r0 t0 sh0 f0 nw0 nc0 np1 np2 np3 nw1 nw2 nw3 nw4 nc1 nc2 tw0 tc0 tp1 tp2 tp3 tw1 tw2 tw3 tw4 tc1 tc2 isk nhour nair nrub nz nnb nkd ncl ngr noc nlit ncold nccell ncpow nsp nwm ndr thour_58 tair_58 trub_58 tz_58 tnb_58 tkd_58 tcl_58 tgr_58 toc_58 tlit_58 tcold_58 tccell_58 tcpow_58 tsp_58 twm_58 tdr_58)) (w1 := (wz_X6ont cI cS o0 np0 kp0 tp0 r0 t0 sh0 f0 nw0 nc0 np1 np2 np3 nw1 nw2 nw3 nw4 nc1 nc2 tw0 tc0 tp1 tp2 tp3 tw1 tw2 tw3 tw4 tc1 tc2 isk nhour nair nrub nz nnb nkd ncl ngr noc nlit ncold nccell ncpow nsp nwm ndr g5 g6 g7 g8 g9 g10 g11 g12 g13 g14 g15 g16 g17 g18 twm_58 tdr_58)) [0, 2, 3, 4, 5, 6, 7, 8, 9, 10, 11, 12, 13, 14, 15, 16, 17, 18, 19, 20, 21, 22, 23, 24, 25] [1] 26 rfl rfl (wz_X6ofnt cI cS o0 np0 kp0 tp0 r0 t0 sh0 f0 nw0 nc0 np1 np2 np3 nw1 nw2 nw3 nw4 nc1 nc2 tw0 tc0 tp1 tp2 tp3 tw1 tw2 tw3 tw4 tc1 tc2 isk fnd nhour nair nrub nz nnb nkd ncl ngr noc nlit ncold nccell ncpow nsp nwm ndr g5 g6 g7 g8 g9 g10 g11 g12 g13 g14 g15 g16 g17 g18 twm_58 tdr_58) rfl rfl rfl (by decide +kernel) (ik_runV (st := []) (As := []) C hM mv_X6_freshTrial wl_23_10 ⟨rfl, rfl, Nat.le_of_ble_eq_true rfl, Nat.le_of_ble_eq_true rfl⟩ [0, 2, 3, 4, 5, 6, 7, 8, 9, 10, 11, 12, 13, 14, 15, 16, 17, 18, 19, 20, 21, 22, 23, 24, 25] rfl (by decide +kernel) 0 rfl rfl rfl rfl (Nat.le_of_ble_eq_true rfl) dX6_whose_84) rfl ?_
                refine ik_astore C [(5, .ref tp0), (4, .int x4_58), (3, .int x3_58), (2, .int x2_58), (0, .ref o0), (1, .int x1)] (by decide) rfl dX6_whose_87 ?_
                refine ik_aload C 0 rfl dX6_whose_89 ?_
                refine ik_get C inlX1 14 rfl rfl 1 (by decide) wl_13_8 rfl (v := .ref tc0) rfl dX6_whose_91 ?_
                refine ik_iload C 1 rfl dX6_whose_94 ?_
                refine ik_iconst (v := (0 : Int32)) C (by decide) dX6_whose_96 ?_
                obtain ⟨g19, hc19, hf⟩ := ik_b1s hf
                have hM := (c_X0_setLit l D cI cS tc0 tc1 tc2 g14 g15 g16 g17 x4_58 (0 : Int32) g19 hc19)
                refine ik_goW (v := none) (wc := (wz_X0 cI cS tc0 tc1 tc2 g14 g15 g16 g17)) (w1 := (wz_X0 cI cS tc0 tc1 tc2 g19 g15 g16 g17)) [20, 21, 22] [0, 1, 2, 3, 4, 5, 6, 7, 8, 9, 10, 11, 12, 13, 14, 15, 16, 17, 18, 19, 23, 24, 25] 26 rfl rfl (wz_X6ofnt cI cS o0 np0 kp0 tp0 r0 t0 sh0 f0 nw0 nc0 np1 np2 np3 nw1 nw2 nw3 nw4 nc1 nc2 tw0 tc0 tp1 tp2 tp3 tw1 tw2 tw3 tw4 tc1 tc2 isk fnd nhour nair nrub nz nnb nkd ncl ngr noc nlit ncold nccell ncpow nsp nwm ndr g5 g6 g7 g8 g9 g10 g11 g12 g13 g19 g15 g16 g17 g18 twm_58 tdr_58) rfl rfl rfl (by decide +kernel) (ik_runV (st := []) (As := [.int x4_58, .int (0 : Int32)]) C hM mv_X0_setLit wl_16_2 ⟨rfl, rfl, Nat.le_of_ble_eq_true rfl, Nat.le_of_ble_eq_true rfl⟩ [20, 21, 22] rfl (by decide +kernel) 20 rfl rfl rfl rfl (Nat.le_of_ble_eq_true rfl) dX6_whose_97) rfl ?_
                refine ik_aload C 0 rfl dX6_whose_100 ?_
                refine ik_iload_n C 5 rfl rfl dX6_whose_102 ?_
                refine ik_bipush (v := (96 : Int32)) C (by decide) dX6_whose_103 ?_
                obtain ⟨r20, g21, g22, g23, g24, g25, g26, g27, g28, hc28, hf⟩ := ik_b9s hf
                have hM := (c_X1_goneIn l D cI cS tp0 tw0 tc0 tp1 tp2 tp3 tw1 tw2 tw3 tw4 tc1 tc2 g5 g6 g7 g8 g9 g10 g11 g12 g13 g19 g15 g16 g17 g18 twm_58 tdr_58 x1 (96 : Int32) r20 g21 g22 g23 g24 g25 g26 g27 g28 hc28)
                refine ik_goW (v := (some (.int r20))) (wc := (wz_X1 cI cS tp0 tw0 tc0 tp1 tp2 tp3 tw1 tw2 tw3 tw4 tc1 tc2 g5 g6 g7 g8 g9 g10 g11 g12 g13 g19 g15 g16 g17 g18 twm_58 tdr_58)) (w1 := (wz_X1 cI cS tp0 tw0 tc0 tp1 tp2 tp3 tw1 tw2 tw3 tw4 tc1 tc2 g21 g22 g23 g8 g9 g10 g24 g25 g26 g19 g15 g16 g17 g18 g27 g28)) [14, 15, 16, 17, 18, 19, 20, 21, 22, 23, 24, 25] [0, 1, 2, 3, 4, 5, 6, 7, 8, 9, 10, 11, 12, 13] 26 rfl rfl (wz_X6ofnt cI cS o0 np0 kp0 tp0 r0 t0 sh0 f0 nw0 nc0 np1 np2 np3 nw1 nw2 nw3 nw4 nc1 nc2 tw0 tc0 tp1 tp2 tp3 tw1 tw2 tw3 tw4 tc1 tc2 isk fnd nhour nair nrub nz nnb nkd ncl ngr noc nlit ncold nccell ncpow nsp nwm ndr g21 g22 g23 g8 g9 g10 g24 g25 g26 g19 g15 g16 g17 g18 g27 g28) rfl rfl rfl (by decide +kernel) (ik_runV (st := []) (As := [.int x1, .int (96 : Int32)]) C hM mv_X1_goneIn wl_25_10 ⟨rfl, rfl, Nat.le_of_ble_eq_true rfl, Nat.le_of_ble_eq_true rfl⟩ [14, 15, 16, 17, 18, 19, 20, 21, 22, 23, 24, 25] rfl (by decide +kernel) 14 rfl rfl rfl rfl (Nat.le_of_ble_eq_true rfl) dX6_whose_105) rfl ?_
                refine ik_istore C [(6, .int r20), (5, .ref tp0), (4, .int x4_58), (3, .int x3_58), (2, .int x2_58), (0, .ref o0), (1, .int x1)] (by decide) rfl dX6_whose_108 ?_
                refine ik_iload C 0 rfl dX6_whose_110 ?_
                refine ik_iload_n C 3 rfl rfl dX6_whose_112 ?_
                refine ik_icmp_le C 122 dX6_whose_113 (by decide) (fun hc => ?_) (fun hc => ?_)
                · have hf := ik_pos hc hf
                  refine ik_iinc C [(4, .int (x4_58 + (1 : Int32))), (6, .int r20), (5, .ref tp0), (3, .int x3_58), (2, .int x2_58), (0, .ref o0), (1, .int x1)] 2 rfl rfl (by decide) rfl dX6_whose_122 ?_
                  refine ik_goto C 58 dX6_whose_125 (by decide) ?_
                  exact ik_sub [0, 3, 4, 5, 6] [(4, .int (x4_58 + (1 : Int32))), (3, .int x3_58), (2, .int x2_58), (0, .ref o0), (1, .int x1)] rfl (ih_58 g21 g22 g23 g8 g9 g10 g24 g25 g26 g19 g15 g16 g17 g18 g27 g28 x2_58 x3_58 (x4_58 + (1 : Int32)) hf)
                · have hf := ik_neg hc hf
                  refine ik_iload C 2 rfl dX6_whose_116 ?_
                  refine ik_istore_n C [(2, .int x4_58), (6, .int r20), (5, .ref tp0), (4, .int x4_58), (3, .int x3_58), (0, .ref o0), (1, .int x1)] rfl (by decide) rfl dX6_whose_118 ?_
                  refine ik_iload C 1 rfl dX6_whose_119 ?_
                  refine ik_istore_n C [(3, .int r20), (2, .int x4_58), (6, .int r20), (5, .ref tp0), (4, .int x4_58), (0, .ref o0), (1, .int x1)] rfl (by decide) rfl dX6_whose_121 ?_
                  refine ik_iinc C [(4, .int (x4_58 + (1 : Int32))), (3, .int r20), (2, .int x4_58), (6, .int r20), (5, .ref tp0), (0, .ref o0), (1, .int x1)] 4 rfl rfl (by decide) rfl dX6_whose_122 ?_
                  refine ik_goto C 58 dX6_whose_125 (by decide) ?_
                  exact ik_sub [0, 1, 2, 5, 6] [(4, .int (x4_58 + (1 : Int32))), (3, .int r20), (2, .int x4_58), (0, .ref o0), (1, .int x1)] rfl (ih_58 g21 g22 g23 g8 g9 g10 g24 g25 g26 g19 g15 g16 g17 g18 g27 g28 x4_58 r20 (x4_58 + (1 : Int32)) hf)
              · have hf := ik_pos hc hf
                refine ik_goto C 122 dX6_whose_80 (by decide) ?_
                refine ik_iinc C [(4, .int (x4_58 + (1 : Int32))), (3, .int x3_58), (2, .int x2_58), (0, .ref o0), (1, .int x1)] 0 rfl rfl (by decide) rfl dX6_whose_122 ?_
                refine ik_goto C 58 dX6_whose_125 (by decide) ?_
                exact ik_sub [0, 1, 2, 3, 4] [(4, .int (x4_58 + (1 : Int32))), (3, .int x3_58), (2, .int x2_58), (0, .ref o0), (1, .int x1)] rfl (ih_58 thour_58 tair_58 trub_58 tz_58 tnb_58 tkd_58 tcl_58 tgr_58 toc_58 tlit_58 tcold_58 tccell_58 tcpow_58 tsp_58 twm_58 tdr_58 x2_58 x3_58 (x4_58 + (1 : Int32)) hf)
        exact hL_58 ik_fu thour tair trub tz tnb tkd tcl tgr toc tlit tcold tccell tcpow tsp twm tdr (-1 : Int32) (0 : Int32) (0 : Int32) hf
      · have hf := ik_pos hc hf
        refine ik_aload_n C 0 rfl rfl dX6_whose_44 ?_
        refine ik_ldc C wl_5_6 dX6_whose_45 ?_
        obtain ⟨r4, g5, hc5, hf⟩ := ik_b2s hf
        have hM := (c_X6_tell l D cI cS o0 np0 kp0 tp0 r0 t0 sh0 f0 isk fnd (-1000005 : Int32) r4 g5 hc5)
        refine ik_goW (v := (some (.int r4))) (wc := (wz_X6of cI cS o0 np0 kp0 tp0 r0 t0 sh0 f0 isk fnd)) (w1 := (wz_X6of cI cS o0 np0 kp0 tp0 r0 t0 sh0 f0 isk g5)) [0, 1] [2, 3, 4, 5, 6, 7, 8, 9, 10, 11, 12, 13, 14, 15, 16, 17, 18, 19, 20, 21, 22, 23, 24, 25] 26 rfl rfl (wz_X6ofnt cI cS o0 np0 kp0 tp0 r0 t0 sh0 f0 nw0 nc0 np1 np2 np3 nw1 nw2 nw3 nw4 nc1 nc2 tw0 tc0 tp1 tp2 tp3 tw1 tw2 tw3 tw4 tc1 tc2 isk g5 nhour nair nrub nz nnb nkd ncl ngr noc nlit ncold nccell ncpow nsp nwm ndr thour tair trub tz tnb tkd tcl tgr toc tlit tcold tccell tcpow tsp twm tdr) rfl rfl rfl (by decide +kernel) (ik_runV (st := []) (As := [.int (-1000005 : Int32)]) C hM mv_X6_tell wl_5_16 ⟨rfl, rfl, Nat.le_of_ble_eq_true rfl, Nat.le_of_ble_eq_true rfl⟩ [0, 1] rfl (by decide +kernel) 0 rfl rfl rfl rfl (Nat.le_of_ble_eq_true rfl) dX6_whose_47) rfl ?_
        cases hf
        exact ik_iretW C hr hlk dX6_whose_50
  · have hf := ik_pos hc hf
    refine ik_aload_n C 0 rfl rfl dX6_whose_14 ?_
    refine ik_ldc C wl_5_3 dX6_whose_15 ?_
    obtain ⟨r2, g3, hc3, hf⟩ := ik_b2s hf
    have hM := (c_X6_tell l D cI cS o0 np0 kp0 tp0 r0 t0 sh0 f0 isk fnd (-1000001 : Int32) r2 g3 hc3)
    refine ik_goW (v := (some (.int r2))) (wc := (wz_X6of cI cS o0 np0 kp0 tp0 r0 t0 sh0 f0 isk fnd)) (w1 := (wz_X6of cI cS o0 np0 kp0 tp0 r0 t0 sh0 f0 isk g3)) [0, 1] [2, 3, 4, 5, 6, 7, 8, 9, 10, 11, 12, 13, 14, 15, 16, 17, 18, 19, 20, 21, 22, 23, 24, 25] 26 rfl rfl (wz_X6ofnt cI cS o0 np0 kp0 tp0 r0 t0 sh0 f0 nw0 nc0 np1 np2 np3 nw1 nw2 nw3 nw4 nc1 nc2 tw0 tc0 tp1 tp2 tp3 tw1 tw2 tw3 tw4 tc1 tc2 isk g3 nhour nair nrub nz nnb nkd ncl ngr noc nlit ncold nccell ncpow nsp nwm ndr thour tair trub tz tnb tkd tcl tgr toc tlit tcold tccell tcpow tsp twm tdr) rfl rfl rfl (by decide +kernel) (ik_runV (st := []) (As := [.int (-1000001 : Int32)]) C hM mv_X6_tell wl_5_16 ⟨rfl, rfl, Nat.le_of_ble_eq_true rfl, Nat.le_of_ble_eq_true rfl⟩ [0, 1] rfl (by decide +kernel) 0 rfl rfl rfl rfl (Nat.le_of_ble_eq_true rfl) dX6_whose_17) rfl ?_
    cases hf
    exact ik_iretW C hr hlk dX6_whose_20
theorem mv_X6_drawing : ik_V yX6_drawing RX6 cX6_drawing 8 (some .int) 3 := ⟨wl_29_6, wl_29_7, wl_1_2, wl_29_8, by decide +kernel⟩
set_option maxHeartbeats 4000000 in
set_option maxRecDepth 100000 in
theorem c_X6_drawing (l : Launch) (D : va_G) (cI cS : ClassId) (o0 np0 kp0 tp0 r0 t0 sh0 f0 nw0 nc0 np1 np2 np3 nw1 nw2 nw3 nw4 nc1 nc2 tw0 tc0 tp1 tp2 tp3 tw1 tw2 tw3 tw4 tc1 tc2 : Nat) (isk : Int32) (fnd : Nat → Int32) (nhour : Int32) (nair : Int32) (nrub : Int32) (nz : Int32) (nnb : Int32) (nkd : Nat → Int32) (ncl : Nat → Int32) (ngr : Nat → Int32) (noc : Nat → Int32) (nlit : Int32) (ncold : Int32) (nccell : Nat → Int32) (ncpow : Nat → Int32) (nsp : Nat → Int32) (nwm : Nat → Int32) (ndr : Nat → Int32) (thour : Int32) (tair : Int32) (trub : Int32) (tz : Int32) (tnb : Int32) (tkd : Nat → Int32) (tcl : Nat → Int32) (tgr : Nat → Int32) (toc : Nat → Int32) (tlit : Int32) (tcold : Int32) (tccell : Nat → Int32) (tcpow : Nat → Int32) (tsp : Nat → Int32) (twm : Nat → Int32) (tdr : Nat → Int32) (x1 : Int32) (x2 : Int32) (x3 : Int32) (R : Int32) (fnd_r : Nat → Int32) (thour_r : Int32) (tair_r : Int32) (trub_r : Int32) (tz_r : Int32) (tnb_r : Int32) (tkd_r : Nat → Int32) (tcl_r : Nat → Int32) (tgr_r : Nat → Int32) (toc_r : Nat → Int32) (tlit_r : Int32) (tcold_r : Int32) (tccell_r : Nat → Int32) (tcpow_r : Nat → Int32) (tsp_r : Nat → Int32) (twm_r : Nat → Int32) (tdr_r : Nat → Int32) (hf : f_X6_drawing fnd nhour nair nrub nz nnb nkd ncl ngr noc nlit ncold nccell ncpow nsp thour tair trub tz tnb tkd tcl tgr toc tlit tcold tccell tcpow tsp twm tdr x1 x2 x3 = some (R, fnd_r, thour_r, tair_r, trub_r, tz_r, tnb_r, tkd_r, tcl_r, tgr_r, toc_r, tlit_r, tcold_r, tccell_r, tcpow_r, tsp_r, twm_r, tdr_r)) : Met l yX6_drawing (ik_ws yX6_drawing cX6_drawing 8 (some .int)) ({ frames := 6, cells := 0, slots := 0, locals := 145 } : Room) (ik_P D cI cS [.ref o0, .int x1, .int x2, .int x3] (wz_X6ofnt cI cS o0 np0 kp0 tp0 r0 t0 sh0 f0 nw0 nc0 np1 np2 np3 nw1 nw2 nw3 nw4 nc1 nc2 tw0 tc0 tp1 tp2 tp3 tw1 tw2 tw3 tw4 tc1 tc2 isk fnd nhour nair nrub nz nnb nkd ncl ngr noc nlit ncold nccell ncpow nsp nwm ndr thour tair trub tz tnb tkd tcl tgr toc tlit tcold tccell tcpow tsp twm tdr)) (ik_Q (some (.int R)) D (wz_X6ofnt cI cS o0 np0 kp0 tp0 r0 t0 sh0 f0 nw0 nc0 np1 np2 np3 nw1 nw2 nw3 nw4 nc1 nc2 tw0 tc0 tp1 tp2 tp3 tw1 tw2 tw3 tw4 tc1 tc2 isk fnd_r nhour nair nrub nz nnb nkd ncl ngr noc nlit ncold nccell ncpow nsp nwm ndr thour_r tair_r trub_r tz_r tnb_r tkd_r tcl_r tgr_r toc_r tlit_r tcold_r tccell_r tcpow_r tsp_r twm_r tdr_r) (wz_X6ofnt cI cS o0 np0 kp0 tp0 r0 t0 sh0 f0 nw0 nc0 np1 np2 np3 nw1 nw2 nw3 nw4 nc1 nc2 tw0 tc0 tp1 tp2 tp3 tw1 tw2 tw3 tw4 tc1 tc2 isk fnd nhour nair nrub nz nnb nkd ncl ngr noc nlit ncold nccell ncpow nsp nwm ndr thour tair trub tz tnb tkd tcl tgr toc tlit tcold tccell tcpow tsp twm tdr)) 0 0 (ik_in (wz_X6ofnt cI cS o0 np0 kp0 tp0 r0 t0 sh0 f0 nw0 nc0 np1 np2 np3 nw1 nw2 nw3 nw4 nc1 nc2 tw0 tc0 tp1 tp2 tp3 tw1 tw2 tw3 tw4 tc1 tc2 isk fnd nhour nair nrub nz nnb nkd ncl ngr noc nlit ncold nccell ncpow nsp nwm ndr thour tair trub tz tnb tkd tcl tgr toc tlit tcold tccell tcpow tsp twm tdr)) := by
  refine ik_metW RX6 rfl (by decide) (Nat.le_of_ble_eq_true rfl) [(0, .ref o0), (1, .int x1), (2, .int x2), (3, .int x3)] rfl ?_
  intro p e s m below meth c C hr hlk
  unfold f_X6_drawing at hf
  refine ik_aload_n C 0 rfl rfl dX6_drawing_0 ?_
  refine ik_get C inlX6 0 rfl rfl 0 (by decide) wl_1_15 rfl (v := .ref np0) rfl dX6_drawing_1 ?_
  refine ik_get C inlX1 2 rfl rfl 0 (by decide) wl_5_4 rfl (v := .ref nw0) rfl dX6_drawing_4 ?_
  refine ik_iload_n C 1 rfl rfl dX6_drawing_7 ?_
  obtain ⟨r1, hc1, hf⟩ := ik_b1s hf
  have hM := (c_X5_isBlock l D cI cS nw0 nw1 nw2 nw3 nw4 nnb nkd ncl ngr noc x1 r1 hc1)
  refine ik_goR (ik_runV (st := []) (As := [.int x1]) C hM mv_X5_isBlock wl_8_7 ⟨rfl, rfl, Nat.le_of_ble_eq_true rfl, Nat.le_of_ble_eq_true rfl⟩ [3, 4, 5, 6, 7] rfl (by decide +kernel) 3 rfl rfl rfl rfl (Nat.le_of_ble_eq_true rfl) dX6_drawing_8) rfl ?_
  refine ik_if_eq C 34 dX6_drawing_11 (by decide) (fun hc => ?_) (fun hc => ?_)
  · have hf := ik_pos hc hf
    refine ik_aload_n C 0 rfl rfl dX6_drawing_34 ?_
    refine ik_ldc C wl_5_3 dX6_drawing_35 ?_
    obtain ⟨r2, g3, hc3, hf⟩ := ik_b2s hf
    have hM := (c_X6_tell l D cI cS o0 np0 kp0 tp0 r0 t0 sh0 f0 isk fnd (-1000001 : Int32) r2 g3 hc3)
    refine ik_goW (v := (some (.int r2))) (wc := (wz_X6of cI cS o0 np0 kp0 tp0 r0 t0 sh0 f0 isk fnd)) (w1 := (wz_X6of cI cS o0 np0 kp0 tp0 r0 t0 sh0 f0 isk g3)) [0, 1] [2, 3, 4, 5, 6, 7, 8, 9, 10, 11, 12, 13, 14, 15, 16, 17, 18, 19, 20, 21, 22, 23, 24, 25] 26 rfl rfl (wz_X6ofnt cI cS o0 np0 kp0 tp0 r0 t0 sh0 f0 nw0 nc0 np1 np2 np3 nw1 nw2 nw3 nw4 nc1 nc2 tw0 tc0 tp1 tp2 tp3 tw1 tw2 tw3 tw4 tc1 tc2 isk g3 nhour nair nrub nz nnb nkd ncl ngr noc nlit ncold nccell ncpow nsp nwm ndr thour tair trub tz tnb tkd tcl tgr toc tlit tcold tccell tcpow tsp twm tdr) rfl rfl rfl (by decide +kernel) (ik_runV (st := []) (As := [.int (-1000001 : Int32)]) C hM mv_X6_tell wl_5_16 ⟨rfl, rfl, Nat.le_of_ble_eq_true rfl, Nat.le_of_ble_eq_true rfl⟩ [0, 1] rfl (by decide +kernel) 0 rfl rfl rfl rfl (Nat.le_of_ble_eq_true rfl) dX6_drawing_37) rfl ?_
    cases hf
    exact ik_iretW C hr hlk dX6_drawing_40
  · have hf := ik_neg hc hf
    refine ik_iload_n C 2 rfl rfl dX6_drawing_14 ?_
    refine ik_iconst (v := (1 : Int32)) C (by decide) dX6_drawing_15 ?_
    refine ik_bipush (v := (24 : Int32)) C (by decide) dX6_drawing_16 ?_
    obtain ⟨r2, hc2, hf⟩ := ik_b1s hf
    have hM := (c_X6_isWithin l D cI cS x2 (1 : Int32) (24 : Int32) r2 hc2)
    refine ik_goR (ik_runS (st := []) (As := [.int x2, .int (1 : Int32), .int (24 : Int32)]) C hM ms_X6_isWithin wl_5_10 ⟨rfl, rfl, Nat.le_of_ble_eq_true rfl, Nat.le_of_ble_eq_true rfl⟩ [] rfl (by decide +kernel) rfl rfl (Nat.le_of_ble_eq_true rfl) dX6_drawing_18) rfl ?_
    refine ik_if_eq C 34 dX6_drawing_21 (by decide) (fun hc => ?_) (fun hc => ?_)
    · have hf := ik_pos hc hf
      refine ik_aload_n C 0 rfl rfl dX6_drawing_34 ?_
      refine ik_ldc C wl_5_3 dX6_drawing_35 ?_
      obtain ⟨r3, g4, hc4, hf⟩ := ik_b2s hf
      have hM := (c_X6_tell l D cI cS o0 np0 kp0 tp0 r0 t0 sh0 f0 isk fnd (-1000001 : Int32) r3 g4 hc4)
      refine ik_goW (v := (some (.int r3))) (wc := (wz_X6of cI cS o0 np0 kp0 tp0 r0 t0 sh0 f0 isk fnd)) (w1 := (wz_X6of cI cS o0 np0 kp0 tp0 r0 t0 sh0 f0 isk g4)) [0, 1] [2, 3, 4, 5, 6, 7, 8, 9, 10, 11, 12, 13, 14, 15, 16, 17, 18, 19, 20, 21, 22, 23, 24, 25] 26 rfl rfl (wz_X6ofnt cI cS o0 np0 kp0 tp0 r0 t0 sh0 f0 nw0 nc0 np1 np2 np3 nw1 nw2 nw3 nw4 nc1 nc2 tw0 tc0 tp1 tp2 tp3 tw1 tw2 tw3 tw4 tc1 tc2 isk g4 nhour nair nrub nz nnb nkd ncl ngr noc nlit ncold nccell ncpow nsp nwm ndr thour tair trub tz tnb tkd tcl tgr toc tlit tcold tccell tcpow tsp twm tdr) rfl rfl rfl (by decide +kernel) (ik_runV (st := []) (As := [.int (-1000001 : Int32)]) C hM mv_X6_tell wl_5_16 ⟨rfl, rfl, Nat.le_of_ble_eq_true rfl, Nat.le_of_ble_eq_true rfl⟩ [0, 1] rfl (by decide +kernel) 0 rfl rfl rfl rfl (Nat.le_of_ble_eq_true rfl) dX6_drawing_37) rfl ?_
      cases hf
      exact ik_iretW C hr hlk dX6_drawing_40
    · have hf := ik_neg hc hf
      refine ik_iload_n C 3 rfl rfl dX6_drawing_24 ?_
      refine ik_iconst (v := (0 : Int32)) C (by decide) dX6_drawing_25 ?_
      refine ik_bipush (v := (99 : Int32)) C (by decide) dX6_drawing_26 ?_
      obtain ⟨r3, hc3, hf⟩ := ik_b1s hf
      have hM := (c_X6_isWithin l D cI cS x3 (0 : Int32) (99 : Int32) r3 hc3)
      refine ik_goR (ik_runS (st := []) (As := [.int x3, .int (0 : Int32), .int (99 : Int32)]) C hM ms_X6_isWithin wl_5_10 ⟨rfl, rfl, Nat.le_of_ble_eq_true rfl, Nat.le_of_ble_eq_true rfl⟩ [] rfl (by decide +kernel) rfl rfl (Nat.le_of_ble_eq_true rfl) dX6_drawing_28) rfl ?_
      refine ik_if_ne C 41 dX6_drawing_31 (by decide) (fun hc => ?_) (fun hc => ?_)
      · have hf := ik_neg hc hf
        refine ik_aload_n C 0 rfl rfl dX6_drawing_41 ?_
        refine ik_get C inlX6 0 rfl rfl 0 (by decide) wl_1_15 rfl (v := .ref np0) rfl dX6_drawing_42 ?_
        refine ik_get C inlX1 2 rfl rfl 0 (by decide) wl_5_4 rfl (v := .ref nw0) rfl dX6_drawing_45 ?_
        refine ik_iload_n C 1 rfl rfl dX6_drawing_48 ?_
        obtain ⟨r4, hc4, hf⟩ := ik_b1s hf
        have hM := (c_X5_isGone l D cI cS nw0 nw1 nw2 nw3 nw4 nnb nkd ncl ngr noc x1 r4 hc4)
        refine ik_goR (ik_runV (st := []) (As := [.int x1]) C hM mv_X5_isGone wl_8_11 ⟨rfl, rfl, Nat.le_of_ble_eq_true rfl, Nat.le_of_ble_eq_true rfl⟩ [3, 4, 5, 6, 7] rfl (by decide +kernel) 3 rfl rfl rfl rfl (Nat.le_of_ble_eq_true rfl) dX6_drawing_49) rfl ?_
        refine ik_if_ne C 63 dX6_drawing_52 (by decide) (fun hc => ?_) (fun hc => ?_)
        · have hf := ik_neg hc hf
          refine ik_aload_n C 0 rfl rfl dX6_drawing_63 ?_
          refine ik_ldc C wl_5_6 dX6_drawing_64 ?_
          obtain ⟨r5, g6, hc6, hf⟩ := ik_b2s hf
          have hM := (c_X6_tell l D cI cS o0 np0 kp0 tp0 r0 t0 sh0 f0 isk fnd (-1000005 : Int32) r5 g6 hc6)
          refine ik_goW (v := (some (.int r5))) (wc := (wz_X6of cI cS o0 np0 kp0 tp0 r0 t0 sh0 f0 isk fnd)) (w1 := (wz_X6of cI cS o0 np0 kp0 tp0 r0 t0 sh0 f0 isk g6)) [0, 1] [2, 3, 4, 5, 6, 7, 8, 9, 10, 11, 12, 13, 14, 15, 16, 17, 18, 19, 20, 21, 22, 23, 24, 25] 26 rfl rfl (wz_X6ofnt cI cS o0 np0 kp0 tp0 r0 t0 sh0 f0 nw0 nc0 np1 np2 np3 nw1 nw2 nw3 nw4 nc1 nc2 tw0 tc0 tp1 tp2 tp3 tw1 tw2 tw3 tw4 tc1 tc2 isk g6 nhour nair nrub nz nnb nkd ncl ngr noc nlit ncold nccell ncpow nsp nwm ndr thour tair trub tz tnb tkd tcl tgr toc tlit tcold tccell tcpow tsp twm tdr) rfl rfl rfl (by decide +kernel) (ik_runV (st := []) (As := [.int (-1000005 : Int32)]) C hM mv_X6_tell wl_5_16 ⟨rfl, rfl, Nat.le_of_ble_eq_true rfl, Nat.le_of_ble_eq_true rfl⟩ [0, 1] rfl (by decide +kernel) 0 rfl rfl rfl rfl (Nat.le_of_ble_eq_true rfl) dX6_drawing_66) rfl ?_
          cases hf
          exact ik_iretW C hr hlk dX6_drawing_69
        · have hf := ik_pos hc hf
          refine ik_aload_n C 0 rfl rfl dX6_drawing_55 ?_
          refine ik_iload_n C 2 rfl rfl dX6_drawing_56 ?_
          obtain ⟨r5, hc5, hf⟩ := ik_b1s hf
          have hM := (c_X6_hasHours l D cI cS o0 np0 kp0 tp0 r0 t0 sh0 f0 nw0 nc0 np1 np2 np3 nw1 nw2 nw3 nw4 nc1 nc2 isk nhour nair nrub nz nnb nkd ncl ngr noc nlit ncold nccell ncpow nsp nwm ndr x2 r5 hc5)
          refine ik_goR (ik_runV (st := []) (As := [.int x2]) C hM mv_X6_hasHours wl_17_22 ⟨rfl, rfl, Nat.le_of_ble_eq_true rfl, Nat.le_of_ble_eq_true rfl⟩ [0, 2, 3, 4, 5, 6, 7, 8, 9, 10, 11, 12, 13] rfl (by decide +kernel) 0 rfl rfl rfl rfl (Nat.le_of_ble_eq_true rfl) dX6_drawing_57) rfl ?_
          refine ik_if_ne C 70 dX6_drawing_60 (by decide) (fun hc => ?_) (fun hc => ?_)
          · have hf := ik_neg hc hf
            refine ik_iconst (v := (0 : Int32)) C (by decide) dX6_drawing_70 ?_
            refine ik_istore C [(4, .int (0 : Int32)), (0, .ref o0), (1, .int x1), (2, .int x2), (3, .int x3)] (by decide) rfl dX6_drawing_71 ?_
            refine ik_iconst (v := (0 : Int32)) C (by decide) dX6_drawing_73 ?_
            refine ik_istore C [(5, .int (0 : Int32)), (4, .int (0 : Int32)), (0, .ref o0), (1, .int x1), (2, .int x2), (3, .int x3)] (by decide) rfl dX6_drawing_74 ?_
            refine ik_bipush (v := (20 : Int32)) C (by decide) dX6_drawing_76 ?_
            refine ik_istore C [(6, .int (20 : Int32)), (5, .int (0 : Int32)), (4, .int (0 : Int32)), (0, .ref o0), (1, .int x1), (2, .int x2), (3, .int x3)] (by decide) rfl dX6_drawing_78 ?_
            have hL_80 : ∀ (n_80 : Nat) (thour_80 : Int32) (tair_80 : Int32) (trub_80 : Int32) (tz_80 : Int32) (tnb_80 : Int32) (tkd_80 : Nat → Int32) (tcl_80 : Nat → Int32) (tgr_80 : Nat → Int32) (toc_80 : Nat → Int32) (tlit_80 : Int32) (tcold_80 : Int32) (tccell_80 : Nat → Int32) (tcpow_80 : Nat → Int32) (tsp_80 : Nat → Int32) (twm_80 : Nat → Int32) (tdr_80 : Nat → Int32) (x4_80 : Int32) (x5_80 : Int32) (x6_80 : Int32), ik_lp19 (b_X6_drawing_80 fnd nhour nair nrub nz nnb nkd ncl ngr noc nlit ncold nccell ncpow nsp x1 x2 x3) n_80 thour_80 tair_80 trub_80 tz_80 tnb_80 tkd_80 tcl_80 tgr_80 toc_80 tlit_80 tcold_80 tccell_80 tcpow_80 tsp_80 twm_80 tdr_80 x4_80 x5_80 x6_80 = some (R, fnd_r, thour_r, tair_r, trub_r, tz_r, tnb_r, tkd_r, tcl_r, tgr_r, toc_r, tlit_r, tcold_r, tccell_r, tcpow_r, tsp_r, twm_r, tdr_r) → ik_G p l e ({ frames := 6, cells := 0, slots := 0, locals := 145 } : Room) s m ([.ref o0, .int x1, .int x2, .int x3] : List Value).toArray below meth c D (ik_in (wz_X6ofnt cI cS o0 np0 kp0 tp0 r0 t0 sh0 f0 nw0 nc0 np1 np2 np3 nw1 nw2 nw3 nw4 nc1 nc2 tw0 tc0 tp1 tp2 tp3 tw1 tw2 tw3 tw4 tc1 tc2 isk fnd nhour nair nrub nz nnb nkd ncl ngr noc nlit ncold nccell ncpow nsp nwm ndr thour tair trub tz tnb tkd tcl tgr toc tlit tcold tccell tcpow tsp twm tdr)) (ik_in (wz_X6ofnt cI cS o0 np0 kp0 tp0 r0 t0 sh0 f0 nw0 nc0 np1 np2 np3 nw1 nw2 nw3 nw4 nc1 nc2 tw0 tc0 tp1 tp2 tp3 tw1 tw2 tw3 tw4 tc1 tc2 isk fnd nhour nair nrub nz nnb nkd ncl ngr noc nlit ncold nccell ncpow nsp nwm ndr thour tair trub tz tnb tkd tcl tgr toc tlit tcold tccell tcpow tsp twm tdr)) 8 (MQ below (ik_Q (some (.int R)) D (wz_X6ofnt cI cS o0 np0 kp0 tp0 r0 t0 sh0 f0 nw0 nc0 np1 np2 np3 nw1 nw2 nw3 nw4 nc1 nc2 tw0 tc0 tp1 tp2 tp3 tw1 tw2 tw3 tw4 tc1 tc2 isk fnd_r nhour nair nrub nz nnb nkd ncl ngr noc nlit ncold nccell ncpow nsp nwm ndr thour_r tair_r trub_r tz_r tnb_r tkd_r tcl_r tgr_r toc_r tlit_r tcold_r tccell_r tcpow_r tsp_r twm_r tdr_r) (wz_X6ofnt cI cS o0 np0 kp0 tp0 r0 t0 sh0 f0 nw0 nc0 np1 np2 np3 nw1 nw2 nw3 nw4 nc1 nc2 tw0 tc0 tp1 tp2 tp3 tw1 tw2 tw3 tw4 tc1 tc2 isk fnd nhour nair nrub nz nnb nkd ncl ngr noc nlit ncold nccell ncpow nsp nwm ndr thour tair trub tz tnb tkd tcl tgr toc tlit tcold tccell tcpow tsp twm tdr)) ([.ref o0, .int x1, .int x2, .int x3] : List Value).toArray s 0 0 (ik_in (wz_X6ofnt cI cS o0 np0 kp0 tp0 r0 t0 sh0 f0 nw0 nc0 np1 np2 np3 nw1 nw2 nw3 nw4 nc1 nc2 tw0 tc0 tp1 tp2 tp3 tw1 tw2 tw3 tw4 tc1 tc2 isk fnd nhour nair nrub nz nnb nkd ncl ngr noc nlit ncold nccell ncpow nsp nwm ndr thour tair trub tz tnb tkd tcl tgr toc tlit tcold tccell tcpow tsp twm tdr))) 80 [(6, .int x6_80), (5, .int x5_80), (4, .int x4_80), (0, .ref o0), (1, .int x1), (2, .int x2), (3, .int x3)] [] (wz_X6ofnt cI cS o0 np0 kp0 tp0 r0 t0 sh0 f0 nw0 nc0 np1 np2 np3 nw1 nw2 nw3 nw4 nc1 nc2 tw0 tc0 tp1 tp2 tp3 tw1 tw2 tw3 tw4 tc1 tc2 isk fnd nhour nair nrub nz nnb nkd ncl ngr noc nlit ncold nccell ncpow nsp nwm ndr thour_80 tair_80 trub_80 tz_80 tnb_80 tkd_80 tcl_80 tgr_80 toc_80 tlit_80 tcold_80 tccell_80 tcpow_80 tsp_80 twm_80 tdr_80) := by
              intro n_80
              induction n_80 with
              | zero => intro _ _ _ _ _ _ _ _ _ _ _ _ _ _ _ _ _ _ _ hf; exact nomatch hf
              | succ n_80 ih_80 =>
                intro thour_80 tair_80 trub_80 tz_80 tnb_80 tkd_80 tcl_80 tgr_80 toc_80 tlit_80 tcold_80 tccell_80 tcpow_80 tsp_80 twm_80 tdr_80 x4_80 x5_80 x6_80 hf
                replace hf : b_X6_drawing_80 fnd nhour nair nrub nz nnb nkd ncl ngr noc nlit ncold nccell ncpow nsp x1 x2 x3 (ik_lp19 (b_X6_drawing_80 fnd nhour nair nrub nz nnb nkd ncl ngr noc nlit ncold nccell ncpow nsp x1 x2 x3) n_80) thour_80 tair_80 trub_80 tz_80 tnb_80 tkd_80 tcl_80 tgr_80 toc_80 tlit_80 tcold_80 tccell_80 tcpow_80 tsp_80 twm_80 tdr_80 x4_80 x5_80 x6_80 = some (R, fnd_r, thour_r, tair_r, trub_r, tz_r, tnb_r, tkd_r, tcl_r, tgr_r, toc_r, tlit_r, tcold_r, tccell_r, tcpow_r, tsp_r, twm_r, tdr_r) := hf
                unfold b_X6_drawing_80 at hf
                refine ik_iload C 0 rfl dX6_drawing_80 ?_
                refine ik_bipush (v := (-20 : Int32)) C (by decide) dX6_drawing_82 ?_
                refine ik_icmp_lt C 137 dX6_drawing_84 (by decide) (fun hc => ?_) (fun hc => ?_)
                · have hf := ik_pos hc hf
                  refine ik_iload C 2 rfl dX6_drawing_137 ?_
                  refine ik_if_ne C 151 dX6_drawing_139 (by decide) (fun hc => ?_) (fun hc => ?_)
                  · have hf := ik_neg hc hf
                    refine ik_bipush (v := (100 : Int32)) C (by decide) dX6_drawing_151 ?_
                    refine ik_iload C 2 rfl dX6_drawing_153 ?_
                    refine ik_imul C dX6_drawing_155 ?_
                    refine ik_bipush (v := (20 : Int32)) C (by decide) dX6_drawing_156 ?_
                    refine ik_iadd C dX6_drawing_158 ?_
                    refine ik_iload C 1 rfl dX6_drawing_159 ?_
                    refine ik_iadd C dX6_drawing_161 ?_
                    cases hf
                    exact ik_iretW C hr hlk dX6_drawing_162
                  · have hf := ik_pos hc hf
                    refine ik_aload_n C 3 rfl rfl dX6_drawing_142 ?_
                    refine ik_ldc C wl_25_9 dX6_drawing_143 ?_
                    obtain ⟨r6, g7, hc7, hf⟩ := ik_b2s hf
                    have hM := (c_X6_tell l D cI cS o0 np0 kp0 tp0 r0 t0 sh0 f0 isk fnd (-1000004 : Int32) r6 g7 hc7)
                    refine ik_goW (v := (some (.int r6))) (wc := (wz_X6of cI cS o0 np0 kp0 tp0 r0 t0 sh0 f0 isk fnd)) (w1 := (wz_X6of cI cS o0 np0 kp0 tp0 r0 t0 sh0 f0 isk g7)) [0, 1] [2, 3, 4, 5, 6, 7, 8, 9, 10, 11, 12, 13, 14, 15, 16, 17, 18, 19, 20, 21, 22, 23, 24, 25] 26 rfl rfl (wz_X6ofnt cI cS o0 np0 kp0 tp0 r0 t0 sh0 f0 nw0 nc0 np1 np2 np3 nw1 nw2 nw3 nw4 nc1 nc2 tw0 tc0 tp1 tp2 tp3 tw1 tw2 tw3 tw4 tc1 tc2 isk g7 nhour nair nrub nz nnb nkd ncl ngr noc nlit ncold nccell ncpow nsp nwm ndr thour_80 tair_80 trub_80 tz_80 tnb_80 tkd_80 tcl_80 tgr_80 toc_80 tlit_80 tcold_80 tccell_80 tcpow_80 tsp_80 twm_80 tdr_80) rfl rfl rfl (by decide +kernel) (ik_runV (st := []) (As := [.int (-1000004 : Int32)]) C hM mv_X6_tell wl_5_16 ⟨rfl, rfl, Nat.le_of_ble_eq_true rfl, Nat.le_of_ble_eq_true rfl⟩ [0, 1] rfl (by decide +kernel) 0 rfl rfl rfl rfl (Nat.le_of_ble_eq_true rfl) dX6_drawing_145) rfl ?_
                    refine ik_goto C 162 dX6_drawing_148 (by decide) ?_
                    cases hf
                    exact ik_iretW C hr hlk dX6_drawing_162
                · have hf := ik_neg hc hf
                  refine ik_aload_n C 3 rfl rfl dX6_drawing_87 ?_
                  obtain ⟨g6, g7, g8, g9, g10, g11, g12, g13, g14, g15, g16, g17, g18, g19, hc19, hf⟩ := ik_b14s hf
                  have hM := (c_X6_freshTrial l D cI cS o0 np0 kp0 tp0 r0 t0 sh0 f0 nw0 nc0 np1 np2 np3 nw1 nw2 nw3 nw4 nc1 nc2 tw0 tc0 tp1 tp2 tp3 tw1 tw2 tw3 tw4 tc1 tc2 isk nhour nair nrub nz nnb nkd ncl ngr noc nlit ncold nccell ncpow nsp nwm ndr thour_80 tair_80 trub_80 tz_80 tnb_80 tkd_80 tcl_80 tgr_80 toc_80 tlit_80 tcold_80 tccell_80 tcpow_80 tsp_80 twm_80 tdr_80 g6 g7 g8 g9 g10 g11 g12 g13 g14 g15 g16 g17 g18 g19 hc19)
                  refine ik_goW (v := (some (.ref tp0))) (wc := (wz_X6ont cI cS o0 np0 kp0 tp0 r0 t0 sh0 f0 nw0 nc0 np1 np2 np3 nw1 nw2 nw3 nw4 nc1 nc2 tw0 tc0 tp1 tp2 tp3 tw1 tw2 tw3 tw4 tc1 tc2 isk nhour nair nrub nz nnb nkd ncl ngr noc nlit ncold nccell ncpow nsp nwm ndr thour_80 tair_80 trub_80 tz_80 tnb_80 tkd_80 tcl_80 tgr_80 toc_80 tlit_80 tcold_80 tccell_80 tcpow_80 tsp_80 twm_80 tdr_80)) (w1 := (wz_X6ont cI cS o0 np0 kp0 tp0 r0 t0 sh0 f0 nw0 nc0 np1 np2 np3 nw1 nw2 nw3 nw4 nc1 nc2 tw0 tc0 tp1 tp2 tp3 tw1 tw2 tw3 tw4 tc1 tc2 isk nhour nair nrub nz nnb nkd ncl ngr noc nlit ncold nccell ncpow nsp nwm ndr g6 g7 g8 g9 g10 g11 g12 g13 g14 g15 g16 g17 g18 g19 twm_80 tdr_80)) [0, 2, 3, 4, 5, 6, 7, 8, 9, 10, 11, 12, 13, 14, 15, 16, 17, 18, 19, 20, 21, 22, 23, 24, 25] [1] 26 rfl rfl (wz_X6ofnt cI cS o0 np0 kp0 tp0 r0 t0 sh0 f0 nw0 nc0 np1 np2 np3 nw1 nw2 nw3 nw4 nc1 nc2 tw0 tc0 tp1 tp2 tp3 tw1 tw2 tw3 tw4 tc1 tc2 isk fnd nhour nair nrub nz nnb nkd ncl ngr noc nlit ncold nccell ncpow nsp nwm ndr g6 g7 g8 g9 g10 g11 g12 g13 g14 g15 g16 g17 g18 g19 twm_80 tdr_80) rfl rfl rfl (by decide +kernel) (ik_runV (st := []) (As := []) C hM mv_X6_freshTrial wl_23_10 ⟨rfl, rfl, Nat.le_of_ble_eq_true rfl, Nat.le_of_ble_eq_true rfl⟩ [0, 2, 3, 4, 5, 6, 7, 8, 9, 10, 11, 12, 13, 14, 15, 16, 17, 18, 19, 20, 21, 22, 23, 24, 25] rfl (by decide +kernel) 0 rfl rfl rfl rfl (Nat.le_of_ble_eq_true rfl) dX6_drawing_88) rfl ?_
                  refine ik_astore C [(7, .ref tp0), (6, .int x6_80), (5, .int x5_80), (4, .int x4_80), (0, .ref o0), (1, .int x1), (2, .int x2), (3, .int x3)] (by decide) rfl dX6_drawing_91 ?_
                  refine ik_aload C 0 rfl dX6_drawing_93 ?_
                  refine ik_get C inlX1 14 rfl rfl 1 (by decide) wl_13_8 rfl (v := .ref tc0) rfl dX6_drawing_95 ?_
                  refine ik_iload C 1 rfl dX6_drawing_98 ?_
                  refine ik_put C inlX0 tyX0 tyX0_ok nmX0 20 rfl rfl 3 (by decide) wl_16_14 rfl (by decide) rfl rfl (Nat.le_of_ble_eq_true rfl) (wz_X6ofnt cI cS o0 np0 kp0 tp0 r0 t0 sh0 f0 nw0 nc0 np1 np2 np3 nw1 nw2 nw3 nw4 nc1 nc2 tw0 tc0 tp1 tp2 tp3 tw1 tw2 tw3 tw4 tc1 tc2 isk fnd nhour nair nrub nz nnb nkd ncl ngr noc nlit ncold nccell ncpow nsp nwm ndr g6 g7 g8 g9 g10 g11 g12 g13 g14 g15 x6_80 g17 g18 g19 twm_80 tdr_80) rfl dX6_drawing_100 ?_
                  refine ik_aload C 0 rfl dX6_drawing_103 ?_
                  refine ik_iload_n C 6 rfl rfl dX6_drawing_105 ?_
                  obtain ⟨r20, g21, g22, g23, g24, g25, g26, g27, g28, hc28, hf⟩ := ik_b9s hf
                  have hM := (c_X1_passHours l D cI cS tp0 tw0 tc0 tp1 tp2 tp3 tw1 tw2 tw3 tw4 tc1 tc2 g6 g7 g8 g9 g10 g11 g12 g13 g14 g15 x6_80 g17 g18 g19 twm_80 tdr_80 x2 r20 g21 g22 g23 g24 g25 g26 g27 g28 hc28)
                  refine ik_goW (v := (some (.int r20))) (wc := (wz_X1 cI cS tp0 tw0 tc0 tp1 tp2 tp3 tw1 tw2 tw3 tw4 tc1 tc2 g6 g7 g8 g9 g10 g11 g12 g13 g14 g15 x6_80 g17 g18 g19 twm_80 tdr_80)) (w1 := (wz_X1 cI cS tp0 tw0 tc0 tp1 tp2 tp3 tw1 tw2 tw3 tw4 tc1 tc2 g21 g22 g23 g9 g10 g11 g24 g25 g26 g15 x6_80 g17 g18 g19 g27 g28)) [14, 15, 16, 17, 18, 19, 20, 21, 22, 23, 24, 25] [0, 1, 2, 3, 4, 5, 6, 7, 8, 9, 10, 11, 12, 13] 26 rfl rfl (wz_X6ofnt cI cS o0 np0 kp0 tp0 r0 t0 sh0 f0 nw0 nc0 np1 np2 np3 nw1 nw2 nw3 nw4 nc1 nc2 tw0 tc0 tp1 tp2 tp3 tw1 tw2 tw3 tw4 tc1 tc2 isk fnd nhour nair nrub nz nnb nkd ncl ngr noc nlit ncold nccell ncpow nsp nwm ndr g21 g22 g23 g9 g10 g11 g24 g25 g26 g15 x6_80 g17 g18 g19 g27 g28) rfl rfl rfl (by decide +kernel) (ik_runV (st := []) (As := [.int x2]) C hM mv_X1_passHours wl_18_3 ⟨rfl, rfl, Nat.le_of_ble_eq_true rfl, Nat.le_of_ble_eq_true rfl⟩ [14, 15, 16, 17, 18, 19, 20, 21, 22, 23, 24, 25] rfl (by decide +kernel) 14 rfl rfl rfl rfl (Nat.le_of_ble_eq_true rfl) dX6_drawing_106) rfl ?_
                  refine ik_pop C rfl dX6_drawing_109 ?_
                  refine ik_aload C 0 rfl dX6_drawing_110 ?_
                  refine ik_get C inlX1 14 rfl rfl 0 (by decide) wl_5_4 rfl (v := .ref tw0) rfl dX6_drawing_112 ?_
                  refine ik_get C inlX5 15 rfl rfl 3 (by decide) wl_8_6 rfl (v := .ref tw3) rfl dX6_drawing_115 ?_
                  refine ik_iload_n C 5 rfl rfl dX6_drawing_118 ?_
                  have hg := ik_gdi hf
                  have hf := ik_gdk hf
                  refine ik_iald C 18 rfl hg dX6_drawing_119 ?_
                  refine ik_iload_n C 7 rfl rfl dX6_drawing_120 ?_
                  refine ik_icmp_ne C 131 dX6_drawing_121 (by decide) (fun hc => ?_) (fun hc => ?_)
                  · have hf := ik_neg hc hf
                    refine ik_iinc C [(6, .int (x6_80 + (-1 : Int32))), (7, .ref tp0), (5, .int x5_80), (4, .int x4_80), (0, .ref o0), (1, .int x1), (2, .int x2), (3, .int x3)] 1 rfl (congrArg (fun t => x6_80 + t) (show Int32.ofInt (-1) = (-1 : Int32) by decide)) (by decide) rfl dX6_drawing_131 ?_
                    refine ik_goto C 80 dX6_drawing_134 (by decide) ?_
                    exact ik_sub [0, 2, 3, 4, 5, 6, 7] [(6, .int (x6_80 + (-1 : Int32))), (5, .int x5_80), (4, .int x4_80), (0, .ref o0), (1, .int x1), (2, .int x2), (3, .int x3)] rfl (ih_80 g21 g22 g23 g9 g10 g11 g24 g25 g26 g15 x6_80 g17 g18 g19 g27 g28 x4_80 x5_80 (x6_80 + (-1 : Int32)) hf)
                  · have hf := ik_pos hc hf
                    refine ik_iinc C [(4, .int (x4_80 + (1 : Int32))), (7, .ref tp0), (6, .int x6_80), (5, .int x5_80), (0, .ref o0), (1, .int x1), (2, .int x2), (3, .int x3)] 3 rfl rfl (by decide) rfl dX6_drawing_124 ?_
                    refine ik_iload C 2 rfl dX6_drawing_127 ?_
                    refine ik_istore C [(5, .int x6_80), (4, .int (x4_80 + (1 : Int32))), (7, .ref tp0), (6, .int x6_80), (0, .ref o0), (1, .int x1), (2, .int x2), (3, .int x3)] (by decide) rfl dX6_drawing_129 ?_
                    refine ik_iinc C [(6, .int (x6_80 + (-1 : Int32))), (5, .int x6_80), (4, .int (x4_80 + (1 : Int32))), (7, .ref tp0), (0, .ref o0), (1, .int x1), (2, .int x2), (3, .int x3)] 3 rfl (congrArg (fun t => x6_80 + t) (show Int32.ofInt (-1) = (-1 : Int32) by decide)) (by decide) rfl dX6_drawing_131 ?_
                    refine ik_goto C 80 dX6_drawing_134 (by decide) ?_
                    exact ik_sub [0, 1, 2, 4, 5, 6, 7] [(6, .int (x6_80 + (-1 : Int32))), (5, .int x6_80), (4, .int (x4_80 + (1 : Int32))), (0, .ref o0), (1, .int x1), (2, .int x2), (3, .int x3)] rfl (ih_80 g21 g22 g23 g9 g10 g11 g24 g25 g26 g15 x6_80 g17 g18 g19 g27 g28 (x4_80 + (1 : Int32)) x6_80 (x6_80 + (-1 : Int32)) hf)
            exact hL_80 ik_fu thour tair trub tz tnb tkd tcl tgr toc tlit tcold tccell tcpow tsp twm tdr (0 : Int32) (0 : Int32) (20 : Int32) hf
          · have hf := ik_pos hc hf
            refine ik_aload_n C 0 rfl rfl dX6_drawing_63 ?_
            refine ik_ldc C wl_5_6 dX6_drawing_64 ?_
            obtain ⟨r6, g7, hc7, hf⟩ := ik_b2s hf
            have hM := (c_X6_tell l D cI cS o0 np0 kp0 tp0 r0 t0 sh0 f0 isk fnd (-1000005 : Int32) r6 g7 hc7)
            refine ik_goW (v := (some (.int r6))) (wc := (wz_X6of cI cS o0 np0 kp0 tp0 r0 t0 sh0 f0 isk fnd)) (w1 := (wz_X6of cI cS o0 np0 kp0 tp0 r0 t0 sh0 f0 isk g7)) [0, 1] [2, 3, 4, 5, 6, 7, 8, 9, 10, 11, 12, 13, 14, 15, 16, 17, 18, 19, 20, 21, 22, 23, 24, 25] 26 rfl rfl (wz_X6ofnt cI cS o0 np0 kp0 tp0 r0 t0 sh0 f0 nw0 nc0 np1 np2 np3 nw1 nw2 nw3 nw4 nc1 nc2 tw0 tc0 tp1 tp2 tp3 tw1 tw2 tw3 tw4 tc1 tc2 isk g7 nhour nair nrub nz nnb nkd ncl ngr noc nlit ncold nccell ncpow nsp nwm ndr thour tair trub tz tnb tkd tcl tgr toc tlit tcold tccell tcpow tsp twm tdr) rfl rfl rfl (by decide +kernel) (ik_runV (st := []) (As := [.int (-1000005 : Int32)]) C hM mv_X6_tell wl_5_16 ⟨rfl, rfl, Nat.le_of_ble_eq_true rfl, Nat.le_of_ble_eq_true rfl⟩ [0, 1] rfl (by decide +kernel) 0 rfl rfl rfl rfl (Nat.le_of_ble_eq_true rfl) dX6_drawing_66) rfl ?_
            cases hf
            exact ik_iretW C hr hlk dX6_drawing_69
      · have hf := ik_pos hc hf
        refine ik_aload_n C 0 rfl rfl dX6_drawing_34 ?_
        refine ik_ldc C wl_5_3 dX6_drawing_35 ?_
        obtain ⟨r4, g5, hc5, hf⟩ := ik_b2s hf
        have hM := (c_X6_tell l D cI cS o0 np0 kp0 tp0 r0 t0 sh0 f0 isk fnd (-1000001 : Int32) r4 g5 hc5)
        refine ik_goW (v := (some (.int r4))) (wc := (wz_X6of cI cS o0 np0 kp0 tp0 r0 t0 sh0 f0 isk fnd)) (w1 := (wz_X6of cI cS o0 np0 kp0 tp0 r0 t0 sh0 f0 isk g5)) [0, 1] [2, 3, 4, 5, 6, 7, 8, 9, 10, 11, 12, 13, 14, 15, 16, 17, 18, 19, 20, 21, 22, 23, 24, 25] 26 rfl rfl (wz_X6ofnt cI cS o0 np0 kp0 tp0 r0 t0 sh0 f0 nw0 nc0 np1 np2 np3 nw1 nw2 nw3 nw4 nc1 nc2 tw0 tc0 tp1 tp2 tp3 tw1 tw2 tw3 tw4 tc1 tc2 isk g5 nhour nair nrub nz nnb nkd ncl ngr noc nlit ncold nccell ncpow nsp nwm ndr thour tair trub tz tnb tkd tcl tgr toc tlit tcold tccell tcpow tsp twm tdr) rfl rfl rfl (by decide +kernel) (ik_runV (st := []) (As := [.int (-1000001 : Int32)]) C hM mv_X6_tell wl_5_16 ⟨rfl, rfl, Nat.le_of_ble_eq_true rfl, Nat.le_of_ble_eq_true rfl⟩ [0, 1] rfl (by decide +kernel) 0 rfl rfl rfl rfl (Nat.le_of_ble_eq_true rfl) dX6_drawing_37) rfl ?_
        cases hf
        exact ik_iretW C hr hlk dX6_drawing_40
theorem mv_X4_readInto : ik_V yX4_readInto RX4 cX4_readInto 3 (some .int) 1 := ⟨wl_35_17, wl_35_18, wl_1_20, wl_35_19, by decide +kernel⟩
set_option maxHeartbeats 4000000 in
set_option maxRecDepth 100000 in
theorem c_X4_readInto (l : Launch) (D : va_G) (cI cS : ClassId) (aK aV : Nat → Nat) (ka : Nat) (r0 t0 t1 qp0 qw0 qc0 qp1 qp2 qp3 qw1 qw2 qw3 qw4 qc1 qc2 : Nat) (tok : Int32) (sta : Int32) (en : Int32) (val : Int32) (tsize : Int32) (tby : Nat → Int32) (qhour : Int32) (qair : Int32) (qrub : Int32) (qz : Int32) (qnb : Int32) (qkd : Nat → Int32) (qcl : Nat → Int32) (qgr : Nat → Int32) (qoc : Nat → Int32) (qlit : Int32) (qcold : Int32) (qccell : Nat → Int32) (qcpow : Nat → Int32) (qsp : Nat → Int32) (qwm : Nat → Int32) (qdr : Nat → Int32) (R : Int32) (tok_r : Int32) (sta_r : Int32) (en_r : Int32) (val_r : Int32) (qnb_r : Int32) (qkd_r : Nat → Int32) (qcl_r : Nat → Int32) (qgr_r : Nat → Int32) (qoc_r : Nat → Int32) (qlit_r : Int32) (qcold_r : Int32) (qccell_r : Nat → Int32) (qcpow_r : Nat → Int32) (hf : f_X4_readInto tok sta en val tsize tby qnb qkd qcl qgr qoc qlit qcold qccell qcpow = some (R, tok_r, sta_r, en_r, val_r, qnb_r, qkd_r, qcl_r, qgr_r, qoc_r, qlit_r, qcold_r, qccell_r, qcpow_r)) : Met l yX4_readInto (ik_ws yX4_readInto cX4_readInto 3 (some .int)) ({ frames := 7, cells := 0, slots := 0, locals := 179 } : Room) (ik_PZ D cI cS aK aV ka [.ref r0, .ref qp0] (wz_X4X1 cI cS r0 t0 t1 qp0 qw0 qc0 qp1 qp2 qp3 qw1 qw2 qw3 qw4 qc1 qc2 tok sta en val tsize tby qhour qair qrub qz qnb qkd qcl qgr qoc qlit qcold qccell qcpow qsp qwm qdr)) (ik_Q (some (.int R)) D (wz_X4X1 cI cS r0 t0 t1 qp0 qw0 qc0 qp1 qp2 qp3 qw1 qw2 qw3 qw4 qc1 qc2 tok_r sta_r en_r val_r tsize tby qhour qair qrub qz qnb_r qkd_r qcl_r qgr_r qoc_r qlit_r qcold_r qccell_r qcpow_r qsp qwm qdr) (wz_X4X1 cI cS r0 t0 t1 qp0 qw0 qc0 qp1 qp2 qp3 qw1 qw2 qw3 qw4 qc1 qc2 tok sta en val tsize tby qhour qair qrub qz qnb qkd qcl qgr qoc qlit qcold qccell qcpow qsp qwm qdr)) 0 0 (ik_in (wz_X4X1 cI cS r0 t0 t1 qp0 qw0 qc0 qp1 qp2 qp3 qw1 qw2 qw3 qw4 qc1 qc2 tok sta en val tsize tby qhour qair qrub qz qnb qkd qcl qgr qoc qlit qcold qccell qcpow qsp qwm qdr)) := by
  refine ik_metWZ RX4 rfl (by decide) (Nat.le_of_ble_eq_true rfl) [(0, .ref r0), (1, .ref qp0)] rfl ?_
  intro p e s m below meth c C hr hlk hZ
  unfold f_X4_readInto at hf
  refine ik_aload_n C 0 rfl rfl dX4_readInto_0 ?_
  refine ik_iconst (v := (0 : Int32)) C (by decide) dX4_readInto_1 ?_
  refine ik_put C inlX4 tyX4 tyX4_ok nmX4 0 rfl rfl 3 (by decide) wl_35_20 rfl (by decide) rfl rfl (Nat.le_of_ble_eq_true rfl) (wz_X4X1 cI cS r0 t0 t1 qp0 qw0 qc0 qp1 qp2 qp3 qw1 qw2 qw3 qw4 qc1 qc2 tok sta (0 : Int32) val tsize tby qhour qair qrub qz qnb qkd qcl qgr qoc qlit qcold qccell qcpow qsp qwm qdr) rfl dX4_readInto_2 ?_
  refine ik_aload_n C 0 rfl rfl dX4_readInto_5 ?_
  obtain ⟨g1, g2, g3, g4, hc4, hf⟩ := ik_b4s hf
  have hM := (c_X4_advance l D cI cS r0 t0 t1 tok sta (0 : Int32) val tsize tby g1 g2 g3 g4 hc4)
  refine ik_goW (v := none) (wc := (wz_X4 cI cS r0 t0 t1 tok sta (0 : Int32) val tsize tby)) (w1 := (wz_X4 cI cS r0 t0 t1 g1 g2 g3 g4 tsize tby)) [0, 1, 2] [3, 4, 5, 6, 7, 8, 9, 10, 11, 12, 13, 14] 15 rfl rfl (wz_X4X1 cI cS r0 t0 t1 qp0 qw0 qc0 qp1 qp2 qp3 qw1 qw2 qw3 qw4 qc1 qc2 g1 g2 g3 g4 tsize tby qhour qair qrub qz qnb qkd qcl qgr qoc qlit qcold qccell qcpow qsp qwm qdr) rfl rfl rfl (by decide +kernel) (ik_runV (st := []) (As := []) C hM mv_X4_advance wl_35_23 ⟨rfl, rfl, Nat.le_of_ble_eq_true rfl, Nat.le_of_ble_eq_true rfl⟩ [0, 1, 2] rfl (by decide +kernel) 0 rfl rfl rfl rfl (Nat.le_of_ble_eq_true rfl) dX4_readInto_6) rfl ?_
  refine ik_iconst (v := (1 : Int32)) C (by decide) dX4_readInto_9 ?_
  refine ik_istore_n C [(2, .int (1 : Int32)), (0, .ref r0), (1, .ref qp0)] rfl (by decide) rfl dX4_readInto_10 ?_
  have hL_11 : ∀ (n_11 : Nat) (tok_11 : Int32) (sta_11 : Int32) (en_11 : Int32) (val_11 : Int32) (qnb_11 : Int32) (qkd_11 : Nat → Int32) (qcl_11 : Nat → Int32) (qgr_11 : Nat → Int32) (qoc_11 : Nat → Int32) (qlit_11 : Int32) (qcold_11 : Int32) (qccell_11 : Nat → Int32) (qcpow_11 : Nat → Int32) (x2_11 : Int32), ik_lp14 (b_X4_readInto_11 tsize tby) n_11 tok_11 sta_11 en_11 val_11 qnb_11 qkd_11 qcl_11 qgr_11 qoc_11 qlit_11 qcold_11 qccell_11 qcpow_11 x2_11 = some (R, tok_r, sta_r, en_r, val_r, qnb_r, qkd_r, qcl_r, qgr_r, qoc_r, qlit_r, qcold_r, qccell_r, qcpow_r) → ik_G p l e ({ frames := 7, cells := 0, slots := 0, locals := 179 } : Room) s m ([.ref r0, .ref qp0] : List Value).toArray below meth c D (ik_in (wz_X4X1 cI cS r0 t0 t1 qp0 qw0 qc0 qp1 qp2 qp3 qw1 qw2 qw3 qw4 qc1 qc2 tok sta en val tsize tby qhour qair qrub qz qnb qkd qcl qgr qoc qlit qcold qccell qcpow qsp qwm qdr)) (ik_in (wz_X4X1 cI cS r0 t0 t1 qp0 qw0 qc0 qp1 qp2 qp3 qw1 qw2 qw3 qw4 qc1 qc2 tok sta en val tsize tby qhour qair qrub qz qnb qkd qcl qgr qoc qlit qcold qccell qcpow qsp qwm qdr)) 3 (MQ below (ik_Q (some (.int R)) D (wz_X4X1 cI cS r0 t0 t1 qp0 qw0 qc0 qp1 qp2 qp3 qw1 qw2 qw3 qw4 qc1 qc2 tok_r sta_r en_r val_r tsize tby qhour qair qrub qz qnb_r qkd_r qcl_r qgr_r qoc_r qlit_r qcold_r qccell_r qcpow_r qsp qwm qdr) (wz_X4X1 cI cS r0 t0 t1 qp0 qw0 qc0 qp1 qp2 qp3 qw1 qw2 qw3 qw4 qc1 qc2 tok sta en val tsize tby qhour qair qrub qz qnb qkd qcl qgr qoc qlit qcold qccell qcpow qsp qwm qdr)) ([.ref r0, .ref qp0] : List Value).toArray s 0 0 (ik_in (wz_X4X1 cI cS r0 t0 t1 qp0 qw0 qc0 qp1 qp2 qp3 qw1 qw2 qw3 qw4 qc1 qc2 tok sta en val tsize tby qhour qair qrub qz qnb qkd qcl qgr qoc qlit qcold qccell qcpow qsp qwm qdr))) 11 [(2, .int x2_11), (0, .ref r0), (1, .ref qp0)] [] (wz_X4X1 cI cS r0 t0 t1 qp0 qw0 qc0 qp1 qp2 qp3 qw1 qw2 qw3 qw4 qc1 qc2 tok_11 sta_11 en_11 val_11 tsize tby qhour qair qrub qz qnb_11 qkd_11 qcl_11 qgr_11 qoc_11 qlit_11 qcold_11 qccell_11 qcpow_11 qsp qwm qdr) := by
    intro n_11
    induction n_11 with
    | zero => intro _ _ _ _ _ _ _ _ _ _ _ _ _ _ hf; exact nomatch hf
    | succ n_11 ih_11 =>
      intro tok_11 sta_11 en_11 val_11 qnb_11 qkd_11 qcl_11 qgr_11 qoc_11 qlit_11 qcold_11 qccell_11 qcpow_11 x2_11 hf
      replace hf : b_X4_readInto_11 tsize tby (ik_lp14 (b_X4_readInto_11 tsize tby) n_11) tok_11 sta_11 en_11 val_11 qnb_11 qkd_11 qcl_11 qgr_11 qoc_11 qlit_11 qcold_11 qccell_11 qcpow_11 x2_11 = some (R, tok_r, sta_r, en_r, val_r, qnb_r, qkd_r, qcl_r, qgr_r, qoc_r, qlit_r, qcold_r, qccell_r, qcpow_r) := hf
      unfold b_X4_readInto_11 at hf
      refine ik_iload_n C 0 rfl rfl dX4_readInto_11 ?_
      refine ik_bipush (v := (120 : Int32)) C (by decide) dX4_readInto_12 ?_
      refine ik_icmp_gt C 58 dX4_readInto_14 (by decide) (fun hc => ?_) (fun hc => ?_)
      · have hf := ik_pos hc hf
        refine ik_iconst (v := (-1 : Int32)) C (by decide) dX4_readInto_58 ?_
        refine ik_aload_n C 1 rfl rfl dX4_readInto_59 ?_
        refine ik_get C inlX4 0 rfl rfl 2 (by decide) wl_35_22 rfl (v := .int sta_11) rfl dX4_readInto_60 ?_
        refine ik_isub C dX4_readInto_63 ?_
        cases hf
        exact ik_iretW C hr hlk dX4_readInto_64
      · have hf := ik_neg hc hf
        refine ik_aload_n C 1 rfl rfl dX4_readInto_17 ?_
        refine ik_aload_n C 2 rfl rfl dX4_readInto_18 ?_
        obtain ⟨r5, g6, g7, g8, g9, g10, g11, g12, g13, g14, g15, g16, g17, g18, hc18, hf⟩ := ik_b14s hf
        have hM := (c_X4_readItem l D cI cS aK aV ka r0 t0 t1 qp0 qw0 qc0 qp1 qp2 qp3 qw1 qw2 qw3 qw4 qc1 qc2 tok_11 sta_11 en_11 val_11 tsize tby qhour qair qrub qz qnb_11 qkd_11 qcl_11 qgr_11 qoc_11 qlit_11 qcold_11 qccell_11 qcpow_11 qsp qwm qdr r5 g6 g7 g8 g9 g10 g11 g12 g13 g14 g15 g16 g17 g18 hc18)
        refine ik_goW (v := (some (.int r5))) (wc := (wz_X4X1 cI cS r0 t0 t1 qp0 qw0 qc0 qp1 qp2 qp3 qw1 qw2 qw3 qw4 qc1 qc2 tok_11 sta_11 en_11 val_11 tsize tby qhour qair qrub qz qnb_11 qkd_11 qcl_11 qgr_11 qoc_11 qlit_11 qcold_11 qccell_11 qcpow_11 qsp qwm qdr)) (w1 := (wz_X4X1 cI cS r0 t0 t1 qp0 qw0 qc0 qp1 qp2 qp3 qw1 qw2 qw3 qw4 qc1 qc2 g6 g7 g8 g9 tsize tby qhour qair qrub qz g10 g11 g12 g13 g14 g15 g16 g17 g18 qsp qwm qdr)) [0, 1, 2, 3, 4, 5, 6, 7, 8, 9, 10, 11, 12, 13, 14] [] 15 rfl rfl (wz_X4X1 cI cS r0 t0 t1 qp0 qw0 qc0 qp1 qp2 qp3 qw1 qw2 qw3 qw4 qc1 qc2 g6 g7 g8 g9 tsize tby qhour qair qrub qz g10 g11 g12 g13 g14 g15 g16 g17 g18 qsp qwm qdr) rfl rfl rfl (by decide +kernel) (ik_runVZ (st := []) (As := [.ref qp0]) C hZ (fun _ h => h) ik_hBw hM mv_X4_readItem wl_36_20 ⟨rfl, rfl, Nat.le_of_ble_eq_true rfl, Nat.le_of_ble_eq_true rfl⟩ [0, 1, 2, 3, 4, 5, 6, 7, 8, 9, 10, 11, 12, 13, 14] rfl (by decide +kernel) 0 rfl rfl rfl rfl (Nat.le_of_ble_eq_true rfl) dX4_readInto_19) rfl ?_
        refine ik_if_ne C 28 dX4_readInto_22 (by decide) (fun hc => ?_) (fun hc => ?_)
        · have hf := ik_neg hc hf
          refine ik_aload_n C 1 rfl rfl dX4_readInto_28 ?_
          refine ik_get C inlX4 0 rfl rfl 1 (by decide) wl_35_21 rfl (v := .int g6) rfl dX4_readInto_29 ?_
          refine ik_if_ne C 37 dX4_readInto_32 (by decide) (fun hc => ?_) (fun hc => ?_)
          · have hf := ik_neg hc hf
            refine ik_aload_n C 1 rfl rfl dX4_readInto_37 ?_
            refine ik_get C inlX4 0 rfl rfl 1 (by decide) wl_35_21 rfl (v := .int g6) rfl dX4_readInto_38 ?_
            refine ik_iconst (v := (3 : Int32)) C (by decide) dX4_readInto_41 ?_
            refine ik_icmp_eq C 48 dX4_readInto_42 (by decide) (fun hc => ?_) (fun hc => ?_)
            · have hf := ik_pos hc hf
              refine ik_aload_n C 1 rfl rfl dX4_readInto_48 ?_
              obtain ⟨g19, g20, g21, g22, hc22, hf⟩ := ik_b4s hf
              have hM := (c_X4_advance l D cI cS r0 t0 t1 g6 g7 g8 g9 tsize tby g19 g20 g21 g22 hc22)
              refine ik_goW (v := none) (wc := (wz_X4 cI cS r0 t0 t1 g6 g7 g8 g9 tsize tby)) (w1 := (wz_X4 cI cS r0 t0 t1 g19 g20 g21 g22 tsize tby)) [0, 1, 2] [3, 4, 5, 6, 7, 8, 9, 10, 11, 12, 13, 14] 15 rfl rfl (wz_X4X1 cI cS r0 t0 t1 qp0 qw0 qc0 qp1 qp2 qp3 qw1 qw2 qw3 qw4 qc1 qc2 g19 g20 g21 g22 tsize tby qhour qair qrub qz g10 g11 g12 g13 g14 g15 g16 g17 g18 qsp qwm qdr) rfl rfl rfl (by decide +kernel) (ik_runV (st := []) (As := []) C hM mv_X4_advance wl_35_23 ⟨rfl, rfl, Nat.le_of_ble_eq_true rfl, Nat.le_of_ble_eq_true rfl⟩ [0, 1, 2] rfl (by decide +kernel) 0 rfl rfl rfl rfl (Nat.le_of_ble_eq_true rfl) dX4_readInto_49) rfl ?_
              refine ik_iinc C [(2, .int (x2_11 + (1 : Int32))), (0, .ref r0), (1, .ref qp0)] 0 rfl rfl (by decide) rfl dX4_readInto_52 ?_
              refine ik_goto C 11 dX4_readInto_55 (by decide) ?_
              exact ik_sub [0, 1, 2] [(2, .int (x2_11 + (1 : Int32))), (0, .ref r0), (1, .ref qp0)] rfl (ih_11 g19 g20 g21 g22 g10 g11 g12 g13 g14 g15 g16 g17 g18 (x2_11 + (1 : Int32)) hf)
            · have hf := ik_neg hc hf
              refine ik_goto C 58 dX4_readInto_45 (by decide) ?_
              refine ik_iconst (v := (-1 : Int32)) C (by decide) dX4_readInto_58 ?_
              refine ik_aload_n C 1 rfl rfl dX4_readInto_59 ?_
              refine ik_get C inlX4 0 rfl rfl 2 (by decide) wl_35_22 rfl (v := .int g7) rfl dX4_readInto_60 ?_
              refine ik_isub C dX4_readInto_63 ?_
              cases hf
              exact ik_iretW C hr hlk dX4_readInto_64
          · have hf := ik_pos hc hf
            refine ik_iload_n C 0 rfl rfl dX4_readInto_35 ?_
            cases hf
            exact ik_iretW C hr hlk dX4_readInto_36
        · have hf := ik_pos hc hf
          refine ik_goto C 58 dX4_readInto_25 (by decide) ?_
          refine ik_iconst (v := (-1 : Int32)) C (by decide) dX4_readInto_58 ?_
          refine ik_aload_n C 1 rfl rfl dX4_readInto_59 ?_
          refine ik_get C inlX4 0 rfl rfl 2 (by decide) wl_35_22 rfl (v := .int g7) rfl dX4_readInto_60 ?_
          refine ik_isub C dX4_readInto_63 ?_
          cases hf
          exact ik_iretW C hr hlk dX4_readInto_64
  exact hL_11 ik_fu g1 g2 g3 g4 qnb qkd qcl qgr qoc qlit qcold qccell qcpow (1 : Int32) hf
theorem mv_X6_text : ik_V yX6_text RX6 cX6_text 2 (some .int) 0 := ⟨wl_35_13, wl_35_14, wl_1_2, wl_35_15, by decide +kernel⟩
set_option maxHeartbeats 4000000 in
set_option maxRecDepth 100000 in
theorem c_X6_text (l : Launch) (D : va_G) (cI cS : ClassId) (aK aV : Nat → Nat) (ka : Nat) (o0 np0 kp0 tp0 r0 t0 sh0 f0 nw0 nc0 np1 np2 np3 nw1 nw2 nw3 nw4 nc1 nc2 tw0 tc0 tp1 tp2 tp3 tw1 tw2 tw3 tw4 tc1 tc2 t1 : Nat) (isk : Int32) (nhour : Int32) (nair : Int32) (nrub : Int32) (nz : Int32) (nnb : Int32) (nkd : Nat → Int32) (ncl : Nat → Int32) (ngr : Nat → Int32) (noc : Nat → Int32) (nlit : Int32) (ncold : Int32) (nccell : Nat → Int32) (ncpow : Nat → Int32) (nsp : Nat → Int32) (nwm : Nat → Int32) (ndr : Nat → Int32) (thour : Int32) (tair : Int32) (trub : Int32) (tz : Int32) (tnb : Int32) (tkd : Nat → Int32) (tcl : Nat → Int32) (tgr : Nat → Int32) (toc : Nat → Int32) (tlit : Int32) (tcold : Int32) (tccell : Nat → Int32) (tcpow : Nat → Int32) (tsp : Nat → Int32) (twm : Nat → Int32) (tdr : Nat → Int32) (tok : Int32) (sta : Int32) (en : Int32) (val : Int32) (tsize : Int32) (tby : Nat → Int32) (R : Int32) (nhour_r : Int32) (nair_r : Int32) (nrub_r : Int32) (nz_r : Int32) (nnb_r : Int32) (nkd_r : Nat → Int32) (ncl_r : Nat → Int32) (ngr_r : Nat → Int32) (noc_r : Nat → Int32) (nlit_r : Int32) (ncold_r : Int32) (nccell_r : Nat → Int32) (ncpow_r : Nat → Int32) (nsp_r : Nat → Int32) (thour_r : Int32) (tair_r : Int32) (trub_r : Int32) (tz_r : Int32) (tnb_r : Int32) (tkd_r : Nat → Int32) (tcl_r : Nat → Int32) (tgr_r : Nat → Int32) (toc_r : Nat → Int32) (tlit_r : Int32) (tcold_r : Int32) (tccell_r : Nat → Int32) (tcpow_r : Nat → Int32) (tsp_r : Nat → Int32) (tok_r : Int32) (sta_r : Int32) (en_r : Int32) (val_r : Int32) (tsize_r : Int32) (hf : f_X6_text nhour nair nrub nz nnb nkd ncl ngr noc nlit ncold nccell ncpow nsp thour tair trub tz tnb tkd tcl tgr toc tlit tcold tccell tcpow tsp tok sta en val tsize tby = some (R, nhour_r, nair_r, nrub_r, nz_r, nnb_r, nkd_r, ncl_r, ngr_r, noc_r, nlit_r, ncold_r, nccell_r, ncpow_r, nsp_r, thour_r, tair_r, trub_r, tz_r, tnb_r, tkd_r, tcl_r, tgr_r, toc_r, tlit_r, tcold_r, tccell_r, tcpow_r, tsp_r, tok_r, sta_r, en_r, val_r, tsize_r)) : Met l yX6_text (ik_ws yX6_text cX6_text 2 (some .int)) ({ frames := 8, cells := 0, slots := 0, locals := 201 } : Room) (ik_PZ D cI cS aK aV ka [.ref o0] (wz_X6ontr cI cS o0 np0 kp0 tp0 r0 t0 sh0 f0 nw0 nc0 np1 np2 np3 nw1 nw2 nw3 nw4 nc1 nc2 tw0 tc0 tp1 tp2 tp3 tw1 tw2 tw3 tw4 tc1 tc2 t1 isk nhour nair nrub nz nnb nkd ncl ngr noc nlit ncold nccell ncpow nsp nwm ndr thour tair trub tz tnb tkd tcl tgr toc tlit tcold tccell tcpow tsp twm tdr tok sta en val tsize tby)) (ik_Q (some (.int R)) D (wz_X6ontr cI cS o0 np0 kp0 tp0 r0 t0 sh0 f0 nw0 nc0 np1 np2 np3 nw1 nw2 nw3 nw4 nc1 nc2 tw0 tc0 tp1 tp2 tp3 tw1 tw2 tw3 tw4 tc1 tc2 t1 isk nhour_r nair_r nrub_r nz_r nnb_r nkd_r ncl_r ngr_r noc_r nlit_r ncold_r nccell_r ncpow_r nsp_r nwm ndr thour_r tair_r trub_r tz_r tnb_r tkd_r tcl_r tgr_r toc_r tlit_r tcold_r tccell_r tcpow_r tsp_r twm tdr tok_r sta_r en_r val_r tsize_r tby) (wz_X6ontr cI cS o0 np0 kp0 tp0 r0 t0 sh0 f0 nw0 nc0 np1 np2 np3 nw1 nw2 nw3 nw4 nc1 nc2 tw0 tc0 tp1 tp2 tp3 tw1 tw2 tw3 tw4 tc1 tc2 t1 isk nhour nair nrub nz nnb nkd ncl ngr noc nlit ncold nccell ncpow nsp nwm ndr thour tair trub tz tnb tkd tcl tgr toc tlit tcold tccell tcpow tsp twm tdr tok sta en val tsize tby)) 0 0 (ik_in (wz_X6ontr cI cS o0 np0 kp0 tp0 r0 t0 sh0 f0 nw0 nc0 np1 np2 np3 nw1 nw2 nw3 nw4 nc1 nc2 tw0 tc0 tp1 tp2 tp3 tw1 tw2 tw3 tw4 tc1 tc2 t1 isk nhour nair nrub nz nnb nkd ncl ngr noc nlit ncold nccell ncpow nsp nwm ndr thour tair trub tz tnb tkd tcl tgr toc tlit tcold tccell tcpow tsp twm tdr tok sta en val tsize tby)) := by
  refine ik_metWZ RX6 rfl (by decide) (Nat.le_of_ble_eq_true rfl) [(0, .ref o0)] rfl ?_
  intro p e s m below meth c C hr hlk hZ
  unfold f_X6_text at hf
  refine ik_aload_n C 0 rfl rfl dX6_text_0 ?_
  refine ik_get C inlX6 0 rfl rfl 4 (by decide) wl_1_21 rfl (v := .ref r0) rfl dX6_text_1 ?_
  refine ik_aload_n C 0 rfl rfl dX6_text_4 ?_
  obtain ⟨g1, g2, g3, g4, g5, g6, g7, g8, g9, g10, g11, g12, g13, g14, hc14, hf⟩ := ik_b14s hf
  have hM := (c_X6_freshTrial l D cI cS o0 np0 kp0 tp0 r0 t0 sh0 f0 nw0 nc0 np1 np2 np3 nw1 nw2 nw3 nw4 nc1 nc2 tw0 tc0 tp1 tp2 tp3 tw1 tw2 tw3 tw4 tc1 tc2 isk nhour nair nrub nz nnb nkd ncl ngr noc nlit ncold nccell ncpow nsp nwm ndr thour tair trub tz tnb tkd tcl tgr toc tlit tcold tccell tcpow tsp twm tdr g1 g2 g3 g4 g5 g6 g7 g8 g9 g10 g11 g12 g13 g14 hc14)
  refine ik_goW (v := (some (.ref tp0))) (wc := (wz_X6ont cI cS o0 np0 kp0 tp0 r0 t0 sh0 f0 nw0 nc0 np1 np2 np3 nw1 nw2 nw3 nw4 nc1 nc2 tw0 tc0 tp1 tp2 tp3 tw1 tw2 tw3 tw4 tc1 tc2 isk nhour nair nrub nz nnb nkd ncl ngr noc nlit ncold nccell ncpow nsp nwm ndr thour tair trub tz tnb tkd tcl tgr toc tlit tcold tccell tcpow tsp twm tdr)) (w1 := (wz_X6ont cI cS o0 np0 kp0 tp0 r0 t0 sh0 f0 nw0 nc0 np1 np2 np3 nw1 nw2 nw3 nw4 nc1 nc2 tw0 tc0 tp1 tp2 tp3 tw1 tw2 tw3 tw4 tc1 tc2 isk nhour nair nrub nz nnb nkd ncl ngr noc nlit ncold nccell ncpow nsp nwm ndr g1 g2 g3 g4 g5 g6 g7 g8 g9 g10 g11 g12 g13 g14 twm tdr)) [0, 1, 2, 3, 4, 5, 6, 7, 8, 9, 10, 11, 12, 13, 14, 15, 16, 17, 18, 19, 20, 21, 22, 23, 24] [25, 26, 27] 28 rfl rfl (wz_X6ontr cI cS o0 np0 kp0 tp0 r0 t0 sh0 f0 nw0 nc0 np1 np2 np3 nw1 nw2 nw3 nw4 nc1 nc2 tw0 tc0 tp1 tp2 tp3 tw1 tw2 tw3 tw4 tc1 tc2 t1 isk nhour nair nrub nz nnb nkd ncl ngr noc nlit ncold nccell ncpow nsp nwm ndr g1 g2 g3 g4 g5 g6 g7 g8 g9 g10 g11 g12 g13 g14 twm tdr tok sta en val tsize tby) rfl rfl rfl (by decide +kernel) (ik_runV (st := [.ref r0]) (As := []) C hM mv_X6_freshTrial wl_23_10 ⟨rfl, rfl, Nat.le_of_ble_eq_true rfl, Nat.le_of_ble_eq_true rfl⟩ [0, 1, 2, 3, 4, 5, 6, 7, 8, 9, 10, 11, 12, 13, 14, 15, 16, 17, 18, 19, 20, 21, 22, 23, 24] rfl (by decide +kernel) 0 rfl rfl rfl rfl (Nat.le_of_ble_eq_true rfl) dX6_text_5) rfl ?_
  obtain ⟨r15, g16, g17, g18, g19, g20, g21, g22, g23, g24, g25, g26, g27, g28, hc28, hf⟩ := ik_b14s hf
  have hM := (c_X4_readInto l D cI cS aK aV ka r0 t0 t1 tp0 tw0 tc0 tp1 tp2 tp3 tw1 tw2 tw3 tw4 tc1 tc2 tok sta en val tsize tby g1 g2 g3 g4 g5 g6 g7 g8 g9 g10 g11 g12 g13 g14 twm tdr r15 g16 g17 g18 g19 g20 g21 g22 g23 g24 g25 g26 g27 g28 hc28)
  refine ik_goW (v := (some (.int r15))) (wc := (wz_X4X1 cI cS r0 t0 t1 tp0 tw0 tc0 tp1 tp2 tp3 tw1 tw2 tw3 tw4 tc1 tc2 tok sta en val tsize tby g1 g2 g3 g4 g5 g6 g7 g8 g9 g10 g11 g12 g13 g14 twm tdr)) (w1 := (wz_X4X1 cI cS r0 t0 t1 tp0 tw0 tc0 tp1 tp2 tp3 tw1 tw2 tw3 tw4 tc1 tc2 g16 g17 g18 g19 tsize tby g1 g2 g3 g4 g20 g21 g22 g23 g24 g25 g26 g27 g28 g14 twm tdr)) [25, 26, 27, 13, 14, 15, 16, 17, 18, 19, 20, 21, 22, 23, 24] [0, 1, 2, 3, 4, 5, 6, 7, 8, 9, 10, 11, 12] 28 rfl rfl (wz_X6ontr cI cS o0 np0 kp0 tp0 r0 t0 sh0 f0 nw0 nc0 np1 np2 np3 nw1 nw2 nw3 nw4 nc1 nc2 tw0 tc0 tp1 tp2 tp3 tw1 tw2 tw3 tw4 tc1 tc2 t1 isk nhour nair nrub nz nnb nkd ncl ngr noc nlit ncold nccell ncpow nsp nwm ndr g1 g2 g3 g4 g20 g21 g22 g23 g24 g25 g26 g27 g28 g14 twm tdr g16 g17 g18 g19 tsize tby) rfl rfl rfl (by decide +kernel) (ik_runVZ (st := []) (As := [.ref tp0]) C hZ (fun _ h => h) ik_hBw hM mv_X4_readInto wl_35_16 ⟨rfl, rfl, Nat.le_of_ble_eq_true rfl, Nat.le_of_ble_eq_true rfl⟩ [25, 26, 27, 13, 14, 15, 16, 17, 18, 19, 20, 21, 22, 23, 24] rfl (by decide +kernel) 25 rfl rfl rfl rfl (Nat.le_of_ble_eq_true rfl) dX6_text_8) rfl ?_
  refine ik_istore_n C [(1, .int r15), (0, .ref o0)] rfl (by decide) rfl dX6_text_11 ?_
  refine ik_aload_n C 1 rfl rfl dX6_text_12 ?_
  refine ik_get C inlX6 0 rfl rfl 5 (by decide) wl_1_23 rfl (v := .ref t0) rfl dX6_text_13 ?_
  refine ik_iconst (v := (0 : Int32)) C (by decide) dX6_text_16 ?_
  refine ik_put C inlX3 tyX3 tyX3_ok nmX3 26 rfl rfl 1 (by decide) wl_34_17 rfl (by decide) rfl rfl (Nat.le_of_ble_eq_true rfl) (wz_X6ontr cI cS o0 np0 kp0 tp0 r0 t0 sh0 f0 nw0 nc0 np1 np2 np3 nw1 nw2 nw3 nw4 nc1 nc2 tw0 tc0 tp1 tp2 tp3 tw1 tw2 tw3 tw4 tc1 tc2 t1 isk nhour nair nrub nz nnb nkd ncl ngr noc nlit ncold nccell ncpow nsp nwm ndr g1 g2 g3 g4 g20 g21 g22 g23 g24 g25 g26 g27 g28 g14 twm tdr g16 g17 g18 g19 (0 : Int32) tby) rfl dX6_text_17 ?_
  refine ik_iload_n C 0 rfl rfl dX6_text_20 ?_
  refine ik_if_lt C 35 dX6_text_21 (by decide) (fun hc => ?_) (fun hc => ?_)
  · have hf := ik_pos hc hf
    refine ik_iload_n C 0 rfl rfl dX6_text_35 ?_
    cases hf
    exact ik_iretW C hr hlk dX6_text_36
  · have hf := ik_neg hc hf
    refine ik_aload_n C 1 rfl rfl dX6_text_24 ?_
    refine ik_get C inlX6 0 rfl rfl 0 (by decide) wl_1_15 rfl (v := .ref np0) rfl dX6_text_25 ?_
    refine ik_aload_n C 1 rfl rfl dX6_text_28 ?_
    refine ik_get C inlX6 0 rfl rfl 2 (by decide) wl_1_17 rfl (v := .ref tp0) rfl dX6_text_29 ?_
    obtain ⟨g29, g30, g31, g32, g33, g34, g35, g36, g37, g38, g39, g40, g41, g42, hc42, hf⟩ := ik_b14s hf
    have hM := (c_X1_copyFrom l D cI cS np0 nw0 nc0 np1 np2 np3 nw1 nw2 nw3 nw4 nc1 nc2 tp0 tw0 tc0 tp1 tp2 tp3 tw1 tw2 tw3 tw4 tc1 tc2 nhour nair nrub nz nnb nkd ncl ngr noc nlit ncold nccell ncpow nsp nwm ndr g1 g2 g3 g4 g20 g21 g22 g23 g24 g25 g26 g27 g28 g14 twm tdr g29 g30 g31 g32 g33 g34 g35 g36 g37 g38 g39 g40 g41 g42 hc42)
    refine ik_goW (v := none) (wc := (wz_X1d cI cS np0 nw0 nc0 np1 np2 np3 nw1 nw2 nw3 nw4 nc1 nc2 tp0 tw0 tc0 tp1 tp2 tp3 tw1 tw2 tw3 tw4 tc1 tc2 nhour nair nrub nz nnb nkd ncl ngr noc nlit ncold nccell ncpow nsp nwm ndr g1 g2 g3 g4 g20 g21 g22 g23 g24 g25 g26 g27 g28 g14 twm tdr)) (w1 := (wz_X1d cI cS np0 nw0 nc0 np1 np2 np3 nw1 nw2 nw3 nw4 nc1 nc2 tp0 tw0 tc0 tp1 tp2 tp3 tw1 tw2 tw3 tw4 tc1 tc2 g29 g30 g31 g32 g33 g34 g35 g36 g37 g38 g39 g40 g41 g42 nwm ndr g1 g2 g3 g4 g20 g21 g22 g23 g24 g25 g26 g27 g28 g14 twm tdr)) [1, 2, 3, 4, 5, 6, 7, 8, 9, 10, 11, 12, 13, 14, 15, 16, 17, 18, 19, 20, 21, 22, 23, 24] [0, 25, 26, 27] 28 rfl rfl (wz_X6ontr cI cS o0 np0 kp0 tp0 r0 t0 sh0 f0 nw0 nc0 np1 np2 np3 nw1 nw2 nw3 nw4 nc1 nc2 tw0 tc0 tp1 tp2 tp3 tw1 tw2 tw3 tw4 tc1 tc2 t1 isk g29 g30 g31 g32 g33 g34 g35 g36 g37 g38 g39 g40 g41 g42 nwm ndr g1 g2 g3 g4 g20 g21 g22 g23 g24 g25 g26 g27 g28 g14 twm tdr g16 g17 g18 g19 (0 : Int32) tby) rfl rfl rfl (by decide +kernel) (ik_runV (st := []) (As := [.ref tp0]) C hM mv_X1_copyFrom wl_23_14 ⟨rfl, rfl, Nat.le_of_ble_eq_true rfl, Nat.le_of_ble_eq_true rfl⟩ [1, 2, 3, 4, 5, 6, 7, 8, 9, 10, 11, 12, 13, 14, 15, 16, 17, 18, 19, 20, 21, 22, 23, 24] rfl (by decide +kernel) 1 rfl rfl rfl rfl (Nat.le_of_ble_eq_true rfl) dX6_text_32) rfl ?_
    refine ik_iload_n C 0 rfl rfl dX6_text_35 ?_
    cases hf
    exact ik_iretW C hr hlk dX6_text_36
