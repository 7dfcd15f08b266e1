theorem mv_X6_wind : ik_V yX6_wind RX6 cX6_wind 4 (some .int) 1 := ⟨wl_33_11, wl_33_12, wl_1_2, wl_33_13, by decide +kernel⟩
set_option maxHeartbeats 4000000 in
set_option maxRecDepth 100000 in
theorem c_X6_wind (l : Launch) (D : va_G) (cI cS : ClassId) (o0 np0 kp0 tp0 r0 t0 sh0 f0 nw0 nc0 np1 np2 np3 nw1 nw2 nw3 nw4 nc1 nc2 : Nat) (isk : Int32) (fnd : Nat → Int32) (nhour : Int32) (nair : Int32) (nrub : Int32) (nz : Int32) (nnb : Int32) (nkd : Nat → Int32) (ncl : Nat → Int32) (ngr : Nat → Int32) (noc : Nat → Int32) (nlit : Int32) (ncold : Int32) (nccell : Nat → Int32) (ncpow : Nat → Int32) (nsp : Nat → Int32) (nwm : Nat → Int32) (ndr : Nat → Int32) (x1 : Int32) (R : Int32) (fnd_r : Nat → Int32) (nz_r : Int32) (nlit_r : Int32) (hf : f_X6_wind fnd nz nlit ncpow x1 = some (R, fnd_r, nz_r, nlit_r)) : Met l yX6_wind (ik_ws yX6_wind cX6_wind 4 (some .int)) ({ frames := 2, cells := 0, slots := 0, locals := 44 } : Room) (ik_P D cI cS [.ref o0, .int x1] (wz_X6ofn cI cS o0 np0 kp0 tp0 r0 t0 sh0 f0 nw0 nc0 np1 np2 np3 nw1 nw2 nw3 nw4 nc1 nc2 isk fnd nhour nair nrub nz nnb nkd ncl ngr noc nlit ncold nccell ncpow nsp nwm ndr)) (ik_Q (some (.int R)) D (wz_X6ofn cI cS o0 np0 kp0 tp0 r0 t0 sh0 f0 nw0 nc0 np1 np2 np3 nw1 nw2 nw3 nw4 nc1 nc2 isk fnd_r nhour nair nrub nz_r nnb nkd ncl ngr noc nlit_r ncold nccell ncpow nsp nwm ndr) (wz_X6ofn cI cS o0 np0 kp0 tp0 r0 t0 sh0 f0 nw0 nc0 np1 np2 np3 nw1 nw2 nw3 nw4 nc1 nc2 isk fnd nhour nair nrub nz nnb nkd ncl ngr noc nlit ncold nccell ncpow nsp nwm ndr)) 0 0 (ik_in (wz_X6ofn cI cS o0 np0 kp0 tp0 r0 t0 sh0 f0 nw0 nc0 np1 np2 np3 nw1 nw2 nw3 nw4 nc1 nc2 isk fnd nhour nair nrub nz nnb nkd ncl ngr noc nlit ncold nccell ncpow nsp nwm ndr)) := by
  refine ik_metW RX6 rfl (by decide) (Nat.le_of_ble_eq_true rfl) [(0, .ref o0), (1, .int x1)] rfl ?_
  intro p e s m below meth c C hr hlk
  unfold f_X6_wind at hf
  refine ik_iload_n C 1 rfl rfl dX6_wind_0 ?_
  refine ik_iconst (v := (1 : Int32)) C (by decide) dX6_wind_1 ?_
  refine ik_bipush (v := (20 : Int32)) C (by decide) dX6_wind_2 ?_
  obtain ⟨r1, hc1, hf⟩ := ik_b1s hf
  have hM := (c_X6_isWithin l D cI cS x1 (1 : Int32) (20 : Int32) r1 hc1)
  refine ik_goR (ik_runS (st := []) (As := [.int x1, .int (1 : Int32), .int (20 : Int32)]) C hM ms_X6_isWithin wl_5_10 ⟨rfl, rfl, Nat.le_of_ble_eq_true rfl, Nat.le_of_ble_eq_true rfl⟩ [] rfl (by decide +kernel) rfl rfl (Nat.le_of_ble_eq_true rfl) dX6_wind_4 ⟨Nat.zero_le _, Nat.zero_le _⟩) rfl ?_
  refine ik_if_ne C 17 dX6_wind_7 (by decide) (fun hc => ?_) (fun hc => ?_)
  · have hf := ik_neg hc hf
    refine ik_iconst (v := (0 : Int32)) C (by decide) dX6_wind_17 ?_
    refine ik_istore_n C [(2, .int (0 : Int32)), (0, .ref o0), (1, .int x1)] rfl (by decide) rfl dX6_wind_18 ?_
    have hL_19 : ∀ (n_19 : Nat) (nz_19 : Int32) (nlit_19 : Int32) (x2_19 : Int32), ik_lp3 (b_X6_wind_19 fnd ncpow x1) n_19 nz_19 nlit_19 x2_19 = some (R, fnd_r, nz_r, nlit_r) → ik_G p l e ({ frames := 2, cells := 0, slots := 0, locals := 44 } : Room) s m ([.ref o0, .int x1] : List Value).toArray below meth c D (ik_in (wz_X6ofn cI cS o0 np0 kp0 tp0 r0 t0 sh0 f0 nw0 nc0 np1 np2 np3 nw1 nw2 nw3 nw4 nc1 nc2 isk fnd nhour nair nrub nz nnb nkd ncl ngr noc nlit ncold nccell ncpow nsp nwm ndr)) (ik_in (wz_X6ofn cI cS o0 np0 kp0 tp0 r0 t0 sh0 f0 nw0 nc0 np1 np2 np3 nw1 nw2 nw3 nw4 nc1 nc2 isk fnd nhour nair nrub nz nnb nkd ncl ngr noc nlit ncold nccell ncpow nsp nwm ndr)) 4 0 0 (MQ below (ik_Q (some (.int R)) D (wz_X6ofn cI cS o0 np0 kp0 tp0 r0 t0 sh0 f0 nw0 nc0 np1 np2 np3 nw1 nw2 nw3 nw4 nc1 nc2 isk fnd_r nhour nair nrub nz_r nnb nkd ncl ngr noc nlit_r ncold nccell ncpow nsp nwm ndr) (wz_X6ofn cI cS o0 np0 kp0 tp0 r0 t0 sh0 f0 nw0 nc0 np1 np2 np3 nw1 nw2 nw3 nw4 nc1 nc2 isk fnd nhour nair nrub nz nnb nkd ncl ngr noc nlit ncold nccell ncpow nsp nwm ndr)) ([.ref o0, .int x1] : List Value).toArray s 0 0 (ik_in (wz_X6ofn cI cS o0 np0 kp0 tp0 r0 t0 sh0 f0 nw0 nc0 np1 np2 np3 nw1 nw2 nw3 nw4 nc1 nc2 isk fnd nhour nair nrub nz nnb nkd ncl ngr noc nlit ncold nccell ncpow nsp nwm ndr))) 19 [(2, .int x2_19), (0, .ref o0), (1, .int x1)] [] (wz_X6ofn cI cS o0 np0 kp0 tp0 r0 t0 sh0 f0 nw0 nc0 np1 np2 np3 nw1 nw2 nw3 nw4 nc1 nc2 isk fnd nhour nair nrub nz_19 nnb nkd ncl ngr noc nlit_19 ncold nccell ncpow nsp nwm ndr) := by
      intro n_19
      induction n_19 with
      | zero => intro _ _ _ hf; exact nomatch hf
      | succ n_19 ih_19 =>
        intro nz_19 nlit_19 x2_19 hf
        replace hf : b_X6_wind_19 fnd ncpow x1 (ik_lp3 (b_X6_wind_19 fnd ncpow x1) n_19) nz_19 nlit_19 x2_19 = some (R, fnd_r, nz_r, nlit_r) := hf
        unfold b_X6_wind_19 at hf
        refine ik_iload_n C 0 rfl rfl dX6_wind_19 ?_
        refine ik_iload_n C 2 rfl rfl dX6_wind_20 ?_
        refine ik_icmp_ge C 71 dX6_wind_21 (by decide) (fun hc => ?_) (fun hc => ?_)
        · have hf := ik_pos hc hf
          refine ik_aload_n C 1 rfl rfl dX6_wind_71 ?_
          refine ik_get C inlX6 0 rfl rfl 0 (by decide) wl_1_15 rfl (v := .ref np0) rfl dX6_wind_72 ?_
          refine ik_get C inlX1 2 rfl rfl 1 (by decide) wl_13_8 rfl (v := .ref nc0) rfl dX6_wind_75 ?_
          refine ik_aload_n C 1 rfl rfl dX6_wind_78 ?_
          refine ik_get C inlX6 0 rfl rfl 0 (by decide) wl_1_15 rfl (v := .ref np0) rfl dX6_wind_79 ?_
          refine ik_get C inlX1 2 rfl rfl 1 (by decide) wl_13_8 rfl (v := .ref nc0) rfl dX6_wind_82 ?_
          refine ik_get C inlX0 8 rfl rfl 2 (by decide) wl_17_9 rfl (v := .int nlit_19) rfl dX6_wind_85 ?_
          obtain ⟨r2, hc2, hf⟩ := ik_b1s hf
          have hM := (c_X0_lightOf l D cI cS nc0 nc1 nc2 nlit_19 ncold nccell ncpow nlit_19 r2 hc2)
          refine ik_goR (ik_runV (st := []) (As := [.int nlit_19]) C hM mv_X0_lightOf wl_17_10 ⟨rfl, rfl, Nat.le_of_ble_eq_true rfl, Nat.le_of_ble_eq_true rfl⟩ [8, 9, 10] rfl (by decide +kernel) 8 rfl rfl rfl rfl (Nat.le_of_ble_eq_true rfl) dX6_wind_88 ⟨Nat.zero_le _, Nat.zero_le _⟩) rfl ?_
          obtain ⟨rfl, rfl, rfl, rfl⟩ := ik_e4 hf
          exact ik_iretW C hr hlk dX6_wind_91
        · have hf := ik_neg hc hf
          refine ik_aload_n C 1 rfl rfl dX6_wind_24 ?_
          refine ik_get C inlX6 0 rfl rfl 0 (by decide) wl_1_15 rfl (v := .ref np0) rfl dX6_wind_25 ?_
          obtain ⟨r2, g3, hc3, hf⟩ := ik_b2s hf
          have hM := (c_X1_draw l D cI cS np0 nw0 nc0 np1 np2 np3 nw1 nw2 nw3 nw4 nc1 nc2 nhour nair nrub nz_19 nnb nkd ncl ngr noc nlit_19 ncold nccell ncpow nsp nwm ndr r2 g3 hc3)
          refine ik_goW (v := (some (.int r2))) (wc := (wz_X1 cI cS np0 nw0 nc0 np1 np2 np3 nw1 nw2 nw3 nw4 nc1 nc2 nhour nair nrub nz_19 nnb nkd ncl ngr noc nlit_19 ncold nccell ncpow nsp nwm ndr)) (w1 := (wz_X1 cI cS np0 nw0 nc0 np1 np2 np3 nw1 nw2 nw3 nw4 nc1 nc2 nhour nair nrub g3 nnb nkd ncl ngr noc nlit_19 ncold nccell ncpow nsp nwm ndr)) [2, 3, 4, 5, 6, 7, 8, 9, 10, 11, 12, 13] [0, 1] 14 rfl rfl (wz_X6ofn cI cS o0 np0 kp0 tp0 r0 t0 sh0 f0 nw0 nc0 np1 np2 np3 nw1 nw2 nw3 nw4 nc1 nc2 isk fnd nhour nair nrub g3 nnb nkd ncl ngr noc nlit_19 ncold nccell ncpow nsp nwm ndr) rfl [(o0, .inr (6, [.ref np0, .ref kp0, .ref tp0, .int isk, .ref r0, .ref t0, .ref sh0, .ref f0])), (f0, .inl (cI, 7, .inl fnd))] rfl rfl rfl (by decide +kernel) (ik_runV (st := []) (As := []) C hM mv_X1_draw wl_33_14 ⟨rfl, rfl, Nat.le_of_ble_eq_true rfl, Nat.le_of_ble_eq_true rfl⟩ [2, 3, 4, 5, 6, 7, 8, 9, 10, 11, 12, 13] rfl (by decide +kernel) 2 rfl rfl rfl rfl (Nat.le_of_ble_eq_true rfl) dX6_wind_28 ⟨Nat.zero_le _, Nat.zero_le _⟩) rfl ?_
          refine ik_bipush (v := (6 : Int32)) C (by decide) dX6_wind_31 ?_
          refine ik_irem C (by decide) dX6_wind_33 ?_
          refine ik_istore_n C [(3, .int (r2 - r2 / (6 : Int32) * (6 : Int32))), (2, .int x2_19), (0, .ref o0), (1, .int x1)] rfl (by decide) rfl dX6_wind_34 ?_
          refine ik_aload_n C 2 rfl rfl dX6_wind_35 ?_
          refine ik_get C inlX6 0 rfl rfl 0 (by decide) wl_1_15 rfl (v := .ref np0) rfl dX6_wind_36 ?_
          refine ik_get C inlX1 2 rfl rfl 1 (by decide) wl_13_8 rfl (v := .ref nc0) rfl dX6_wind_39 ?_
          refine ik_iload_n C 0 rfl rfl dX6_wind_42 ?_
          refine ik_aload_n C 2 rfl rfl dX6_wind_43 ?_
          refine ik_get C inlX6 0 rfl rfl 0 (by decide) wl_1_15 rfl (v := .ref np0) rfl dX6_wind_44 ?_
          refine ik_get C inlX1 2 rfl rfl 1 (by decide) wl_13_8 rfl (v := .ref nc0) rfl dX6_wind_47 ?_
          refine ik_iload_n C 0 rfl rfl dX6_wind_50 ?_
          obtain ⟨r4, hc4, hf⟩ := ik_b1s hf
          have hM := (c_X0_isLit l D cI cS nc0 nc1 nc2 nlit_19 ncold nccell ncpow (r2 - r2 / (6 : Int32) * (6 : Int32)) r4 hc4)
          refine ik_goR (ik_runV (st := [.int (r2 - r2 / (6 : Int32) * (6 : Int32)), .ref nc0]) (As := [.int (r2 - r2 / (6 : Int32) * (6 : Int32))]) C hM mv_X0_isLit wl_16_1 ⟨rfl, rfl, Nat.le_of_ble_eq_true rfl, Nat.le_of_ble_eq_true rfl⟩ [8, 9, 10] rfl (by decide +kernel) 8 rfl rfl rfl rfl (Nat.le_of_ble_eq_true rfl) dX6_wind_51 ⟨Nat.zero_le _, Nat.zero_le _⟩) rfl ?_
          refine ik_if_ne C 61 dX6_wind_54 (by decide) (fun hc => ?_) (fun hc => ?_)
          · have hf := ik_neg hc hf
            refine ik_iconst (v := (0 : Int32)) C (by decide) dX6_wind_61 ?_
            obtain ⟨g5, hc5, hf⟩ := ik_b1s hf
            have hM := (c_X0_setLit l D cI cS nc0 nc1 nc2 nlit_19 ncold nccell ncpow (r2 - r2 / (6 : Int32) * (6 : Int32)) (0 : Int32) g5 hc5)
            refine ik_goW (v := none) (wc := (wz_X0 cI cS nc0 nc1 nc2 nlit_19 ncold nccell ncpow)) (w1 := (wz_X0 cI cS nc0 nc1 nc2 g5 ncold nccell ncpow)) [8, 9, 10] [0, 1, 2, 3, 4, 5, 6, 7, 11, 12, 13] 14 rfl rfl (wz_X6ofn cI cS o0 np0 kp0 tp0 r0 t0 sh0 f0 nw0 nc0 np1 np2 np3 nw1 nw2 nw3 nw4 nc1 nc2 isk fnd nhour nair nrub g3 nnb nkd ncl ngr noc g5 ncold nccell ncpow nsp nwm ndr) rfl [(o0, .inr (6, [.ref np0, .ref kp0, .ref tp0, .int isk, .ref r0, .ref t0, .ref sh0, .ref f0])), (f0, .inl (cI, 7, .inl fnd)), (np0, .inr (1, [.ref nw0, .ref nc0, .ref np1, .int nhour, .int nair, .int nrub, .int g3, .ref np2, .ref np3])), (nw0, .inr (5, [.int nnb, .ref nw1, .ref nw2, .ref nw3, .ref nw4])), (nw1, .inl (cI, 16, .inl nkd)), (nw2, .inl (cI, 16, .inl ncl)), (nw3, .inl (cI, 16, .inl ngr)), (nw4, .inl (cI, 48, .inl noc)), (np1, .inl (cI, 10, .inl nsp)), (np2, .inl (cI, 16, .inl nwm)), (np3, .inl (cI, 8, .inl ndr))] rfl rfl rfl (by decide +kernel) (ik_runV (st := []) (As := [.int (r2 - r2 / (6 : Int32) * (6 : Int32)), .int (0 : Int32)]) C hM mv_X0_setLit wl_16_2 ⟨rfl, rfl, Nat.le_of_ble_eq_true rfl, Nat.le_of_ble_eq_true rfl⟩ [8, 9, 10] rfl (by decide +kernel) 8 rfl rfl rfl rfl (Nat.le_of_ble_eq_true rfl) dX6_wind_62 ⟨Nat.zero_le _, Nat.zero_le _⟩) rfl ?_
            refine ik_iinc C [(2, .int (x2_19 + (1 : Int32))), (3, .int (r2 - r2 / (6 : Int32) * (6 : Int32))), (0, .ref o0), (1, .int x1)] 1 rfl rfl (by decide) rfl dX6_wind_65 ?_
            refine ik_goto C 19 dX6_wind_68 (by decide) ?_
            exact ik_sub [0, 2, 3] [(2, .int (x2_19 + (1 : Int32))), (0, .ref o0), (1, .int x1)] rfl (ih_19 g3 g5 (x2_19 + (1 : Int32)) hf)
          · have hf := ik_pos hc hf
            refine ik_iconst (v := (1 : Int32)) C (by decide) dX6_wind_57 ?_
            refine ik_goto C 62 dX6_wind_58 (by decide) ?_
            obtain ⟨g5, hc5, hf⟩ := ik_b1s hf
            have hM := (c_X0_setLit l D cI cS nc0 nc1 nc2 nlit_19 ncold nccell ncpow (r2 - r2 / (6 : Int32) * (6 : Int32)) (1 : Int32) g5 hc5)
            refine ik_goW (v := none) (wc := (wz_X0 cI cS nc0 nc1 nc2 nlit_19 ncold nccell ncpow)) (w1 := (wz_X0 cI cS nc0 nc1 nc2 g5 ncold nccell ncpow)) [8, 9, 10] [0, 1, 2, 3, 4, 5, 6, 7, 11, 12, 13] 14 rfl rfl (wz_X6ofn cI cS o0 np0 kp0 tp0 r0 t0 sh0 f0 nw0 nc0 np1 np2 np3 nw1 nw2 nw3 nw4 nc1 nc2 isk fnd nhour nair nrub g3 nnb nkd ncl ngr noc g5 ncold nccell ncpow nsp nwm ndr) rfl [(o0, .inr (6, [.ref np0, .ref kp0, .ref tp0, .int isk, .ref r0, .ref t0, .ref sh0, .ref f0])), (f0, .inl (cI, 7, .inl fnd)), (np0, .inr (1, [.ref nw0, .ref nc0, .ref np1, .int nhour, .int nair, .int nrub, .int g3, .ref np2, .ref np3])), (nw0, .inr (5, [.int nnb, .ref nw1, .ref nw2, .ref nw3, .ref nw4])), (nw1, .inl (cI, 16, .inl nkd)), (nw2, .inl (cI, 16, .inl ncl)), (nw3, .inl (cI, 16, .inl ngr)), (nw4, .inl (cI, 48, .inl noc)), (np1, .inl (cI, 10, .inl nsp)), (np2, .inl (cI, 16, .inl nwm)), (np3, .inl (cI, 8, .inl ndr))] rfl rfl rfl (by decide +kernel) (ik_runV (st := []) (As := [.int (r2 - r2 / (6 : Int32) * (6 : Int32)), .int (1 : Int32)]) C hM mv_X0_setLit wl_16_2 ⟨rfl, rfl, Nat.le_of_ble_eq_true rfl, Nat.le_of_ble_eq_true rfl⟩ [8, 9, 10] rfl (by decide +kernel) 8 rfl rfl rfl rfl (Nat.le_of_ble_eq_true rfl) dX6_wind_62 ⟨Nat.zero_le _, Nat.zero_le _⟩) rfl ?_
            refine ik_iinc C [(2, .int (x2_19 + (1 : Int32))), (3, .int (r2 - r2 / (6 : Int32) * (6 : Int32))), (0, .ref o0), (1, .int x1)] 1 rfl rfl (by decide) rfl dX6_wind_65 ?_
            refine ik_goto C 19 dX6_wind_68 (by decide) ?_
            exact ik_sub [0, 2, 3] [(2, .int (x2_19 + (1 : Int32))), (0, .ref o0), (1, .int x1)] rfl (ih_19 g3 g5 (x2_19 + (1 : Int32)) hf)
    exact hL_19 ik_fu nz nlit (0 : Int32) hf
  · have hf := ik_pos hc hf
    refine ik_aload_n C 0 rfl rfl dX6_wind_10 ?_
    refine ik_ldc C wl_5_3 dX6_wind_11 ?_
    obtain ⟨r2, g3, hc3, hf⟩ := ik_b2s hf
    have hM := (c_X6_tell l D cI cS o0 np0 kp0 tp0 r0 t0 sh0 f0 isk fnd (-1000001 : Int32) r2 g3 hc3)
    refine ik_goW (v := (some (.int r2))) (wc := (wz_X6of cI cS o0 np0 kp0 tp0 r0 t0 sh0 f0 isk fnd)) (w1 := (wz_X6of cI cS o0 np0 kp0 tp0 r0 t0 sh0 f0 isk g3)) [0, 1] [2, 3, 4, 5, 6, 7, 8, 9, 10, 11, 12, 13] 14 rfl rfl (wz_X6ofn cI cS o0 np0 kp0 tp0 r0 t0 sh0 f0 nw0 nc0 np1 np2 np3 nw1 nw2 nw3 nw4 nc1 nc2 isk g3 nhour nair nrub nz nnb nkd ncl ngr noc nlit ncold nccell ncpow nsp nwm ndr) rfl [(np0, .inr (1, [.ref nw0, .ref nc0, .ref np1, .int nhour, .int nair, .int nrub, .int nz, .ref np2, .ref np3])), (nw0, .inr (5, [.int nnb, .ref nw1, .ref nw2, .ref nw3, .ref nw4])), (nw1, .inl (cI, 16, .inl nkd)), (nw2, .inl (cI, 16, .inl ncl)), (nw3, .inl (cI, 16, .inl ngr)), (nw4, .inl (cI, 48, .inl noc)), (nc0, .inr (0, [.ref nc1, .ref nc2, .int nlit, .int ncold])), (nc1, .inl (cI, 6, .inl nccell)), (nc2, .inl (cI, 6, .inl ncpow)), (np1, .inl (cI, 10, .inl nsp)), (np2, .inl (cI, 16, .inl nwm)), (np3, .inl (cI, 8, .inl ndr))] rfl rfl rfl (by decide +kernel) (ik_runV (st := []) (As := [.int (-1000001 : Int32)]) C hM mv_X6_tell wl_5_16 ⟨rfl, rfl, Nat.le_of_ble_eq_true rfl, Nat.le_of_ble_eq_true rfl⟩ [0, 1] rfl (by decide +kernel) 0 rfl rfl rfl rfl (Nat.le_of_ble_eq_true rfl) dX6_wind_13 ⟨Nat.zero_le _, Nat.zero_le _⟩) rfl ?_
    obtain ⟨rfl, rfl, rfl, rfl⟩ := ik_e4 hf
    exact ik_iretW C hr hlk dX6_wind_16
theorem mv_X6_feed : ik_V yX6_feed RX6 cX6_feed 4 (some .int) 2 := ⟨wl_34_14, wl_34_15, wl_1_2, wl_34_16, by decide +kernel⟩
set_option maxHeartbeats 4000000 in
set_option maxRecDepth 100000 in
theorem c_X6_feed (l : Launch) (D : va_G) (cI cS : ClassId) (o0 np0 kp0 tp0 r0 t0 sh0 f0 t1 : Nat) (isk : Int32) (fnd : Nat → Int32) (tok : Int32) (sta : Int32) (en : Int32) (val : Int32) (tsize : Int32) (tby : Nat → Int32) (x1 : Int32) (x2 : Int32) (R : Int32) (fnd_r : Nat → Int32) (tsize_r : Int32) (tby_r : Nat → Int32) (hf : f_X6_feed fnd tsize tby x1 x2 = some (R, fnd_r, tsize_r, tby_r)) : Met l yX6_feed (ik_ws yX6_feed cX6_feed 4 (some .int)) ({ frames := 2, cells := 0, slots := 0, locals := 44 } : Room) (ik_P D cI cS [.ref o0, .int x1, .int x2] (wz_X6ofr cI cS o0 np0 kp0 tp0 r0 t0 sh0 f0 t1 isk fnd tok sta en val tsize tby)) (ik_Q (some (.int R)) D (wz_X6ofr cI cS o0 np0 kp0 tp0 r0 t0 sh0 f0 t1 isk fnd_r tok sta en val tsize_r tby_r) (wz_X6ofr cI cS o0 np0 kp0 tp0 r0 t0 sh0 f0 t1 isk fnd tok sta en val tsize tby)) 0 0 (ik_in (wz_X6ofr cI cS o0 np0 kp0 tp0 r0 t0 sh0 f0 t1 isk fnd tok sta en val tsize tby)) := by
  refine ik_metW RX6 rfl (by decide) (Nat.le_of_ble_eq_true rfl) [(0, .ref o0), (1, .int x1), (2, .int x2)] rfl ?_
  intro p e s m below meth c C hr hlk
  unfold f_X6_feed at hf
  refine ik_iload_n C 2 rfl rfl dX6_feed_0 ?_
  refine ik_iconst (v := (1 : Int32)) C (by decide) dX6_feed_1 ?_
  refine ik_iconst (v := (4 : Int32)) C (by decide) dX6_feed_2 ?_
  obtain ⟨r1, hc1, hf⟩ := ik_b1s hf
  have hM := (c_X6_isWithin l D cI cS x2 (1 : Int32) (4 : Int32) r1 hc1)
  refine ik_goR (ik_runS (st := []) (As := [.int x2, .int (1 : Int32), .int (4 : Int32)]) C hM ms_X6_isWithin wl_5_10 ⟨rfl, rfl, Nat.le_of_ble_eq_true rfl, Nat.le_of_ble_eq_true rfl⟩ [] rfl (by decide +kernel) rfl rfl (Nat.le_of_ble_eq_true rfl) dX6_feed_3 ⟨Nat.zero_le _, Nat.zero_le _⟩) rfl ?_
  refine ik_if_ne C 16 dX6_feed_6 (by decide) (fun hc => ?_) (fun hc => ?_)
  · have hf := ik_neg hc hf
    refine ik_aload_n C 0 rfl rfl dX6_feed_16 ?_
    refine ik_get C inlX6 0 rfl rfl 5 (by decide) wl_1_23 rfl (v := .ref t0) rfl dX6_feed_17 ?_
    refine ik_get C inlX3 3 rfl rfl 1 (by decide) wl_34_17 rfl (v := .int tsize) rfl dX6_feed_20 ?_
    refine ik_iload_n C 2 rfl rfl dX6_feed_23 ?_
    refine ik_iadd C dX6_feed_24 ?_
    refine ik_bipush (v := (120 : Int32)) C (by decide) dX6_feed_25 ?_
    refine ik_icmp_le C 37 dX6_feed_27 (by decide) (fun hc => ?_) (fun hc => ?_)
    · have hf := ik_pos hc hf
      refine ik_iload_n C 2 rfl rfl dX6_feed_37 ?_
      refine ik_iconst (v := (1 : Int32)) C (by decide) dX6_feed_38 ?_
      refine ik_isub C dX6_feed_39 ?_
      refine ik_istore_n C [(3, .int (x2 - (1 : Int32))), (0, .ref o0), (1, .int x1), (2, .int x2)] rfl (by decide) rfl dX6_feed_40 ?_
      have hL_41 : ∀ (n_41 : Nat) (tsize_41 : Int32) (tby_41 : Nat → Int32) (x3_41 : Int32), ik_lp3 (b_X6_feed_41 fnd x1) n_41 tsize_41 tby_41 x3_41 = some (R, fnd_r, tsize_r, tby_r) → ik_G p l e ({ frames := 2, cells := 0, slots := 0, locals := 44 } : Room) s m ([.ref o0, .int x1, .int x2] : List Value).toArray below meth c D (ik_in (wz_X6ofr cI cS o0 np0 kp0 tp0 r0 t0 sh0 f0 t1 isk fnd tok sta en val tsize tby)) (ik_in (wz_X6ofr cI cS o0 np0 kp0 tp0 r0 t0 sh0 f0 t1 isk fnd tok sta en val tsize tby)) 4 0 0 (MQ below (ik_Q (some (.int R)) D (wz_X6ofr cI cS o0 np0 kp0 tp0 r0 t0 sh0 f0 t1 isk fnd_r tok sta en val tsize_r tby_r) (wz_X6ofr cI cS o0 np0 kp0 tp0 r0 t0 sh0 f0 t1 isk fnd tok sta en val tsize tby)) ([.ref o0, .int x1, .int x2] : List Value).toArray s 0 0 (ik_in (wz_X6ofr cI cS o0 np0 kp0 tp0 r0 t0 sh0 f0 t1 isk fnd tok sta en val tsize tby))) 41 [(3, .int x3_41), (0, .ref o0), (1, .int x1), (2, .int x2)] [] (wz_X6ofr cI cS o0 np0 kp0 tp0 r0 t0 sh0 f0 t1 isk fnd tok sta en val tsize_41 tby_41) := by
        intro n_41
        induction n_41 with
        | zero => intro _ _ _ hf; exact nomatch hf
        | succ n_41 ih_41 =>
          intro tsize_41 tby_41 x3_41 hf
          replace hf : b_X6_feed_41 fnd x1 (ik_lp3 (b_X6_feed_41 fnd x1) n_41) tsize_41 tby_41 x3_41 = some (R, fnd_r, tsize_r, tby_r) := hf
          unfold b_X6_feed_41 at hf
          refine ik_iload_n C 0 rfl rfl dX6_feed_41 ?_
          refine ik_if_lt C 68 dX6_feed_42 (by decide) (fun hc => ?_) (fun hc => ?_)
          · have hf := ik_pos hc hf
            refine ik_aload_n C 1 rfl rfl dX6_feed_68 ?_
            refine ik_get C inlX6 0 rfl rfl 5 (by decide) wl_1_23 rfl (v := .ref t0) rfl dX6_feed_69 ?_
            refine ik_get C inlX3 3 rfl rfl 1 (by decide) wl_34_17 rfl (v := .int tsize_41) rfl dX6_feed_72 ?_
            obtain ⟨rfl, rfl, rfl, rfl⟩ := ik_e4 hf
            exact ik_iretW C hr hlk dX6_feed_75
          · have hf := ik_neg hc hf
            refine ik_aload_n C 1 rfl rfl dX6_feed_45 ?_
            refine ik_get C inlX6 0 rfl rfl 5 (by decide) wl_1_23 rfl (v := .ref t0) rfl dX6_feed_46 ?_
            refine ik_iload_n C 2 rfl rfl dX6_feed_49 ?_
            refine ik_bipush (v := (8 : Int32)) C (by decide) dX6_feed_50 ?_
            refine ik_iload_n C 0 rfl rfl dX6_feed_52 ?_
            refine ik_imul C dX6_feed_53 ?_
            refine ik_iushr C dX6_feed_54 ?_
            refine ik_sipush (v := (255 : Int32)) C (by decide) dX6_feed_55 ?_
            refine ik_iand C dX6_feed_58 ?_
            obtain ⟨g2, g3, hc3, hf⟩ := ik_b2s hf
            have hM := (c_X3_append l D cI cS t0 t1 tsize_41 tby_41 ((ik_us x1 ((8 : Int32) * x3_41)) &&& (255 : Int32)) g2 g3 hc3)
            refine ik_goW (v := none) (wc := (wz_X3 cI cS t0 t1 tsize_41 tby_41)) (w1 := (wz_X3 cI cS t0 t1 g2 g3)) [3, 4] [0, 1, 2] 5 rfl rfl (wz_X6ofr cI cS o0 np0 kp0 tp0 r0 t0 sh0 f0 t1 isk fnd tok sta en val g2 g3) rfl [(o0, .inr (6, [.ref np0, .ref kp0, .ref tp0, .int isk, .ref r0, .ref t0, .ref sh0, .ref f0])), (f0, .inl (cI, 7, .inl fnd)), (r0, .inr (4, [.ref t0, .int tok, .int sta, .int en, .int val]))] rfl rfl rfl (by decide +kernel) (ik_runV (st := []) (As := [.int ((ik_us x1 ((8 : Int32) * x3_41)) &&& (255 : Int32))]) C hM mv_X3_append wl_34_18 ⟨rfl, rfl, Nat.le_of_ble_eq_true rfl, Nat.le_of_ble_eq_true rfl⟩ [3, 4] rfl (by decide +kernel) 3 rfl rfl rfl rfl (Nat.le_of_ble_eq_true rfl) dX6_feed_59 ⟨Nat.zero_le _, Nat.zero_le _⟩) rfl ?_
            refine ik_iinc C [(3, .int (x3_41 + (-1 : Int32))), (0, .ref o0), (1, .int x1), (2, .int x2)] 0 rfl (congrArg (fun t => x3_41 + t) (show Int32.ofInt (-1) = (-1 : Int32) by decide)) (by decide) rfl dX6_feed_62 ?_
            refine ik_goto C 41 dX6_feed_65 (by decide) ?_
            exact ik_sub [0, 1, 2, 3] [(3, .int (x3_41 + (-1 : Int32))), (0, .ref o0), (1, .int x1), (2, .int x2)] rfl (ih_41 g2 g3 (x3_41 + (-1 : Int32)) hf)
      exact hL_41 ik_fu tsize tby (x2 - (1 : Int32)) hf
    · have hf := ik_neg hc hf
      refine ik_aload_n C 0 rfl rfl dX6_feed_30 ?_
      refine ik_ldc C wl_5_5 dX6_feed_31 ?_
      obtain ⟨r2, g3, hc3, hf⟩ := ik_b2s hf
      have hM := (c_X6_tell l D cI cS o0 np0 kp0 tp0 r0 t0 sh0 f0 isk fnd (-1000002 : Int32) r2 g3 hc3)
      refine ik_goW (v := (some (.int r2))) (wc := (wz_X6of cI cS o0 np0 kp0 tp0 r0 t0 sh0 f0 isk fnd)) (w1 := (wz_X6of cI cS o0 np0 kp0 tp0 r0 t0 sh0 f0 isk g3)) [0, 1] [2, 3, 4] 5 rfl rfl (wz_X6ofr cI cS o0 np0 kp0 tp0 r0 t0 sh0 f0 t1 isk g3 tok sta en val tsize tby) rfl [(r0, .inr (4, [.ref t0, .int tok, .int sta, .int en, .int val])), (t0, .inr (3, [.ref t1, .int tsize])), (t1, .inl (cI, 120, .inl tby))] rfl rfl rfl (by decide +kernel) (ik_runV (st := []) (As := [.int (-1000002 : Int32)]) C hM mv_X6_tell wl_5_16 ⟨rfl, rfl, Nat.le_of_ble_eq_true rfl, Nat.le_of_ble_eq_true rfl⟩ [0, 1] rfl (by decide +kernel) 0 rfl rfl rfl rfl (Nat.le_of_ble_eq_true rfl) dX6_feed_33 ⟨Nat.zero_le _, Nat.zero_le _⟩) rfl ?_
      obtain ⟨rfl, rfl, rfl, rfl⟩ := ik_e4 hf
      exact ik_iretW C hr hlk dX6_feed_36
  · have hf := ik_pos hc hf
    refine ik_aload_n C 0 rfl rfl dX6_feed_9 ?_
    refine ik_ldc C wl_5_3 dX6_feed_10 ?_
    obtain ⟨r2, g3, hc3, hf⟩ := ik_b2s hf
    have hM := (c_X6_tell l D cI cS o0 np0 kp0 tp0 r0 t0 sh0 f0 isk fnd (-1000001 : Int32) r2 g3 hc3)
    refine ik_goW (v := (some (.int r2))) (wc := (wz_X6of cI cS o0 np0 kp0 tp0 r0 t0 sh0 f0 isk fnd)) (w1 := (wz_X6of cI cS o0 np0 kp0 tp0 r0 t0 sh0 f0 isk g3)) [0, 1] [2, 3, 4] 5 rfl rfl (wz_X6ofr cI cS o0 np0 kp0 tp0 r0 t0 sh0 f0 t1 isk g3 tok sta en val tsize tby) rfl [(r0, .inr (4, [.ref t0, .int tok, .int sta, .int en, .int val])), (t0, .inr (3, [.ref t1, .int tsize])), (t1, .inl (cI, 120, .inl tby))] rfl rfl rfl (by decide +kernel) (ik_runV (st := []) (As := [.int (-1000001 : Int32)]) C hM mv_X6_tell wl_5_16 ⟨rfl, rfl, Nat.le_of_ble_eq_true rfl, Nat.le_of_ble_eq_true rfl⟩ [0, 1] rfl (by decide +kernel) 0 rfl rfl rfl rfl (Nat.le_of_ble_eq_true rfl) dX6_feed_12 ⟨Nat.zero_le _, Nat.zero_le _⟩) rfl ?_
    obtain ⟨rfl, rfl, rfl, rfl⟩ := ik_e4 hf
    exact ik_iretW C hr hlk dX6_feed_15
theorem mv_X6_hold : ik_V yX6_hold RX6 cX6_hold 3 (some .int) 2 := ⟨wl_42_22, wl_42_23, wl_1_2, wl_43_0, by decide +kernel⟩
set_option maxHeartbeats 4000000 in
set_option maxRecDepth 100000 in
theorem c_X6_hold (l : Launch) (D : va_G) (cI cS : ClassId) (o0 np0 kp0 tp0 r0 t0 sh0 f0 nw0 nc0 np1 np2 np3 nw1 nw2 nw3 nw4 nc1 nc2 : Nat) (isk : Int32) (fnd : Nat → Int32) (nhour : Int32) (nair : Int32) (nrub : Int32) (nz : Int32) (nnb : Int32) (nkd : Nat → Int32) (ncl : Nat → Int32) (ngr : Nat → Int32) (noc : Nat → Int32) (nlit : Int32) (ncold : Int32) (nccell : Nat → Int32) (ncpow : Nat → Int32) (nsp : Nat → Int32) (nwm : Nat → Int32) (ndr : Nat → Int32) (x1 : Int32) (x2 : Int32) (R : Int32) (fnd_r : Nat → Int32) (nsp_r : Nat → Int32) (hf : f_X6_hold fnd nnb nsp x1 x2 = some (R, fnd_r, nsp_r)) : Met l yX6_hold (ik_ws yX6_hold cX6_hold 3 (some .int)) ({ frames := 2, cells := 0, slots := 0, locals := 44 } : Room) (ik_P D cI cS [.ref o0, .int x1, .int x2] (wz_X6ofn cI cS o0 np0 kp0 tp0 r0 t0 sh0 f0 nw0 nc0 np1 np2 np3 nw1 nw2 nw3 nw4 nc1 nc2 isk fnd nhour nair nrub nz nnb nkd ncl ngr noc nlit ncold nccell ncpow nsp nwm ndr)) (ik_Q (some (.int R)) D (wz_X6ofn cI cS o0 np0 kp0 tp0 r0 t0 sh0 f0 nw0 nc0 np1 np2 np3 nw1 nw2 nw3 nw4 nc1 nc2 isk fnd_r nhour nair nrub nz nnb nkd ncl ngr noc nlit ncold nccell ncpow nsp_r nwm ndr) (wz_X6ofn cI cS o0 np0 kp0 tp0 r0 t0 sh0 f0 nw0 nc0 np1 np2 np3 nw1 nw2 nw3 nw4 nc1 nc2 isk fnd nhour nair nrub nz nnb nkd ncl ngr noc nlit ncold nccell ncpow nsp nwm ndr)) 0 0 (ik_in (wz_X6ofn cI cS o0 np0 kp0 tp0 r0 t0 sh0 f0 nw0 nc0 np1 np2 np3 nw1 nw2 nw3 nw4 nc1 nc2 isk fnd nhour nair nrub nz nnb nkd ncl ngr noc nlit ncold nccell ncpow nsp nwm ndr)) := by
  refine ik_metW RX6 rfl (by decide) (Nat.le_of_ble_eq_true rfl) [(0, .ref o0), (1, .int x1), (2, .int x2)] rfl ?_
  intro p e s m below meth c C hr hlk
  unfold f_X6_hold at hf
  refine ik_iload_n C 1 rfl rfl dX6_hold_0 ?_
  obtain ⟨r1, hc1, hf⟩ := ik_b1s hf
  have hM := (c_X6_isSpot l D cI cS x1 r1 hc1)
  refine ik_goR (ik_runS (st := []) (As := [.int x1]) C hM ms_X6_isSpot wl_43_2 ⟨rfl, rfl, Nat.le_of_ble_eq_true rfl, Nat.le_of_ble_eq_true rfl⟩ [] rfl (by decide +kernel) rfl rfl (Nat.le_of_ble_eq_true rfl) dX6_hold_1 ⟨Nat.zero_le _, Nat.zero_le _⟩) rfl ?_
  refine ik_if_eq C 26 dX6_hold_4 (by decide) (fun hc => ?_) (fun hc => ?_)
  · have hf := ik_pos hc hf
    refine ik_aload_n C 0 rfl rfl dX6_hold_26 ?_
    refine ik_ldc C wl_5_3 dX6_hold_27 ?_
    obtain ⟨r2, g3, hc3, hf⟩ := ik_b2s hf
    have hM := (c_X6_tell l D cI cS o0 np0 kp0 tp0 r0 t0 sh0 f0 isk fnd (-1000001 : Int32) r2 g3 hc3)
    refine ik_goW (v := (some (.int r2))) (wc := (wz_X6of cI cS o0 np0 kp0 tp0 r0 t0 sh0 f0 isk fnd)) (w1 := (wz_X6of cI cS o0 np0 kp0 tp0 r0 t0 sh0 f0 isk g3)) [0, 1] [2, 3, 4, 5, 6, 7, 8, 9, 10, 11, 12, 13] 14 rfl rfl (wz_X6ofn cI cS o0 np0 kp0 tp0 r0 t0 sh0 f0 nw0 nc0 np1 np2 np3 nw1 nw2 nw3 nw4 nc1 nc2 isk g3 nhour nair nrub nz nnb nkd ncl ngr noc nlit ncold nccell ncpow nsp nwm ndr) rfl [(np0, .inr (1, [.ref nw0, .ref nc0, .ref np1, .int nhour, .int nair, .int nrub, .int nz, .ref np2, .ref np3])), (nw0, .inr (5, [.int nnb, .ref nw1, .ref nw2, .ref nw3, .ref nw4])), (nw1, .inl (cI, 16, .inl nkd)), (nw2, .inl (cI, 16, .inl ncl)), (nw3, .inl (cI, 16, .inl ngr)), (nw4, .inl (cI, 48, .inl noc)), (nc0, .inr (0, [.ref nc1, .ref nc2, .int nlit, .int ncold])), (nc1, .inl (cI, 6, .inl nccell)), (nc2, .inl (cI, 6, .inl ncpow)), (np1, .inl (cI, 10, .inl nsp)), (np2, .inl (cI, 16, .inl nwm)), (np3, .inl (cI, 8, .inl ndr))] rfl rfl rfl (by decide +kernel) (ik_runV (st := []) (As := [.int (-1000001 : Int32)]) C hM mv_X6_tell wl_5_16 ⟨rfl, rfl, Nat.le_of_ble_eq_true rfl, Nat.le_of_ble_eq_true rfl⟩ [0, 1] rfl (by decide +kernel) 0 rfl rfl rfl rfl (Nat.le_of_ble_eq_true rfl) dX6_hold_29 ⟨Nat.zero_le _, Nat.zero_le _⟩) rfl ?_
    obtain ⟨rfl, rfl, rfl⟩ := ik_e3 hf
    exact ik_iretW C hr hlk dX6_hold_32
  · have hf := ik_neg hc hf
    refine ik_iload_n C 2 rfl rfl dX6_hold_7 ?_
    refine ik_iconst (v := (-1 : Int32)) C (by decide) dX6_hold_8 ?_
    refine ik_icmp_eq C 33 dX6_hold_9 (by decide) (fun hc => ?_) (fun hc => ?_)
    · have hf := ik_pos hc hf
      refine ik_aload_n C 0 rfl rfl dX6_hold_33 ?_
      refine ik_get C inlX6 0 rfl rfl 0 (by decide) wl_1_15 rfl (v := .ref np0) rfl dX6_hold_34 ?_
      refine ik_get C inlX1 2 rfl rfl 2 (by decide) wl_43_1 rfl (v := .ref np1) rfl dX6_hold_37 ?_
      refine ik_iload_n C 1 rfl rfl dX6_hold_40 ?_
      refine ik_iload_n C 2 rfl rfl dX6_hold_41 ?_
      have hg := ik_gdi hf
      have hf := ik_gdk hf
      refine ik_iast C 11 rfl hg (wz_X6ofn cI cS o0 np0 kp0 tp0 r0 t0 sh0 f0 nw0 nc0 np1 np2 np3 nw1 nw2 nw3 nw4 nc1 nc2 isk fnd nhour nair nrub nz nnb nkd ncl ngr noc nlit ncold nccell ncpow (upd nsp (x1).toNatClampNeg x2) nwm ndr) rfl dX6_hold_42 ?_
      refine ik_iconst (v := (1 : Int32)) C (by decide) dX6_hold_43 ?_
      obtain ⟨rfl, rfl, rfl⟩ := ik_e3 hf
      exact ik_iretW C hr hlk dX6_hold_44
    · have hf := ik_neg hc hf
      refine ik_aload_n C 0 rfl rfl dX6_hold_12 ?_
      refine ik_get C inlX6 0 rfl rfl 0 (by decide) wl_1_15 rfl (v := .ref np0) rfl dX6_hold_13 ?_
      refine ik_get C inlX1 2 rfl rfl 0 (by decide) wl_5_4 rfl (v := .ref nw0) rfl dX6_hold_16 ?_
      refine ik_iload_n C 2 rfl rfl dX6_hold_19 ?_
      obtain ⟨r2, hc2, hf⟩ := ik_b1s hf
      have hM := (c_X5_isBlock l D cI cS nw0 nw1 nw2 nw3 nw4 nnb nkd ncl ngr noc x2 r2 hc2)
      refine ik_goR (ik_runV (st := []) (As := [.int x2]) C hM mv_X5_isBlock wl_8_7 ⟨rfl, rfl, Nat.le_of_ble_eq_true rfl, Nat.le_of_ble_eq_true rfl⟩ [3, 4, 5, 6, 7] rfl (by decide +kernel) 3 rfl rfl rfl rfl (Nat.le_of_ble_eq_true rfl) dX6_hold_20 ⟨Nat.zero_le _, Nat.zero_le _⟩) rfl ?_
      refine ik_if_ne C 33 dX6_hold_23 (by decide) (fun hc => ?_) (fun hc => ?_)
      · have hf := ik_neg hc hf
        refine ik_aload_n C 0 rfl rfl dX6_hold_33 ?_
        refine ik_get C inlX6 0 rfl rfl 0 (by decide) wl_1_15 rfl (v := .ref np0) rfl dX6_hold_34 ?_
        refine ik_get C inlX1 2 rfl rfl 2 (by decide) wl_43_1 rfl (v := .ref np1) rfl dX6_hold_37 ?_
        refine ik_iload_n C 1 rfl rfl dX6_hold_40 ?_
        refine ik_iload_n C 2 rfl rfl dX6_hold_41 ?_
        have hg := ik_gdi hf
        have hf := ik_gdk hf
        refine ik_iast C 11 rfl hg (wz_X6ofn cI cS o0 np0 kp0 tp0 r0 t0 sh0 f0 nw0 nc0 np1 np2 np3 nw1 nw2 nw3 nw4 nc1 nc2 isk fnd nhour nair nrub nz nnb nkd ncl ngr noc nlit ncold nccell ncpow (upd nsp (x1).toNatClampNeg x2) nwm ndr) rfl dX6_hold_42 ?_
        refine ik_iconst (v := (1 : Int32)) C (by decide) dX6_hold_43 ?_
        obtain ⟨rfl, rfl, rfl⟩ := ik_e3 hf
        exact ik_iretW C hr hlk dX6_hold_44
      · have hf := ik_pos hc hf
        refine ik_aload_n C 0 rfl rfl dX6_hold_26 ?_
        refine ik_ldc C wl_5_3 dX6_hold_27 ?_
        obtain ⟨r3, g4, hc4, hf⟩ := ik_b2s hf
        have hM := (c_X6_tell l D cI cS o0 np0 kp0 tp0 r0 t0 sh0 f0 isk fnd (-1000001 : Int32) r3 g4 hc4)
        refine ik_goW (v := (some (.int r3))) (wc := (wz_X6of cI cS o0 np0 kp0 tp0 r0 t0 sh0 f0 isk fnd)) (w1 := (wz_X6of cI cS o0 np0 kp0 tp0 r0 t0 sh0 f0 isk g4)) [0, 1] [2, 3, 4, 5, 6, 7, 8, 9, 10, 11, 12, 13] 14 rfl rfl (wz_X6ofn cI cS o0 np0 kp0 tp0 r0 t0 sh0 f0 nw0 nc0 np1 np2 np3 nw1 nw2 nw3 nw4 nc1 nc2 isk g4 nhour nair nrub nz nnb nkd ncl ngr noc nlit ncold nccell ncpow nsp nwm ndr) rfl [(np0, .inr (1, [.ref nw0, .ref nc0, .ref np1, .int nhour, .int nair, .int nrub, .int nz, .ref np2, .ref np3])), (nw0, .inr (5, [.int nnb, .ref nw1, .ref nw2, .ref nw3, .ref nw4])), (nw1, .inl (cI, 16, .inl nkd)), (nw2, .inl (cI, 16, .inl ncl)), (nw3, .inl (cI, 16, .inl ngr)), (nw4, .inl (cI, 48, .inl noc)), (nc0, .inr (0, [.ref nc1, .ref nc2, .int nlit, .int ncold])), (nc1, .inl (cI, 6, .inl nccell)), (nc2, .inl (cI, 6, .inl ncpow)), (np1, .inl (cI, 10, .inl nsp)), (np2, .inl (cI, 16, .inl nwm)), (np3, .inl (cI, 8, .inl ndr))] rfl rfl rfl (by decide +kernel) (ik_runV (st := []) (As := [.int (-1000001 : Int32)]) C hM mv_X6_tell wl_5_16 ⟨rfl, rfl, Nat.le_of_ble_eq_true rfl, Nat.le_of_ble_eq_true rfl⟩ [0, 1] rfl (by decide +kernel) 0 rfl rfl rfl rfl (Nat.le_of_ble_eq_true rfl) dX6_hold_29 ⟨Nat.zero_le _, Nat.zero_le _⟩) rfl ?_
        obtain ⟨rfl, rfl, rfl⟩ := ik_e3 hf
        exact ik_iretW C hr hlk dX6_hold_32
theorem mv_X6_as : ik_V yX6_as RX6 cX6_as 4 (some .int) 2 := ⟨wl_43_10, wl_43_11, wl_1_2, wl_43_12, by decide +kernel⟩
set_option maxHeartbeats 4000000 in
set_option maxRecDepth 100000 in
theorem c_X6_as (l : Launch) (D : va_G) (cI cS : ClassId) (aK aV : Nat → Nat) (ka : Nat) (o0 np0 kp0 tp0 r0 t0 sh0 f0 nw0 nc0 np1 np2 np3 nw1 nw2 nw3 nw4 nc1 nc2 : Nat) (isk : Int32) (fnd : Nat → Int32) (nhour : Int32) (nair : Int32) (nrub : Int32) (nz : Int32) (nnb : Int32) (nkd : Nat → Int32) (ncl : Nat → Int32) (ngr : Nat → Int32) (noc : Nat → Int32) (nlit : Int32) (ncold : Int32) (nccell : Nat → Int32) (ncpow : Nat → Int32) (nsp : Nat → Int32) (nwm : Nat → Int32) (ndr : Nat → Int32) (x1 : Int32) (x2 : Int32) (R : Int32) (fnd_r : Nat → Int32) (hf : f_X6_as fnd nnb nkd nsp x1 x2 = some (R, fnd_r)) : Met l yX6_as (ik_ws yX6_as cX6_as 4 (some .int)) ({ frames := 3, cells := 0, slots := 0, locals := 65 } : Room) (ik_PZ D cI cS aK aV ka [.ref o0, .int x1, .int x2] (wz_X6ofn cI cS o0 np0 kp0 tp0 r0 t0 sh0 f0 nw0 nc0 np1 np2 np3 nw1 nw2 nw3 nw4 nc1 nc2 isk fnd nhour nair nrub nz nnb nkd ncl ngr noc nlit ncold nccell ncpow nsp nwm ndr)) (ik_Q (some (.int R)) D (wz_X6ofn cI cS o0 np0 kp0 tp0 r0 t0 sh0 f0 nw0 nc0 np1 np2 np3 nw1 nw2 nw3 nw4 nc1 nc2 isk fnd_r nhour nair nrub nz nnb nkd ncl ngr noc nlit ncold nccell ncpow nsp nwm ndr) (wz_X6ofn cI cS o0 np0 kp0 tp0 r0 t0 sh0 f0 nw0 nc0 np1 np2 np3 nw1 nw2 nw3 nw4 nc1 nc2 isk fnd nhour nair nrub nz nnb nkd ncl ngr noc nlit ncold nccell ncpow nsp nwm ndr)) 0 0 (ik_in (wz_X6ofn cI cS o0 np0 kp0 tp0 r0 t0 sh0 f0 nw0 nc0 np1 np2 np3 nw1 nw2 nw3 nw4 nc1 nc2 isk fnd nhour nair nrub nz nnb nkd ncl ngr noc nlit ncold nccell ncpow nsp nwm ndr)) := by
  refine ik_metWZ RX6 rfl (by decide) (Nat.le_of_ble_eq_true rfl) [(0, .ref o0), (1, .int x1), (2, .int x2)] rfl ?_
  intro p e s m below meth c C hr hlk hZ
  unfold f_X6_as at hf
  refine ik_iload_n C 1 rfl rfl dX6_as_0 ?_
  obtain ⟨r1, hc1, hf⟩ := ik_b1s hf
  have hM := (c_X6_isSpot l D cI cS x1 r1 hc1)
  refine ik_goR (ik_runS (st := []) (As := [.int x1]) C hM ms_X6_isSpot wl_43_2 ⟨rfl, rfl, Nat.le_of_ble_eq_true rfl, Nat.le_of_ble_eq_true rfl⟩ [] rfl (by decide +kernel) rfl rfl (Nat.le_of_ble_eq_true rfl) dX6_as_1 ⟨Nat.zero_le _, Nat.zero_le _⟩) rfl ?_
  refine ik_if_eq C 14 dX6_as_4 (by decide) (fun hc => ?_) (fun hc => ?_)
  · have hf := ik_pos hc hf
    refine ik_aload_n C 0 rfl rfl dX6_as_14 ?_
    refine ik_ldc C wl_5_3 dX6_as_15 ?_
    obtain ⟨r2, g3, hc3, hf⟩ := ik_b2s hf
    have hM := (c_X6_tell l D cI cS o0 np0 kp0 tp0 r0 t0 sh0 f0 isk fnd (-1000001 : Int32) r2 g3 hc3)
    refine ik_goW (v := (some (.int r2))) (wc := (wz_X6of cI cS o0 np0 kp0 tp0 r0 t0 sh0 f0 isk fnd)) (w1 := (wz_X6of cI cS o0 np0 kp0 tp0 r0 t0 sh0 f0 isk g3)) [0, 1] [2, 3, 4, 5, 6, 7, 8, 9, 10, 11, 12, 13] 14 rfl rfl (wz_X6ofn cI cS o0 np0 kp0 tp0 r0 t0 sh0 f0 nw0 nc0 np1 np2 np3 nw1 nw2 nw3 nw4 nc1 nc2 isk g3 nhour nair nrub nz nnb nkd ncl ngr noc nlit ncold nccell ncpow nsp nwm ndr) rfl [(np0, .inr (1, [.ref nw0, .ref nc0, .ref np1, .int nhour, .int nair, .int nrub, .int nz, .ref np2, .ref np3])), (nw0, .inr (5, [.int nnb, .ref nw1, .ref nw2, .ref nw3, .ref nw4])), (nw1, .inl (cI, 16, .inl nkd)), (nw2, .inl (cI, 16, .inl ncl)), (nw3, .inl (cI, 16, .inl ngr)), (nw4, .inl (cI, 48, .inl noc)), (nc0, .inr (0, [.ref nc1, .ref nc2, .int nlit, .int ncold])), (nc1, .inl (cI, 6, .inl nccell)), (nc2, .inl (cI, 6, .inl ncpow)), (np1, .inl (cI, 10, .inl nsp)), (np2, .inl (cI, 16, .inl nwm)), (np3, .inl (cI, 8, .inl ndr))] rfl rfl rfl (by decide +kernel) (ik_runV (st := []) (As := [.int (-1000001 : Int32)]) C hM mv_X6_tell wl_5_16 ⟨rfl, rfl, Nat.le_of_ble_eq_true rfl, Nat.le_of_ble_eq_true rfl⟩ [0, 1] rfl (by decide +kernel) 0 rfl rfl rfl rfl (Nat.le_of_ble_eq_true rfl) dX6_as_17 ⟨Nat.zero_le _, Nat.zero_le _⟩) rfl ?_
    obtain ⟨rfl, rfl⟩ := ik_e2 hf
    exact ik_iretW C hr hlk dX6_as_20
  · have hf := ik_neg hc hf
    refine ik_iload_n C 2 rfl rfl dX6_as_7 ?_
    obtain ⟨r2, hc2, hf⟩ := ik_b1s hf
    have hM := (c_X6_isKind l D cI cS x2 r2 hc2)
    refine ik_goR (ik_runS (st := []) (As := [.int x2]) C hM ms_X6_isKind wl_5_7 ⟨rfl, rfl, Nat.le_of_ble_eq_true rfl, Nat.le_of_ble_eq_true rfl⟩ [] rfl (by decide +kernel) rfl rfl (Nat.le_of_ble_eq_true rfl) dX6_as_8 ⟨Nat.zero_le _, Nat.zero_le _⟩) rfl ?_
    refine ik_if_ne C 21 dX6_as_11 (by decide) (fun hc => ?_) (fun hc => ?_)
    · have hf := ik_neg hc hf
      refine ik_aload_n C 0 rfl rfl dX6_as_21 ?_
      refine ik_get C inlX6 0 rfl rfl 0 (by decide) wl_1_15 rfl (v := .ref np0) rfl dX6_as_22 ?_
      refine ik_get C inlX1 2 rfl rfl 2 (by decide) wl_43_1 rfl (v := .ref np1) rfl dX6_as_25 ?_
      refine ik_iload_n C 1 rfl rfl dX6_as_28 ?_
      have hg := ik_gdi hf
      have hf := ik_gdk hf
      refine ik_iald C 11 rfl hg dX6_as_29 ?_
      refine ik_istore_n C [(3, .int (nsp (x1).toNatClampNeg)), (0, .ref o0), (1, .int x1), (2, .int x2)] rfl (by decide) rfl dX6_as_30 ?_
      refine ik_aload_n C 1 rfl rfl dX6_as_31 ?_
      refine ik_get C inlX6 0 rfl rfl 0 (by decide) wl_1_15 rfl (v := .ref np0) rfl dX6_as_32 ?_
      refine ik_get C inlX1 2 rfl rfl 0 (by decide) wl_5_4 rfl (v := .ref nw0) rfl dX6_as_35 ?_
      refine ik_iload_n C 0 rfl rfl dX6_as_38 ?_
      obtain ⟨r3, hc3, hf⟩ := ik_b1s hf
      have hM := (c_X5_isBlock l D cI cS nw0 nw1 nw2 nw3 nw4 nnb nkd ncl ngr noc (nsp (x1).toNatClampNeg) r3 hc3)
      refine ik_goR (ik_runV (st := []) (As := [.int (nsp (x1).toNatClampNeg)]) C hM mv_X5_isBlock wl_8_7 ⟨rfl, rfl, Nat.le_of_ble_eq_true rfl, Nat.le_of_ble_eq_true rfl⟩ [3, 4, 5, 6, 7] rfl (by decide +kernel) 3 rfl rfl rfl rfl (Nat.le_of_ble_eq_true rfl) dX6_as_39 ⟨Nat.zero_le _, Nat.zero_le _⟩) rfl ?_
      refine ik_if_ne C 52 dX6_as_42 (by decide) (fun hc => ?_) (fun hc => ?_)
      · have hf := ik_neg hc hf
        refine ik_aload_n C 1 rfl rfl dX6_as_52 ?_
        refine ik_get C inlX6 0 rfl rfl 0 (by decide) wl_1_15 rfl (v := .ref np0) rfl dX6_as_53 ?_
        refine ik_get C inlX1 2 rfl rfl 0 (by decide) wl_5_4 rfl (v := .ref nw0) rfl dX6_as_56 ?_
        refine ik_get C inlX5 3 rfl rfl 1 (by decide) wl_8_4 rfl (v := .ref nw1) rfl dX6_as_59 ?_
        refine ik_iload_n C 0 rfl rfl dX6_as_62 ?_
        have hg := ik_gdi hf
        have hf := ik_gdk hf
        refine ik_iald C 4 rfl hg dX6_as_63 ?_
        refine ik_iload_n C 3 rfl rfl dX6_as_64 ?_
        obtain ⟨r4, hc4, hf⟩ := ik_b1s hf
        have hM := (c_X6_isUnder l D cI cS aK aV ka (nkd ((nsp (x1).toNatClampNeg)).toNatClampNeg) x2 r4 hc4)
        refine ik_goR (ik_runSZ (st := []) (As := [.int (nkd ((nsp (x1).toNatClampNeg)).toNatClampNeg), .int x2]) C hZ (fun _ h => h) ik_hBw hM ms_X6_isUnder wl_43_15 ⟨rfl, rfl, Nat.le_of_ble_eq_true rfl, Nat.le_of_ble_eq_true rfl⟩ [] rfl (by decide +kernel) rfl rfl (Nat.le_of_ble_eq_true rfl) dX6_as_65 ⟨Nat.zero_le _, Nat.zero_le _⟩) rfl ?_
        refine ik_if_eq C 75 dX6_as_68 (by decide) (fun hc => ?_) (fun hc => ?_)
        · have hf := ik_pos hc hf
          refine ik_aload_n C 1 rfl rfl dX6_as_75 ?_
          refine ik_ldc C wl_43_14 dX6_as_76 ?_
          obtain ⟨r5, g6, hc6, hf⟩ := ik_b2s hf
          have hM := (c_X6_tell l D cI cS o0 np0 kp0 tp0 r0 t0 sh0 f0 isk fnd (-1000003 : Int32) r5 g6 hc6)
          refine ik_goW (v := (some (.int r5))) (wc := (wz_X6of cI cS o0 np0 kp0 tp0 r0 t0 sh0 f0 isk fnd)) (w1 := (wz_X6of cI cS o0 np0 kp0 tp0 r0 t0 sh0 f0 isk g6)) [0, 1] [2, 3, 4, 5, 6, 7, 8, 9, 10, 11, 12, 13] 14 rfl rfl (wz_X6ofn cI cS o0 np0 kp0 tp0 r0 t0 sh0 f0 nw0 nc0 np1 np2 np3 nw1 nw2 nw3 nw4 nc1 nc2 isk g6 nhour nair nrub nz nnb nkd ncl ngr noc nlit ncold nccell ncpow nsp nwm ndr) rfl [(np0, .inr (1, [.ref nw0, .ref nc0, .ref np1, .int nhour, .int nair, .int nrub, .int nz, .ref np2, .ref np3])), (nw0, .inr (5, [.int nnb, .ref nw1, .ref nw2, .ref nw3, .ref nw4])), (nw1, .inl (cI, 16, .inl nkd)), (nw2, .inl (cI, 16, .inl ncl)), (nw3, .inl (cI, 16, .inl ngr)), (nw4, .inl (cI, 48, .inl noc)), (nc0, .inr (0, [.ref nc1, .ref nc2, .int nlit, .int ncold])), (nc1, .inl (cI, 6, .inl nccell)), (nc2, .inl (cI, 6, .inl ncpow)), (np1, .inl (cI, 10, .inl nsp)), (np2, .inl (cI, 16, .inl nwm)), (np3, .inl (cI, 8, .inl ndr))] rfl rfl rfl (by decide +kernel) (ik_runV (st := []) (As := [.int (-1000003 : Int32)]) C hM mv_X6_tell wl_5_16 ⟨rfl, rfl, Nat.le_of_ble_eq_true rfl, Nat.le_of_ble_eq_true rfl⟩ [0, 1] rfl (by decide +kernel) 0 rfl rfl rfl rfl (Nat.le_of_ble_eq_true rfl) dX6_as_78 ⟨Nat.zero_le _, Nat.zero_le _⟩) rfl ?_
          obtain ⟨rfl, rfl⟩ := ik_e2 hf
          exact ik_iretW C hr hlk dX6_as_81
        · have hf := ik_neg hc hf
          refine ik_iload_n C 0 rfl rfl dX6_as_71 ?_
          refine ik_goto C 81 dX6_as_72 (by decide) ?_
          obtain ⟨rfl, rfl⟩ := ik_e2 hf
          exact ik_iretW C hr hlk dX6_as_81
      · have hf := ik_pos hc hf
        refine ik_aload_n C 1 rfl rfl dX6_as_45 ?_
        refine ik_ldc C wl_43_13 dX6_as_46 ?_
        obtain ⟨r4, g5, hc5, hf⟩ := ik_b2s hf
        have hM := (c_X6_tell l D cI cS o0 np0 kp0 tp0 r0 t0 sh0 f0 isk fnd (-1000006 : Int32) r4 g5 hc5)
        refine ik_goW (v := (some (.int r4))) (wc := (wz_X6of cI cS o0 np0 kp0 tp0 r0 t0 sh0 f0 isk fnd)) (w1 := (wz_X6of cI cS o0 np0 kp0 tp0 r0 t0 sh0 f0 isk g5)) [0, 1] [2, 3, 4, 5, 6, 7, 8, 9, 10, 11, 12, 13] 14 rfl rfl (wz_X6ofn cI cS o0 np0 kp0 tp0 r0 t0 sh0 f0 nw0 nc0 np1 np2 np3 nw1 nw2 nw3 nw4 nc1 nc2 isk g5 nhour nair nrub nz nnb nkd ncl ngr noc nlit ncold nccell ncpow nsp nwm ndr) rfl [(np0, .inr (1, [.ref nw0, .ref nc0, .ref np1, .int nhour, .int nair, .int nrub, .int nz, .ref np2, .ref np3])), (nw0, .inr (5, [.int nnb, .ref nw1, .ref nw2, .ref nw3, .ref nw4])), (nw1, .inl (cI, 16, .inl nkd)), (nw2, .inl (cI, 16, .inl ncl)), (nw3, .inl (cI, 16, .inl ngr)), (nw4, .inl (cI, 48, .inl noc)), (nc0, .inr (0, [.ref nc1, .ref nc2, .int nlit, .int ncold])), (nc1, .inl (cI, 6, .inl nccell)), (nc2, .inl (cI, 6, .inl ncpow)), (np1, .inl (cI, 10, .inl nsp)), (np2, .inl (cI, 16, .inl nwm)), (np3, .inl (cI, 8, .inl ndr))] rfl rfl rfl (by decide +kernel) (ik_runV (st := []) (As := [.int (-1000006 : Int32)]) C hM mv_X6_tell wl_5_16 ⟨rfl, rfl, Nat.le_of_ble_eq_true rfl, Nat.le_of_ble_eq_true rfl⟩ [0, 1] rfl (by decide +kernel) 0 rfl rfl rfl rfl (Nat.le_of_ble_eq_true rfl) dX6_as_48 ⟨Nat.zero_le _, Nat.zero_le _⟩) rfl ?_
        obtain ⟨rfl, rfl⟩ := ik_e2 hf
        exact ik_iretW C hr hlk dX6_as_51
    · have hf := ik_pos hc hf
      refine ik_aload_n C 0 rfl rfl dX6_as_14 ?_
      refine ik_ldc C wl_5_3 dX6_as_15 ?_
      obtain ⟨r3, g4, hc4, hf⟩ := ik_b2s hf
      have hM := (c_X6_tell l D cI cS o0 np0 kp0 tp0 r0 t0 sh0 f0 isk fnd (-1000001 : Int32) r3 g4 hc4)
      refine ik_goW (v := (some (.int r3))) (wc := (wz_X6of cI cS o0 np0 kp0 tp0 r0 t0 sh0 f0 isk fnd)) (w1 := (wz_X6of cI cS o0 np0 kp0 tp0 r0 t0 sh0 f0 isk g4)) [0, 1] [2, 3, 4, 5, 6, 7, 8, 9, 10, 11, 12, 13] 14 rfl rfl (wz_X6ofn cI cS o0 np0 kp0 tp0 r0 t0 sh0 f0 nw0 nc0 np1 np2 np3 nw1 nw2 nw3 nw4 nc1 nc2 isk g4 nhour nair nrub nz nnb nkd ncl ngr noc nlit ncold nccell ncpow nsp nwm ndr) rfl [(np0, .inr (1, [.ref nw0, .ref nc0, .ref np1, .int nhour, .int nair, .int nrub, .int nz, .ref np2, .ref np3])), (nw0, .inr (5, [.int nnb, .ref nw1, .ref nw2, .ref nw3, .ref nw4])), (nw1, .inl (cI, 16, .inl nkd)), (nw2, .inl (cI, 16, .inl ncl)), (nw3, .inl (cI, 16, .inl ngr)), (nw4, .inl (cI, 48, .inl noc)), (nc0, .inr (0, [.ref nc1, .ref nc2, .int nlit, .int ncold])), (nc1, .inl (cI, 6, .inl nccell)), (nc2, .inl (cI, 6, .inl ncpow)), (np1, .inl (cI, 10, .inl nsp)), (np2, .inl (cI, 16, .inl nwm)), (np3, .inl (cI, 8, .inl ndr))] rfl rfl rfl (by decide +kernel) (ik_runV (st := []) (As := [.int (-1000001 : Int32)]) C hM mv_X6_tell wl_5_16 ⟨rfl, rfl, Nat.le_of_ble_eq_true rfl, Nat.le_of_ble_eq_true rfl⟩ [0, 1] rfl (by decide +kernel) 0 rfl rfl rfl rfl (Nat.le_of_ble_eq_true rfl) dX6_as_17 ⟨Nat.zero_le _, Nat.zero_le _⟩) rfl ?_
      obtain ⟨rfl, rfl⟩ := ik_e2 hf
      exact ik_iretW C hr hlk dX6_as_20
theorem mv_X6_sheet : ik_V yX6_sheet RX6 cX6_sheet 4 (some .int) 3 := ⟨wl_44_5, wl_44_6, wl_1_2, wl_44_7, by decide +kernel⟩
set_option maxHeartbeats 4000000 in
set_option maxRecDepth 100000 in
theorem c_X6_sheet (l : Launch) (D : va_G) (cI cS : ClassId) (o0 np0 kp0 tp0 r0 t0 sh0 f0 s00 s10 s20 s30 s01 s11 s21 s31 : Nat) (isk : Int32) (fnd : Nat → Int32) (sbits : Nat → Int32) (ssize : Nat → Int32) (snum : Nat → Nat → Int32) (x1 : Int32) (x2 : Int32) (x3 : Int32) (R : Int32) (fnd_r : Nat → Int32) (sbits_r : Nat → Int32) (ssize_r : Nat → Int32) (snum_r : Nat → Nat → Int32) (hf : f_X6_sheet fnd sbits ssize snum x1 x2 x3 = some (R, fnd_r, sbits_r, ssize_r, snum_r)) : Met l yX6_sheet (ik_ws yX6_sheet cX6_sheet 4 (some .int)) ({ frames := 2, cells := 0, slots := 0, locals := 45 } : Room) (ik_P D cI cS [.ref o0, .int x1, .int x2, .int x3] (wz_X6ofs cI cS o0 np0 kp0 tp0 r0 t0 sh0 f0 s00 s10 s20 s30 s01 s11 s21 s31 isk fnd sbits ssize snum)) (ik_Q (some (.int R)) D (wz_X6ofs cI cS o0 np0 kp0 tp0 r0 t0 sh0 f0 s00 s10 s20 s30 s01 s11 s21 s31 isk fnd_r sbits_r ssize_r snum_r) (wz_X6ofs cI cS o0 np0 kp0 tp0 r0 t0 sh0 f0 s00 s10 s20 s30 s01 s11 s21 s31 isk fnd sbits ssize snum)) 0 0 (ik_in (wz_X6ofs cI cS o0 np0 kp0 tp0 r0 t0 sh0 f0 s00 s10 s20 s30 s01 s11 s21 s31 isk fnd sbits ssize snum)) := by
  refine ik_metW RX6 rfl (by decide) (Nat.le_of_ble_eq_true rfl) [(0, .ref o0), (1, .int x1), (2, .int x2), (3, .int x3)] rfl ?_
  intro p e s m below meth c C hr hlk
  unfold f_X6_sheet at hf
  refine ik_iload_n C 1 rfl rfl dX6_sheet_0 ?_
  obtain ⟨r1, hc1, hf⟩ := ik_b1s hf
  have hM := (c_X6_isSheet l D cI cS x1 r1 hc1)
  refine ik_goR (ik_runS (st := []) (As := [.int x1]) C hM ms_X6_isSheet wl_44_9 ⟨rfl, rfl, Nat.le_of_ble_eq_true rfl, Nat.le_of_ble_eq_true rfl⟩ [] rfl (by decide +kernel) rfl rfl (Nat.le_of_ble_eq_true rfl) dX6_sheet_1 ⟨Nat.zero_le _, Nat.zero_le _⟩) rfl ?_
  refine ik_if_eq C 29 dX6_sheet_4 (by decide) (fun hc => ?_) (fun hc => ?_)
  · have hf := ik_pos hc hf
    refine ik_aload_n C 0 rfl rfl dX6_sheet_29 ?_
    refine ik_ldc C wl_5_3 dX6_sheet_30 ?_
    obtain ⟨r2, g3, hc3, hf⟩ := ik_b2s hf
    have hM := (c_X6_tell l D cI cS o0 np0 kp0 tp0 r0 t0 sh0 f0 isk fnd (-1000001 : Int32) r2 g3 hc3)
    refine ik_goW (v := (some (.int r2))) (wc := (wz_X6of cI cS o0 np0 kp0 tp0 r0 t0 sh0 f0 isk fnd)) (w1 := (wz_X6of cI cS o0 np0 kp0 tp0 r0 t0 sh0 f0 isk g3)) [0, 1] [2, 3, 4, 5, 6, 7, 8, 9, 10] 11 rfl rfl (wz_X6ofs cI cS o0 np0 kp0 tp0 r0 t0 sh0 f0 s00 s10 s20 s30 s01 s11 s21 s31 isk g3 sbits ssize snum) rfl [(sh0, .inl (cS, 4, .inr (.inr (.inr (.inr (ik_ref4 s00 s10 s20 s30)))))), (s00, .inr (2, [.int (sbits 0), .int (ssize 0), .ref s01])), (s01, .inl (cI, 40, .inl (snum 0))), (s10, .inr (2, [.int (sbits 1), .int (ssize 1), .ref s11])), (s11, .inl (cI, 40, .inl (snum 1))), (s20, .inr (2, [.int (sbits 2), .int (ssize 2), .ref s21])), (s21, .inl (cI, 40, .inl (snum 2))), (s30, .inr (2, [.int (sbits 3), .int (ssize 3), .ref s31])), (s31, .inl (cI, 40, .inl (snum 3)))] rfl rfl rfl (by decide +kernel) (ik_runV (st := []) (As := [.int (-1000001 : Int32)]) C hM mv_X6_tell wl_5_16 ⟨rfl, rfl, Nat.le_of_ble_eq_true rfl, Nat.le_of_ble_eq_true rfl⟩ [0, 1] rfl (by decide +kernel) 0 rfl rfl rfl rfl (Nat.le_of_ble_eq_true rfl) dX6_sheet_32 ⟨Nat.zero_le _, Nat.zero_le _⟩) rfl ?_
    obtain ⟨rfl, rfl, rfl, rfl, rfl⟩ := ik_e5 hf
    exact ik_iretW C hr hlk dX6_sheet_35
  · have hf := ik_neg hc hf
    refine ik_iload_n C 2 rfl rfl dX6_sheet_7 ?_
    refine ik_if_eq C 36 dX6_sheet_8 (by decide) (fun hc => ?_) (fun hc => ?_)
    · have hf := ik_pos hc hf
      refine ik_iload_n C 3 rfl rfl dX6_sheet_36 ?_
      refine ik_if_ge C 47 dX6_sheet_37 (by decide) (fun hc => ?_) (fun hc => ?_)
      · have hf := ik_pos hc hf
        refine ik_iload_n C 3 rfl rfl dX6_sheet_47 ?_
        refine ik_bipush (v := (40 : Int32)) C (by decide) dX6_sheet_48 ?_
        refine ik_icmp_le C 60 dX6_sheet_50 (by decide) (fun hc => ?_) (fun hc => ?_)
        · have hf := ik_pos hc hf
          refine ik_aload_n C 0 rfl rfl dX6_sheet_60 ?_
          refine ik_get C inlX6 0 rfl rfl 6 (by decide) wl_2_1 rfl (v := .ref sh0) rfl dX6_sheet_61 ?_
          refine ik_iload_n C 1 rfl rfl dX6_sheet_64 ?_
          have hg := ik_gdi hf
          have hf := ik_gdk hf
          refine ik_aald4 C 2 rfl hg (a0 := s00) (a1 := s10) (a2 := s20) (a3 := s30) rfl rfl rfl rfl dX6_sheet_65 (fun hc => ?_) (fun hb0 hc => ?_) (fun hb0 hb1 hc => ?_) (fun hb0 hb1 hb2 hc => ?_)
          · have hf := ik_pos hc hf
            refine ik_iload_n C 2 rfl rfl dX6_sheet_66 ?_
            refine ik_iload_n C 3 rfl rfl dX6_sheet_67 ?_
            obtain ⟨r2, g3, g4, g5, hc5, hf⟩ := ik_b4s hf
            have hM := (c_X2_lay l D cI cS s00 s01 (sbits 0) (ssize 0) (snum 0) x2 x3 r2 g3 g4 g5 hc5)
            refine ik_goW (v := (some (.int r2))) (wc := (wz_X2 cI cS s00 s01 (sbits 0) (ssize 0) (snum 0))) (w1 := (wz_X2 cI cS s00 s01 g3 g4 g5)) [3, 4] [0, 1, 2, 5, 6, 7, 8, 9, 10] 11 rfl rfl (wz_X6ofs cI cS o0 np0 kp0 tp0 r0 t0 sh0 f0 s00 s10 s20 s30 s01 s11 s21 s31 isk fnd (upd sbits 0 g3) (upd ssize 0 g4) (va_up snum 0 g5)) rfl [(o0, .inr (6, [.ref np0, .ref kp0, .ref tp0, .int isk, .ref r0, .ref t0, .ref sh0, .ref f0])), (f0, .inl (cI, 7, .inl fnd)), (sh0, .inl (cS, 4, .inr (.inr (.inr (.inr (ik_ref4 s00 s10 s20 s30)))))), (s10, .inr (2, [.int (sbits 1), .int (ssize 1), .ref s11])), (s11, .inl (cI, 40, .inl (snum 1))), (s20, .inr (2, [.int (sbits 2), .int (ssize 2), .ref s21])), (s21, .inl (cI, 40, .inl (snum 2))), (s30, .inr (2, [.int (sbits 3), .int (ssize 3), .ref s31])), (s31, .inl (cI, 40, .inl (snum 3)))] rfl rfl rfl (by decide +kernel) (ik_runV (st := []) (As := [.int x2, .int x3]) C hM mv_X2_lay wl_44_12 ⟨rfl, rfl, Nat.le_of_ble_eq_true rfl, Nat.le_of_ble_eq_true rfl⟩ [3, 4] rfl (by decide +kernel) 3 rfl rfl rfl rfl (Nat.le_of_ble_eq_true rfl) dX6_sheet_68 ⟨Nat.zero_le _, Nat.zero_le _⟩) rfl ?_
            obtain ⟨rfl, rfl, rfl, rfl, rfl⟩ := ik_e5 hf
            exact ik_iretW C hr hlk dX6_sheet_71
          · have hf := ik_neg hb0 hf; have hf := ik_pos hc hf
            refine ik_iload_n C 2 rfl rfl dX6_sheet_66 ?_
            refine ik_iload_n C 3 rfl rfl dX6_sheet_67 ?_
            obtain ⟨r2, g3, g4, g5, hc5, hf⟩ := ik_b4s hf
            have hM := (c_X2_lay l D cI cS s10 s11 (sbits 1) (ssize 1) (snum 1) x2 x3 r2 g3 g4 g5 hc5)
            refine ik_goW (v := (some (.int r2))) (wc := (wz_X2 cI cS s10 s11 (sbits 1) (ssize 1) (snum 1))) (w1 := (wz_X2 cI cS s10 s11 g3 g4 g5)) [5, 6] [0, 1, 2, 3, 4, 7, 8, 9, 10] 11 rfl rfl (wz_X6ofs cI cS o0 np0 kp0 tp0 r0 t0 sh0 f0 s00 s10 s20 s30 s01 s11 s21 s31 isk fnd (upd sbits 1 g3) (upd ssize 1 g4) (va_up snum 1 g5)) rfl [(o0, .inr (6, [.ref np0, .ref kp0, .ref tp0, .int isk, .ref r0, .ref t0, .ref sh0, .ref f0])), (f0, .inl (cI, 7, .inl fnd)), (sh0, .inl (cS, 4, .inr (.inr (.inr (.inr (ik_ref4 s00 s10 s20 s30)))))), (s00, .inr (2, [.int (sbits 0), .int (ssize 0), .ref s01])), (s01, .inl (cI, 40, .inl (snum 0))), (s20, .inr (2, [.int (sbits 2), .int (ssize 2), .ref s21])), (s21, .inl (cI, 40, .inl (snum 2))), (s30, .inr (2, [.int (sbits 3), .int (ssize 3), .ref s31])), (s31, .inl (cI, 40, .inl (snum 3)))] rfl rfl rfl (by decide +kernel) (ik_runV (st := []) (As := [.int x2, .int x3]) C hM mv_X2_lay wl_44_12 ⟨rfl, rfl, Nat.le_of_ble_eq_true rfl, Nat.le_of_ble_eq_true rfl⟩ [5, 6] rfl (by decide +kernel) 5 rfl rfl rfl rfl (Nat.le_of_ble_eq_true rfl) dX6_sheet_68 ⟨Nat.zero_le _, Nat.zero_le _⟩) rfl ?_
            obtain ⟨rfl, rfl, rfl, rfl, rfl⟩ := ik_e5 hf
            exact ik_iretW C hr hlk dX6_sheet_71
          · have hf := ik_neg hb0 hf; have hf := ik_neg hb1 hf; have hf := ik_pos hc hf
            refine ik_iload_n C 2 rfl rfl dX6_sheet_66 ?_
            refine ik_iload_n C 3 rfl rfl dX6_sheet_67 ?_
            obtain ⟨r2, g3, g4, g5, hc5, hf⟩ := ik_b4s hf
            have hM := (c_X2_lay l D cI cS s20 s21 (sbits 2) (ssize 2) (snum 2) x2 x3 r2 g3 g4 g5 hc5)
            refine ik_goW (v := (some (.int r2))) (wc := (wz_X2 cI cS s20 s21 (sbits 2) (ssize 2) (snum 2))) (w1 := (wz_X2 cI cS s20 s21 g3 g4 g5)) [7, 8] [0, 1, 2, 3, 4, 5, 6, 9, 10] 11 rfl rfl (wz_X6ofs cI cS o0 np0 kp0 tp0 r0 t0 sh0 f0 s00 s10 s20 s30 s01 s11 s21 s31 isk fnd (upd sbits 2 g3) (upd ssize 2 g4) (va_up snum 2 g5)) rfl [(o0, .inr (6, [.ref np0, .ref kp0, .ref tp0, .int isk, .ref r0, .ref t0, .ref sh0, .ref f0])), (f0, .inl (cI, 7, .inl fnd)), (sh0, .inl (cS, 4, .inr (.inr (.inr (.inr (ik_ref4 s00 s10 s20 s30)))))), (s00, .inr (2, [.int (sbits 0), .int (ssize 0), .ref s01])), (s01, .inl (cI, 40, .inl (snum 0))), (s10, .inr (2, [.int (sbits 1), .int (ssize 1), .ref s11])), (s11, .inl (cI, 40, .inl (snum 1))), (s30, .inr (2, [.int (sbits 3), .int (ssize 3), .ref s31])), (s31, .inl (cI, 40, .inl (snum 3)))] rfl rfl rfl (by decide +kernel) (ik_runV (st := []) (As := [.int x2, .int x3]) C hM mv_X2_lay wl_44_12 ⟨rfl, rfl, Nat.le_of_ble_eq_true rfl, Nat.le_of_ble_eq_true rfl⟩ [7, 8] rfl (by decide +kernel) 7 rfl rfl rfl rfl (Nat.le_of_ble_eq_true rfl) dX6_sheet_68 ⟨Nat.zero_le _, Nat.zero_le _⟩) rfl ?_
            obtain ⟨rfl, rfl, rfl, rfl, rfl⟩ := ik_e5 hf
            exact ik_iretW C hr hlk dX6_sheet_71
          · have hf := ik_neg hb0 hf; have hf := ik_neg hb1 hf; have hf := ik_neg hb2 hf
            refine ik_iload_n C 2 rfl rfl dX6_sheet_66 ?_
            refine ik_iload_n C 3 rfl rfl dX6_sheet_67 ?_
            obtain ⟨r2, g3, g4, g5, hc5, hf⟩ := ik_b4s hf
            have hM := (c_X2_lay l D cI cS s30 s31 (sbits 3) (ssize 3) (snum 3) x2 x3 r2 g3 g4 g5 hc5)
            refine ik_goW (v := (some (.int r2))) (wc := (wz_X2 cI cS s30 s31 (sbits 3) (ssize 3) (snum 3))) (w1 := (wz_X2 cI cS s30 s31 g3 g4 g5)) [9, 10] [0, 1, 2, 3, 4, 5, 6, 7, 8] 11 rfl rfl (wz_X6ofs cI cS o0 np0 kp0 tp0 r0 t0 sh0 f0 s00 s10 s20 s30 s01 s11 s21 s31 isk fnd (upd sbits 3 g3) (upd ssize 3 g4) (va_up snum 3 g5)) rfl [(o0, .inr (6, [.ref np0, .ref kp0, .ref tp0, .int isk, .ref r0, .ref t0, .ref sh0, .ref f0])), (f0, .inl (cI, 7, .inl fnd)), (sh0, .inl (cS, 4, .inr (.inr (.inr (.inr (ik_ref4 s00 s10 s20 s30)))))), (s00, .inr (2, [.int (sbits 0), .int (ssize 0), .ref s01])), (s01, .inl (cI, 40, .inl (snum 0))), (s10, .inr (2, [.int (sbits 1), .int (ssize 1), .ref s11])), (s11, .inl (cI, 40, .inl (snum 1))), (s20, .inr (2, [.int (sbits 2), .int (ssize 2), .ref s21])), (s21, .inl (cI, 40, .inl (snum 2)))] rfl rfl rfl (by decide +kernel) (ik_runV (st := []) (As := [.int x2, .int x3]) C hM mv_X2_lay wl_44_12 ⟨rfl, rfl, Nat.le_of_ble_eq_true rfl, Nat.le_of_ble_eq_true rfl⟩ [9, 10] rfl (by decide +kernel) 9 rfl rfl rfl rfl (Nat.le_of_ble_eq_true rfl) dX6_sheet_68 ⟨Nat.zero_le _, Nat.zero_le _⟩) rfl ?_
            obtain ⟨rfl, rfl, rfl, rfl, rfl⟩ := ik_e5 hf
            exact ik_iretW C hr hlk dX6_sheet_71
        · have hf := ik_neg hc hf
          refine ik_aload_n C 0 rfl rfl dX6_sheet_53 ?_
          refine ik_ldc C wl_5_3 dX6_sheet_54 ?_
          obtain ⟨r2, g3, hc3, hf⟩ := ik_b2s hf
          have hM := (c_X6_tell l D cI cS o0 np0 kp0 tp0 r0 t0 sh0 f0 isk fnd (-1000001 : Int32) r2 g3 hc3)
          refine ik_goW (v := (some (.int r2))) (wc := (wz_X6of cI cS o0 np0 kp0 tp0 r0 t0 sh0 f0 isk fnd)) (w1 := (wz_X6of cI cS o0 np0 kp0 tp0 r0 t0 sh0 f0 isk g3)) [0, 1] [2, 3, 4, 5, 6, 7, 8, 9, 10] 11 rfl rfl (wz_X6ofs cI cS o0 np0 kp0 tp0 r0 t0 sh0 f0 s00 s10 s20 s30 s01 s11 s21 s31 isk g3 sbits ssize snum) rfl [(sh0, .inl (cS, 4, .inr (.inr (.inr (.inr (ik_ref4 s00 s10 s20 s30)))))), (s00, .inr (2, [.int (sbits 0), .int (ssize 0), .ref s01])), (s01, .inl (cI, 40, .inl (snum 0))), (s10, .inr (2, [.int (sbits 1), .int (ssize 1), .ref s11])), (s11, .inl (cI, 40, .inl (snum 1))), (s20, .inr (2, [.int (sbits 2), .int (ssize 2), .ref s21])), (s21, .inl (cI, 40, .inl (snum 2))), (s30, .inr (2, [.int (sbits 3), .int (ssize 3), .ref s31])), (s31, .inl (cI, 40, .inl (snum 3)))] rfl rfl rfl (by decide +kernel) (ik_runV (st := []) (As := [.int (-1000001 : Int32)]) C hM mv_X6_tell wl_5_16 ⟨rfl, rfl, Nat.le_of_ble_eq_true rfl, Nat.le_of_ble_eq_true rfl⟩ [0, 1] rfl (by decide +kernel) 0 rfl rfl rfl rfl (Nat.le_of_ble_eq_true rfl) dX6_sheet_56 ⟨Nat.zero_le _, Nat.zero_le _⟩) rfl ?_
          obtain ⟨rfl, rfl, rfl, rfl, rfl⟩ := ik_e5 hf
          exact ik_iretW C hr hlk dX6_sheet_59
      · have hf := ik_neg hc hf
        refine ik_aload_n C 0 rfl rfl dX6_sheet_40 ?_
        refine ik_ldc C wl_44_8 dX6_sheet_41 ?_
        obtain ⟨r2, g3, hc3, hf⟩ := ik_b2s hf
        have hM := (c_X6_tell l D cI cS o0 np0 kp0 tp0 r0 t0 sh0 f0 isk fnd (-1000007 : Int32) r2 g3 hc3)
        refine ik_goW (v := (some (.int r2))) (wc := (wz_X6of cI cS o0 np0 kp0 tp0 r0 t0 sh0 f0 isk fnd)) (w1 := (wz_X6of cI cS o0 np0 kp0 tp0 r0 t0 sh0 f0 isk g3)) [0, 1] [2, 3, 4, 5, 6, 7, 8, 9, 10] 11 rfl rfl (wz_X6ofs cI cS o0 np0 kp0 tp0 r0 t0 sh0 f0 s00 s10 s20 s30 s01 s11 s21 s31 isk g3 sbits ssize snum) rfl [(sh0, .inl (cS, 4, .inr (.inr (.inr (.inr (ik_ref4 s00 s10 s20 s30)))))), (s00, .inr (2, [.int (sbits 0), .int (ssize 0), .ref s01])), (s01, .inl (cI, 40, .inl (snum 0))), (s10, .inr (2, [.int (sbits 1), .int (ssize 1), .ref s11])), (s11, .inl (cI, 40, .inl (snum 1))), (s20, .inr (2, [.int (sbits 2), .int (ssize 2), .ref s21])), (s21, .inl (cI, 40, .inl (snum 2))), (s30, .inr (2, [.int (sbits 3), .int (ssize 3), .ref s31])), (s31, .inl (cI, 40, .inl (snum 3)))] rfl rfl rfl (by decide +kernel) (ik_runV (st := []) (As := [.int (-1000007 : Int32)]) C hM mv_X6_tell wl_5_16 ⟨rfl, rfl, Nat.le_of_ble_eq_true rfl, Nat.le_of_ble_eq_true rfl⟩ [0, 1] rfl (by decide +kernel) 0 rfl rfl rfl rfl (Nat.le_of_ble_eq_true rfl) dX6_sheet_43 ⟨Nat.zero_le _, Nat.zero_le _⟩) rfl ?_
        obtain ⟨rfl, rfl, rfl, rfl, rfl⟩ := ik_e5 hf
        exact ik_iretW C hr hlk dX6_sheet_46
    · have hf := ik_neg hc hf
      refine ik_iload_n C 2 rfl rfl dX6_sheet_11 ?_
      refine ik_bipush (v := (8 : Int32)) C (by decide) dX6_sheet_12 ?_
      refine ik_icmp_eq C 36 dX6_sheet_14 (by decide) (fun hc => ?_) (fun hc => ?_)
      · have hf := ik_pos hc hf
        refine ik_iload_n C 3 rfl rfl dX6_sheet_36 ?_
        refine ik_if_ge C 47 dX6_sheet_37 (by decide) (fun hc => ?_) (fun hc => ?_)
        · have hf := ik_pos hc hf
          refine ik_iload_n C 3 rfl rfl dX6_sheet_47 ?_
          refine ik_bipush (v := (40 : Int32)) C (by decide) dX6_sheet_48 ?_
          refine ik_icmp_le C 60 dX6_sheet_50 (by decide) (fun hc => ?_) (fun hc => ?_)
          · have hf := ik_pos hc hf
            refine ik_aload_n C 0 rfl rfl dX6_sheet_60 ?_
            refine ik_get C inlX6 0 rfl rfl 6 (by decide) wl_2_1 rfl (v := .ref sh0) rfl dX6_sheet_61 ?_
            refine ik_iload_n C 1 rfl rfl dX6_sheet_64 ?_
            have hg := ik_gdi hf
            have hf := ik_gdk hf
            refine ik_aald4 C 2 rfl hg (a0 := s00) (a1 := s10) (a2 := s20) (a3 := s30) rfl rfl rfl rfl dX6_sheet_65 (fun hc => ?_) (fun hb0 hc => ?_) (fun hb0 hb1 hc => ?_) (fun hb0 hb1 hb2 hc => ?_)
            · have hf := ik_pos hc hf
              refine ik_iload_n C 2 rfl rfl dX6_sheet_66 ?_
              refine ik_iload_n C 3 rfl rfl dX6_sheet_67 ?_
              obtain ⟨r2, g3, g4, g5, hc5, hf⟩ := ik_b4s hf
              have hM := (c_X2_lay l D cI cS s00 s01 (sbits 0) (ssize 0) (snum 0) x2 x3 r2 g3 g4 g5 hc5)
              refine ik_goW (v := (some (.int r2))) (wc := (wz_X2 cI cS s00 s01 (sbits 0) (ssize 0) (snum 0))) (w1 := (wz_X2 cI cS s00 s01 g3 g4 g5)) [3, 4] [0, 1, 2, 5, 6, 7, 8, 9, 10] 11 rfl rfl (wz_X6ofs cI cS o0 np0 kp0 tp0 r0 t0 sh0 f0 s00 s10 s20 s30 s01 s11 s21 s31 isk fnd (upd sbits 0 g3) (upd ssize 0 g4) (va_up snum 0 g5)) rfl [(o0, .inr (6, [.ref np0, .ref kp0, .ref tp0, .int isk, .ref r0, .ref t0, .ref sh0, .ref f0])), (f0, .inl (cI, 7, .inl fnd)), (sh0, .inl (cS, 4, .inr (.inr (.inr (.inr (ik_ref4 s00 s10 s20 s30)))))), (s10, .inr (2, [.int (sbits 1), .int (ssize 1), .ref s11])), (s11, .inl (cI, 40, .inl (snum 1))), (s20, .inr (2, [.int (sbits 2), .int (ssize 2), .ref s21])), (s21, .inl (cI, 40, .inl (snum 2))), (s30, .inr (2, [.int (sbits 3), .int (ssize 3), .ref s31])), (s31, .inl (cI, 40, .inl (snum 3)))] rfl rfl rfl (by decide +kernel) (ik_runV (st := []) (As := [.int x2, .int x3]) C hM mv_X2_lay wl_44_12 ⟨rfl, rfl, Nat.le_of_ble_eq_true rfl, Nat.le_of_ble_eq_true rfl⟩ [3, 4] rfl (by decide +kernel) 3 rfl rfl rfl rfl (Nat.le_of_ble_eq_true rfl) dX6_sheet_68 ⟨Nat.zero_le _, Nat.zero_le _⟩) rfl ?_
              obtain ⟨rfl, rfl, rfl, rfl, rfl⟩ := ik_e5 hf
              exact ik_iretW C hr hlk dX6_sheet_71
            · have hf := ik_neg hb0 hf; have hf := ik_pos hc hf
              refine ik_iload_n C 2 rfl rfl dX6_sheet_66 ?_
              refine ik_iload_n C 3 rfl rfl dX6_sheet_67 ?_
              obtain ⟨r2, g3, g4, g5, hc5, hf⟩ := ik_b4s hf
              have hM := (c_X2_lay l D cI cS s10 s11 (sbits 1) (ssize 1) (snum 1) x2 x3 r2 g3 g4 g5 hc5)
              refine ik_goW (v := (some (.int r2))) (wc := (wz_X2 cI cS s10 s11 (sbits 1) (ssize 1) (snum 1))) (w1 := (wz_X2 cI cS s10 s11 g3 g4 g5)) [5, 6] [0, 1, 2, 3, 4, 7, 8, 9, 10] 11 rfl rfl (wz_X6ofs cI cS o0 np0 kp0 tp0 r0 t0 sh0 f0 s00 s10 s20 s30 s01 s11 s21 s31 isk fnd (upd sbits 1 g3) (upd ssize 1 g4) (va_up snum 1 g5)) rfl [(o0, .inr (6, [.ref np0, .ref kp0, .ref tp0, .int isk, .ref r0, .ref t0, .ref sh0, .ref f0])), (f0, .inl (cI, 7, .inl fnd)), (sh0, .inl (cS, 4, .inr (.inr (.inr (.inr (ik_ref4 s00 s10 s20 s30)))))), (s00, .inr (2, [.int (sbits 0), .int (ssize 0), .ref s01])), (s01, .inl (cI, 40, .inl (snum 0))), (s20, .inr (2, [.int (sbits 2), .int (ssize 2), .ref s21])), (s21, .inl (cI, 40, .inl (snum 2))), (s30, .inr (2, [.int (sbits 3), .int (ssize 3), .ref s31])), (s31, .inl (cI, 40, .inl (snum 3)))] rfl rfl rfl (by decide +kernel) (ik_runV (st := []) (As := [.int x2, .int x3]) C hM mv_X2_lay wl_44_12 ⟨rfl, rfl, Nat.le_of_ble_eq_true rfl, Nat.le_of_ble_eq_true rfl⟩ [5, 6] rfl (by decide +kernel) 5 rfl rfl rfl rfl (Nat.le_of_ble_eq_true rfl) dX6_sheet_68 ⟨Nat.zero_le _, Nat.zero_le _⟩) rfl ?_
              obtain ⟨rfl, rfl, rfl, rfl, rfl⟩ := ik_e5 hf
              exact ik_iretW C hr hlk dX6_sheet_71
            · have hf := ik_neg hb0 hf; have hf := ik_neg hb1 hf; have hf := ik_pos hc hf
              refine ik_iload_n C 2 rfl rfl dX6_sheet_66 ?_
              refine ik_iload_n C 3 rfl rfl dX6_sheet_67 ?_
              obtain ⟨r2, g3, g4, g5, hc5, hf⟩ := ik_b4s hf
              have hM := (c_X2_lay l D cI cS s20 s21 (sbits 2) (ssize 2) (snum 2) x2 x3 r2 g3 g4 g5 hc5)
              refine ik_goW (v := (some (.int r2))) (wc := (wz_X2 cI cS s20 s21 (sbits 2) (ssize 2) (snum 2))) (w1 := (wz_X2 cI cS s20 s21 g3 g4 g5)) [7, 8] [0, 1, 2, 3, 4, 5, 6, 9, 10] 11 rfl rfl (wz_X6ofs cI cS o0 np0 kp0 tp0 r0 t0 sh0 f0 s00 s10 s20 s30 s01 s11 s21 s31 isk fnd (upd sbits 2 g3) (upd ssize 2 g4) (va_up snum 2 g5)) rfl [(o0, .inr (6, [.ref np0, .ref kp0, .ref tp0, .int isk, .ref r0, .ref t0, .ref sh0, .ref f0])), (f0, .inl (cI, 7, .inl fnd)), (sh0, .inl (cS, 4, .inr (.inr (.inr (.inr (ik_ref4 s00 s10 s20 s30)))))), (s00, .inr (2, [.int (sbits 0), .int (ssize 0), .ref s01])), (s01, .inl (cI, 40, .inl (snum 0))), (s10, .inr (2, [.int (sbits 1), .int (ssize 1), .ref s11])), (s11, .inl (cI, 40, .inl (snum 1))), (s30, .inr (2, [.int (sbits 3), .int (ssize 3), .ref s31])), (s31, .inl (cI, 40, .inl (snum 3)))] rfl rfl rfl (by decide +kernel) (ik_runV (st := []) (As := [.int x2, .int x3]) C hM mv_X2_lay wl_44_12 ⟨rfl, rfl, Nat.le_of_ble_eq_true rfl, Nat.le_of_ble_eq_true rfl⟩ [7, 8] rfl (by decide +kernel) 7 rfl rfl rfl rfl (Nat.le_of_ble_eq_true rfl) dX6_sheet_68 ⟨Nat.zero_le _, Nat.zero_le _⟩) rfl ?_
              obtain ⟨rfl, rfl, rfl, rfl, rfl⟩ := ik_e5 hf
              exact ik_iretW C hr hlk dX6_sheet_71
            · have hf := ik_neg hb0 hf; have hf := ik_neg hb1 hf; have hf := ik_neg hb2 hf
              refine ik_iload_n C 2 rfl rfl dX6_sheet_66 ?_
              refine ik_iload_n C 3 rfl rfl dX6_sheet_67 ?_
              obtain ⟨r2, g3, g4, g5, hc5, hf⟩ := ik_b4s hf
              have hM := (c_X2_lay l D cI cS s30 s31 (sbits 3) (ssize 3) (snum 3) x2 x3 r2 g3 g4 g5 hc5)
              refine ik_goW (v := (some (.int r2))) (wc := (wz_X2 cI cS s30 s31 (sbits 3) (ssize 3) (snum 3))) (w1 := (wz_X2 cI cS s30 s31 g3 g4 g5)) [9, 10] [0, 1, 2, 3, 4, 5, 6, 7, 8] 11 rfl rfl (wz_X6ofs cI cS o0 np0 kp0 tp0 r0 t0 sh0 f0 s00 s10 s20 s30 s01 s11 s21 s31 isk fnd (upd sbits 3 g3) (upd ssize 3 g4) (va_up snum 3 g5)) rfl [(o0, .inr (6, [.ref np0, .ref kp0, .ref tp0, .int isk, .ref r0, .ref t0, .ref sh0, .ref f0])), (f0, .inl (cI, 7, .inl fnd)), (sh0, .inl (cS, 4, .inr (.inr (.inr (.inr (ik_ref4 s00 s10 s20 s30)))))), (s00, .inr (2, [.int (sbits 0), .int (ssize 0), .ref s01])), (s01, .inl (cI, 40, .inl (snum 0))), (s10, .inr (2, [.int (sbits 1), .int (ssize 1), .ref s11])), (s11, .inl (cI, 40, .inl (snum 1))), (s20, .inr (2, [.int (sbits 2), .int (ssize 2), .ref s21])), (s21, .inl (cI, 40, .inl (snum 2)))] rfl rfl rfl (by decide +kernel) (ik_runV (st := []) (As := [.int x2, .int x3]) C hM mv_X2_lay wl_44_12 ⟨rfl, rfl, Nat.le_of_ble_eq_true rfl, Nat.le_of_ble_eq_true rfl⟩ [9, 10] rfl (by decide +kernel) 9 rfl rfl rfl rfl (Nat.le_of_ble_eq_true rfl) dX6_sheet_68 ⟨Nat.zero_le _, Nat.zero_le _⟩) rfl ?_
              obtain ⟨rfl, rfl, rfl, rfl, rfl⟩ := ik_e5 hf
              exact ik_iretW C hr hlk dX6_sheet_71
          · have hf := ik_neg hc hf
            refine ik_aload_n C 0 rfl rfl dX6_sheet_53 ?_
            refine ik_ldc C wl_5_3 dX6_sheet_54 ?_
            obtain ⟨r2, g3, hc3, hf⟩ := ik_b2s hf
            have hM := (c_X6_tell l D cI cS o0 np0 kp0 tp0 r0 t0 sh0 f0 isk fnd (-1000001 : Int32) r2 g3 hc3)
            refine ik_goW (v := (some (.int r2))) (wc := (wz_X6of cI cS o0 np0 kp0 tp0 r0 t0 sh0 f0 isk fnd)) (w1 := (wz_X6of cI cS o0 np0 kp0 tp0 r0 t0 sh0 f0 isk g3)) [0, 1] [2, 3, 4, 5, 6, 7, 8, 9, 10] 11 rfl rfl (wz_X6ofs cI cS o0 np0 kp0 tp0 r0 t0 sh0 f0 s00 s10 s20 s30 s01 s11 s21 s31 isk g3 sbits ssize snum) rfl [(sh0, .inl (cS, 4, .inr (.inr (.inr (.inr (ik_ref4 s00 s10 s20 s30)))))), (s00, .inr (2, [.int (sbits 0), .int (ssize 0), .ref s01])), (s01, .inl (cI, 40, .inl (snum 0))), (s10, .inr (2, [.int (sbits 1), .int (ssize 1), .ref s11])), (s11, .inl (cI, 40, .inl (snum 1))), (s20, .inr (2, [.int (sbits 2), .int (ssize 2), .ref s21])), (s21, .inl (cI, 40, .inl (snum 2))), (s30, .inr (2, [.int (sbits 3), .int (ssize 3), .ref s31])), (s31, .inl (cI, 40, .inl (snum 3)))] rfl rfl rfl (by decide +kernel) (ik_runV (st := []) (As := [.int (-1000001 : Int32)]) C hM mv_X6_tell wl_5_16 ⟨rfl, rfl, Nat.le_of_ble_eq_true rfl, Nat.le_of_ble_eq_true rfl⟩ [0, 1] rfl (by decide +kernel) 0 rfl rfl rfl rfl (Nat.le_of_ble_eq_true rfl) dX6_sheet_56 ⟨Nat.zero_le _, Nat.zero_le _⟩) rfl ?_
            obtain ⟨rfl, rfl, rfl, rfl, rfl⟩ := ik_e5 hf
            exact ik_iretW C hr hlk dX6_sheet_59
        · have hf := ik_neg hc hf
          refine ik_aload_n C 0 rfl rfl dX6_sheet_40 ?_
          refine ik_ldc C wl_44_8 dX6_sheet_41 ?_
          obtain ⟨r2, g3, hc3, hf⟩ := ik_b2s hf
          have hM := (c_X6_tell l D cI cS o0 np0 kp0 tp0 r0 t0 sh0 f0 isk fnd (-1000007 : Int32) r2 g3 hc3)
          refine ik_goW (v := (some (.int r2))) (wc := (wz_X6of cI cS o0 np0 kp0 tp0 r0 t0 sh0 f0 isk fnd)) (w1 := (wz_X6of cI cS o0 np0 kp0 tp0 r0 t0 sh0 f0 isk g3)) [0, 1] [2, 3, 4, 5, 6, 7, 8, 9, 10] 11 rfl rfl (wz_X6ofs cI cS o0 np0 kp0 tp0 r0 t0 sh0 f0 s00 s10 s20 s30 s01 s11 s21 s31 isk g3 sbits ssize snum) rfl [(sh0, .inl (cS, 4, .inr (.inr (.inr (.inr (ik_ref4 s00 s10 s20 s30)))))), (s00, .inr (2, [.int (sbits 0), .int (ssize 0), .ref s01])), (s01, .inl (cI, 40, .inl (snum 0))), (s10, .inr (2, [.int (sbits 1), .int (ssize 1), .ref s11])), (s11, .inl (cI, 40, .inl (snum 1))), (s20, .inr (2, [.int (sbits 2), .int (ssize 2), .ref s21])), (s21, .inl (cI, 40, .inl (snum 2))), (s30, .inr (2, [.int (sbits 3), .int (ssize 3), .ref s31])), (s31, .inl (cI, 40, .inl (snum 3)))] rfl rfl rfl (by decide +kernel) (ik_runV (st := []) (As := [.int (-1000007 : Int32)]) C hM mv_X6_tell wl_5_16 ⟨rfl, rfl, Nat.le_of_ble_eq_true rfl, Nat.le_of_ble_eq_true rfl⟩ [0, 1] rfl (by decide +kernel) 0 rfl rfl rfl rfl (Nat.le_of_ble_eq_true rfl) dX6_sheet_43 ⟨Nat.zero_le _, Nat.zero_le _⟩) rfl ?_
          obtain ⟨rfl, rfl, rfl, rfl, rfl⟩ := ik_e5 hf
          exact ik_iretW C hr hlk dX6_sheet_46
      · have hf := ik_neg hc hf
        refine ik_iload_n C 2 rfl rfl dX6_sheet_17 ?_
        refine ik_bipush (v := (16 : Int32)) C (by decide) dX6_sheet_18 ?_
        refine ik_icmp_eq C 36 dX6_sheet_20 (by decide) (fun hc => ?_) (fun hc => ?_)
        · have hf := ik_pos hc hf
          refine ik_iload_n C 3 rfl rfl dX6_sheet_36 ?_
          refine ik_if_ge C 47 dX6_sheet_37 (by decide) (fun hc => ?_) (fun hc => ?_)
          · have hf := ik_pos hc hf
            refine ik_iload_n C 3 rfl rfl dX6_sheet_47 ?_
            refine ik_bipush (v := (40 : Int32)) C (by decide) dX6_sheet_48 ?_
            refine ik_icmp_le C 60 dX6_sheet_50 (by decide) (fun hc => ?_) (fun hc => ?_)
            · have hf := ik_pos hc hf
              refine ik_aload_n C 0 rfl rfl dX6_sheet_60 ?_
              refine ik_get C inlX6 0 rfl rfl 6 (by decide) wl_2_1 rfl (v := .ref sh0) rfl dX6_sheet_61 ?_
              refine ik_iload_n C 1 rfl rfl dX6_sheet_64 ?_
              have hg := ik_gdi hf
              have hf := ik_gdk hf
              refine ik_aald4 C 2 rfl hg (a0 := s00) (a1 := s10) (a2 := s20) (a3 := s30) rfl rfl rfl rfl dX6_sheet_65 (fun hc => ?_) (fun hb0 hc => ?_) (fun hb0 hb1 hc => ?_) (fun hb0 hb1 hb2 hc => ?_)
              · have hf := ik_pos hc hf
                refine ik_iload_n C 2 rfl rfl dX6_sheet_66 ?_
                refine ik_iload_n C 3 rfl rfl dX6_sheet_67 ?_
                obtain ⟨r2, g3, g4, g5, hc5, hf⟩ := ik_b4s hf
                have hM := (c_X2_lay l D cI cS s00 s01 (sbits 0) (ssize 0) (snum 0) x2 x3 r2 g3 g4 g5 hc5)
                refine ik_goW (v := (some (.int r2))) (wc := (wz_X2 cI cS s00 s01 (sbits 0) (ssize 0) (snum 0))) (w1 := (wz_X2 cI cS s00 s01 g3 g4 g5)) [3, 4] [0, 1, 2, 5, 6, 7, 8, 9, 10] 11 rfl rfl (wz_X6ofs cI cS o0 np0 kp0 tp0 r0 t0 sh0 f0 s00 s10 s20 s30 s01 s11 s21 s31 isk fnd (upd sbits 0 g3) (upd ssize 0 g4) (va_up snum 0 g5)) rfl [(o0, .inr (6, [.ref np0, .ref kp0, .ref tp0, .int isk, .ref r0, .ref t0, .ref sh0, .ref f0])), (f0, .inl (cI, 7, .inl fnd)), (sh0, .inl (cS, 4, .inr (.inr (.inr (.inr (ik_ref4 s00 s10 s20 s30)))))), (s10, .inr (2, [.int (sbits 1), .int (ssize 1), .ref s11])), (s11, .inl (cI, 40, .inl (snum 1))), (s20, .inr (2, [.int (sbits 2), .int (ssize 2), .ref s21])), (s21, .inl (cI, 40, .inl (snum 2))), (s30, .inr (2, [.int (sbits 3), .int (ssize 3), .ref s31])), (s31, .inl (cI, 40, .inl (snum 3)))] rfl rfl rfl (by decide +kernel) (ik_runV (st := []) (As := [.int x2, .int x3]) C hM mv_X2_lay wl_44_12 ⟨rfl, rfl, Nat.le_of_ble_eq_true rfl, Nat.le_of_ble_eq_true rfl⟩ [3, 4] rfl (by decide +kernel) 3 rfl rfl rfl rfl (Nat.le_of_ble_eq_true rfl) dX6_sheet_68 ⟨Nat.zero_le _, Nat.zero_le _⟩) rfl ?_
                obtain ⟨rfl, rfl, rfl, rfl, rfl⟩ := ik_e5 hf
                exact ik_iretW C hr hlk dX6_sheet_71
              · have hf := ik_neg hb0 hf; have hf := ik_pos hc hf
                refine ik_iload_n C 2 rfl rfl dX6_sheet_66 ?_
                refine ik_iload_n C 3 rfl rfl dX6_sheet_67 ?_
                obtain ⟨r2, g3, g4, g5, hc5, hf⟩ := ik_b4s hf
                have hM := (c_X2_lay l D cI cS s10 s11 (sbits 1) (ssize 1) (snum 1) x2 x3 r2 g3 g4 g5 hc5)
                refine ik_goW (v := (some (.int r2))) (wc := (wz_X2 cI cS s10 s11 (sbits 1) (ssize 1) (snum 1))) (w1 := (wz_X2 cI cS s10 s11 g3 g4 g5)) [5, 6] [0, 1, 2, 3, 4, 7, 8, 9, 10] 11 rfl rfl (wz_X6ofs cI cS o0 np0 kp0 tp0 r0 t0 sh0 f0 s00 s10 s20 s30 s01 s11 s21 s31 isk fnd (upd sbits 1 g3) (upd ssize 1 g4) (va_up snum 1 g5)) rfl [(o0, .inr (6, [.ref np0, .ref kp0, .ref tp0, .int isk, .ref r0, .ref t0, .ref sh0, .ref f0])), (f0, .inl (cI, 7, .inl fnd)), (sh0, .inl (cS, 4, .inr (.inr (.inr (.inr (ik_ref4 s00 s10 s20 s30)))))), (s00, .inr (2, [.int (sbits 0), .int (ssize 0), .ref s01])), (s01, .inl (cI, 40, .inl (snum 0))), (s20, .inr (2, [.int (sbits 2), .int (ssize 2), .ref s21])), (s21, .inl (cI, 40, .inl (snum 2))), (s30, .inr (2, [.int (sbits 3), .int (ssize 3), .ref s31])), (s31, .inl (cI, 40, .inl (snum 3)))] rfl rfl rfl (by decide +kernel) (ik_runV (st := []) (As := [.int x2, .int x3]) C hM mv_X2_lay wl_44_12 ⟨rfl, rfl, Nat.le_of_ble_eq_true rfl, Nat.le_of_ble_eq_true rfl⟩ [5, 6] rfl (by decide +kernel) 5 rfl rfl rfl rfl (Nat.le_of_ble_eq_true rfl) dX6_sheet_68 ⟨Nat.zero_le _, Nat.zero_le _⟩) rfl ?_
                obtain ⟨rfl, rfl, rfl, rfl, rfl⟩ := ik_e5 hf
                exact ik_iretW C hr hlk dX6_sheet_71
              · have hf := ik_neg hb0 hf; have hf := ik_neg hb1 hf; have hf := ik_pos hc hf
                refine ik_iload_n C 2 rfl rfl dX6_sheet_66 ?_
                refine ik_iload_n C 3 rfl rfl dX6_sheet_67 ?_
                obtain ⟨r2, g3, g4, g5, hc5, hf⟩ := ik_b4s hf
                have hM := (c_X2_lay l D cI cS s20 s21 (sbits 2) (ssize 2) (snum 2) x2 x3 r2 g3 g4 g5 hc5)
                refine ik_goW (v := (some (.int r2))) (wc := (wz_X2 cI cS s20 s21 (sbits 2) (ssize 2) (snum 2))) (w1 := (wz_X2 cI cS s20 s21 g3 g4 g5)) [7, 8] [0, 1, 2, 3, 4, 5, 6, 9, 10] 11 rfl rfl (wz_X6ofs cI cS o0 np0 kp0 tp0 r0 t0 sh0 f0 s00 s10 s20 s30 s01 s11 s21 s31 isk fnd (upd sbits 2 g3) (upd ssize 2 g4) (va_up snum 2 g5)) rfl [(o0, .inr (6, [.ref np0, .ref kp0, .ref tp0, .int isk, .ref r0, .ref t0, .ref sh0, .ref f0])), (f0, .inl (cI, 7, .inl fnd)), (sh0, .inl (cS, 4, .inr (.inr (.inr (.inr (ik_ref4 s00 s10 s20 s30)))))), (s00, .inr (2, [.int (sbits 0), .int (ssize 0), .ref s01])), (s01, .inl (cI, 40, .inl (snum 0))), (s10, .inr (2, [.int (sbits 1), .int (ssize 1), .ref s11])), (s11, .inl (cI, 40, .inl (snum 1))), (s30, .inr (2, [.int (sbits 3), .int (ssize 3), .ref s31])), (s31, .inl (cI, 40, .inl (snum 3)))] rfl rfl rfl (by decide +kernel) (ik_runV (st := []) (As := [.int x2, .int x3]) C hM mv_X2_lay wl_44_12 ⟨rfl, rfl, Nat.le_of_ble_eq_true rfl, Nat.le_of_ble_eq_true rfl⟩ [7, 8] rfl (by decide +kernel) 7 rfl rfl rfl rfl (Nat.le_of_ble_eq_true rfl) dX6_sheet_68 ⟨Nat.zero_le _, Nat.zero_le _⟩) rfl ?_
                obtain ⟨rfl, rfl, rfl, rfl, rfl⟩ := ik_e5 hf
                exact ik_iretW C hr hlk dX6_sheet_71
              · have hf := ik_neg hb0 hf; have hf := ik_neg hb1 hf; have hf := ik_neg hb2 hf
                refine ik_iload_n C 2 rfl rfl dX6_sheet_66 ?_
                refine ik_iload_n C 3 rfl rfl dX6_sheet_67 ?_
                obtain ⟨r2, g3, g4, g5, hc5, hf⟩ := ik_b4s hf
                have hM := (c_X2_lay l D cI cS s30 s31 (sbits 3) (ssize 3) (snum 3) x2 x3 r2 g3 g4 g5 hc5)
                refine ik_goW (v := (some (.int r2))) (wc := (wz_X2 cI cS s30 s31 (sbits 3) (ssize 3) (snum 3))) (w1 := (wz_X2 cI cS s30 s31 g3 g4 g5)) [9, 10] [0, 1, 2, 3, 4, 5, 6, 7, 8] 11 rfl rfl (wz_X6ofs cI cS o0 np0 kp0 tp0 r0 t0 sh0 f0 s00 s10 s20 s30 s01 s11 s21 s31 isk fnd (upd sbits 3 g3) (upd ssize 3 g4) (va_up snum 3 g5)) rfl [(o0, .inr (6, [.ref np0, .ref kp0, .ref tp0, .int isk, .ref r0, .ref t0, .ref sh0, .ref f0])), (f0, .inl (cI, 7, .inl fnd)), (sh0, .inl (cS, 4, .inr (.inr (.inr (.inr (ik_ref4 s00 s10 s20 s30)))))), (s00, .inr (2, [.int (sbits 0), .int (ssize 0), .ref s01])), (s01, .inl (cI, 40, .inl (snum 0))), (s10, .inr (2, [.int (sbits 1), .int (ssize 1), .ref s11])), (s11, .inl (cI, 40, .inl (snum 1))), (s20, .inr (2, [.int (sbits 2), .int (ssize 2), .ref s21])), (s21, .inl (cI, 40, .inl (snum 2)))] rfl rfl rfl (by decide +kernel) (ik_runV (st := []) (As := [.int x2, .int x3]) C hM mv_X2_lay wl_44_12 ⟨rfl, rfl, Nat.le_of_ble_eq_true rfl, Nat.le_of_ble_eq_true rfl⟩ [9, 10] rfl (by decide +kernel) 9 rfl rfl rfl rfl (Nat.le_of_ble_eq_true rfl) dX6_sheet_68 ⟨Nat.zero_le _, Nat.zero_le _⟩) rfl ?_
                obtain ⟨rfl, rfl, rfl, rfl, rfl⟩ := ik_e5 hf
                exact ik_iretW C hr hlk dX6_sheet_71
            · have hf := ik_neg hc hf
              refine ik_aload_n C 0 rfl rfl dX6_sheet_53 ?_
              refine ik_ldc C wl_5_3 dX6_sheet_54 ?_
              obtain ⟨r2, g3, hc3, hf⟩ := ik_b2s hf
              have hM := (c_X6_tell l D cI cS o0 np0 kp0 tp0 r0 t0 sh0 f0 isk fnd (-1000001 : Int32) r2 g3 hc3)
              refine ik_goW (v := (some (.int r2))) (wc := (wz_X6of cI cS o0 np0 kp0 tp0 r0 t0 sh0 f0 isk fnd)) (w1 := (wz_X6of cI cS o0 np0 kp0 tp0 r0 t0 sh0 f0 isk g3)) [0, 1] [2, 3, 4, 5, 6, 7, 8, 9, 10] 11 rfl rfl (wz_X6ofs cI cS o0 np0 kp0 tp0 r0 t0 sh0 f0 s00 s10 s20 s30 s01 s11 s21 s31 isk g3 sbits ssize snum) rfl [(sh0, .inl (cS, 4, .inr (.inr (.inr (.inr (ik_ref4 s00 s10 s20 s30)))))), (s00, .inr (2, [.int (sbits 0), .int (ssize 0), .ref s01])), (s01, .inl (cI, 40, .inl (snum 0))), (s10, .inr (2, [.int (sbits 1), .int (ssize 1), .ref s11])), (s11, .inl (cI, 40, .inl (snum 1))), (s20, .inr (2, [.int (sbits 2), .int (ssize 2), .ref s21])), (s21, .inl (cI, 40, .inl (snum 2))), (s30, .inr (2, [.int (sbits 3), .int (ssize 3), .ref s31])), (s31, .inl (cI, 40, .inl (snum 3)))] rfl rfl rfl (by decide +kernel) (ik_runV (st := []) (As := [.int (-1000001 : Int32)]) C hM mv_X6_tell wl_5_16 ⟨rfl, rfl, Nat.le_of_ble_eq_true rfl, Nat.le_of_ble_eq_true rfl⟩ [0, 1] rfl (by decide +kernel) 0 rfl rfl rfl rfl (Nat.le_of_ble_eq_true rfl) dX6_sheet_56 ⟨Nat.zero_le _, Nat.zero_le _⟩) rfl ?_
              obtain ⟨rfl, rfl, rfl, rfl, rfl⟩ := ik_e5 hf
              exact ik_iretW C hr hlk dX6_sheet_59
          · have hf := ik_neg hc hf
            refine ik_aload_n C 0 rfl rfl dX6_sheet_40 ?_
            refine ik_ldc C wl_44_8 dX6_sheet_41 ?_
            obtain ⟨r2, g3, hc3, hf⟩ := ik_b2s hf
            have hM := (c_X6_tell l D cI cS o0 np0 kp0 tp0 r0 t0 sh0 f0 isk fnd (-1000007 : Int32) r2 g3 hc3)
            refine ik_goW (v := (some (.int r2))) (wc := (wz_X6of cI cS o0 np0 kp0 tp0 r0 t0 sh0 f0 isk fnd)) (w1 := (wz_X6of cI cS o0 np0 kp0 tp0 r0 t0 sh0 f0 isk g3)) [0, 1] [2, 3, 4, 5, 6, 7, 8, 9, 10] 11 rfl rfl (wz_X6ofs cI cS o0 np0 kp0 tp0 r0 t0 sh0 f0 s00 s10 s20 s30 s01 s11 s21 s31 isk g3 sbits ssize snum) rfl [(sh0, .inl (cS, 4, .inr (.inr (.inr (.inr (ik_ref4 s00 s10 s20 s30)))))), (s00, .inr (2, [.int (sbits 0), .int (ssize 0), .ref s01])), (s01, .inl (cI, 40, .inl (snum 0))), (s10, .inr (2, [.int (sbits 1), .int (ssize 1), .ref s11])), (s11, .inl (cI, 40, .inl (snum 1))), (s20, .inr (2, [.int (sbits 2), .int (ssize 2), .ref s21])), (s21, .inl (cI, 40, .inl (snum 2))), (s30, .inr (2, [.int (sbits 3), .int (ssize 3), .ref s31])), (s31, .inl (cI, 40, .inl (snum 3)))] rfl rfl rfl (by decide +kernel) (ik_runV (st := []) (As := [.int (-1000007 : Int32)]) C hM mv_X6_tell wl_5_16 ⟨rfl, rfl, Nat.le_of_ble_eq_true rfl, Nat.le_of_ble_eq_true rfl⟩ [0, 1] rfl (by decide +kernel) 0 rfl rfl rfl rfl (Nat.le_of_ble_eq_true rfl) dX6_sheet_43 ⟨Nat.zero_le _, Nat.zero_le _⟩) rfl ?_
            obtain ⟨rfl, rfl, rfl, rfl, rfl⟩ := ik_e5 hf
            exact ik_iretW C hr hlk dX6_sheet_46
        · have hf := ik_neg hc hf
          refine ik_iload_n C 2 rfl rfl dX6_sheet_23 ?_
          refine ik_bipush (v := (32 : Int32)) C (by decide) dX6_sheet_24 ?_
          refine ik_icmp_eq C 36 dX6_sheet_26 (by decide) (fun hc => ?_) (fun hc => ?_)
          · have hf := ik_pos hc hf
            refine ik_iload_n C 3 rfl rfl dX6_sheet_36 ?_
            refine ik_if_ge C 47 dX6_sheet_37 (by decide) (fun hc => ?_) (fun hc => ?_)
            · have hf := ik_pos hc hf
              refine ik_iload_n C 3 rfl rfl dX6_sheet_47 ?_
              refine ik_bipush (v := (40 : Int32)) C (by decide) dX6_sheet_48 ?_
              refine ik_icmp_le C 60 dX6_sheet_50 (by decide) (fun hc => ?_) (fun hc => ?_)
              · have hf := ik_pos hc hf
                refine ik_aload_n C 0 rfl rfl dX6_sheet_60 ?_
                refine ik_get C inlX6 0 rfl rfl 6 (by decide) wl_2_1 rfl (v := .ref sh0) rfl dX6_sheet_61 ?_
                refine ik_iload_n C 1 rfl rfl dX6_sheet_64 ?_
                have hg := ik_gdi hf
                have hf := ik_gdk hf
                refine ik_aald4 C 2 rfl hg (a0 := s00) (a1 := s10) (a2 := s20) (a3 := s30) rfl rfl rfl rfl dX6_sheet_65 (fun hc => ?_) (fun hb0 hc => ?_) (fun hb0 hb1 hc => ?_) (fun hb0 hb1 hb2 hc => ?_)
                · have hf := ik_pos hc hf
                  refine ik_iload_n C 2 rfl rfl dX6_sheet_66 ?_
                  refine ik_iload_n C 3 rfl rfl dX6_sheet_67 ?_
                  obtain ⟨r2, g3, g4, g5, hc5, hf⟩ := ik_b4s hf
                  have hM := (c_X2_lay l D cI cS s00 s01 (sbits 0) (ssize 0) (snum 0) x2 x3 r2 g3 g4 g5 hc5)
                  refine ik_goW (v := (some (.int r2))) (wc := (wz_X2 cI cS s00 s01 (sbits 0) (ssize 0) (snum 0))) (w1 := (wz_X2 cI cS s00 s01 g3 g4 g5)) [3, 4] [0, 1, 2, 5, 6, 7, 8, 9, 10] 11 rfl rfl (wz_X6ofs cI cS o0 np0 kp0 tp0 r0 t0 sh0 f0 s00 s10 s20 s30 s01 s11 s21 s31 isk fnd (upd sbits 0 g3) (upd ssize 0 g4) (va_up snum 0 g5)) rfl [(o0, .inr (6, [.ref np0, .ref kp0, .ref tp0, .int isk, .ref r0, .ref t0, .ref sh0, .ref f0])), (f0, .inl (cI, 7, .inl fnd)), (sh0, .inl (cS, 4, .inr (.inr (.inr (.inr (ik_ref4 s00 s10 s20 s30)))))), (s10, .inr (2, [.int (sbits 1), .int (ssize 1), .ref s11])), (s11, .inl (cI, 40, .inl (snum 1))), (s20, .inr (2, [.int (sbits 2), .int (ssize 2), .ref s21])), (s21, .inl (cI, 40, .inl (snum 2))), (s30, .inr (2, [.int (sbits 3), .int (ssize 3), .ref s31])), (s31, .inl (cI, 40, .inl (snum 3)))] rfl rfl rfl (by decide +kernel) (ik_runV (st := []) (As := [.int x2, .int x3]) C hM mv_X2_lay wl_44_12 ⟨rfl, rfl, Nat.le_of_ble_eq_true rfl, Nat.le_of_ble_eq_true rfl⟩ [3, 4] rfl (by decide +kernel) 3 rfl rfl rfl rfl (Nat.le_of_ble_eq_true rfl) dX6_sheet_68 ⟨Nat.zero_le _, Nat.zero_le _⟩) rfl ?_
                  obtain ⟨rfl, rfl, rfl, rfl, rfl⟩ := ik_e5 hf
                  exact ik_iretW C hr hlk dX6_sheet_71
                · have hf := ik_neg hb0 hf; have hf := ik_pos hc hf
                  refine ik_iload_n C 2 rfl rfl dX6_sheet_66 ?_
                  refine ik_iload_n C 3 rfl rfl dX6_sheet_67 ?_
                  obtain ⟨r2, g3, g4, g5, hc5, hf⟩ := ik_b4s hf
                  have hM := (c_X2_lay l D cI cS s10 s11 (sbits 1) (ssize 1) (snum 1) x2 x3 r2 g3 g4 g5 hc5)
                  refine ik_goW (v := (some (.int r2))) (wc := (wz_X2 cI cS s10 s11 (sbits 1) (ssize 1) (snum 1))) (w1 := (wz_X2 cI cS s10 s11 g3 g4 g5)) [5, 6] [0, 1, 2, 3, 4, 7, 8, 9, 10] 11 rfl rfl (wz_X6ofs cI cS o0 np0 kp0 tp0 r0 t0 sh0 f0 s00 s10 s20 s30 s01 s11 s21 s31 isk fnd (upd sbits 1 g3) (upd ssize 1 g4) (va_up snum 1 g5)) rfl [(o0, .inr (6, [.ref np0, .ref kp0, .ref tp0, .int isk, .ref r0, .ref t0, .ref sh0, .ref f0])), (f0, .inl (cI, 7, .inl fnd)), (sh0, .inl (cS, 4, .inr (.inr (.inr (.inr (ik_ref4 s00 s10 s20 s30)))))), (s00, .inr (2, [.int (sbits 0), .int (ssize 0), .ref s01])), (s01, .inl (cI, 40, .inl (snum 0))), (s20, .inr (2, [.int (sbits 2), .int (ssize 2), .ref s21])), (s21, .inl (cI, 40, .inl (snum 2))), (s30, .inr (2, [.int (sbits 3), .int (ssize 3), .ref s31])), (s31, .inl (cI, 40, .inl (snum 3)))] rfl rfl rfl (by decide +kernel) (ik_runV (st := []) (As := [.int x2, .int x3]) C hM mv_X2_lay wl_44_12 ⟨rfl, rfl, Nat.le_of_ble_eq_true rfl, Nat.le_of_ble_eq_true rfl⟩ [5, 6] rfl (by decide +kernel) 5 rfl rfl rfl rfl (Nat.le_of_ble_eq_true rfl) dX6_sheet_68 ⟨Nat.zero_le _, Nat.zero_le _⟩) rfl ?_
                  obtain ⟨rfl, rfl, rfl, rfl, rfl⟩ := ik_e5 hf
                  exact ik_iretW C hr hlk dX6_sheet_71
                · have hf := ik_neg hb0 hf; have hf := ik_neg hb1 hf; have hf := ik_pos hc hf
                  refine ik_iload_n C 2 rfl rfl dX6_sheet_66 ?_
                  refine ik_iload_n C 3 rfl rfl dX6_sheet_67 ?_
                  obtain ⟨r2, g3, g4, g5, hc5, hf⟩ := ik_b4s hf
                  have hM := (c_X2_lay l D cI cS s20 s21 (sbits 2) (ssize 2) (snum 2) x2 x3 r2 g3 g4 g5 hc5)
                  refine ik_goW (v := (some (.int r2))) (wc := (wz_X2 cI cS s20 s21 (sbits 2) (ssize 2) (snum 2))) (w1 := (wz_X2 cI cS s20 s21 g3 g4 g5)) [7, 8] [0, 1, 2, 3, 4, 5, 6, 9, 10] 11 rfl rfl (wz_X6ofs cI cS o0 np0 kp0 tp0 r0 t0 sh0 f0 s00 s10 s20 s30 s01 s11 s21 s31 isk fnd (upd sbits 2 g3) (upd ssize 2 g4) (va_up snum 2 g5)) rfl [(o0, .inr (6, [.ref np0, .ref kp0, .ref tp0, .int isk, .ref r0, .ref t0, .ref sh0, .ref f0])), (f0, .inl (cI, 7, .inl fnd)), (sh0, .inl (cS, 4, .inr (.inr (.inr (.inr (ik_ref4 s00 s10 s20 s30)))))), (s00, .inr (2, [.int (sbits 0), .int (ssize 0), .ref s01])), (s01, .inl (cI, 40, .inl (snum 0))), (s10, .inr (2, [.int (sbits 1), .int (ssize 1), .ref s11])), (s11, .inl (cI, 40, .inl (snum 1))), (s30, .inr (2, [.int (sbits 3), .int (ssize 3), .ref s31])), (s31, .inl (cI, 40, .inl (snum 3)))] rfl rfl rfl (by decide +kernel) (ik_runV (st := []) (As := [.int x2, .int x3]) C hM mv_X2_lay wl_44_12 ⟨rfl, rfl, Nat.le_of_ble_eq_true rfl, Nat.le_of_ble_eq_true rfl⟩ [7, 8] rfl (by decide +kernel) 7 rfl rfl rfl rfl (Nat.le_of_ble_eq_true rfl) dX6_sheet_68 ⟨Nat.zero_le _, Nat.zero_le _⟩) rfl ?_
                  obtain ⟨rfl, rfl, rfl, rfl, rfl⟩ := ik_e5 hf
                  exact ik_iretW C hr hlk dX6_sheet_71
                · have hf := ik_neg hb0 hf; have hf := ik_neg hb1 hf; have hf := ik_neg hb2 hf
                  refine ik_iload_n C 2 rfl rfl dX6_sheet_66 ?_
                  refine ik_iload_n C 3 rfl rfl dX6_sheet_67 ?_
                  obtain ⟨r2, g3, g4, g5, hc5, hf⟩ := ik_b4s hf
                  have hM := (c_X2_lay l D cI cS s30 s31 (sbits 3) (ssize 3) (snum 3) x2 x3 r2 g3 g4 g5 hc5)
                  refine ik_goW (v := (some (.int r2))) (wc := (wz_X2 cI cS s30 s31 (sbits 3) (ssize 3) (snum 3))) (w1 := (wz_X2 cI cS s30 s31 g3 g4 g5)) [9, 10] [0, 1, 2, 3, 4, 5, 6, 7, 8] 11 rfl rfl (wz_X6ofs cI cS o0 np0 kp0 tp0 r0 t0 sh0 f0 s00 s10 s20 s30 s01 s11 s21 s31 isk fnd (upd sbits 3 g3) (upd ssize 3 g4) (va_up snum 3 g5)) rfl [(o0, .inr (6, [.ref np0, .ref kp0, .ref tp0, .int isk, .ref r0, .ref t0, .ref sh0, .ref f0])), (f0, .inl (cI, 7, .inl fnd)), (sh0, .inl (cS, 4, .inr (.inr (.inr (.inr (ik_ref4 s00 s10 s20 s30)))))), (s00, .inr (2, [.int (sbits 0), .int (ssize 0), .ref s01])), (s01, .inl (cI, 40, .inl (snum 0))), (s10, .inr (2, [.int (sbits 1), .int (ssize 1), .ref s11])), (s11, .inl (cI, 40, .inl (snum 1))), (s20, .inr (2, [.int (sbits 2), .int (ssize 2), .ref s21])), (s21, .inl (cI, 40, .inl (snum 2)))] rfl rfl rfl (by decide +kernel) (ik_runV (st := []) (As := [.int x2, .int x3]) C hM mv_X2_lay wl_44_12 ⟨rfl, rfl, Nat.le_of_ble_eq_true rfl, Nat.le_of_ble_eq_true rfl⟩ [9, 10] rfl (by decide +kernel) 9 rfl rfl rfl rfl (Nat.le_of_ble_eq_true rfl) dX6_sheet_68 ⟨Nat.zero_le _, Nat.zero_le _⟩) rfl ?_
                  obtain ⟨rfl, rfl, rfl, rfl, rfl⟩ := ik_e5 hf
                  exact ik_iretW C hr hlk dX6_sheet_71
              · have hf := ik_neg hc hf
                refine ik_aload_n C 0 rfl rfl dX6_sheet_53 ?_
                refine ik_ldc C wl_5_3 dX6_sheet_54 ?_
                obtain ⟨r2, g3, hc3, hf⟩ := ik_b2s hf
                have hM := (c_X6_tell l D cI cS o0 np0 kp0 tp0 r0 t0 sh0 f0 isk fnd (-1000001 : Int32) r2 g3 hc3)
                refine ik_goW (v := (some (.int r2))) (wc := (wz_X6of cI cS o0 np0 kp0 tp0 r0 t0 sh0 f0 isk fnd)) (w1 := (wz_X6of cI cS o0 np0 kp0 tp0 r0 t0 sh0 f0 isk g3)) [0, 1] [2, 3, 4, 5, 6, 7, 8, 9, 10] 11 rfl rfl (wz_X6ofs cI cS o0 np0 kp0 tp0 r0 t0 sh0 f0 s00 s10 s20 s30 s01 s11 s21 s31 isk g3 sbits ssize snum) rfl [(sh0, .inl (cS, 4, .inr (.inr (.inr (.inr (ik_ref4 s00 s10 s20 s30)))))), (s00, .inr (2, [.int (sbits 0), .int (ssize 0), .ref s01])), (s01, .inl (cI, 40, .inl (snum 0))), (s10, .inr (2, [.int (sbits 1), .int (ssize 1), .ref s11])), (s11, .inl (cI, 40, .inl (snum 1))), (s20, .inr (2, [.int (sbits 2), .int (ssize 2), .ref s21])), (s21, .inl (cI, 40, .inl (snum 2))), (s30, .inr (2, [.int (sbits 3), .int (ssize 3), .ref s31])), (s31, .inl (cI, 40, .inl (snum 3)))] rfl rfl rfl (by decide +kernel) (ik_runV (st := []) (As := [.int (-1000001 : Int32)]) C hM mv_X6_tell wl_5_16 ⟨rfl, rfl, Nat.le_of_ble_eq_true rfl, Nat.le_of_ble_eq_true rfl⟩ [0, 1] rfl (by decide +kernel) 0 rfl rfl rfl rfl (Nat.le_of_ble_eq_true rfl) dX6_sheet_56 ⟨Nat.zero_le _, Nat.zero_le _⟩) rfl ?_
                obtain ⟨rfl, rfl, rfl, rfl, rfl⟩ := ik_e5 hf
                exact ik_iretW C hr hlk dX6_sheet_59
            · have hf := ik_neg hc hf
              refine ik_aload_n C 0 rfl rfl dX6_sheet_40 ?_
              refine ik_ldc C wl_44_8 dX6_sheet_41 ?_
              obtain ⟨r2, g3, hc3, hf⟩ := ik_b2s hf
              have hM := (c_X6_tell l D cI cS o0 np0 kp0 tp0 r0 t0 sh0 f0 isk fnd (-1000007 : Int32) r2 g3 hc3)
              refine ik_goW (v := (some (.int r2))) (wc := (wz_X6of cI cS o0 np0 kp0 tp0 r0 t0 sh0 f0 isk fnd)) (w1 := (wz_X6of cI cS o0 np0 kp0 tp0 r0 t0 sh0 f0 isk g3)) [0, 1] [2, 3, 4, 5, 6, 7, 8, 9, 10] 11 rfl rfl (wz_X6ofs cI cS o0 np0 kp0 tp0 r0 t0 sh0 f0 s00 s10 s20 s30 s01 s11 s21 s31 isk g3 sbits ssize snum) rfl [(sh0, .inl (cS, 4, .inr (.inr (.inr (.inr (ik_ref4 s00 s10 s20 s30)))))), (s00, .inr (2, [.int (sbits 0), .int (ssize 0), .ref s01])), (s01, .inl (cI, 40, .inl (snum 0))), (s10, .inr (2, [.int (sbits 1), .int (ssize 1), .ref s11])), (s11, .inl (cI, 40, .inl (snum 1))), (s20, .inr (2, [.int (sbits 2), .int (ssize 2), .ref s21])), (s21, .inl (cI, 40, .inl (snum 2))), (s30, .inr (2, [.int (sbits 3), .int (ssize 3), .ref s31])), (s31, .inl (cI, 40, .inl (snum 3)))] rfl rfl rfl (by decide +kernel) (ik_runV (st := []) (As := [.int (-1000007 : Int32)]) C hM mv_X6_tell wl_5_16 ⟨rfl, rfl, Nat.le_of_ble_eq_true rfl, Nat.le_of_ble_eq_true rfl⟩ [0, 1] rfl (by decide +kernel) 0 rfl rfl rfl rfl (Nat.le_of_ble_eq_true rfl) dX6_sheet_43 ⟨Nat.zero_le _, Nat.zero_le _⟩) rfl ?_
              obtain ⟨rfl, rfl, rfl, rfl, rfl⟩ := ik_e5 hf
              exact ik_iretW C hr hlk dX6_sheet_46
          · have hf := ik_neg hc hf
            refine ik_aload_n C 0 rfl rfl dX6_sheet_29 ?_
            refine ik_ldc C wl_5_3 dX6_sheet_30 ?_
            obtain ⟨r2, g3, hc3, hf⟩ := ik_b2s hf
            have hM := (c_X6_tell l D cI cS o0 np0 kp0 tp0 r0 t0 sh0 f0 isk fnd (-1000001 : Int32) r2 g3 hc3)
            refine ik_goW (v := (some (.int r2))) (wc := (wz_X6of cI cS o0 np0 kp0 tp0 r0 t0 sh0 f0 isk fnd)) (w1 := (wz_X6of cI cS o0 np0 kp0 tp0 r0 t0 sh0 f0 isk g3)) [0, 1] [2, 3, 4, 5, 6, 7, 8, 9, 10] 11 rfl rfl (wz_X6ofs cI cS o0 np0 kp0 tp0 r0 t0 sh0 f0 s00 s10 s20 s30 s01 s11 s21 s31 isk g3 sbits ssize snum) rfl [(sh0, .inl (cS, 4, .inr (.inr (.inr (.inr (ik_ref4 s00 s10 s20 s30)))))), (s00, .inr (2, [.int (sbits 0), .int (ssize 0), .ref s01])), (s01, .inl (cI, 40, .inl (snum 0))), (s10, .inr (2, [.int (sbits 1), .int (ssize 1), .ref s11])), (s11, .inl (cI, 40, .inl (snum 1))), (s20, .inr (2, [.int (sbits 2), .int (ssize 2), .ref s21])), (s21, .inl (cI, 40, .inl (snum 2))), (s30, .inr (2, [.int (sbits 3), .int (ssize 3), .ref s31])), (s31, .inl (cI, 40, .inl (snum 3)))] rfl rfl rfl (by decide +kernel) (ik_runV (st := []) (As := [.int (-1000001 : Int32)]) C hM mv_X6_tell wl_5_16 ⟨rfl, rfl, Nat.le_of_ble_eq_true rfl, Nat.le_of_ble_eq_true rfl⟩ [0, 1] rfl (by decide +kernel) 0 rfl rfl rfl rfl (Nat.le_of_ble_eq_true rfl) dX6_sheet_32 ⟨Nat.zero_le _, Nat.zero_le _⟩) rfl ?_
            obtain ⟨rfl, rfl, rfl, rfl, rfl⟩ := ik_e5 hf
            exact ik_iretW C hr hlk dX6_sheet_35
theorem mv_X6_write : ik_V yX6_write RX6 cX6_write 5 (some .int) 3 := ⟨wl_45_5, wl_45_6, wl_1_2, wl_45_7, by decide +kernel⟩
set_option maxHeartbeats 4000000 in
set_option maxRecDepth 100000 in
theorem c_X6_write (l : Launch) (D : va_G) (cI cS : ClassId) (o0 np0 kp0 tp0 r0 t0 sh0 f0 s00 s10 s20 s30 s01 s11 s21 s31 : Nat) (isk : Int32) (fnd : Nat → Int32) (sbits : Nat → Int32) (ssize : Nat → Int32) (snum : Nat → Nat → Int32) (x1 : Int32) (x2 : Int32) (x3 : Int32) (R : Int32) (fnd_r : Nat → Int32) (snum_r : Nat → Nat → Int32) (hf : f_X6_write fnd sbits ssize snum x1 x2 x3 = some (R, fnd_r, snum_r)) : Met l yX6_write (ik_ws yX6_write cX6_write 5 (some .int)) ({ frames := 2, cells := 0, slots := 0, locals := 44 } : Room) (ik_P D cI cS [.ref o0, .int x1, .int x2, .int x3] (wz_X6ofs cI cS o0 np0 kp0 tp0 r0 t0 sh0 f0 s00 s10 s20 s30 s01 s11 s21 s31 isk fnd sbits ssize snum)) (ik_Q (some (.int R)) D (wz_X6ofs cI cS o0 np0 kp0 tp0 r0 t0 sh0 f0 s00 s10 s20 s30 s01 s11 s21 s31 isk fnd_r sbits ssize snum_r) (wz_X6ofs cI cS o0 np0 kp0 tp0 r0 t0 sh0 f0 s00 s10 s20 s30 s01 s11 s21 s31 isk fnd sbits ssize snum)) 0 0 (ik_in (wz_X6ofs cI cS o0 np0 kp0 tp0 r0 t0 sh0 f0 s00 s10 s20 s30 s01 s11 s21 s31 isk fnd sbits ssize snum)) := by
  refine ik_metW RX6 rfl (by decide) (Nat.le_of_ble_eq_true rfl) [(0, .ref o0), (1, .int x1), (2, .int x2), (3, .int x3)] rfl ?_
  intro p e s m below meth c C hr hlk
  unfold f_X6_write at hf
  refine ik_iload_n C 1 rfl rfl dX6_write_0 ?_
  obtain ⟨r1, hc1, hf⟩ := ik_b1s hf
  have hM := (c_X6_isSheet l D cI cS x1 r1 hc1)
  refine ik_goR (ik_runS (st := []) (As := [.int x1]) C hM ms_X6_isSheet wl_44_9 ⟨rfl, rfl, Nat.le_of_ble_eq_true rfl, Nat.le_of_ble_eq_true rfl⟩ [] rfl (by decide +kernel) rfl rfl (Nat.le_of_ble_eq_true rfl) dX6_write_1 ⟨Nat.zero_le _, Nat.zero_le _⟩) rfl ?_
  refine ik_if_ne C 14 dX6_write_4 (by decide) (fun hc => ?_) (fun hc => ?_)
  · have hf := ik_neg hc hf
    refine ik_aload_n C 0 rfl rfl dX6_write_14 ?_
    refine ik_get C inlX6 0 rfl rfl 6 (by decide) wl_2_1 rfl (v := .ref sh0) rfl dX6_write_15 ?_
    refine ik_iload_n C 1 rfl rfl dX6_write_18 ?_
    have hg := ik_gdi hf
    have hf := ik_gdk hf
    refine ik_aald4 C 2 rfl hg (a0 := s00) (a1 := s10) (a2 := s20) (a3 := s30) rfl rfl rfl rfl dX6_write_19 (fun hc => ?_) (fun hb0 hc => ?_) (fun hb0 hb1 hc => ?_) (fun hb0 hb1 hb2 hc => ?_)
    · have hf := ik_pos hc hf
      refine ik_astore C [(4, .ref s00), (0, .ref o0), (1, .int x1), (2, .int x2), (3, .int x3)] (by decide) rfl dX6_write_20 ?_
      refine ik_aload C 0 rfl dX6_write_22 ?_
      obtain ⟨r2, hc2, hf⟩ := ik_b1s hf
      have hM := (c_X2_isMissing l D cI cS s00 s01 (sbits 0) (ssize 0) (snum 0) r2 hc2)
      refine ik_goR (ik_runV (st := []) (As := []) C hM mv_X2_isMissing wl_45_9 ⟨rfl, rfl, Nat.le_of_ble_eq_true rfl, Nat.le_of_ble_eq_true rfl⟩ [3, 4] rfl (by decide +kernel) 3 rfl rfl rfl rfl (Nat.le_of_ble_eq_true rfl) dX6_write_24 ⟨Nat.zero_le _, Nat.zero_le _⟩) rfl ?_
      refine ik_if_eq C 37 dX6_write_27 (by decide) (fun hc => ?_) (fun hc => ?_)
      · have hf := ik_pos hc hf
        refine ik_iload_n C 3 rfl rfl dX6_write_37 ?_
        refine ik_iconst (v := (0 : Int32)) C (by decide) dX6_write_38 ?_
        refine ik_aload C 0 rfl dX6_write_39 ?_
        refine ik_get C inlX2 3 rfl rfl 1 (by decide) wl_45_8 rfl (v := .int (ssize 0)) rfl dX6_write_41 ?_
        refine ik_iconst (v := (1 : Int32)) C (by decide) dX6_write_44 ?_
        refine ik_isub C dX6_write_45 ?_
        obtain ⟨r3, hc3, hf⟩ := ik_b1s hf
        have hM := (c_X6_isWithin l D cI cS x2 (0 : Int32) ((ssize 0) - (1 : Int32)) r3 hc3)
        refine ik_goR (ik_runS (st := []) (As := [.int x2, .int (0 : Int32), .int ((ssize 0) - (1 : Int32))]) C hM ms_X6_isWithin wl_5_10 ⟨rfl, rfl, Nat.le_of_ble_eq_true rfl, Nat.le_of_ble_eq_true rfl⟩ [] rfl (by decide +kernel) rfl rfl (Nat.le_of_ble_eq_true rfl) dX6_write_46 ⟨Nat.zero_le _, Nat.zero_le _⟩) rfl ?_
        refine ik_if_ne C 59 dX6_write_49 (by decide) (fun hc => ?_) (fun hc => ?_)
        · have hf := ik_neg hc hf
          refine ik_aload C 0 rfl dX6_write_59 ?_
          refine ik_iload_n C 3 rfl rfl dX6_write_61 ?_
          refine ik_iload_n C 4 rfl rfl dX6_write_62 ?_
          obtain ⟨g4, hc4, hf⟩ := ik_b1s hf
          have hM := (c_X2_put l D cI cS s00 s01 (sbits 0) (ssize 0) (snum 0) x2 x3 g4 hc4)
          refine ik_goW (v := none) (wc := (wz_X2 cI cS s00 s01 (sbits 0) (ssize 0) (snum 0))) (w1 := (wz_X2 cI cS s00 s01 (sbits 0) (ssize 0) g4)) [3, 4] [0, 1, 2, 5, 6, 7, 8, 9, 10] 11 rfl rfl (wz_X6ofs cI cS o0 np0 kp0 tp0 r0 t0 sh0 f0 s00 s10 s20 s30 s01 s11 s21 s31 isk fnd sbits ssize (va_up snum 0 g4)) rfl [(o0, .inr (6, [.ref np0, .ref kp0, .ref tp0, .int isk, .ref r0, .ref t0, .ref sh0, .ref f0])), (f0, .inl (cI, 7, .inl fnd)), (sh0, .inl (cS, 4, .inr (.inr (.inr (.inr (ik_ref4 s00 s10 s20 s30)))))), (s10, .inr (2, [.int (sbits 1), .int (ssize 1), .ref s11])), (s11, .inl (cI, 40, .inl (snum 1))), (s20, .inr (2, [.int (sbits 2), .int (ssize 2), .ref s21])), (s21, .inl (cI, 40, .inl (snum 2))), (s30, .inr (2, [.int (sbits 3), .int (ssize 3), .ref s31])), (s31, .inl (cI, 40, .inl (snum 3)))] rfl rfl rfl (by decide +kernel) (ik_runV (st := []) (As := [.int x2, .int x3]) C hM mv_X2_put wl_45_13 ⟨rfl, rfl, Nat.le_of_ble_eq_true rfl, Nat.le_of_ble_eq_true rfl⟩ [3, 4] rfl (by decide +kernel) 3 rfl rfl rfl rfl (Nat.le_of_ble_eq_true rfl) dX6_write_63 ⟨Nat.zero_le _, Nat.zero_le _⟩) rfl ?_
          refine ik_iconst (v := (1 : Int32)) C (by decide) dX6_write_66 ?_
          obtain ⟨rfl, rfl, rfl⟩ := ik_e3 hf
          exact ik_iretW C hr hlk dX6_write_67
        · have hf := ik_pos hc hf
          refine ik_aload_n C 1 rfl rfl dX6_write_52 ?_
          refine ik_ldc C wl_5_3 dX6_write_53 ?_
          obtain ⟨r4, g5, hc5, hf⟩ := ik_b2s hf
          have hM := (c_X6_tell l D cI cS o0 np0 kp0 tp0 r0 t0 sh0 f0 isk fnd (-1000001 : Int32) r4 g5 hc5)
          refine ik_goW (v := (some (.int r4))) (wc := (wz_X6of cI cS o0 np0 kp0 tp0 r0 t0 sh0 f0 isk fnd)) (w1 := (wz_X6of cI cS o0 np0 kp0 tp0 r0 t0 sh0 f0 isk g5)) [0, 1] [2, 3, 4, 5, 6, 7, 8, 9, 10] 11 rfl rfl (wz_X6ofs cI cS o0 np0 kp0 tp0 r0 t0 sh0 f0 s00 s10 s20 s30 s01 s11 s21 s31 isk g5 sbits ssize snum) rfl [(sh0, .inl (cS, 4, .inr (.inr (.inr (.inr (ik_ref4 s00 s10 s20 s30)))))), (s00, .inr (2, [.int (sbits 0), .int (ssize 0), .ref s01])), (s01, .inl (cI, 40, .inl (snum 0))), (s10, .inr (2, [.int (sbits 1), .int (ssize 1), .ref s11])), (s11, .inl (cI, 40, .inl (snum 1))), (s20, .inr (2, [.int (sbits 2), .int (ssize 2), .ref s21])), (s21, .inl (cI, 40, .inl (snum 2))), (s30, .inr (2, [.int (sbits 3), .int (ssize 3), .ref s31])), (s31, .inl (cI, 40, .inl (snum 3)))] rfl rfl rfl (by decide +kernel) (ik_runV (st := []) (As := [.int (-1000001 : Int32)]) C hM mv_X6_tell wl_5_16 ⟨rfl, rfl, Nat.le_of_ble_eq_true rfl, Nat.le_of_ble_eq_true rfl⟩ [0, 1] rfl (by decide +kernel) 0 rfl rfl rfl rfl (Nat.le_of_ble_eq_true rfl) dX6_write_55 ⟨Nat.zero_le _, Nat.zero_le _⟩) rfl ?_
          obtain ⟨rfl, rfl, rfl⟩ := ik_e3 hf
          exact ik_iretW C hr hlk dX6_write_58
      · have hf := ik_neg hc hf
        refine ik_aload_n C 1 rfl rfl dX6_write_30 ?_
        refine ik_ldc C wl_43_13 dX6_write_31 ?_
        obtain ⟨r3, g4, hc4, hf⟩ := ik_b2s hf
        have hM := (c_X6_tell l D cI cS o0 np0 kp0 tp0 r0 t0 sh0 f0 isk fnd (-1000006 : Int32) r3 g4 hc4)
        refine ik_goW (v := (some (.int r3))) (wc := (wz_X6of cI cS o0 np0 kp0 tp0 r0 t0 sh0 f0 isk fnd)) (w1 := (wz_X6of cI cS o0 np0 kp0 tp0 r0 t0 sh0 f0 isk g4)) [0, 1] [2, 3, 4, 5, 6, 7, 8, 9, 10] 11 rfl rfl (wz_X6ofs cI cS o0 np0 kp0 tp0 r0 t0 sh0 f0 s00 s10 s20 s30 s01 s11 s21 s31 isk g4 sbits ssize snum) rfl [(sh0, .inl (cS, 4, .inr (.inr (.inr (.inr (ik_ref4 s00 s10 s20 s30)))))), (s00, .inr (2, [.int (sbits 0), .int (ssize 0), .ref s01])), (s01, .inl (cI, 40, .inl (snum 0))), (s10, .inr (2, [.int (sbits 1), .int (ssize 1), .ref s11])), (s11, .inl (cI, 40, .inl (snum 1))), (s20, .inr (2, [.int (sbits 2), .int (ssize 2), .ref s21])), (s21, .inl (cI, 40, .inl (snum 2))), (s30, .inr (2, [.int (sbits 3), .int (ssize 3), .ref s31])), (s31, .inl (cI, 40, .inl (snum 3)))] rfl rfl rfl (by decide +kernel) (ik_runV (st := []) (As := [.int (-1000006 : Int32)]) C hM mv_X6_tell wl_5_16 ⟨rfl, rfl, Nat.le_of_ble_eq_true rfl, Nat.le_of_ble_eq_true rfl⟩ [0, 1] rfl (by decide +kernel) 0 rfl rfl rfl rfl (Nat.le_of_ble_eq_true rfl) dX6_write_33 ⟨Nat.zero_le _, Nat.zero_le _⟩) rfl ?_
        obtain ⟨rfl, rfl, rfl⟩ := ik_e3 hf
        exact ik_iretW C hr hlk dX6_write_36
    · have hf := ik_neg hb0 hf; have hf := ik_pos hc hf
      refine ik_astore C [(4, .ref s10), (0, .ref o0), (1, .int x1), (2, .int x2), (3, .int x3)] (by decide) rfl dX6_write_20 ?_
      refine ik_aload C 0 rfl dX6_write_22 ?_
      obtain ⟨r2, hc2, hf⟩ := ik_b1s hf
      have hM := (c_X2_isMissing l D cI cS s10 s11 (sbits 1) (ssize 1) (snum 1) r2 hc2)
      refine ik_goR (ik_runV (st := []) (As := []) C hM mv_X2_isMissing wl_45_9 ⟨rfl, rfl, Nat.le_of_ble_eq_true rfl, Nat.le_of_ble_eq_true rfl⟩ [5, 6] rfl (by decide +kernel) 5 rfl rfl rfl rfl (Nat.le_of_ble_eq_true rfl) dX6_write_24 ⟨Nat.zero_le _, Nat.zero_le _⟩) rfl ?_
      refine ik_if_eq C 37 dX6_write_27 (by decide) (fun hc => ?_) (fun hc => ?_)
      · have hf := ik_pos hc hf
        refine ik_iload_n C 3 rfl rfl dX6_write_37 ?_
        refine ik_iconst (v := (0 : Int32)) C (by decide) dX6_write_38 ?_
        refine ik_aload C 0 rfl dX6_write_39 ?_
        refine ik_get C inlX2 5 rfl rfl 1 (by decide) wl_45_8 rfl (v := .int (ssize 1)) rfl dX6_write_41 ?_
        refine ik_iconst (v := (1 : Int32)) C (by decide) dX6_write_44 ?_
        refine ik_isub C dX6_write_45 ?_
        obtain ⟨r3, hc3, hf⟩ := ik_b1s hf
        have hM := (c_X6_isWithin l D cI cS x2 (0 : Int32) ((ssize 1) - (1 : Int32)) r3 hc3)
        refine ik_goR (ik_runS (st := []) (As := [.int x2, .int (0 : Int32), .int ((ssize 1) - (1 : Int32))]) C hM ms_X6_isWithin wl_5_10 ⟨rfl, rfl, Nat.le_of_ble_eq_true rfl, Nat.le_of_ble_eq_true rfl⟩ [] rfl (by decide +kernel) rfl rfl (Nat.le_of_ble_eq_true rfl) dX6_write_46 ⟨Nat.zero_le _, Nat.zero_le _⟩) rfl ?_
        refine ik_if_ne C 59 dX6_write_49 (by decide) (fun hc => ?_) (fun hc => ?_)
        · have hf := ik_neg hc hf
          refine ik_aload C 0 rfl dX6_write_59 ?_
          refine ik_iload_n C 3 rfl rfl dX6_write_61 ?_
          refine ik_iload_n C 4 rfl rfl dX6_write_62 ?_
          obtain ⟨g4, hc4, hf⟩ := ik_b1s hf
          have hM := (c_X2_put l D cI cS s10 s11 (sbits 1) (ssize 1) (snum 1) x2 x3 g4 hc4)
          refine ik_goW (v := none) (wc := (wz_X2 cI cS s10 s11 (sbits 1) (ssize 1) (snum 1))) (w1 := (wz_X2 cI cS s10 s11 (sbits 1) (ssize 1) g4)) [5, 6] [0, 1, 2, 3, 4, 7, 8, 9, 10] 11 rfl rfl (wz_X6ofs cI cS o0 np0 kp0 tp0 r0 t0 sh0 f0 s00 s10 s20 s30 s01 s11 s21 s31 isk fnd sbits ssize (va_up snum 1 g4)) rfl [(o0, .inr (6, [.ref np0, .ref kp0, .ref tp0, .int isk, .ref r0, .ref t0, .ref sh0, .ref f0])), (f0, .inl (cI, 7, .inl fnd)), (sh0, .inl (cS, 4, .inr (.inr (.inr (.inr (ik_ref4 s00 s10 s20 s30)))))), (s00, .inr (2, [.int (sbits 0), .int (ssize 0), .ref s01])), (s01, .inl (cI, 40, .inl (snum 0))), (s20, .inr (2, [.int (sbits 2), .int (ssize 2), .ref s21])), (s21, .inl (cI, 40, .inl (snum 2))), (s30, .inr (2, [.int (sbits 3), .int (ssize 3), .ref s31])), (s31, .inl (cI, 40, .inl (snum 3)))] rfl rfl rfl (by decide +kernel) (ik_runV (st := []) (As := [.int x2, .int x3]) C hM mv_X2_put wl_45_13 ⟨rfl, rfl, Nat.le_of_ble_eq_true rfl, Nat.le_of_ble_eq_true rfl⟩ [5, 6] rfl (by decide +kernel) 5 rfl rfl rfl rfl (Nat.le_of_ble_eq_true rfl) dX6_write_63 ⟨Nat.zero_le _, Nat.zero_le _⟩) rfl ?_
          refine ik_iconst (v := (1 : Int32)) C (by decide) dX6_write_66 ?_
          obtain ⟨rfl, rfl, rfl⟩ := ik_e3 hf
          exact ik_iretW C hr hlk dX6_write_67
        · have hf := ik_pos hc hf
          refine ik_aload_n C 1 rfl rfl dX6_write_52 ?_
          refine ik_ldc C wl_5_3 dX6_write_53 ?_
          obtain ⟨r4, g5, hc5, hf⟩ := ik_b2s hf
          have hM := (c_X6_tell l D cI cS o0 np0 kp0 tp0 r0 t0 sh0 f0 isk fnd (-1000001 : Int32) r4 g5 hc5)
          refine ik_goW (v := (some (.int r4))) (wc := (wz_X6of cI cS o0 np0 kp0 tp0 r0 t0 sh0 f0 isk fnd)) (w1 := (wz_X6of cI cS o0 np0 kp0 tp0 r0 t0 sh0 f0 isk g5)) [0, 1] [2, 3, 4, 5, 6, 7, 8, 9, 10] 11 rfl rfl (wz_X6ofs cI cS o0 np0 kp0 tp0 r0 t0 sh0 f0 s00 s10 s20 s30 s01 s11 s21 s31 isk g5 sbits ssize snum) rfl [(sh0, .inl (cS, 4, .inr (.inr (.inr (.inr (ik_ref4 s00 s10 s20 s30)))))), (s00, .inr (2, [.int (sbits 0), .int (ssize 0), .ref s01])), (s01, .inl (cI, 40, .inl (snum 0))), (s10, .inr (2, [.int (sbits 1), .int (ssize 1), .ref s11])), (s11, .inl (cI, 40, .inl (snum 1))), (s20, .inr (2, [.int (sbits 2), .int (ssize 2), .ref s21])), (s21, .inl (cI, 40, .inl (snum 2))), (s30, .inr (2, [.int (sbits 3), .int (ssize 3), .ref s31])), (s31, .inl (cI, 40, .inl (snum 3)))] rfl rfl rfl (by decide +kernel) (ik_runV (st := []) (As := [.int (-1000001 : Int32)]) C hM mv_X6_tell wl_5_16 ⟨rfl, rfl, Nat.le_of_ble_eq_true rfl, Nat.le_of_ble_eq_true rfl⟩ [0, 1] rfl (by decide +kernel) 0 rfl rfl rfl rfl (Nat.le_of_ble_eq_true rfl) dX6_write_55 ⟨Nat.zero_le _, Nat.zero_le _⟩) rfl ?_
          obtain ⟨rfl, rfl, rfl⟩ := ik_e3 hf
          exact ik_iretW C hr hlk dX6_write_58
      · have hf := ik_neg hc hf
        refine ik_aload_n C 1 rfl rfl dX6_write_30 ?_
        refine ik_ldc C wl_43_13 dX6_write_31 ?_
        obtain ⟨r3, g4, hc4, hf⟩ := ik_b2s hf
        have hM := (c_X6_tell l D cI cS o0 np0 kp0 tp0 r0 t0 sh0 f0 isk fnd (-1000006 : Int32) r3 g4 hc4)
        refine ik_goW (v := (some (.int r3))) (wc := (wz_X6of cI cS o0 np0 kp0 tp0 r0 t0 sh0 f0 isk fnd)) (w1 := (wz_X6of cI cS o0 np0 kp0 tp0 r0 t0 sh0 f0 isk g4)) [0, 1] [2, 3, 4, 5, 6, 7, 8, 9, 10] 11 rfl rfl (wz_X6ofs cI cS o0 np0 kp0 tp0 r0 t0 sh0 f0 s00 s10 s20 s30 s01 s11 s21 s31 isk g4 sbits ssize snum) rfl [(sh0, .inl (cS, 4, .inr (.inr (.inr (.inr (ik_ref4 s00 s10 s20 s30)))))), (s00, .inr (2, [.int (sbits 0), .int (ssize 0), .ref s01])), (s01, .inl (cI, 40, .inl (snum 0))), (s10, .inr (2, [.int (sbits 1), .int (ssize 1), .ref s11])), (s11, .inl (cI, 40, .inl (snum 1))), (s20, .inr (2, [.int (sbits 2), .int (ssize 2), .ref s21])), (s21, .inl (cI, 40, .inl (snum 2))), (s30, .inr (2, [.int (sbits 3), .int (ssize 3), .ref s31])), (s31, .inl (cI, 40, .inl (snum 3)))] rfl rfl rfl (by decide +kernel) (ik_runV (st := []) (As := [.int (-1000006 : Int32)]) C hM mv_X6_tell wl_5_16 ⟨rfl, rfl, Nat.le_of_ble_eq_true rfl, Nat.le_of_ble_eq_true rfl⟩ [0, 1] rfl (by decide +kernel) 0 rfl rfl rfl rfl (Nat.le_of_ble_eq_true rfl) dX6_write_33 ⟨Nat.zero_le _, Nat.zero_le _⟩) rfl ?_
        obtain ⟨rfl, rfl, rfl⟩ := ik_e3 hf
        exact ik_iretW C hr hlk dX6_write_36
    · have hf := ik_neg hb0 hf; have hf := ik_neg hb1 hf; have hf := ik_pos hc hf
      refine ik_astore C [(4, .ref s20), (0, .ref o0), (1, .int x1), (2, .int x2), (3, .int x3)] (by decide) rfl dX6_write_20 ?_
      refine ik_aload C 0 rfl dX6_write_22 ?_
      obtain ⟨r2, hc2, hf⟩ := ik_b1s hf
      have hM := (c_X2_isMissing l D cI cS s20 s21 (sbits 2) (ssize 2) (snum 2) r2 hc2)
      refine ik_goR (ik_runV (st := []) (As := []) C hM mv_X2_isMissing wl_45_9 ⟨rfl, rfl, Nat.le_of_ble_eq_true rfl, Nat.le_of_ble_eq_true rfl⟩ [7, 8] rfl (by decide +kernel) 7 rfl rfl rfl rfl (Nat.le_of_ble_eq_true rfl) dX6_write_24 ⟨Nat.zero_le _, Nat.zero_le _⟩) rfl ?_
      refine ik_if_eq C 37 dX6_write_27 (by decide) (fun hc => ?_) (fun hc => ?_)
      · have hf := ik_pos hc hf
        refine ik_iload_n C 3 rfl rfl dX6_write_37 ?_
        refine ik_iconst (v := (0 : Int32)) C (by decide) dX6_write_38 ?_
        refine ik_aload C 0 rfl dX6_write_39 ?_
        refine ik_get C inlX2 7 rfl rfl 1 (by decide) wl_45_8 rfl (v := .int (ssize 2)) rfl dX6_write_41 ?_
        refine ik_iconst (v := (1 : Int32)) C (by decide) dX6_write_44 ?_
        refine ik_isub C dX6_write_45 ?_
        obtain ⟨r3, hc3, hf⟩ := ik_b1s hf
        have hM := (c_X6_isWithin l D cI cS x2 (0 : Int32) ((ssize 2) - (1 : Int32)) r3 hc3)
        refine ik_goR (ik_runS (st := []) (As := [.int x2, .int (0 : Int32), .int ((ssize 2) - (1 : Int32))]) C hM ms_X6_isWithin wl_5_10 ⟨rfl, rfl, Nat.le_of_ble_eq_true rfl, Nat.le_of_ble_eq_true rfl⟩ [] rfl (by decide +kernel) rfl rfl (Nat.le_of_ble_eq_true rfl) dX6_write_46 ⟨Nat.zero_le _, Nat.zero_le _⟩) rfl ?_
        refine ik_if_ne C 59 dX6_write_49 (by decide) (fun hc => ?_) (fun hc => ?_)
        · have hf := ik_neg hc hf
          refine ik_aload C 0 rfl dX6_write_59 ?_
          refine ik_iload_n C 3 rfl rfl dX6_write_61 ?_
          refine ik_iload_n C 4 rfl rfl dX6_write_62 ?_
          obtain ⟨g4, hc4, hf⟩ := ik_b1s hf
          have hM := (c_X2_put l D cI cS s20 s21 (sbits 2) (ssize 2) (snum 2) x2 x3 g4 hc4)
          refine ik_goW (v := none) (wc := (wz_X2 cI cS s20 s21 (sbits 2) (ssize 2) (snum 2))) (w1 := (wz_X2 cI cS s20 s21 (sbits 2) (ssize 2) g4)) [7, 8] [0, 1, 2, 3, 4, 5, 6, 9, 10] 11 rfl rfl (wz_X6ofs cI cS o0 np0 kp0 tp0 r0 t0 sh0 f0 s00 s10 s20 s30 s01 s11 s21 s31 isk fnd sbits ssize (va_up snum 2 g4)) rfl [(o0, .inr (6, [.ref np0, .ref kp0, .ref tp0, .int isk, .ref r0, .ref t0, .ref sh0, .ref f0])), (f0, .inl (cI, 7, .inl fnd)), (sh0, .inl (cS, 4, .inr (.inr (.inr (.inr (ik_ref4 s00 s10 s20 s30)))))), (s00, .inr (2, [.int (sbits 0), .int (ssize 0), .ref s01])), (s01, .inl (cI, 40, .inl (snum 0))), (s10, .inr (2, [.int (sbits 1), .int (ssize 1), .ref s11])), (s11, .inl (cI, 40, .inl (snum 1))), (s30, .inr (2, [.int (sbits 3), .int (ssize 3), .ref s31])), (s31, .inl (cI, 40, .inl (snum 3)))] rfl rfl rfl (by decide +kernel) (ik_runV (st := []) (As := [.int x2, .int x3]) C hM mv_X2_put wl_45_13 ⟨rfl, rfl, Nat.le_of_ble_eq_true rfl, Nat.le_of_ble_eq_true rfl⟩ [7, 8] rfl (by decide +kernel) 7 rfl rfl rfl rfl (Nat.le_of_ble_eq_true rfl) dX6_write_63 ⟨Nat.zero_le _, Nat.zero_le _⟩) rfl ?_
          refine ik_iconst (v := (1 : Int32)) C (by decide) dX6_write_66 ?_
          obtain ⟨rfl, rfl, rfl⟩ := ik_e3 hf
          exact ik_iretW C hr hlk dX6_write_67
        · have hf := ik_pos hc hf
          refine ik_aload_n C 1 rfl rfl dX6_write_52 ?_
          refine ik_ldc C wl_5_3 dX6_write_53 ?_
          obtain ⟨r4, g5, hc5, hf⟩ := ik_b2s hf
          have hM := (c_X6_tell l D cI cS o0 np0 kp0 tp0 r0 t0 sh0 f0 isk fnd (-1000001 : Int32) r4 g5 hc5)
          refine ik_goW (v := (some (.int r4))) (wc := (wz_X6of cI cS o0 np0 kp0 tp0 r0 t0 sh0 f0 isk fnd)) (w1 := (wz_X6of cI cS o0 np0 kp0 tp0 r0 t0 sh0 f0 isk g5)) [0, 1] [2, 3, 4, 5, 6, 7, 8, 9, 10] 11 rfl rfl (wz_X6ofs cI cS o0 np0 kp0 tp0 r0 t0 sh0 f0 s00 s10 s20 s30 s01 s11 s21 s31 isk g5 sbits ssize snum) rfl [(sh0, .inl (cS, 4, .inr (.inr (.inr (.inr (ik_ref4 s00 s10 s20 s30)))))), (s00, .inr (2, [.int (sbits 0), .int (ssize 0), .ref s01])), (s01, .inl (cI, 40, .inl (snum 0))), (s10, .inr (2, [.int (sbits 1), .int (ssize 1), .ref s11])), (s11, .inl (cI, 40, .inl (snum 1))), (s20, .inr (2, [.int (sbits 2), .int (ssize 2), .ref s21])), (s21, .inl (cI, 40, .inl (snum 2))), (s30, .inr (2, [.int (sbits 3), .int (ssize 3), .ref s31])), (s31, .inl (cI, 40, .inl (snum 3)))] rfl rfl rfl (by decide +kernel) (ik_runV (st := []) (As := [.int (-1000001 : Int32)]) C hM mv_X6_tell wl_5_16 ⟨rfl, rfl, Nat.le_of_ble_eq_true rfl, Nat.le_of_ble_eq_true rfl⟩ [0, 1] rfl (by decide +kernel) 0 rfl rfl rfl rfl (Nat.le_of_ble_eq_true rfl) dX6_write_55 ⟨Nat.zero_le _, Nat.zero_le _⟩) rfl ?_
          obtain ⟨rfl, rfl, rfl⟩ := ik_e3 hf
          exact ik_iretW C hr hlk dX6_write_58
      · have hf := ik_neg hc hf
        refine ik_aload_n C 1 rfl rfl dX6_write_30 ?_
        refine ik_ldc C wl_43_13 dX6_write_31 ?_
        obtain ⟨r3, g4, hc4, hf⟩ := ik_b2s hf
        have hM := (c_X6_tell l D cI cS o0 np0 kp0 tp0 r0 t0 sh0 f0 isk fnd (-1000006 : Int32) r3 g4 hc4)
        refine ik_goW (v := (some (.int r3))) (wc := (wz_X6of cI cS o0 np0 kp0 tp0 r0 t0 sh0 f0 isk fnd)) (w1 := (wz_X6of cI cS o0 np0 kp0 tp0 r0 t0 sh0 f0 isk g4)) [0, 1] [2, 3, 4, 5, 6, 7, 8, 9, 10] 11 rfl rfl (wz_X6ofs cI cS o0 np0 kp0 tp0 r0 t0 sh0 f0 s00 s10 s20 s30 s01 s11 s21 s31 isk g4 sbits ssize snum) rfl [(sh0, .inl (cS, 4, .inr (.inr (.inr (.inr (ik_ref4 s00 s10 s20 s30)))))), (s00, .inr (2, [.int (sbits 0), .int (ssize 0), .ref s01])), (s01, .inl (cI, 40, .inl (snum 0))), (s10, .inr (2, [.int (sbits 1), .int (ssize 1), .ref s11])), (s11, .inl (cI, 40, .inl (snum 1))), (s20, .inr (2, [.int (sbits 2), .int (ssize 2), .ref s21])), (s21, .inl (cI, 40, .inl (snum 2))), (s30, .inr (2, [.int (sbits 3), .int (ssize 3), .ref s31])), (s31, .inl (cI, 40, .inl (snum 3)))] rfl rfl rfl (by decide +kernel) (ik_runV (st := []) (As := [.int (-1000006 : Int32)]) C hM mv_X6_tell wl_5_16 ⟨rfl, rfl, Nat.le_of_ble_eq_true rfl, Nat.le_of_ble_eq_true rfl⟩ [0, 1] rfl (by decide +kernel) 0 rfl rfl rfl rfl (Nat.le_of_ble_eq_true rfl) dX6_write_33 ⟨Nat.zero_le _, Nat.zero_le _⟩) rfl ?_
        obtain ⟨rfl, rfl, rfl⟩ := ik_e3 hf
        exact ik_iretW C hr hlk dX6_write_36
    · have hf := ik_neg hb0 hf; have hf := ik_neg hb1 hf; have hf := ik_neg hb2 hf
      refine ik_astore C [(4, .ref s30), (0, .ref o0), (1, .int x1), (2, .int x2), (3, .int x3)] (by decide) rfl dX6_write_20 ?_
      refine ik_aload C 0 rfl dX6_write_22 ?_
      obtain ⟨r2, hc2, hf⟩ := ik_b1s hf
      have hM := (c_X2_isMissing l D cI cS s30 s31 (sbits 3) (ssize 3) (snum 3) r2 hc2)
      refine ik_goR (ik_runV (st := []) (As := []) C hM mv_X2_isMissing wl_45_9 ⟨rfl, rfl, Nat.le_of_ble_eq_true rfl, Nat.le_of_ble_eq_true rfl⟩ [9, 10] rfl (by decide +kernel) 9 rfl rfl rfl rfl (Nat.le_of_ble_eq_true rfl) dX6_write_24 ⟨Nat.zero_le _, Nat.zero_le _⟩) rfl ?_
      refine ik_if_eq C 37 dX6_write_27 (by decide) (fun hc => ?_) (fun hc => ?_)
      · have hf := ik_pos hc hf
        refine ik_iload_n C 3 rfl rfl dX6_write_37 ?_
        refine ik_iconst (v := (0 : Int32)) C (by decide) dX6_write_38 ?_
        refine ik_aload C 0 rfl dX6_write_39 ?_
        refine ik_get C inlX2 9 rfl rfl 1 (by decide) wl_45_8 rfl (v := .int (ssize 3)) rfl dX6_write_41 ?_
        refine ik_iconst (v := (1 : Int32)) C (by decide) dX6_write_44 ?_
        refine ik_isub C dX6_write_45 ?_
        obtain ⟨r3, hc3, hf⟩ := ik_b1s hf
        have hM := (c_X6_isWithin l D cI cS x2 (0 : Int32) ((ssize 3) - (1 : Int32)) r3 hc3)
        refine ik_goR (ik_runS (st := []) (As := [.int x2, .int (0 : Int32), .int ((ssize 3) - (1 : Int32))]) C hM ms_X6_isWithin wl_5_10 ⟨rfl, rfl, Nat.le_of_ble_eq_true rfl, Nat.le_of_ble_eq_true rfl⟩ [] rfl (by decide +kernel) rfl rfl (Nat.le_of_ble_eq_true rfl) dX6_write_46 ⟨Nat.zero_le _, Nat.zero_le _⟩) rfl ?_
        refine ik_if_ne C 59 dX6_write_49 (by decide) (fun hc => ?_) (fun hc => ?_)
        · have hf := ik_neg hc hf
          refine ik_aload C 0 rfl dX6_write_59 ?_
          refine ik_iload_n C 3 rfl rfl dX6_write_61 ?_
          refine ik_iload_n C 4 rfl rfl dX6_write_62 ?_
          obtain ⟨g4, hc4, hf⟩ := ik_b1s hf
          have hM := (c_X2_put l D cI cS s30 s31 (sbits 3) (ssize 3) (snum 3) x2 x3 g4 hc4)
          refine ik_goW (v := none) (wc := (wz_X2 cI cS s30 s31 (sbits 3) (ssize 3) (snum 3))) (w1 := (wz_X2 cI cS s30 s31 (sbits 3) (ssize 3) g4)) [9, 10] [0, 1, 2, 3, 4, 5, 6, 7, 8] 11 rfl rfl (wz_X6ofs cI cS o0 np0 kp0 tp0 r0 t0 sh0 f0 s00 s10 s20 s30 s01 s11 s21 s31 isk fnd sbits ssize (va_up snum 3 g4)) rfl [(o0, .inr (6, [.ref np0, .ref kp0, .ref tp0, .int isk, .ref r0, .ref t0, .ref sh0, .ref f0])), (f0, .inl (cI, 7, .inl fnd)), (sh0, .inl (cS, 4, .inr (.inr (.inr (.inr (ik_ref4 s00 s10 s20 s30)))))), (s00, .inr (2, [.int (sbits 0), .int (ssize 0), .ref s01])), (s01, .inl (cI, 40, .inl (snum 0))), (s10, .inr (2, [.int (sbits 1), .int (ssize 1), .ref s11])), (s11, .inl (cI, 40, .inl (snum 1))), (s20, .inr (2, [.int (sbits 2), .int (ssize 2), .ref s21])), (s21, .inl (cI, 40, .inl (snum 2)))] rfl rfl rfl (by decide +kernel) (ik_runV (st := []) (As := [.int x2, .int x3]) C hM mv_X2_put wl_45_13 ⟨rfl, rfl, Nat.le_of_ble_eq_true rfl, Nat.le_of_ble_eq_true rfl⟩ [9, 10] rfl (by decide +kernel) 9 rfl rfl rfl rfl (Nat.le_of_ble_eq_true rfl) dX6_write_63 ⟨Nat.zero_le _, Nat.zero_le _⟩) rfl ?_
          refine ik_iconst (v := (1 : Int32)) C (by decide) dX6_write_66 ?_
          obtain ⟨rfl, rfl, rfl⟩ := ik_e3 hf
          exact ik_iretW C hr hlk dX6_write_67
        · have hf := ik_pos hc hf
          refine ik_aload_n C 1 rfl rfl dX6_write_52 ?_
          refine ik_ldc C wl_5_3 dX6_write_53 ?_
          obtain ⟨r4, g5, hc5, hf⟩ := ik_b2s hf
          have hM := (c_X6_tell l D cI cS o0 np0 kp0 tp0 r0 t0 sh0 f0 isk fnd (-1000001 : Int32) r4 g5 hc5)
          refine ik_goW (v := (some (.int r4))) (wc := (wz_X6of cI cS o0 np0 kp0 tp0 r0 t0 sh0 f0 isk fnd)) (w1 := (wz_X6of cI cS o0 np0 kp0 tp0 r0 t0 sh0 f0 isk g5)) [0, 1] [2, 3, 4, 5, 6, 7, 8, 9, 10] 11 rfl rfl (wz_X6ofs cI cS o0 np0 kp0 tp0 r0 t0 sh0 f0 s00 s10 s20 s30 s01 s11 s21 s31 isk g5 sbits ssize snum) rfl [(sh0, .inl (cS, 4, .inr (.inr (.inr (.inr (ik_ref4 s00 s10 s20 s30)))))), (s00, .inr (2, [.int (sbits 0), .int (ssize 0), .ref s01])), (s01, .inl (cI, 40, .inl (snum 0))), (s10, .inr (2, [.int (sbits 1), .int (ssize 1), .ref s11])), (s11, .inl (cI, 40, .inl (snum 1))), (s20, .inr (2, [.int (sbits 2), .int (ssize 2), .ref s21])), (s21, .inl (cI, 40, .inl (snum 2))), (s30, .inr (2, [.int (sbits 3), .int (ssize 3), .ref s31])), (s31, .inl (cI, 40, .inl (snum 3)))] rfl rfl rfl (by decide +kernel) (ik_runV (st := []) (As := [.int (-1000001 : Int32)]) C hM mv_X6_tell wl_5_16 ⟨rfl, rfl, Nat.le_of_ble_eq_true rfl, Nat.le_of_ble_eq_true rfl⟩ [0, 1] rfl (by decide +kernel) 0 rfl rfl rfl rfl (Nat.le_of_ble_eq_true rfl) dX6_write_55 ⟨Nat.zero_le _, Nat.zero_le _⟩) rfl ?_
          obtain ⟨rfl, rfl, rfl⟩ := ik_e3 hf
          exact ik_iretW C hr hlk dX6_write_58
      · have hf := ik_neg hc hf
        refine ik_aload_n C 1 rfl rfl dX6_write_30 ?_
        refine ik_ldc C wl_43_13 dX6_write_31 ?_
        obtain ⟨r3, g4, hc4, hf⟩ := ik_b2s hf
        have hM := (c_X6_tell l D cI cS o0 np0 kp0 tp0 r0 t0 sh0 f0 isk fnd (-1000006 : Int32) r3 g4 hc4)
        refine ik_goW (v := (some (.int r3))) (wc := (wz_X6of cI cS o0 np0 kp0 tp0 r0 t0 sh0 f0 isk fnd)) (w1 := (wz_X6of cI cS o0 np0 kp0 tp0 r0 t0 sh0 f0 isk g4)) [0, 1] [2, 3, 4, 5, 6, 7, 8, 9, 10] 11 rfl rfl (wz_X6ofs cI cS o0 np0 kp0 tp0 r0 t0 sh0 f0 s00 s10 s20 s30 s01 s11 s21 s31 isk g4 sbits ssize snum) rfl [(sh0, .inl (cS, 4, .inr (.inr (.inr (.inr (ik_ref4 s00 s10 s20 s30)))))), (s00, .inr (2, [.int (sbits 0), .int (ssize 0), .ref s01])), (s01, .inl (cI, 40, .inl (snum 0))), (s10, .inr (2, [.int (sbits 1), .int (ssize 1), .ref s11])), (s11, .inl (cI, 40, .inl (snum 1))), (s20, .inr (2, [.int (sbits 2), .int (ssize 2), .ref s21])), (s21, .inl (cI, 40, .inl (snum 2))), (s30, .inr (2, [.int (sbits 3), .int (ssize 3), .ref s31])), (s31, .inl (cI, 40, .inl (snum 3)))] rfl rfl rfl (by decide +kernel) (ik_runV (st := []) (As := [.int (-1000006 : Int32)]) C hM mv_X6_tell wl_5_16 ⟨rfl, rfl, Nat.le_of_ble_eq_true rfl, Nat.le_of_ble_eq_true rfl⟩ [0, 1] rfl (by decide +kernel) 0 rfl rfl rfl rfl (Nat.le_of_ble_eq_true rfl) dX6_write_33 ⟨Nat.zero_le _, Nat.zero_le _⟩) rfl ?_
        obtain ⟨rfl, rfl, rfl⟩ := ik_e3 hf
        exact ik_iretW C hr hlk dX6_write_36
  · have hf := ik_pos hc hf
    refine ik_aload_n C 0 rfl rfl dX6_write_7 ?_
    refine ik_ldc C wl_5_3 dX6_write_8 ?_
    obtain ⟨r2, g3, hc3, hf⟩ := ik_b2s hf
    have hM := (c_X6_tell l D cI cS o0 np0 kp0 tp0 r0 t0 sh0 f0 isk fnd (-1000001 : Int32) r2 g3 hc3)
    refine ik_goW (v := (some (.int r2))) (wc := (wz_X6of cI cS o0 np0 kp0 tp0 r0 t0 sh0 f0 isk fnd)) (w1 := (wz_X6of cI cS o0 np0 kp0 tp0 r0 t0 sh0 f0 isk g3)) [0, 1] [2, 3, 4, 5, 6, 7, 8, 9, 10] 11 rfl rfl (wz_X6ofs cI cS o0 np0 kp0 tp0 r0 t0 sh0 f0 s00 s10 s20 s30 s01 s11 s21 s31 isk g3 sbits ssize snum) rfl [(sh0, .inl (cS, 4, .inr (.inr (.inr (.inr (ik_ref4 s00 s10 s20 s30)))))), (s00, .inr (2, [.int (sbits 0), .int (ssize 0), .ref s01])), (s01, .inl (cI, 40, .inl (snum 0))), (s10, .inr (2, [.int (sbits 1), .int (ssize 1), .ref s11])), (s11, .inl (cI, 40, .inl (snum 1))), (s20, .inr (2, [.int (sbits 2), .int (ssize 2), .ref s21])), (s21, .inl (cI, 40, .inl (snum 2))), (s30, .inr (2, [.int (sbits 3), .int (ssize 3), .ref s31])), (s31, .inl (cI, 40, .inl (snum 3)))] rfl rfl rfl (by decide +kernel) (ik_runV (st := []) (As := [.int (-1000001 : Int32)]) C hM mv_X6_tell wl_5_16 ⟨rfl, rfl, Nat.le_of_ble_eq_true rfl, Nat.le_of_ble_eq_true rfl⟩ [0, 1] rfl (by decide +kernel) 0 rfl rfl rfl rfl (Nat.le_of_ble_eq_true rfl) dX6_write_10 ⟨Nat.zero_le _, Nat.zero_le _⟩) rfl ?_
    obtain ⟨rfl, rfl, rfl⟩ := ik_e3 hf
    exact ik_iretW C hr hlk dX6_write_13
theorem mv_X6_copy : ik_V yX6_copy RX6 cX6_copy 8 (some .int) 5 := ⟨wl_45_22, wl_45_23, wl_1_2, wl_46_0, by decide +kernel⟩
set_option maxHeartbeats 4000000 in
set_option maxRecDepth 100000 in
theorem c_X6_copy (l : Launch) (D : va_G) (cI cS : ClassId) (o0 np0 kp0 tp0 r0 t0 sh0 f0 s00 s10 s20 s30 s01 s11 s21 s31 : Nat) (isk : Int32) (fnd : Nat → Int32) (sbits : Nat → Int32) (ssize : Nat → Int32) (snum : Nat → Nat → Int32) (x1 : Int32) (x2 : Int32) (x3 : Int32) (x4 : Int32) (x5 : Int32) (R : Int32) (fnd_r : Nat → Int32) (snum_r : Nat → Nat → Int32) (hf : f_X6_copy fnd sbits ssize snum x1 x2 x3 x4 x5 = some (R, fnd_r, snum_r)) : Met l yX6_copy (ik_ws yX6_copy cX6_copy 8 (some .int)) ({ frames := 2, cells := 0, slots := 0, locals := 60 } : Room) (ik_P D cI cS [.ref o0, .int x1, .int x2, .int x3, .int x4, .int x5] (wz_X6ofs cI cS o0 np0 kp0 tp0 r0 t0 sh0 f0 s00 s10 s20 s30 s01 s11 s21 s31 isk fnd sbits ssize snum)) (ik_Q (some (.int R)) D (wz_X6ofs cI cS o0 np0 kp0 tp0 r0 t0 sh0 f0 s00 s10 s20 s30 s01 s11 s21 s31 isk fnd_r sbits ssize snum_r) (wz_X6ofs cI cS o0 np0 kp0 tp0 r0 t0 sh0 f0 s00 s10 s20 s30 s01 s11 s21 s31 isk fnd sbits ssize snum)) 0 0 (ik_in (wz_X6ofs cI cS o0 np0 kp0 tp0 r0 t0 sh0 f0 s00 s10 s20 s30 s01 s11 s21 s31 isk fnd sbits ssize snum)) := by
  refine ik_metW RX6 rfl (by decide) (Nat.le_of_ble_eq_true rfl) [(0, .ref o0), (1, .int x1), (2, .int x2), (3, .int x3), (4, .int x4), (5, .int x5)] rfl ?_
  intro p e s m below meth c C hr hlk
  unfold f_X6_copy at hf
  refine ik_iload_n C 1 rfl rfl dX6_copy_0 ?_
  obtain ⟨r1, hc1, hf⟩ := ik_b1s hf
  have hM := (c_X6_isSheet l D cI cS x1 r1 hc1)
  refine ik_goR (ik_runS (st := []) (As := [.int x1]) C hM ms_X6_isSheet wl_44_9 ⟨rfl, rfl, Nat.le_of_ble_eq_true rfl, Nat.le_of_ble_eq_true rfl⟩ [] rfl (by decide +kernel) rfl rfl (Nat.le_of_ble_eq_true rfl) dX6_copy_1 ⟨Nat.zero_le _, Nat.zero_le _⟩) rfl ?_
  refine ik_if_eq C 14 dX6_copy_4 (by decide) (fun hc => ?_) (fun hc => ?_)
  · have hf := ik_pos hc hf
    refine ik_aload_n C 0 rfl rfl dX6_copy_14 ?_
    refine ik_ldc C wl_5_3 dX6_copy_15 ?_
    obtain ⟨r2, g3, hc3, hf⟩ := ik_b2s hf
    have hM := (c_X6_tell l D cI cS o0 np0 kp0 tp0 r0 t0 sh0 f0 isk fnd (-1000001 : Int32) r2 g3 hc3)
    refine ik_goW (v := (some (.int r2))) (wc := (wz_X6of cI cS o0 np0 kp0 tp0 r0 t0 sh0 f0 isk fnd)) (w1 := (wz_X6of cI cS o0 np0 kp0 tp0 r0 t0 sh0 f0 isk g3)) [0, 1] [2, 3, 4, 5, 6, 7, 8, 9, 10] 11 rfl rfl (wz_X6ofs cI cS o0 np0 kp0 tp0 r0 t0 sh0 f0 s00 s10 s20 s30 s01 s11 s21 s31 isk g3 sbits ssize snum) rfl [(sh0, .inl (cS, 4, .inr (.inr (.inr (.inr (ik_ref4 s00 s10 s20 s30)))))), (s00, .inr (2, [.int (sbits 0), .int (ssize 0), .ref s01])), (s01, .inl (cI, 40, .inl (snum 0))), (s10, .inr (2, [.int (sbits 1), .int (ssize 1), .ref s11])), (s11, .inl (cI, 40, .inl (snum 1))), (s20, .inr (2, [.int (sbits 2), .int (ssize 2), .ref s21])), (s21, .inl (cI, 40, .inl (snum 2))), (s30, .inr (2, [.int (sbits 3), .int (ssize 3), .ref s31])), (s31, .inl (cI, 40, .inl (snum 3)))] rfl rfl rfl (by decide +kernel) (ik_runV (st := []) (As := [.int (-1000001 : Int32)]) C hM mv_X6_tell wl_5_16 ⟨rfl, rfl, Nat.le_of_ble_eq_true rfl, Nat.le_of_ble_eq_true rfl⟩ [0, 1] rfl (by decide +kernel) 0 rfl rfl rfl rfl (Nat.le_of_ble_eq_true rfl) dX6_copy_17 ⟨Nat.zero_le _, Nat.zero_le _⟩) rfl ?_
    obtain ⟨rfl, rfl, rfl⟩ := ik_e3 hf
    exact ik_iretW C hr hlk dX6_copy_20
  · have hf := ik_neg hc hf
    refine ik_iload_n C 3 rfl rfl dX6_copy_7 ?_
    obtain ⟨r2, hc2, hf⟩ := ik_b1s hf
    have hM := (c_X6_isSheet l D cI cS x3 r2 hc2)
    refine ik_goR (ik_runS (st := []) (As := [.int x3]) C hM ms_X6_isSheet wl_44_9 ⟨rfl, rfl, Nat.le_of_ble_eq_true rfl, Nat.le_of_ble_eq_true rfl⟩ [] rfl (by decide +kernel) rfl rfl (Nat.le_of_ble_eq_true rfl) dX6_copy_8 ⟨Nat.zero_le _, Nat.zero_le _⟩) rfl ?_
    refine ik_if_ne C 21 dX6_copy_11 (by decide) (fun hc => ?_) (fun hc => ?_)
    · have hf := ik_neg hc hf
      refine ik_aload_n C 0 rfl rfl dX6_copy_21 ?_
      refine ik_get C inlX6 0 rfl rfl 6 (by decide) wl_2_1 rfl (v := .ref sh0) rfl dX6_copy_22 ?_
      refine ik_iload_n C 1 rfl rfl dX6_copy_25 ?_
      have hg := ik_gdi hf
      have hf := ik_gdk hf
      refine ik_aald4 C 2 rfl hg (a0 := s00) (a1 := s10) (a2 := s20) (a3 := s30) rfl rfl rfl rfl dX6_copy_26 (fun hc => ?_) (fun hb0 hc => ?_) (fun hb0 hb1 hc => ?_) (fun hb0 hb1 hb2 hc => ?_)
      · have hf := ik_pos hc hf
        refine ik_astore C [(6, .ref s00), (0, .ref o0), (1, .int x1), (2, .int x2), (3, .int x3), (4, .int x4), (5, .int x5)] (by decide) rfl dX6_copy_27 ?_
        refine ik_aload_n C 1 rfl rfl dX6_copy_29 ?_
        refine ik_get C inlX6 0 rfl rfl 6 (by decide) wl_2_1 rfl (v := .ref sh0) rfl dX6_copy_30 ?_
        refine ik_iload_n C 4 rfl rfl dX6_copy_33 ?_
        have hg := ik_gdi hf
        have hf := ik_gdk hf
        refine ik_aald4 C 2 rfl hg (a0 := s00) (a1 := s10) (a2 := s20) (a3 := s30) rfl rfl rfl rfl dX6_copy_34 (fun hc => ?_) (fun hb0 hc => ?_) (fun hb0 hb1 hc => ?_) (fun hb0 hb1 hb2 hc => ?_)
        · have hf := ik_pos hc hf
          refine ik_astore C [(7, .ref s00), (6, .ref s00), (0, .ref o0), (1, .int x1), (2, .int x2), (3, .int x3), (4, .int x4), (5, .int x5)] (by decide) rfl dX6_copy_35 ?_
          refine ik_aload C 1 rfl dX6_copy_37 ?_
          obtain ⟨r3, hc3, hf⟩ := ik_b1s hf
          have hM := (c_X2_isMissing l D cI cS s00 s01 (sbits 0) (ssize 0) (snum 0) r3 hc3)
          refine ik_goR (ik_runV (st := []) (As := []) C hM mv_X2_isMissing wl_45_9 ⟨rfl, rfl, Nat.le_of_ble_eq_true rfl, Nat.le_of_ble_eq_true rfl⟩ [3, 4] rfl (by decide +kernel) 3 rfl rfl rfl rfl (Nat.le_of_ble_eq_true rfl) dX6_copy_39 ⟨Nat.zero_le _, Nat.zero_le _⟩) rfl ?_
          refine ik_if_ne C 53 dX6_copy_42 (by decide) (fun hc => ?_) (fun hc => ?_)
          · have hf := ik_neg hc hf
            refine ik_aload_n C 2 rfl rfl dX6_copy_53 ?_
            refine ik_ldc C wl_43_13 dX6_copy_54 ?_
            obtain ⟨r4, g5, hc5, hf⟩ := ik_b2s hf
            have hM := (c_X6_tell l D cI cS o0 np0 kp0 tp0 r0 t0 sh0 f0 isk fnd (-1000006 : Int32) r4 g5 hc5)
            refine ik_goW (v := (some (.int r4))) (wc := (wz_X6of cI cS o0 np0 kp0 tp0 r0 t0 sh0 f0 isk fnd)) (w1 := (wz_X6of cI cS o0 np0 kp0 tp0 r0 t0 sh0 f0 isk g5)) [0, 1] [2, 3, 4, 5, 6, 7, 8, 9, 10] 11 rfl rfl (wz_X6ofs cI cS o0 np0 kp0 tp0 r0 t0 sh0 f0 s00 s10 s20 s30 s01 s11 s21 s31 isk g5 sbits ssize snum) rfl [(sh0, .inl (cS, 4, .inr (.inr (.inr (.inr (ik_ref4 s00 s10 s20 s30)))))), (s00, .inr (2, [.int (sbits 0), .int (ssize 0), .ref s01])), (s01, .inl (cI, 40, .inl (snum 0))), (s10, .inr (2, [.int (sbits 1), .int (ssize 1), .ref s11])), (s11, .inl (cI, 40, .inl (snum 1))), (s20, .inr (2, [.int (sbits 2), .int (ssize 2), .ref s21])), (s21, .inl (cI, 40, .inl (snum 2))), (s30, .inr (2, [.int (sbits 3), .int (ssize 3), .ref s31])), (s31, .inl (cI, 40, .inl (snum 3)))] rfl rfl rfl (by decide +kernel) (ik_runV (st := []) (As := [.int (-1000006 : Int32)]) C hM mv_X6_tell wl_5_16 ⟨rfl, rfl, Nat.le_of_ble_eq_true rfl, Nat.le_of_ble_eq_true rfl⟩ [0, 1] rfl (by decide +kernel) 0 rfl rfl rfl rfl (Nat.le_of_ble_eq_true rfl) dX6_copy_56 ⟨Nat.zero_le _, Nat.zero_le _⟩) rfl ?_
            obtain ⟨rfl, rfl, rfl⟩ := ik_e3 hf
            exact ik_iretW C hr hlk dX6_copy_59
          · have hf := ik_pos hc hf
            refine ik_aload C 0 rfl dX6_copy_45 ?_
            obtain ⟨r4, hc4, hf⟩ := ik_b1s hf
            have hM := (c_X2_isMissing l D cI cS s00 s01 (sbits 0) (ssize 0) (snum 0) r4 hc4)
            refine ik_goR (ik_runV (st := []) (As := []) C hM mv_X2_isMissing wl_45_9 ⟨rfl, rfl, Nat.le_of_ble_eq_true rfl, Nat.le_of_ble_eq_true rfl⟩ [3, 4] rfl (by decide +kernel) 3 rfl rfl rfl rfl (Nat.le_of_ble_eq_true rfl) dX6_copy_47 ⟨Nat.zero_le _, Nat.zero_le _⟩) rfl ?_
            refine ik_if_eq C 60 dX6_copy_50 (by decide) (fun hc => ?_) (fun hc => ?_)
            · have hf := ik_pos hc hf
              refine ik_aload C 1 rfl dX6_copy_60 ?_
              refine ik_get C inlX2 3 rfl rfl 0 (by decide) wl_46_1 rfl (v := .int (sbits 0)) rfl dX6_copy_62 ?_
              refine ik_aload C 0 rfl dX6_copy_65 ?_
              refine ik_get C inlX2 3 rfl rfl 0 (by decide) wl_46_1 rfl (v := .int (sbits 0)) rfl dX6_copy_67 ?_
              refine ik_icmp_eq C 80 dX6_copy_70 (by decide) (fun hc => ?_) (fun hc => ?_)
              · have hf := ik_pos hc hf
                refine ik_aload C 1 rfl dX6_copy_80 ?_
                refine ik_iload_n C 4 rfl rfl dX6_copy_82 ?_
                refine ik_iload C 7 rfl dX6_copy_83 ?_
                obtain ⟨r5, hc5, hf⟩ := ik_b1s hf
                have hM := (c_X2_hasRange l D cI cS s00 s01 (sbits 0) (ssize 0) (snum 0) x2 x5 r5 hc5)
                refine ik_goR (ik_runV (st := []) (As := [.int x2, .int x5]) C hM mv_X2_hasRange wl_46_4 ⟨rfl, rfl, Nat.le_of_ble_eq_true rfl, Nat.le_of_ble_eq_true rfl⟩ [3, 4] rfl (by decide +kernel) 3 rfl rfl rfl rfl (Nat.le_of_ble_eq_true rfl) dX6_copy_85 ⟨Nat.zero_le _, Nat.zero_le _⟩) rfl ?_
                refine ik_if_eq C 103 dX6_copy_88 (by decide) (fun hc => ?_) (fun hc => ?_)
                · have hf := ik_pos hc hf
                  refine ik_aload_n C 2 rfl rfl dX6_copy_103 ?_
                  refine ik_ldc C wl_5_3 dX6_copy_104 ?_
                  obtain ⟨r6, g7, hc7, hf⟩ := ik_b2s hf
                  have hM := (c_X6_tell l D cI cS o0 np0 kp0 tp0 r0 t0 sh0 f0 isk fnd (-1000001 : Int32) r6 g7 hc7)
                  refine ik_goW (v := (some (.int r6))) (wc := (wz_X6of cI cS o0 np0 kp0 tp0 r0 t0 sh0 f0 isk fnd)) (w1 := (wz_X6of cI cS o0 np0 kp0 tp0 r0 t0 sh0 f0 isk g7)) [0, 1] [2, 3, 4, 5, 6, 7, 8, 9, 10] 11 rfl rfl (wz_X6ofs cI cS o0 np0 kp0 tp0 r0 t0 sh0 f0 s00 s10 s20 s30 s01 s11 s21 s31 isk g7 sbits ssize snum) rfl [(sh0, .inl (cS, 4, .inr (.inr (.inr (.inr (ik_ref4 s00 s10 s20 s30)))))), (s00, .inr (2, [.int (sbits 0), .int (ssize 0), .ref s01])), (s01, .inl (cI, 40, .inl (snum 0))), (s10, .inr (2, [.int (sbits 1), .int (ssize 1), .ref s11])), (s11, .inl (cI, 40, .inl (snum 1))), (s20, .inr (2, [.int (sbits 2), .int (ssize 2), .ref s21])), (s21, .inl (cI, 40, .inl (snum 2))), (s30, .inr (2, [.int (sbits 3), .int (ssize 3), .ref s31])), (s31, .inl (cI, 40, .inl (snum 3)))] rfl rfl rfl (by decide +kernel) (ik_runV (st := []) (As := [.int (-1000001 : Int32)]) C hM mv_X6_tell wl_5_16 ⟨rfl, rfl, Nat.le_of_ble_eq_true rfl, Nat.le_of_ble_eq_true rfl⟩ [0, 1] rfl (by decide +kernel) 0 rfl rfl rfl rfl (Nat.le_of_ble_eq_true rfl) dX6_copy_106 ⟨Nat.zero_le _, Nat.zero_le _⟩) rfl ?_
                  obtain ⟨rfl, rfl, rfl⟩ := ik_e3 hf
                  exact ik_iretW C hr hlk dX6_copy_109
                · have hf := ik_neg hc hf
                  refine ik_aload C 0 rfl dX6_copy_91 ?_
                  refine ik_iload C 6 rfl dX6_copy_93 ?_
                  refine ik_iload C 7 rfl dX6_copy_95 ?_
                  obtain ⟨r6, hc6, hf⟩ := ik_b1s hf
                  have hM := (c_X2_hasRange l D cI cS s00 s01 (sbits 0) (ssize 0) (snum 0) x4 x5 r6 hc6)
                  refine ik_goR (ik_runV (st := []) (As := [.int x4, .int x5]) C hM mv_X2_hasRange wl_46_4 ⟨rfl, rfl, Nat.le_of_ble_eq_true rfl, Nat.le_of_ble_eq_true rfl⟩ [3, 4] rfl (by decide +kernel) 3 rfl rfl rfl rfl (Nat.le_of_ble_eq_true rfl) dX6_copy_97 ⟨Nat.zero_le _, Nat.zero_le _⟩) rfl ?_
                  refine ik_if_ne C 110 dX6_copy_100 (by decide) (fun hc => ?_) (fun hc => ?_)
                  · have hf := ik_neg hc hf
                    refine ik_aload C 1 rfl dX6_copy_110 ?_
                    refine ik_get C inlX2 3 rfl rfl 2 (by decide) wl_46_2 rfl (v := .ref s01) rfl dX6_copy_112 ?_
                    refine ik_iload_n C 4 rfl rfl dX6_copy_115 ?_
                    refine ik_aload C 0 rfl dX6_copy_116 ?_
                    refine ik_get C inlX2 3 rfl rfl 2 (by decide) wl_46_2 rfl (v := .ref s01) rfl dX6_copy_118 ?_
                    refine ik_iload C 6 rfl dX6_copy_121 ?_
                    refine ik_iload C 7 rfl dX6_copy_123 ?_
                    have hg := ik_gci hf
                    have hf := ik_gck hf
                    refine ik_copy C wl_46_3 wl_23_19 wl_23_20 wl_23_21 4 4 rfl rfl hg (Nat.le_of_ble_eq_true rfl) (Nat.le_of_ble_eq_true rfl) (wz_X6ofs cI cS o0 np0 kp0 tp0 r0 t0 sh0 f0 s00 s10 s20 s30 s01 s11 s21 s31 isk fnd sbits ssize (va_up snum 0 (va_cpy (snum 0) (snum 0) (x2).toNatClampNeg (x4).toNatClampNeg (x5).toNatClampNeg))) rfl dX6_copy_125 ?_
                    refine ik_iload C 7 rfl dX6_copy_128 ?_
                    obtain ⟨rfl, rfl, rfl⟩ := ik_e3 hf
                    exact ik_iretW C hr hlk dX6_copy_130
                  · have hf := ik_pos hc hf
                    refine ik_aload_n C 2 rfl rfl dX6_copy_103 ?_
                    refine ik_ldc C wl_5_3 dX6_copy_104 ?_
                    obtain ⟨r7, g8, hc8, hf⟩ := ik_b2s hf
                    have hM := (c_X6_tell l D cI cS o0 np0 kp0 tp0 r0 t0 sh0 f0 isk fnd (-1000001 : Int32) r7 g8 hc8)
                    refine ik_goW (v := (some (.int r7))) (wc := (wz_X6of cI cS o0 np0 kp0 tp0 r0 t0 sh0 f0 isk fnd)) (w1 := (wz_X6of cI cS o0 np0 kp0 tp0 r0 t0 sh0 f0 isk g8)) [0, 1] [2, 3, 4, 5, 6, 7, 8, 9, 10] 11 rfl rfl (wz_X6ofs cI cS o0 np0 kp0 tp0 r0 t0 sh0 f0 s00 s10 s20 s30 s01 s11 s21 s31 isk g8 sbits ssize snum) rfl [(sh0, .inl (cS, 4, .inr (.inr (.inr (.inr (ik_ref4 s00 s10 s20 s30)))))), (s00, .inr (2, [.int (sbits 0), .int (ssize 0), .ref s01])), (s01, .inl (cI, 40, .inl (snum 0))), (s10, .inr (2, [.int (sbits 1), .int (ssize 1), .ref s11])), (s11, .inl (cI, 40, .inl (snum 1))), (s20, .inr (2, [.int (sbits 2), .int (ssize 2), .ref s21])), (s21, .inl (cI, 40, .inl (snum 2))), (s30, .inr (2, [.int (sbits 3), .int (ssize 3), .ref s31])), (s31, .inl (cI, 40, .inl (snum 3)))] rfl rfl rfl (by decide +kernel) (ik_runV (st := []) (As := [.int (-1000001 : Int32)]) C hM mv_X6_tell wl_5_16 ⟨rfl, rfl, Nat.le_of_ble_eq_true rfl, Nat.le_of_ble_eq_true rfl⟩ [0, 1] rfl (by decide +kernel) 0 rfl rfl rfl rfl (Nat.le_of_ble_eq_true rfl) dX6_copy_106 ⟨Nat.zero_le _, Nat.zero_le _⟩) rfl ?_
                    obtain ⟨rfl, rfl, rfl⟩ := ik_e3 hf
                    exact ik_iretW C hr hlk dX6_copy_109
              · have hf := ik_neg hc hf
                refine ik_aload_n C 2 rfl rfl dX6_copy_73 ?_
                refine ik_ldc C wl_43_14 dX6_copy_74 ?_
                obtain ⟨r5, g6, hc6, hf⟩ := ik_b2s hf
                have hM := (c_X6_tell l D cI cS o0 np0 kp0 tp0 r0 t0 sh0 f0 isk fnd (-1000003 : Int32) r5 g6 hc6)
                refine ik_goW (v := (some (.int r5))) (wc := (wz_X6of cI cS o0 np0 kp0 tp0 r0 t0 sh0 f0 isk fnd)) (w1 := (wz_X6of cI cS o0 np0 kp0 tp0 r0 t0 sh0 f0 isk g6)) [0, 1] [2, 3, 4, 5, 6, 7, 8, 9, 10] 11 rfl rfl (wz_X6ofs cI cS o0 np0 kp0 tp0 r0 t0 sh0 f0 s00 s10 s20 s30 s01 s11 s21 s31 isk g6 sbits ssize snum) rfl [(sh0, .inl (cS, 4, .inr (.inr (.inr (.inr (ik_ref4 s00 s10 s20 s30)))))), (s00, .inr (2, [.int (sbits 0), .int (ssize 0), .ref s01])), (s01, .inl (cI, 40, .inl (snum 0))), (s10, .inr (2, [.int (sbits 1), .int (ssize 1), .ref s11])), (s11, .inl (cI, 40, .inl (snum 1))), (s20, .inr (2, [.int (sbits 2), .int (ssize 2), .ref s21])), (s21, .inl (cI, 40, .inl (snum 2))), (s30, .inr (2, [.int (sbits 3), .int (ssize 3), .ref s31])), (s31, .inl (cI, 40, .inl (snum 3)))] rfl rfl rfl (by decide +kernel) (ik_runV (st := []) (As := [.int (-1000003 : Int32)]) C hM mv_X6_tell wl_5_16 ⟨rfl, rfl, Nat.le_of_ble_eq_true rfl, Nat.le_of_ble_eq_true rfl⟩ [0, 1] rfl (by decide +kernel) 0 rfl rfl rfl rfl (Nat.le_of_ble_eq_true rfl) dX6_copy_76 ⟨Nat.zero_le _, Nat.zero_le _⟩) rfl ?_
                obtain ⟨rfl, rfl, rfl⟩ := ik_e3 hf
                exact ik_iretW C hr hlk dX6_copy_79
            · have hf := ik_neg hc hf
              refine ik_aload_n C 2 rfl rfl dX6_copy_53 ?_
              refine ik_ldc C wl_43_13 dX6_copy_54 ?_
              obtain ⟨r5, g6, hc6, hf⟩ := ik_b2s hf
              have hM := (c_X6_tell l D cI cS o0 np0 kp0 tp0 r0 t0 sh0 f0 isk fnd (-1000006 : Int32) r5 g6 hc6)
              refine ik_goW (v := (some (.int r5))) (wc := (wz_X6of cI cS o0 np0 kp0 tp0 r0 t0 sh0 f0 isk fnd)) (w1 := (wz_X6of cI cS o0 np0 kp0 tp0 r0 t0 sh0 f0 isk g6)) [0, 1] [2, 3, 4, 5, 6, 7, 8, 9, 10] 11 rfl rfl (wz_X6ofs cI cS o0 np0 kp0 tp0 r0 t0 sh0 f0 s00 s10 s20 s30 s01 s11 s21 s31 isk g6 sbits ssize snum) rfl [(sh0, .inl (cS, 4, .inr (.inr (.inr (.inr (ik_ref4 s00 s10 s20 s30)))))), (s00, .inr (2, [.int (sbits 0), .int (ssize 0), .ref s01])), (s01, .inl (cI, 40, .inl (snum 0))), (s10, .inr (2, [.int (sbits 1), .int (ssize 1), .ref s11])), (s11, .inl (cI, 40, .inl (snum 1))), (s20, .inr (2, [.int (sbits 2), .int (ssize 2), .ref s21])), (s21, .inl (cI, 40, .inl (snum 2))), (s30, .inr (2, [.int (sbits 3), .int (ssize 3), .ref s31])), (s31, .inl (cI, 40, .inl (snum 3)))] rfl rfl rfl (by decide +kernel) (ik_runV (st := []) (As := [.int (-1000006 : Int32)]) C hM mv_X6_tell wl_5_16 ⟨rfl, rfl, Nat.le_of_ble_eq_true rfl, Nat.le_of_ble_eq_true rfl⟩ [0, 1] rfl (by decide +kernel) 0 rfl rfl rfl rfl (Nat.le_of_ble_eq_true rfl) dX6_copy_56 ⟨Nat.zero_le _, Nat.zero_le _⟩) rfl ?_
              obtain ⟨rfl, rfl, rfl⟩ := ik_e3 hf
              exact ik_iretW C hr hlk dX6_copy_59
        · have hf := ik_neg hb0 hf; have hf := ik_pos hc hf
          refine ik_astore C [(7, .ref s10), (6, .ref s00), (0, .ref o0), (1, .int x1), (2, .int x2), (3, .int x3), (4, .int x4), (5, .int x5)] (by decide) rfl dX6_copy_35 ?_
          refine ik_aload C 1 rfl dX6_copy_37 ?_
          obtain ⟨r3, hc3, hf⟩ := ik_b1s hf
          have hM := (c_X2_isMissing l D cI cS s00 s01 (sbits 0) (ssize 0) (snum 0) r3 hc3)
          refine ik_goR (ik_runV (st := []) (As := []) C hM mv_X2_isMissing wl_45_9 ⟨rfl, rfl, Nat.le_of_ble_eq_true rfl, Nat.le_of_ble_eq_true rfl⟩ [3, 4] rfl (by decide +kernel) 3 rfl rfl rfl rfl (Nat.le_of_ble_eq_true rfl) dX6_copy_39 ⟨Nat.zero_le _, Nat.zero_le _⟩) rfl ?_
          refine ik_if_ne C 53 dX6_copy_42 (by decide) (fun hc => ?_) (fun hc => ?_)
          · have hf := ik_neg hc hf
            refine ik_aload_n C 2 rfl rfl dX6_copy_53 ?_
            refine ik_ldc C wl_43_13 dX6_copy_54 ?_
            obtain ⟨r4, g5, hc5, hf⟩ := ik_b2s hf
            have hM := (c_X6_tell l D cI cS o0 np0 kp0 tp0 r0 t0 sh0 f0 isk fnd (-1000006 : Int32) r4 g5 hc5)
            refine ik_goW (v := (some (.int r4))) (wc := (wz_X6of cI cS o0 np0 kp0 tp0 r0 t0 sh0 f0 isk fnd)) (w1 := (wz_X6of cI cS o0 np0 kp0 tp0 r0 t0 sh0 f0 isk g5)) [0, 1] [2, 3, 4, 5, 6, 7, 8, 9, 10] 11 rfl rfl (wz_X6ofs cI cS o0 np0 kp0 tp0 r0 t0 sh0 f0 s00 s10 s20 s30 s01 s11 s21 s31 isk g5 sbits ssize snum) rfl [(sh0, .inl (cS, 4, .inr (.inr (.inr (.inr (ik_ref4 s00 s10 s20 s30)))))), (s00, .inr (2, [.int (sbits 0), .int (ssize 0), .ref s01])), (s01, .inl (cI, 40, .inl (snum 0))), (s10, .inr (2, [.int (sbits 1), .int (ssize 1), .ref s11])), (s11, .inl (cI, 40, .inl (snum 1))), (s20, .inr (2, [.int (sbits 2), .int (ssize 2), .ref s21])), (s21, .inl (cI, 40, .inl (snum 2))), (s30, .inr (2, [.int (sbits 3), .int (ssize 3), .ref s31])), (s31, .inl (cI, 40, .inl (snum 3)))] rfl rfl rfl (by decide +kernel) (ik_runV (st := []) (As := [.int (-1000006 : Int32)]) C hM mv_X6_tell wl_5_16 ⟨rfl, rfl, Nat.le_of_ble_eq_true rfl, Nat.le_of_ble_eq_true rfl⟩ [0, 1] rfl (by decide +kernel) 0 rfl rfl rfl rfl (Nat.le_of_ble_eq_true rfl) dX6_copy_56 ⟨Nat.zero_le _, Nat.zero_le _⟩) rfl ?_
            obtain ⟨rfl, rfl, rfl⟩ := ik_e3 hf
            exact ik_iretW C hr hlk dX6_copy_59
          · have hf := ik_pos hc hf
            refine ik_aload C 0 rfl dX6_copy_45 ?_
            obtain ⟨r4, hc4, hf⟩ := ik_b1s hf
            have hM := (c_X2_isMissing l D cI cS s10 s11 (sbits 1) (ssize 1) (snum 1) r4 hc4)
            refine ik_goR (ik_runV (st := []) (As := []) C hM mv_X2_isMissing wl_45_9 ⟨rfl, rfl, Nat.le_of_ble_eq_true rfl, Nat.le_of_ble_eq_true rfl⟩ [5, 6] rfl (by decide +kernel) 5 rfl rfl rfl rfl (Nat.le_of_ble_eq_true rfl) dX6_copy_47 ⟨Nat.zero_le _, Nat.zero_le _⟩) rfl ?_
            refine ik_if_eq C 60 dX6_copy_50 (by decide) (fun hc => ?_) (fun hc => ?_)
            · have hf := ik_pos hc hf
              refine ik_aload C 1 rfl dX6_copy_60 ?_
              refine ik_get C inlX2 3 rfl rfl 0 (by decide) wl_46_1 rfl (v := .int (sbits 0)) rfl dX6_copy_62 ?_
              refine ik_aload C 0 rfl dX6_copy_65 ?_
              refine ik_get C inlX2 5 rfl rfl 0 (by decide) wl_46_1 rfl (v := .int (sbits 1)) rfl dX6_copy_67 ?_
              refine ik_icmp_eq C 80 dX6_copy_70 (by decide) (fun hc => ?_) (fun hc => ?_)
              · have hf := ik_pos hc hf
                refine ik_aload C 1 rfl dX6_copy_80 ?_
                refine ik_iload_n C 4 rfl rfl dX6_copy_82 ?_
                refine ik_iload C 7 rfl dX6_copy_83 ?_
                obtain ⟨r5, hc5, hf⟩ := ik_b1s hf
                have hM := (c_X2_hasRange l D cI cS s00 s01 (sbits 0) (ssize 0) (snum 0) x2 x5 r5 hc5)
                refine ik_goR (ik_runV (st := []) (As := [.int x2, .int x5]) C hM mv_X2_hasRange wl_46_4 ⟨rfl, rfl, Nat.le_of_ble_eq_true rfl, Nat.le_of_ble_eq_true rfl⟩ [3, 4] rfl (by decide +kernel) 3 rfl rfl rfl rfl (Nat.le_of_ble_eq_true rfl) dX6_copy_85 ⟨Nat.zero_le _, Nat.zero_le _⟩) rfl ?_
                refine ik_if_eq C 103 dX6_copy_88 (by decide) (fun hc => ?_) (fun hc => ?_)
                · have hf := ik_pos hc hf
                  refine ik_aload_n C 2 rfl rfl dX6_copy_103 ?_
                  refine ik_ldc C wl_5_3 dX6_copy_104 ?_
                  obtain ⟨r6, g7, hc7, hf⟩ := ik_b2s hf
                  have hM := (c_X6_tell l D cI cS o0 np0 kp0 tp0 r0 t0 sh0 f0 isk fnd (-1000001 : Int32) r6 g7 hc7)
                  refine ik_goW (v := (some (.int r6))) (wc := (wz_X6of cI cS o0 np0 kp0 tp0 r0 t0 sh0 f0 isk fnd)) (w1 := (wz_X6of cI cS o0 np0 kp0 tp0 r0 t0 sh0 f0 isk g7)) [0, 1] [2, 3, 4, 5, 6, 7, 8, 9, 10] 11 rfl rfl (wz_X6ofs cI cS o0 np0 kp0 tp0 r0 t0 sh0 f0 s00 s10 s20 s30 s01 s11 s21 s31 isk g7 sbits ssize snum) rfl [(sh0, .inl (cS, 4, .inr (.inr (.inr (.inr (ik_ref4 s00 s10 s20 s30)))))), (s00, .inr (2, [.int (sbits 0), .int (ssize 0), .ref s01])), (s01, .inl (cI, 40, .inl (snum 0))), (s10, .inr (2, [.int (sbits 1), .int (ssize 1), .ref s11])), (s11, .inl (cI, 40, .inl (snum 1))), (s20, .inr (2, [.int (sbits 2), .int (ssize 2), .ref s21])), (s21, .inl (cI, 40, .inl (snum 2))), (s30, .inr (2, [.int (sbits 3), .int (ssize 3), .ref s31])), (s31, .inl (cI, 40, .inl (snum 3)))] rfl rfl rfl (by decide +kernel) (ik_runV (st := []) (As := [.int (-1000001 : Int32)]) C hM mv_X6_tell wl_5_16 ⟨rfl, rfl, Nat.le_of_ble_eq_true rfl, Nat.le_of_ble_eq_true rfl⟩ [0, 1] rfl (by decide +kernel) 0 rfl rfl rfl rfl (Nat.le_of_ble_eq_true rfl) dX6_copy_106 ⟨Nat.zero_le _, Nat.zero_le _⟩) rfl ?_
                  obtain ⟨rfl, rfl, rfl⟩ := ik_e3 hf
                  exact ik_iretW C hr hlk dX6_copy_109
                · have hf := ik_neg hc hf
                  refine ik_aload C 0 rfl dX6_copy_91 ?_
                  refine ik_iload C 6 rfl dX6_copy_93 ?_
                  refine ik_iload C 7 rfl dX6_copy_95 ?_
                  obtain ⟨r6, hc6, hf⟩ := ik_b1s hf
                  have hM := (c_X2_hasRange l D cI cS s10 s11 (sbits 1) (ssize 1) (snum 1) x4 x5 r6 hc6)
                  refine ik_goR (ik_runV (st := []) (As := [.int x4, .int x5]) C hM mv_X2_hasRange wl_46_4 ⟨rfl, rfl, Nat.le_of_ble_eq_true rfl, Nat.le_of_ble_eq_true rfl⟩ [5, 6] rfl (by decide +kernel) 5 rfl rfl rfl rfl (Nat.le_of_ble_eq_true rfl) dX6_copy_97 ⟨Nat.zero_le _, Nat.zero_le _⟩) rfl ?_
                  refine ik_if_ne C 110 dX6_copy_100 (by decide) (fun hc => ?_) (fun hc => ?_)
                  · have hf := ik_neg hc hf
                    refine ik_aload C 1 rfl dX6_copy_110 ?_
                    refine ik_get C inlX2 3 rfl rfl 2 (by decide) wl_46_2 rfl (v := .ref s01) rfl dX6_copy_112 ?_
                    refine ik_iload_n C 4 rfl rfl dX6_copy_115 ?_
                    refine ik_aload C 0 rfl dX6_copy_116 ?_
                    refine ik_get C inlX2 5 rfl rfl 2 (by decide) wl_46_2 rfl (v := .ref s11) rfl dX6_copy_118 ?_
                    refine ik_iload C 6 rfl dX6_copy_121 ?_
                    refine ik_iload C 7 rfl dX6_copy_123 ?_
                    have hg := ik_gci hf
                    have hf := ik_gck hf
                    refine ik_copy C wl_46_3 wl_23_19 wl_23_20 wl_23_21 4 6 rfl rfl hg (Nat.le_of_ble_eq_true rfl) (Nat.le_of_ble_eq_true rfl) (wz_X6ofs cI cS o0 np0 kp0 tp0 r0 t0 sh0 f0 s00 s10 s20 s30 s01 s11 s21 s31 isk fnd sbits ssize (va_up snum 1 (va_cpy (snum 0) (snum 1) (x2).toNatClampNeg (x4).toNatClampNeg (x5).toNatClampNeg))) rfl dX6_copy_125 ?_
                    refine ik_iload C 7 rfl dX6_copy_128 ?_
                    obtain ⟨rfl, rfl, rfl⟩ := ik_e3 hf
                    exact ik_iretW C hr hlk dX6_copy_130
                  · have hf := ik_pos hc hf
                    refine ik_aload_n C 2 rfl rfl dX6_copy_103 ?_
                    refine ik_ldc C wl_5_3 dX6_copy_104 ?_
                    obtain ⟨r7, g8, hc8, hf⟩ := ik_b2s hf
                    have hM := (c_X6_tell l D cI cS o0 np0 kp0 tp0 r0 t0 sh0 f0 isk fnd (-1000001 : Int32) r7 g8 hc8)
                    refine ik_goW (v := (some (.int r7))) (wc := (wz_X6of cI cS o0 np0 kp0 tp0 r0 t0 sh0 f0 isk fnd)) (w1 := (wz_X6of cI cS o0 np0 kp0 tp0 r0 t0 sh0 f0 isk g8)) [0, 1] [2, 3, 4, 5, 6, 7, 8, 9, 10] 11 rfl rfl (wz_X6ofs cI cS o0 np0 kp0 tp0 r0 t0 sh0 f0 s00 s10 s20 s30 s01 s11 s21 s31 isk g8 sbits ssize snum) rfl [(sh0, .inl (cS, 4, .inr (.inr (.inr (.inr (ik_ref4 s00 s10 s20 s30)))))), (s00, .inr (2, [.int (sbits 0), .int (ssize 0), .ref s01])), (s01, .inl (cI, 40, .inl (snum 0))), (s10, .inr (2, [.int (sbits 1), .int (ssize 1), .ref s11])), (s11, .inl (cI, 40, .inl (snum 1))), (s20, .inr (2, [.int (sbits 2), .int (ssize 2), .ref s21])), (s21, .inl (cI, 40, .inl (snum 2))), (s30, .inr (2, [.int (sbits 3), .int (ssize 3), .ref s31])), (s31, .inl (cI, 40, .inl (snum 3)))] rfl rfl rfl (by decide +kernel) (ik_runV (st := []) (As := [.int (-1000001 : Int32)]) C hM mv_X6_tell wl_5_16 ⟨rfl, rfl, Nat.le_of_ble_eq_true rfl, Nat.le_of_ble_eq_true rfl⟩ [0, 1] rfl (by decide +kernel) 0 rfl rfl rfl rfl (Nat.le_of_ble_eq_true rfl) dX6_copy_106 ⟨Nat.zero_le _, Nat.zero_le _⟩) rfl ?_
                    obtain ⟨rfl, rfl, rfl⟩ := ik_e3 hf
                    exact ik_iretW C hr hlk dX6_copy_109
              · have hf := ik_neg hc hf
                refine ik_aload_n C 2 rfl rfl dX6_copy_73 ?_
                refine ik_ldc C wl_43_14 dX6_copy_74 ?_
                obtain ⟨r5, g6, hc6, hf⟩ := ik_b2s hf
                have hM := (c_X6_tell l D cI cS o0 np0 kp0 tp0 r0 t0 sh0 f0 isk fnd (-1000003 : Int32) r5 g6 hc6)
                refine ik_goW (v := (some (.int r5))) (wc := (wz_X6of cI cS o0 np0 kp0 tp0 r0 t0 sh0 f0 isk fnd)) (w1 := (wz_X6of cI cS o0 np0 kp0 tp0 r0 t0 sh0 f0 isk g6)) [0, 1] [2, 3, 4, 5, 6, 7, 8, 9, 10] 11 rfl rfl (wz_X6ofs cI cS o0 np0 kp0 tp0 r0 t0 sh0 f0 s00 s10 s20 s30 s01 s11 s21 s31 isk g6 sbits ssize snum) rfl [(sh0, .inl (cS, 4, .inr (.inr (.inr (.inr (ik_ref4 s00 s10 s20 s30)))))), (s00, .inr (2, [.int (sbits 0), .int (ssize 0), .ref s01])), (s01, .inl (cI, 40, .inl (snum 0))), (s10, .inr (2, [.int (sbits 1), .int (ssize 1), .ref s11])), (s11, .inl (cI, 40, .inl (snum 1))), (s20, .inr (2, [.int (sbits 2), .int (ssize 2), .ref s21])), (s21, .inl (cI, 40, .inl (snum 2))), (s30, .inr (2, [.int (sbits 3), .int (ssize 3), .ref s31])), (s31, .inl (cI, 40, .inl (snum 3)))] rfl rfl rfl (by decide +kernel) (ik_runV (st := []) (As := [.int (-1000003 : Int32)]) C hM mv_X6_tell wl_5_16 ⟨rfl, rfl, Nat.le_of_ble_eq_true rfl, Nat.le_of_ble_eq_true rfl⟩ [0, 1] rfl (by decide +kernel) 0 rfl rfl rfl rfl (Nat.le_of_ble_eq_true rfl) dX6_copy_76 ⟨Nat.zero_le _, Nat.zero_le _⟩) rfl ?_
                obtain ⟨rfl, rfl, rfl⟩ := ik_e3 hf
                exact ik_iretW C hr hlk dX6_copy_79
            · have hf := ik_neg hc hf
              refine ik_aload_n C 2 rfl rfl dX6_copy_53 ?_
              refine ik_ldc C wl_43_13 dX6_copy_54 ?_
              obtain ⟨r5, g6, hc6, hf⟩ := ik_b2s hf
              have hM := (c_X6_tell l D cI cS o0 np0 kp0 tp0 r0 t0 sh0 f0 isk fnd (-1000006 : Int32) r5 g6 hc6)
              refine ik_goW (v := (some (.int r5))) (wc := (wz_X6of cI cS o0 np0 kp0 tp0 r0 t0 sh0 f0 isk fnd)) (w1 := (wz_X6of cI cS o0 np0 kp0 tp0 r0 t0 sh0 f0 isk g6)) [0, 1] [2, 3, 4, 5, 6, 7, 8, 9, 10] 11 rfl rfl (wz_X6ofs cI cS o0 np0 kp0 tp0 r0 t0 sh0 f0 s00 s10 s20 s30 s01 s11 s21 s31 isk g6 sbits ssize snum) rfl [(sh0, .inl (cS, 4, .inr (.inr (.inr (.inr (ik_ref4 s00 s10 s20 s30)))))), (s00, .inr (2, [.int (sbits 0), .int (ssize 0), .ref s01])), (s01, .inl (cI, 40, .inl (snum 0))), (s10, .inr (2, [.int (sbits 1), .int (ssize 1), .ref s11])), (s11, .inl (cI, 40, .inl (snum 1))), (s20, .inr (2, [.int (sbits 2), .int (ssize 2), .ref s21])), (s21, .inl (cI, 40, .inl (snum 2))), (s30, .inr (2, [.int (sbits 3), .int (ssize 3), .ref s31])), (s31, .inl (cI, 40, .inl (snum 3)))] rfl rfl rfl (by decide +kernel) (ik_runV (st := []) (As := [.int (-1000006 : Int32)]) C hM mv_X6_tell wl_5_16 ⟨rfl, rfl, Nat.le_of_ble_eq_true rfl, Nat.le_of_ble_eq_true rfl⟩ [0, 1] rfl (by decide +kernel) 0 rfl rfl rfl rfl (Nat.le_of_ble_eq_true rfl) dX6_copy_56 ⟨Nat.zero_le _, Nat.zero_le _⟩) rfl ?_
              obtain ⟨rfl, rfl, rfl⟩ := ik_e3 hf
              exact ik_iretW C hr hlk dX6_copy_59
        · have hf := ik_neg hb0 hf; have hf := ik_neg hb1 hf; have hf := ik_pos hc hf
          refine ik_astore C [(7, .ref s20), (6, .ref s00), (0, .ref o0), (1, .int x1), (2, .int x2), (3, .int x3), (4, .int x4), (5, .int x5)] (by decide) rfl dX6_copy_35 ?_
          refine ik_aload C 1 rfl dX6_copy_37 ?_
          obtain ⟨r3, hc3, hf⟩ := ik_b1s hf
          have hM := (c_X2_isMissing l D cI cS s00 s01 (sbits 0) (ssize 0) (snum 0) r3 hc3)
          refine ik_goR (ik_runV (st := []) (As := []) C hM mv_X2_isMissing wl_45_9 ⟨rfl, rfl, Nat.le_of_ble_eq_true rfl, Nat.le_of_ble_eq_true rfl⟩ [3, 4] rfl (by decide +kernel) 3 rfl rfl rfl rfl (Nat.le_of_ble_eq_true rfl) dX6_copy_39 ⟨Nat.zero_le _, Nat.zero_le _⟩) rfl ?_
          refine ik_if_ne C 53 dX6_copy_42 (by decide) (fun hc => ?_) (fun hc => ?_)
          · have hf := ik_neg hc hf
            refine ik_aload_n C 2 rfl rfl dX6_copy_53 ?_
            refine ik_ldc C wl_43_13 dX6_copy_54 ?_
            obtain ⟨r4, g5, hc5, hf⟩ := ik_b2s hf
            have hM := (c_X6_tell l D cI cS o0 np0 kp0 tp0 r0 t0 sh0 f0 isk fnd (-1000006 : Int32) r4 g5 hc5)
            refine ik_goW (v := (some (.int r4))) (wc := (wz_X6of cI cS o0 np0 kp0 tp0 r0 t0 sh0 f0 isk fnd)) (w1 := (wz_X6of cI cS o0 np0 kp0 tp0 r0 t0 sh0 f0 isk g5)) [0, 1] [2, 3, 4, 5, 6, 7, 8, 9, 10] 11 rfl rfl (wz_X6ofs cI cS o0 np0 kp0 tp0 r0 t0 sh0 f0 s00 s10 s20 s30 s01 s11 s21 s31 isk g5 sbits ssize snum) rfl [(sh0, .inl (cS, 4, .inr (.inr (.inr (.inr (ik_ref4 s00 s10 s20 s30)))))), (s00, .inr (2, [.int (sbits 0), .int (ssize 0), .ref s01])), (s01, .inl (cI, 40, .inl (snum 0))), (s10, .inr (2, [.int (sbits 1), .int (ssize 1), .ref s11])), (s11, .inl (cI, 40, .inl (snum 1))), (s20, .inr (2, [.int (sbits 2), .int (ssize 2), .ref s21])), (s21, .inl (cI, 40, .inl (snum 2))), (s30, .inr (2, [.int (sbits 3), .int (ssize 3), .ref s31])), (s31, .inl (cI, 40, .inl (snum 3)))] rfl rfl rfl (by decide +kernel) (ik_runV (st := []) (As := [.int (-1000006 : Int32)]) C hM mv_X6_tell wl_5_16 ⟨rfl, rfl, Nat.le_of_ble_eq_true rfl, Nat.le_of_ble_eq_true rfl⟩ [0, 1] rfl (by decide +kernel) 0 rfl rfl rfl rfl (Nat.le_of_ble_eq_true rfl) dX6_copy_56 ⟨Nat.zero_le _, Nat.zero_le _⟩) rfl ?_
            obtain ⟨rfl, rfl, rfl⟩ := ik_e3 hf
            exact ik_iretW C hr hlk dX6_copy_59
          · have hf := ik_pos hc hf
            refine ik_aload C 0 rfl dX6_copy_45 ?_
            obtain ⟨r4, hc4, hf⟩ := ik_b1s hf
            have hM := (c_X2_isMissing l D cI cS s20 s21 (sbits 2) (ssize 2) (snum 2) r4 hc4)
            refine ik_goR (ik_runV (st := []) (As := []) C hM mv_X2_isMissing wl_45_9 ⟨rfl, rfl, Nat.le_of_ble_eq_true rfl, Nat.le_of_ble_eq_true rfl⟩ [7, 8] rfl (by decide +kernel) 7 rfl rfl rfl rfl (Nat.le_of_ble_eq_true rfl) dX6_copy_47 ⟨Nat.zero_le _, Nat.zero_le _⟩) rfl ?_
            refine ik_if_eq C 60 dX6_copy_50 (by decide) (fun hc => ?_) (fun hc => ?_)
            · have hf := ik_pos hc hf
              refine ik_aload C 1 rfl dX6_copy_60 ?_
              refine ik_get C inlX2 3 rfl rfl 0 (by decide) wl_46_1 rfl (v := .int (sbits 0)) rfl dX6_copy_62 ?_
              refine ik_aload C 0 rfl dX6_copy_65 ?_
              refine ik_get C inlX2 7 rfl rfl 0 (by decide) wl_46_1 rfl (v := .int (sbits 2)) rfl dX6_copy_67 ?_
              refine ik_icmp_eq C 80 dX6_copy_70 (by decide) (fun hc => ?_) (fun hc => ?_)
              · have hf := ik_pos hc hf
                refine ik_aload C 1 rfl dX6_copy_80 ?_
                refine ik_iload_n C 4 rfl rfl dX6_copy_82 ?_
                refine ik_iload C 7 rfl dX6_copy_83 ?_
                obtain ⟨r5, hc5, hf⟩ := ik_b1s hf
                have hM := (c_X2_hasRange l D cI cS s00 s01 (sbits 0) (ssize 0) (snum 0) x2 x5 r5 hc5)
                refine ik_goR (ik_runV (st := []) (As := [.int x2, .int x5]) C hM mv_X2_hasRange wl_46_4 ⟨rfl, rfl, Nat.le_of_ble_eq_true rfl, Nat.le_of_ble_eq_true rfl⟩ [3, 4] rfl (by decide +kernel) 3 rfl rfl rfl rfl (Nat.le_of_ble_eq_true rfl) dX6_copy_85 ⟨Nat.zero_le _, Nat.zero_le _⟩) rfl ?_
                refine ik_if_eq C 103 dX6_copy_88 (by decide) (fun hc => ?_) (fun hc => ?_)
                · have hf := ik_pos hc hf
                  refine ik_aload_n C 2 rfl rfl dX6_copy_103 ?_
                  refine ik_ldc C wl_5_3 dX6_copy_104 ?_
                  obtain ⟨r6, g7, hc7, hf⟩ := ik_b2s hf
                  have hM := (c_X6_tell l D cI cS o0 np0 kp0 tp0 r0 t0 sh0 f0 isk fnd (-1000001 : Int32) r6 g7 hc7)
                  refine ik_goW (v := (some (.int r6))) (wc := (wz_X6of cI cS o0 np0 kp0 tp0 r0 t0 sh0 f0 isk fnd)) (w1 := (wz_X6of cI cS o0 np0 kp0 tp0 r0 t0 sh0 f0 isk g7)) [0, 1] [2, 3, 4, 5, 6, 7, 8, 9, 10] 11 rfl rfl (wz_X6ofs cI cS o0 np0 kp0 tp0 r0 t0 sh0 f0 s00 s10 s20 s30 s01 s11 s21 s31 isk g7 sbits ssize snum) rfl [(sh0, .inl (cS, 4, .inr (.inr (.inr (.inr (ik_ref4 s00 s10 s20 s30)))))), (s00, .inr (2, [.int (sbits 0), .int (ssize 0), .ref s01])), (s01, .inl (cI, 40, .inl (snum 0))), (s10, .inr (2, [.int (sbits 1), .int (ssize 1), .ref s11])), (s11, .inl (cI, 40, .inl (snum 1))), (s20, .inr (2, [.int (sbits 2), .int (ssize 2), .ref s21])), (s21, .inl (cI, 40, .inl (snum 2))), (s30, .inr (2, [.int (sbits 3), .int (ssize 3), .ref s31])), (s31, .inl (cI, 40, .inl (snum 3)))] rfl rfl rfl (by decide +kernel) (ik_runV (st := []) (As := [.int (-1000001 : Int32)]) C hM mv_X6_tell wl_5_16 ⟨rfl, rfl, Nat.le_of_ble_eq_true rfl, Nat.le_of_ble_eq_true rfl⟩ [0, 1] rfl (by decide +kernel) 0 rfl rfl rfl rfl (Nat.le_of_ble_eq_true rfl) dX6_copy_106 ⟨Nat.zero_le _, Nat.zero_le _⟩) rfl ?_
                  obtain ⟨rfl, rfl, rfl⟩ := ik_e3 hf
                  exact ik_iretW C hr hlk dX6_copy_109
                · have hf := ik_neg hc hf
                  refine ik_aload C 0 rfl dX6_copy_91 ?_
                  refine ik_iload C 6 rfl dX6_copy_93 ?_
                  refine ik_iload C 7 rfl dX6_copy_95 ?_
                  obtain ⟨r6, hc6, hf⟩ := ik_b1s hf
                  have hM := (c_X2_hasRange l D cI cS s20 s21 (sbits 2) (ssize 2) (snum 2) x4 x5 r6 hc6)
                  refine ik_goR (ik_runV (st := []) (As := [.int x4, .int x5]) C hM mv_X2_hasRange wl_46_4 ⟨rfl, rfl, Nat.le_of_ble_eq_true rfl, Nat.le_of_ble_eq_true rfl⟩ [7, 8] rfl (by decide +kernel) 7 rfl rfl rfl rfl (Nat.le_of_ble_eq_true rfl) dX6_copy_97 ⟨Nat.zero_le _, Nat.zero_le _⟩) rfl ?_
                  refine ik_if_ne C 110 dX6_copy_100 (by decide) (fun hc => ?_) (fun hc => ?_)
                  · have hf := ik_neg hc hf
                    refine ik_aload C 1 rfl dX6_copy_110 ?_
                    refine ik_get C inlX2 3 rfl rfl 2 (by decide) wl_46_2 rfl (v := .ref s01) rfl dX6_copy_112 ?_
                    refine ik_iload_n C 4 rfl rfl dX6_copy_115 ?_
                    refine ik_aload C 0 rfl dX6_copy_116 ?_
                    refine ik_get C inlX2 7 rfl rfl 2 (by decide) wl_46_2 rfl (v := .ref s21) rfl dX6_copy_118 ?_
                    refine ik_iload C 6 rfl dX6_copy_121 ?_
                    refine ik_iload C 7 rfl dX6_copy_123 ?_
                    have hg := ik_gci hf
                    have hf := ik_gck hf
                    refine ik_copy C wl_46_3 wl_23_19 wl_23_20 wl_23_21 4 8 rfl rfl hg (Nat.le_of_ble_eq_true rfl) (Nat.le_of_ble_eq_true rfl) (wz_X6ofs cI cS o0 np0 kp0 tp0 r0 t0 sh0 f0 s00 s10 s20 s30 s01 s11 s21 s31 isk fnd sbits ssize (va_up snum 2 (va_cpy (snum 0) (snum 2) (x2).toNatClampNeg (x4).toNatClampNeg (x5).toNatClampNeg))) rfl dX6_copy_125 ?_
                    refine ik_iload C 7 rfl dX6_copy_128 ?_
                    obtain ⟨rfl, rfl, rfl⟩ := ik_e3 hf
                    exact ik_iretW C hr hlk dX6_copy_130
                  · have hf := ik_pos hc hf
                    refine ik_aload_n C 2 rfl rfl dX6_copy_103 ?_
                    refine ik_ldc C wl_5_3 dX6_copy_104 ?_
                    obtain ⟨r7, g8, hc8, hf⟩ := ik_b2s hf
                    have hM := (c_X6_tell l D cI cS o0 np0 kp0 tp0 r0 t0 sh0 f0 isk fnd (-1000001 : Int32) r7 g8 hc8)
                    refine ik_goW (v := (some (.int r7))) (wc := (wz_X6of cI cS o0 np0 kp0 tp0 r0 t0 sh0 f0 isk fnd)) (w1 := (wz_X6of cI cS o0 np0 kp0 tp0 r0 t0 sh0 f0 isk g8)) [0, 1] [2, 3, 4, 5, 6, 7, 8, 9, 10] 11 rfl rfl (wz_X6ofs cI cS o0 np0 kp0 tp0 r0 t0 sh0 f0 s00 s10 s20 s30 s01 s11 s21 s31 isk g8 sbits ssize snum) rfl [(sh0, .inl (cS, 4, .inr (.inr (.inr (.inr (ik_ref4 s00 s10 s20 s30)))))), (s00, .inr (2, [.int (sbits 0), .int (ssize 0), .ref s01])), (s01, .inl (cI, 40, .inl (snum 0))), (s10, .inr (2, [.int (sbits 1), .int (ssize 1), .ref s11])), (s11, .inl (cI, 40, .inl (snum 1))), (s20, .inr (2, [.int (sbits 2), .int (ssize 2), .ref s21])), (s21, .inl (cI, 40, .inl (snum 2))), (s30, .inr (2, [.int (sbits 3), .int (ssize 3), .ref s31])), (s31, .inl (cI, 40, .inl (snum 3)))] rfl rfl rfl (by decide +kernel) (ik_runV (st := []) (As := [.int (-1000001 : Int32)]) C hM mv_X6_tell wl_5_16 ⟨rfl, rfl, Nat.le_of_ble_eq_true rfl, Nat.le_of_ble_eq_true rfl⟩ [0, 1] rfl (by decide +kernel) 0 rfl rfl rfl rfl (Nat.le_of_ble_eq_true rfl) dX6_copy_106 ⟨Nat.zero_le _, Nat.zero_le _⟩) rfl ?_
                    obtain ⟨rfl, rfl, rfl⟩ := ik_e3 hf
                    exact ik_iretW C hr hlk dX6_copy_109
              · have hf := ik_neg hc hf
                refine ik_aload_n C 2 rfl rfl dX6_copy_73 ?_
                refine ik_ldc C wl_43_14 dX6_copy_74 ?_
                obtain ⟨r5, g6, hc6, hf⟩ := ik_b2s hf
                have hM := (c_X6_tell l D cI cS o0 np0 kp0 tp0 r0 t0 sh0 f0 isk fnd (-1000003 : Int32) r5 g6 hc6)
                refine ik_goW (v := (some (.int r5))) (wc := (wz_X6of cI cS o0 np0 kp0 tp0 r0 t0 sh0 f0 isk fnd)) (w1 := (wz_X6of cI cS o0 np0 kp0 tp0 r0 t0 sh0 f0 isk g6)) [0, 1] [2, 3, 4, 5, 6, 7, 8, 9, 10] 11 rfl rfl (wz_X6ofs cI cS o0 np0 kp0 tp0 r0 t0 sh0 f0 s00 s10 s20 s30 s01 s11 s21 s31 isk g6 sbits ssize snum) rfl [(sh0, .inl (cS, 4, .inr (.inr (.inr (.inr (ik_ref4 s00 s10 s20 s30)))))), (s00, .inr (2, [.int (sbits 0), .int (ssize 0), .ref s01])), (s01, .inl (cI, 40, .inl (snum 0))), (s10, .inr (2, [.int (sbits 1), .int (ssize 1), .ref s11])), (s11, .inl (cI, 40, .inl (snum 1))), (s20, .inr (2, [.int (sbits 2), .int (ssize 2), .ref s21])), (s21, .inl (cI, 40, .inl (snum 2))), (s30, .inr (2, [.int (sbits 3), .int (ssize 3), .ref s31])), (s31, .inl (cI, 40, .inl (snum 3)))] rfl rfl rfl (by decide +kernel) (ik_runV (st := []) (As := [.int (-1000003 : Int32)]) C hM mv_X6_tell wl_5_16 ⟨rfl, rfl, Nat.le_of_ble_eq_true rfl, Nat.le_of_ble_eq_true rfl⟩ [0, 1] rfl (by decide +kernel) 0 rfl rfl rfl rfl (Nat.le_of_ble_eq_true rfl) dX6_copy_76 ⟨Nat.zero_le _, Nat.zero_le _⟩) rfl ?_
                obtain ⟨rfl, rfl, rfl⟩ := ik_e3 hf
                exact ik_iretW C hr hlk dX6_copy_79
            · have hf := ik_neg hc hf
              refine ik_aload_n C 2 rfl rfl dX6_copy_53 ?_
              refine ik_ldc C wl_43_13 dX6_copy_54 ?_
              obtain ⟨r5, g6, hc6, hf⟩ := ik_b2s hf
              have hM := (c_X6_tell l D cI cS o0 np0 kp0 tp0 r0 t0 sh0 f0 isk fnd (-1000006 : Int32) r5 g6 hc6)
              refine ik_goW (v := (some (.int r5))) (wc := (wz_X6of cI cS o0 np0 kp0 tp0 r0 t0 sh0 f0 isk fnd)) (w1 := (wz_X6of cI cS o0 np0 kp0 tp0 r0 t0 sh0 f0 isk g6)) [0, 1] [2, 3, 4, 5, 6, 7, 8, 9, 10] 11 rfl rfl (wz_X6ofs cI cS o0 np0 kp0 tp0 r0 t0 sh0 f0 s00 s10 s20 s30 s01 s11 s21 s31 isk g6 sbits ssize snum) rfl [(sh0, .inl (cS, 4, .inr (.inr (.inr (.inr (ik_ref4 s00 s10 s20 s30)))))), (s00, .inr (2, [.int (sbits 0), .int (ssize 0), .ref s01])), (s01, .inl (cI, 40, .inl (snum 0))), (s10, .inr (2, [.int (sbits 1), .int (ssize 1), .ref s11])), (s11, .inl (cI, 40, .inl (snum 1))), (s20, .inr (2, [.int (sbits 2), .int (ssize 2), .ref s21])), (s21, .inl (cI, 40, .inl (snum 2))), (s30, .inr (2, [.int (sbits 3), .int (ssize 3), .ref s31])), (s31, .inl (cI, 40, .inl (snum 3)))] rfl rfl rfl (by decide +kernel) (ik_runV (st := []) (As := [.int (-1000006 : Int32)]) C hM mv_X6_tell wl_5_16 ⟨rfl, rfl, Nat.le_of_ble_eq_true rfl, Nat.le_of_ble_eq_true rfl⟩ [0, 1] rfl (by decide +kernel) 0 rfl rfl rfl rfl (Nat.le_of_ble_eq_true rfl) dX6_copy_56 ⟨Nat.zero_le _, Nat.zero_le _⟩) rfl ?_
              obtain ⟨rfl, rfl, rfl⟩ := ik_e3 hf
              exact ik_iretW C hr hlk dX6_copy_59
        · have hf := ik_neg hb0 hf; have hf := ik_neg hb1 hf; have hf := ik_neg hb2 hf
          refine ik_astore C [(7, .ref s30), (6, .ref s00), (0, .ref o0), (1, .int x1), (2, .int x2), (3, .int x3), (4, .int x4), (5, .int x5)] (by decide) rfl dX6_copy_35 ?_
          refine ik_aload C 1 rfl dX6_copy_37 ?_
          obtain ⟨r3, hc3, hf⟩ := ik_b1s hf
          have hM := (c_X2_isMissing l D cI cS s00 s01 (sbits 0) (ssize 0) (snum 0) r3 hc3)
          refine ik_goR (ik_runV (st := []) (As := []) C hM mv_X2_isMissing wl_45_9 ⟨rfl, rfl, Nat.le_of_ble_eq_true rfl, Nat.le_of_ble_eq_true rfl⟩ [3, 4] rfl (by decide +kernel) 3 rfl rfl rfl rfl (Nat.le_of_ble_eq_true rfl) dX6_copy_39 ⟨Nat.zero_le _, Nat.zero_le _⟩) rfl ?_
          refine ik_if_ne C 53 dX6_copy_42 (by decide) (fun hc => ?_) (fun hc => ?_)
          · have hf := ik_neg hc hf
            refine ik_aload_n C 2 rfl rfl dX6_copy_53 ?_
            refine ik_ldc C wl_43_13 dX6_copy_54 ?_
            obtain ⟨r4, g5, hc5, hf⟩ := ik_b2s hf
            have hM := (c_X6_tell l D cI cS o0 np0 kp0 tp0 r0 t0 sh0 f0 isk fnd (-1000006 : Int32) r4 g5 hc5)
            refine ik_goW (v := (some (.int r4))) (wc := (wz_X6of cI cS o0 np0 kp0 tp0 r0 t0 sh0 f0 isk fnd)) (w1 := (wz_X6of cI cS o0 np0 kp0 tp0 r0 t0 sh0 f0 isk g5)) [0, 1] [2, 3, 4, 5, 6, 7, 8, 9, 10] 11 rfl rfl (wz_X6ofs cI cS o0 np0 kp0 tp0 r0 t0 sh0 f0 s00 s10 s20 s30 s01 s11 s21 s31 isk g5 sbits ssize snum) rfl [(sh0, .inl (cS, 4, .inr (.inr (.inr (.inr (ik_ref4 s00 s10 s20 s30)))))), (s00, .inr (2, [.int (sbits 0), .int (ssize 0), .ref s01])), (s01, .inl (cI, 40, .inl (snum 0))), (s10, .inr (2, [.int (sbits 1), .int (ssize 1), .ref s11])), (s11, .inl (cI, 40, .inl (snum 1))), (s20, .inr (2, [.int (sbits 2), .int (ssize 2), .ref s21])), (s21, .inl (cI, 40, .inl (snum 2))), (s30, .inr (2, [.int (sbits 3), .int (ssize 3), .ref s31])), (s31, .inl (cI, 40, .inl (snum 3)))] rfl rfl rfl (by decide +kernel) (ik_runV (st := []) (As := [.int (-1000006 : Int32)]) C hM mv_X6_tell wl_5_16 ⟨rfl, rfl, Nat.le_of_ble_eq_true rfl, Nat.le_of_ble_eq_true rfl⟩ [0, 1] rfl (by decide +kernel) 0 rfl rfl rfl rfl (Nat.le_of_ble_eq_true rfl) dX6_copy_56 ⟨Nat.zero_le _, Nat.zero_le _⟩) rfl ?_
            obtain ⟨rfl, rfl, rfl⟩ := ik_e3 hf
            exact ik_iretW C hr hlk dX6_copy_59
          · have hf := ik_pos hc hf
            refine ik_aload C 0 rfl dX6_copy_45 ?_
            obtain ⟨r4, hc4, hf⟩ := ik_b1s hf
            have hM := (c_X2_isMissing l D cI cS s30 s31 (sbits 3) (ssize 3) (snum 3) r4 hc4)
            refine ik_goR (ik_runV (st := []) (As := []) C hM mv_X2_isMissing wl_45_9 ⟨rfl, rfl, Nat.le_of_ble_eq_true rfl, Nat.le_of_ble_eq_true rfl⟩ [9, 10] rfl (by decide +kernel) 9 rfl rfl rfl rfl (Nat.le_of_ble_eq_true rfl) dX6_copy_47 ⟨Nat.zero_le _, Nat.zero_le _⟩) rfl ?_
            refine ik_if_eq C 60 dX6_copy_50 (by decide) (fun hc => ?_) (fun hc => ?_)
            · have hf := ik_pos hc hf
              refine ik_aload C 1 rfl dX6_copy_60 ?_
              refine ik_get C inlX2 3 rfl rfl 0 (by decide) wl_46_1 rfl (v := .int (sbits 0)) rfl dX6_copy_62 ?_
              refine ik_aload C 0 rfl dX6_copy_65 ?_
              refine ik_get C inlX2 9 rfl rfl 0 (by decide) wl_46_1 rfl (v := .int (sbits 3)) rfl dX6_copy_67 ?_
              refine ik_icmp_eq C 80 dX6_copy_70 (by decide) (fun hc => ?_) (fun hc => ?_)
              · have hf := ik_pos hc hf
                refine ik_aload C 1 rfl dX6_copy_80 ?_
                refine ik_iload_n C 4 rfl rfl dX6_copy_82 ?_
                refine ik_iload C 7 rfl dX6_copy_83 ?_
                obtain ⟨r5, hc5, hf⟩ := ik_b1s hf
                have hM := (c_X2_hasRange l D cI cS s00 s01 (sbits 0) (ssize 0) (snum 0) x2 x5 r5 hc5)
                refine ik_goR (ik_runV (st := []) (As := [.int x2, .int x5]) C hM mv_X2_hasRange wl_46_4 ⟨rfl, rfl, Nat.le_of_ble_eq_true rfl, Nat.le_of_ble_eq_true rfl⟩ [3, 4] rfl (by decide +kernel) 3 rfl rfl rfl rfl (Nat.le_of_ble_eq_true rfl) dX6_copy_85 ⟨Nat.zero_le _, Nat.zero_le _⟩) rfl ?_
                refine ik_if_eq C 103 dX6_copy_88 (by decide) (fun hc => ?_) (fun hc => ?_)
                · have hf := ik_pos hc hf
                  refine ik_aload_n C 2 rfl rfl dX6_copy_103 ?_
                  refine ik_ldc C wl_5_3 dX6_copy_104 ?_
                  obtain ⟨r6, g7, hc7, hf⟩ := ik_b2s hf
                  have hM := (c_X6_tell l D cI cS o0 np0 kp0 tp0 r0 t0 sh0 f0 isk fnd (-1000001 : Int32) r6 g7 hc7)
                  refine ik_goW (v := (some (.int r6))) (wc := (wz_X6of cI cS o0 np0 kp0 tp0 r0 t0 sh0 f0 isk fnd)) (w1 := (wz_X6of cI cS o0 np0 kp0 tp0 r0 t0 sh0 f0 isk g7)) [0, 1] [2, 3, 4, 5, 6, 7, 8, 9, 10] 11 rfl rfl (wz_X6ofs cI cS o0 np0 kp0 tp0 r0 t0 sh0 f0 s00 s10 s20 s30 s01 s11 s21 s31 isk g7 sbits ssize snum) rfl [(sh0, .inl (cS, 4, .inr (.inr (.inr (.inr (ik_ref4 s00 s10 s20 s30)))))), (s00, .inr (2, [.int (sbits 0), .int (ssize 0), .ref s01])), (s01, .inl (cI, 40, .inl (snum 0))), (s10, .inr (2, [.int (sbits 1), .int (ssize 1), .ref s11])), (s11, .inl (cI, 40, .inl (snum 1))), (s20, .inr (2, [.int (sbits 2), .int (ssize 2), .ref s21])), (s21, .inl (cI, 40, .inl (snum 2))), (s30, .inr (2, [.int (sbits 3), .int (ssize 3), .ref s31])), (s31, .inl (cI, 40, .inl (snum 3)))] rfl rfl rfl (by decide +kernel) (ik_runV (st := []) (As := [.int (-1000001 : Int32)]) C hM mv_X6_tell wl_5_16 ⟨rfl, rfl, Nat.le_of_ble_eq_true rfl, Nat.le_of_ble_eq_true rfl⟩ [0, 1] rfl (by decide +kernel) 0 rfl rfl rfl rfl (Nat.le_of_ble_eq_true rfl) dX6_copy_106 ⟨Nat.zero_le _, Nat.zero_le _⟩) rfl ?_
                  obtain ⟨rfl, rfl, rfl⟩ := ik_e3 hf
                  exact ik_iretW C hr hlk dX6_copy_109
                · have hf := ik_neg hc hf
                  refine ik_aload C 0 rfl dX6_copy_91 ?_
                  refine ik_iload C 6 rfl dX6_copy_93 ?_
                  refine ik_iload C 7 rfl dX6_copy_95 ?_
                  obtain ⟨r6, hc6, hf⟩ := ik_b1s hf
                  have hM := (c_X2_hasRange l D cI cS s30 s31 (sbits 3) (ssize 3) (snum 3) x4 x5 r6 hc6)
                  refine ik_goR (ik_runV (st := []) (As := [.int x4, .int x5]) C hM mv_X2_hasRange wl_46_4 ⟨rfl, rfl, Nat.le_of_ble_eq_true rfl, Nat.le_of_ble_eq_true rfl⟩ [9, 10] rfl (by decide +kernel) 9 rfl rfl rfl rfl (Nat.le_of_ble_eq_true rfl) dX6_copy_97 ⟨Nat.zero_le _, Nat.zero_le _⟩) rfl ?_
                  refine ik_if_ne C 110 dX6_copy_100 (by decide) (fun hc => ?_) (fun hc => ?_)
                  · have hf := ik_neg hc hf
                    refine ik_aload C 1 rfl dX6_copy_110 ?_
                    refine ik_get C inlX2 3 rfl rfl 2 (by decide) wl_46_2 rfl (v := .ref s01) rfl dX6_copy_112 ?_
                    refine ik_iload_n C 4 rfl rfl dX6_copy_115 ?_
                    refine ik_aload C 0 rfl dX6_copy_116 ?_
                    refine ik_get C inlX2 9 rfl rfl 2 (by decide) wl_46_2 rfl (v := .ref s31) rfl dX6_copy_118 ?_
                    refine ik_iload C 6 rfl dX6_copy_121 ?_
                    refine ik_iload C 7 rfl dX6_copy_123 ?_
                    have hg := ik_gci hf
                    have hf := ik_gck hf
                    refine ik_copy C wl_46_3 wl_23_19 wl_23_20 wl_23_21 4 10 rfl rfl hg (Nat.le_of_ble_eq_true rfl) (Nat.le_of_ble_eq_true rfl) (wz_X6ofs cI cS o0 np0 kp0 tp0 r0 t0 sh0 f0 s00 s10 s20 s30 s01 s11 s21 s31 isk fnd sbits ssize (va_up snum 3 (va_cpy (snum 0) (snum 3) (x2).toNatClampNeg (x4).toNatClampNeg (x5).toNatClampNeg))) rfl dX6_copy_125 ?_
                    refine ik_iload C 7 rfl dX6_copy_128 ?_
                    obtain ⟨rfl, rfl, rfl⟩ := ik_e3 hf
                    exact ik_iretW C hr hlk dX6_copy_130
                  · have hf := ik_pos hc hf
                    refine ik_aload_n C 2 rfl rfl dX6_copy_103 ?_
                    refine ik_ldc C wl_5_3 dX6_copy_104 ?_
                    obtain ⟨r7, g8, hc8, hf⟩ := ik_b2s hf
                    have hM := (c_X6_tell l D cI cS o0 np0 kp0 tp0 r0 t0 sh0 f0 isk fnd (-1000001 : Int32) r7 g8 hc8)
                    refine ik_goW (v := (some (.int r7))) (wc := (wz_X6of cI cS o0 np0 kp0 tp0 r0 t0 sh0 f0 isk fnd)) (w1 := (wz_X6of cI cS o0 np0 kp0 tp0 r0 t0 sh0 f0 isk g8)) [0, 1] [2, 3, 4, 5, 6, 7, 8, 9, 10] 11 rfl rfl (wz_X6ofs cI cS o0 np0 kp0 tp0 r0 t0 sh0 f0 s00 s10 s20 s30 s01 s11 s21 s31 isk g8 sbits ssize snum) rfl [(sh0, .inl (cS, 4, .inr (.inr (.inr (.inr (ik_ref4 s00 s10 s20 s30)))))), (s00, .inr (2, [.int (sbits 0), .int (ssize 0), .ref s01])), (s01, .inl (cI, 40, .inl (snum 0))), (s10, .inr (2, [.int (sbits 1), .int (ssize 1), .ref s11])), (s11, .inl (cI, 40, .inl (snum 1))), (s20, .inr (2, [.int (sbits 2), .int (ssize 2), .ref s21])), (s21, .inl (cI, 40, .inl (snum 2))), (s30, .inr (2, [.int (sbits 3), .int (ssize 3), .ref s31])), (s31, .inl (cI, 40, .inl (snum 3)))] rfl rfl rfl (by decide +kernel) (ik_runV (st := []) (As := [.int (-1000001 : Int32)]) C hM mv_X6_tell wl_5_16 ⟨rfl, rfl, Nat.le_of_ble_eq_true rfl, Nat.le_of_ble_eq_true rfl⟩ [0, 1] rfl (by decide +kernel) 0 rfl rfl rfl rfl (Nat.le_of_ble_eq_true rfl) dX6_copy_106 ⟨Nat.zero_le _, Nat.zero_le _⟩) rfl ?_
                    obtain ⟨rfl, rfl, rfl⟩ := ik_e3 hf
                    exact ik_iretW C hr hlk dX6_copy_109
              · have hf := ik_neg hc hf
                refine ik_aload_n C 2 rfl rfl dX6_copy_73 ?_
                refine ik_ldc C wl_43_14 dX6_copy_74 ?_
                obtain ⟨r5, g6, hc6, hf⟩ := ik_b2s hf
                have hM := (c_X6_tell l D cI cS o0 np0 kp0 tp0 r0 t0 sh0 f0 isk fnd (-1000003 : Int32) r5 g6 hc6)
                refine ik_goW (v := (some (.int r5))) (wc := (wz_X6of cI cS o0 np0 kp0 tp0 r0 t0 sh0 f0 isk fnd)) (w1 := (wz_X6of cI cS o0 np0 kp0 tp0 r0 t0 sh0 f0 isk g6)) [0, 1] [2, 3, 4, 5, 6, 7, 8, 9, 10] 11 rfl rfl (wz_X6ofs cI cS o0 np0 kp0 tp0 r0 t0 sh0 f0 s00 s10 s20 s30 s01 s11 s21 s31 isk g6 sbits ssize snum) rfl [(sh0, .inl (cS, 4, .inr (.inr (.inr (.inr (ik_ref4 s00 s10 s20 s30)))))), (s00, .inr (2, [.int (sbits 0), .int (ssize 0), .ref s01])), (s01, .inl (cI, 40, .inl (snum 0))), (s10, .inr (2, [.int (sbits 1), .int (ssize 1), .ref s11])), (s11, .inl (cI, 40, .inl (snum 1))), (s20, .inr (2, [.int (sbits 2), .int (ssize 2), .ref s21])), (s21, .inl (cI, 40, .inl (snum 2))), (s30, .inr (2, [.int (sbits 3), .int (ssize 3), .ref s31])), (s31, .inl (cI, 40, .inl (snum 3)))] rfl rfl rfl (by decide +kernel) (ik_runV (st := []) (As := [.int (-1000003 : Int32)]) C hM mv_X6_tell wl_5_16 ⟨rfl, rfl, Nat.le_of_ble_eq_true rfl, Nat.le_of_ble_eq_true rfl⟩ [0, 1] rfl (by decide +kernel) 0 rfl rfl rfl rfl (Nat.le_of_ble_eq_true rfl) dX6_copy_76 ⟨Nat.zero_le _, Nat.zero_le _⟩) rfl ?_
                obtain ⟨rfl, rfl, rfl⟩ := ik_e3 hf
                exact ik_iretW C hr hlk dX6_copy_79
            · have hf := ik_neg hc hf
              refine ik_aload_n C 2 rfl rfl dX6_copy_53 ?_
              refine ik_ldc C wl_43_13 dX6_copy_54 ?_
              obtain ⟨r5, g6, hc6, hf⟩ := ik_b2s hf
              have hM := (c_X6_tell l D cI cS o0 np0 kp0 tp0 r0 t0 sh0 f0 isk fnd (-1000006 : Int32) r5 g6 hc6)
              refine ik_goW (v := (some (.int r5))) (wc := (wz_X6of cI cS o0 np0 kp0 tp0 r0 t0 sh0 f0 isk fnd)) (w1 := (wz_X6of cI cS o0 np0 kp0 tp0 r0 t0 sh0 f0 isk g6)) [0, 1] [2, 3, 4, 5, 6, 7, 8, 9, 10] 11 rfl rfl (wz_X6ofs cI cS o0 np0 kp0 tp0 r0 t0 sh0 f0 s00 s10 s20 s30 s01 s11 s21 s31 isk g6 sbits ssize snum) rfl [(sh0, .inl (cS, 4, .inr (.inr (.inr (.inr (ik_ref4 s00 s10 s20 s30)))))), (s00, .inr (2, [.int (sbits 0), .int (ssize 0), .ref s01])), (s01, .inl (cI, 40, .inl (snum 0))), (s10, .inr (2, [.int (sbits 1), .int (ssize 1), .ref s11])), (s11, .inl (cI, 40, .inl (snum 1))), (s20, .inr (2, [.int (sbits 2), .int (ssize 2), .ref s21])), (s21, .inl (cI, 40, .inl (snum 2))), (s30, .inr (2, [.int (sbits 3), .int (ssize 3), .ref s31])), (s31, .inl (cI, 40, .inl (snum 3)))] rfl rfl rfl (by decide +kernel) (ik_runV (st := []) (As := [.int (-1000006 : Int32)]) C hM mv_X6_tell wl_5_16 ⟨rfl, rfl, Nat.le_of_ble_eq_true rfl, Nat.le_of_ble_eq_true rfl⟩ [0, 1] rfl (by decide +kernel) 0 rfl rfl rfl rfl (Nat.le_of_ble_eq_true rfl) dX6_copy_56 ⟨Nat.zero_le _, Nat.zero_le _⟩) rfl ?_
              obtain ⟨rfl, rfl, rfl⟩ := ik_e3 hf
              exact ik_iretW C hr hlk dX6_copy_59
      · have hf := ik_neg hb0 hf; have hf := ik_pos hc hf
        refine ik_astore C [(6, .ref s10), (0, .ref o0), (1, .int x1), (2, .int x2), (3, .int x3), (4, .int x4), (5, .int x5)] (by decide) rfl dX6_copy_27 ?_
        refine ik_aload_n C 1 rfl rfl dX6_copy_29 ?_
        refine ik_get C inlX6 0 rfl rfl 6 (by decide) wl_2_1 rfl (v := .ref sh0) rfl dX6_copy_30 ?_
        refine ik_iload_n C 4 rfl rfl dX6_copy_33 ?_
        have hg := ik_gdi hf
        have hf := ik_gdk hf
        refine ik_aald4 C 2 rfl hg (a0 := s00) (a1 := s10) (a2 := s20) (a3 := s30) rfl rfl rfl rfl dX6_copy_34 (fun hc => ?_) (fun hb0 hc => ?_) (fun hb0 hb1 hc => ?_) (fun hb0 hb1 hb2 hc => ?_)
        · have hf := ik_pos hc hf
          refine ik_astore C [(7, .ref s00), (6, .ref s10), (0, .ref o0), (1, .int x1), (2, .int x2), (3, .int x3), (4, .int x4), (5, .int x5)] (by decide) rfl dX6_copy_35 ?_
          refine ik_aload C 1 rfl dX6_copy_37 ?_
          obtain ⟨r3, hc3, hf⟩ := ik_b1s hf
          have hM := (c_X2_isMissing l D cI cS s10 s11 (sbits 1) (ssize 1) (snum 1) r3 hc3)
          refine ik_goR (ik_runV (st := []) (As := []) C hM mv_X2_isMissing wl_45_9 ⟨rfl, rfl, Nat.le_of_ble_eq_true rfl, Nat.le_of_ble_eq_true rfl⟩ [5, 6] rfl (by decide +kernel) 5 rfl rfl rfl rfl (Nat.le_of_ble_eq_true rfl) dX6_copy_39 ⟨Nat.zero_le _, Nat.zero_le _⟩) rfl ?_
          refine ik_if_ne C 53 dX6_copy_42 (by decide) (fun hc => ?_) (fun hc => ?_)
          · have hf := ik_neg hc hf
            refine ik_aload_n C 2 rfl rfl dX6_copy_53 ?_
            refine ik_ldc C wl_43_13 dX6_copy_54 ?_
            obtain ⟨r4, g5, hc5, hf⟩ := ik_b2s hf
            have hM := (c_X6_tell l D cI cS o0 np0 kp0 tp0 r0 t0 sh0 f0 isk fnd (-1000006 : Int32) r4 g5 hc5)
            refine ik_goW (v := (some (.int r4))) (wc := (wz_X6of cI cS o0 np0 kp0 tp0 r0 t0 sh0 f0 isk fnd)) (w1 := (wz_X6of cI cS o0 np0 kp0 tp0 r0 t0 sh0 f0 isk g5)) [0, 1] [2, 3, 4, 5, 6, 7, 8, 9, 10] 11 rfl rfl (wz_X6ofs cI cS o0 np0 kp0 tp0 r0 t0 sh0 f0 s00 s10 s20 s30 s01 s11 s21 s31 isk g5 sbits ssize snum) rfl [(sh0, .inl (cS, 4, .inr (.inr (.inr (.inr (ik_ref4 s00 s10 s20 s30)))))), (s00, .inr (2, [.int (sbits 0), .int (ssize 0), .ref s01])), (s01, .inl (cI, 40, .inl (snum 0))), (s10, .inr (2, [.int (sbits 1), .int (ssize 1), .ref s11])), (s11, .inl (cI, 40, .inl (snum 1))), (s20, .inr (2, [.int (sbits 2), .int (ssize 2), .ref s21])), (s21, .inl (cI, 40, .inl (snum 2))), (s30, .inr (2, [.int (sbits 3), .int (ssize 3), .ref s31])), (s31, .inl (cI, 40, .inl (snum 3)))] rfl rfl rfl (by decide +kernel) (ik_runV (st := []) (As := [.int (-1000006 : Int32)]) C hM mv_X6_tell wl_5_16 ⟨rfl, rfl, Nat.le_of_ble_eq_true rfl, Nat.le_of_ble_eq_true rfl⟩ [0, 1] rfl (by decide +kernel) 0 rfl rfl rfl rfl (Nat.le_of_ble_eq_true rfl) dX6_copy_56 ⟨Nat.zero_le _, Nat.zero_le _⟩) rfl ?_
            obtain ⟨rfl, rfl, rfl⟩ := ik_e3 hf
            exact ik_iretW C hr hlk dX6_copy_59
          · have hf := ik_pos hc hf
            refine ik_aload C 0 rfl dX6_copy_45 ?_
            obtain ⟨r4, hc4, hf⟩ := ik_b1s hf
            have hM := (c_X2_isMissing l D cI cS s00 s01 (sbits 0) (ssize 0) (snum 0) r4 hc4)
            refine ik_goR (ik_runV (st := []) (As := []) C hM mv_X2_isMissing wl_45_9 ⟨rfl, rfl, Nat.le_of_ble_eq_true rfl, Nat.le_of_ble_eq_true rfl⟩ [3, 4] rfl (by decide +kernel) 3 rfl rfl rfl rfl (Nat.le_of_ble_eq_true rfl) dX6_copy_47 ⟨Nat.zero_le _, Nat.zero_le _⟩) rfl ?_
            refine ik_if_eq C 60 dX6_copy_50 (by decide) (fun hc => ?_) (fun hc => ?_)
            · have hf := ik_pos hc hf
              refine ik_aload C 1 rfl dX6_copy_60 ?_
              refine ik_get C inlX2 5 rfl rfl 0 (by decide) wl_46_1 rfl (v := .int (sbits 1)) rfl dX6_copy_62 ?_
              refine ik_aload C 0 rfl dX6_copy_65 ?_
              refine ik_get C inlX2 3 rfl rfl 0 (by decide) wl_46_1 rfl (v := .int (sbits 0)) rfl dX6_copy_67 ?_
              refine ik_icmp_eq C 80 dX6_copy_70 (by decide) (fun hc => ?_) (fun hc => ?_)
              · have hf := ik_pos hc hf
                refine ik_aload C 1 rfl dX6_copy_80 ?_
                refine ik_iload_n C 4 rfl rfl dX6_copy_82 ?_
                refine ik_iload C 7 rfl dX6_copy_83 ?_
                obtain ⟨r5, hc5, hf⟩ := ik_b1s hf
                have hM := (c_X2_hasRange l D cI cS s10 s11 (sbits 1) (ssize 1) (snum 1) x2 x5 r5 hc5)
                refine ik_goR (ik_runV (st := []) (As := [.int x2, .int x5]) C hM mv_X2_hasRange wl_46_4 ⟨rfl, rfl, Nat.le_of_ble_eq_true rfl, Nat.le_of_ble_eq_true rfl⟩ [5, 6] rfl (by decide +kernel) 5 rfl rfl rfl rfl (Nat.le_of_ble_eq_true rfl) dX6_copy_85 ⟨Nat.zero_le _, Nat.zero_le _⟩) rfl ?_
                refine ik_if_eq C 103 dX6_copy_88 (by decide) (fun hc => ?_) (fun hc => ?_)
                · have hf := ik_pos hc hf
                  refine ik_aload_n C 2 rfl rfl dX6_copy_103 ?_
                  refine ik_ldc C wl_5_3 dX6_copy_104 ?_
                  obtain ⟨r6, g7, hc7, hf⟩ := ik_b2s hf
                  have hM := (c_X6_tell l D cI cS o0 np0 kp0 tp0 r0 t0 sh0 f0 isk fnd (-1000001 : Int32) r6 g7 hc7)
                  refine ik_goW (v := (some (.int r6))) (wc := (wz_X6of cI cS o0 np0 kp0 tp0 r0 t0 sh0 f0 isk fnd)) (w1 := (wz_X6of cI cS o0 np0 kp0 tp0 r0 t0 sh0 f0 isk g7)) [0, 1] [2, 3, 4, 5, 6, 7, 8, 9, 10] 11 rfl rfl (wz_X6ofs cI cS o0 np0 kp0 tp0 r0 t0 sh0 f0 s00 s10 s20 s30 s01 s11 s21 s31 isk g7 sbits ssize snum) rfl [(sh0, .inl (cS, 4, .inr (.inr (.inr (.inr (ik_ref4 s00 s10 s20 s30)))))), (s00, .inr (2, [.int (sbits 0), .int (ssize 0), .ref s01])), (s01, .inl (cI, 40, .inl (snum 0))), (s10, .inr (2, [.int (sbits 1), .int (ssize 1), .ref s11])), (s11, .inl (cI, 40, .inl (snum 1))), (s20, .inr (2, [.int (sbits 2), .int (ssize 2), .ref s21])), (s21, .inl (cI, 40, .inl (snum 2))), (s30, .inr (2, [.int (sbits 3), .int (ssize 3), .ref s31])), (s31, .inl (cI, 40, .inl (snum 3)))] rfl rfl rfl (by decide +kernel) (ik_runV (st := []) (As := [.int (-1000001 : Int32)]) C hM mv_X6_tell wl_5_16 ⟨rfl, rfl, Nat.le_of_ble_eq_true rfl, Nat.le_of_ble_eq_true rfl⟩ [0, 1] rfl (by decide +kernel) 0 rfl rfl rfl rfl (Nat.le_of_ble_eq_true rfl) dX6_copy_106 ⟨Nat.zero_le _, Nat.zero_le _⟩) rfl ?_
                  obtain ⟨rfl, rfl, rfl⟩ := ik_e3 hf
                  exact ik_iretW C hr hlk dX6_copy_109
                · have hf := ik_neg hc hf
                  refine ik_aload C 0 rfl dX6_copy_91 ?_
                  refine ik_iload C 6 rfl dX6_copy_93 ?_
                  refine ik_iload C 7 rfl dX6_copy_95 ?_
                  obtain ⟨r6, hc6, hf⟩ := ik_b1s hf
                  have hM := (c_X2_hasRange l D cI cS s00 s01 (sbits 0) (ssize 0) (snum 0) x4 x5 r6 hc6)
                  refine ik_goR (ik_runV (st := []) (As := [.int x4, .int x5]) C hM mv_X2_hasRange wl_46_4 ⟨rfl, rfl, Nat.le_of_ble_eq_true rfl, Nat.le_of_ble_eq_true rfl⟩ [3, 4] rfl (by decide +kernel) 3 rfl rfl rfl rfl (Nat.le_of_ble_eq_true rfl) dX6_copy_97 ⟨Nat.zero_le _, Nat.zero_le _⟩) rfl ?_
                  refine ik_if_ne C 110 dX6_copy_100 (by decide) (fun hc => ?_) (fun hc => ?_)
                  · have hf := ik_neg hc hf
                    refine ik_aload C 1 rfl dX6_copy_110 ?_
                    refine ik_get C inlX2 5 rfl rfl 2 (by decide) wl_46_2 rfl (v := .ref s11) rfl dX6_copy_112 ?_
                    refine ik_iload_n C 4 rfl rfl dX6_copy_115 ?_
                    refine ik_aload C 0 rfl dX6_copy_116 ?_
                    refine ik_get C inlX2 3 rfl rfl 2 (by decide) wl_46_2 rfl (v := .ref s01) rfl dX6_copy_118 ?_
                    refine ik_iload C 6 rfl dX6_copy_121 ?_
                    refine ik_iload C 7 rfl dX6_copy_123 ?_
                    have hg := ik_gci hf
                    have hf := ik_gck hf
                    refine ik_copy C wl_46_3 wl_23_19 wl_23_20 wl_23_21 6 4 rfl rfl hg (Nat.le_of_ble_eq_true rfl) (Nat.le_of_ble_eq_true rfl) (wz_X6ofs cI cS o0 np0 kp0 tp0 r0 t0 sh0 f0 s00 s10 s20 s30 s01 s11 s21 s31 isk fnd sbits ssize (va_up snum 0 (va_cpy (snum 1) (snum 0) (x2).toNatClampNeg (x4).toNatClampNeg (x5).toNatClampNeg))) rfl dX6_copy_125 ?_
                    refine ik_iload C 7 rfl dX6_copy_128 ?_
                    obtain ⟨rfl, rfl, rfl⟩ := ik_e3 hf
                    exact ik_iretW C hr hlk dX6_copy_130
                  · have hf := ik_pos hc hf
                    refine ik_aload_n C 2 rfl rfl dX6_copy_103 ?_
                    refine ik_ldc C wl_5_3 dX6_copy_104 ?_
                    obtain ⟨r7, g8, hc8, hf⟩ := ik_b2s hf
                    have hM := (c_X6_tell l D cI cS o0 np0 kp0 tp0 r0 t0 sh0 f0 isk fnd (-1000001 : Int32) r7 g8 hc8)
                    refine ik_goW (v := (some (.int r7))) (wc := (wz_X6of cI cS o0 np0 kp0 tp0 r0 t0 sh0 f0 isk fnd)) (w1 := (wz_X6of cI cS o0 np0 kp0 tp0 r0 t0 sh0 f0 isk g8)) [0, 1] [2, 3, 4, 5, 6, 7, 8, 9, 10] 11 rfl rfl (wz_X6ofs cI cS o0 np0 kp0 tp0 r0 t0 sh0 f0 s00 s10 s20 s30 s01 s11 s21 s31 isk g8 sbits ssize snum) rfl [(sh0, .inl (cS, 4, .inr (.inr (.inr (.inr (ik_ref4 s00 s10 s20 s30)))))), (s00, .inr (2, [.int (sbits 0), .int (ssize 0), .ref s01])), (s01, .inl (cI, 40, .inl (snum 0))), (s10, .inr (2, [.int (sbits 1), .int (ssize 1), .ref s11])), (s11, .inl (cI, 40, .inl (snum 1))), (s20, .inr (2, [.int (sbits 2), .int (ssize 2), .ref s21])), (s21, .inl (cI, 40, .inl (snum 2))), (s30, .inr (2, [.int (sbits 3), .int (ssize 3), .ref s31])), (s31, .inl (cI, 40, .inl (snum 3)))] rfl rfl rfl (by decide +kernel) (ik_runV (st := []) (As := [.int (-1000001 : Int32)]) C hM mv_X6_tell wl_5_16 ⟨rfl, rfl, Nat.le_of_ble_eq_true rfl, Nat.le_of_ble_eq_true rfl⟩ [0, 1] rfl (by decide +kernel) 0 rfl rfl rfl rfl (Nat.le_of_ble_eq_true rfl) dX6_copy_106 ⟨Nat.zero_le _, Nat.zero_le _⟩) rfl ?_
                    obtain ⟨rfl, rfl, rfl⟩ := ik_e3 hf
                    exact ik_iretW C hr hlk dX6_copy_109
              · have hf := ik_neg hc hf
                refine ik_aload_n C 2 rfl rfl dX6_copy_73 ?_
                refine ik_ldc C wl_43_14 dX6_copy_74 ?_
                obtain ⟨r5, g6, hc6, hf⟩ := ik_b2s hf
                have hM := (c_X6_tell l D cI cS o0 np0 kp0 tp0 r0 t0 sh0 f0 isk fnd (-1000003 : Int32) r5 g6 hc6)
                refine ik_goW (v := (some (.int r5))) (wc := (wz_X6of cI cS o0 np0 kp0 tp0 r0 t0 sh0 f0 isk fnd)) (w1 := (wz_X6of cI cS o0 np0 kp0 tp0 r0 t0 sh0 f0 isk g6)) [0, 1] [2, 3, 4, 5, 6, 7, 8, 9, 10] 11 rfl rfl (wz_X6ofs cI cS o0 np0 kp0 tp0 r0 t0 sh0 f0 s00 s10 s20 s30 s01 s11 s21 s31 isk g6 sbits ssize snum) rfl [(sh0, .inl (cS, 4, .inr (.inr (.inr (.inr (ik_ref4 s00 s10 s20 s30)))))), (s00, .inr (2, [.int (sbits 0), .int (ssize 0), .ref s01])), (s01, .inl (cI, 40, .inl (snum 0))), (s10, .inr (2, [.int (sbits 1), .int (ssize 1), .ref s11])), (s11, .inl (cI, 40, .inl (snum 1))), (s20, .inr (2, [.int (sbits 2), .int (ssize 2), .ref s21])), (s21, .inl (cI, 40, .inl (snum 2))), (s30, .inr (2, [.int (sbits 3), .int (ssize 3), .ref s31])), (s31, .inl (cI, 40, .inl (snum 3)))] rfl rfl rfl (by decide +kernel) (ik_runV (st := []) (As := [.int (-1000003 : Int32)]) C hM mv_X6_tell wl_5_16 ⟨rfl, rfl, Nat.le_of_ble_eq_true rfl, Nat.le_of_ble_eq_true rfl⟩ [0, 1] rfl (by decide +kernel) 0 rfl rfl rfl rfl (Nat.le_of_ble_eq_true rfl) dX6_copy_76 ⟨Nat.zero_le _, Nat.zero_le _⟩) rfl ?_
                obtain ⟨rfl, rfl, rfl⟩ := ik_e3 hf
                exact ik_iretW C hr hlk dX6_copy_79
            · have hf := ik_neg hc hf
              refine ik_aload_n C 2 rfl rfl dX6_copy_53 ?_
              refine ik_ldc C wl_43_13 dX6_copy_54 ?_
              obtain ⟨r5, g6, hc6, hf⟩ := ik_b2s hf
              have hM := (c_X6_tell l D cI cS o0 np0 kp0 tp0 r0 t0 sh0 f0 isk fnd (-1000006 : Int32) r5 g6 hc6)
              refine ik_goW (v := (some (.int r5))) (wc := (wz_X6of cI cS o0 np0 kp0 tp0 r0 t0 sh0 f0 isk fnd)) (w1 := (wz_X6of cI cS o0 np0 kp0 tp0 r0 t0 sh0 f0 isk g6)) [0, 1] [2, 3, 4, 5, 6, 7, 8, 9, 10] 11 rfl rfl (wz_X6ofs cI cS o0 np0 kp0 tp0 r0 t0 sh0 f0 s00 s10 s20 s30 s01 s11 s21 s31 isk g6 sbits ssize snum) rfl [(sh0, .inl (cS, 4, .inr (.inr (.inr (.inr (ik_ref4 s00 s10 s20 s30)))))), (s00, .inr (2, [.int (sbits 0), .int (ssize 0), .ref s01])), (s01, .inl (cI, 40, .inl (snum 0))), (s10, .inr (2, [.int (sbits 1), .int (ssize 1), .ref s11])), (s11, .inl (cI, 40, .inl (snum 1))), (s20, .inr (2, [.int (sbits 2), .int (ssize 2), .ref s21])), (s21, .inl (cI, 40, .inl (snum 2))), (s30, .inr (2, [.int (sbits 3), .int (ssize 3), .ref s31])), (s31, .inl (cI, 40, .inl (snum 3)))] rfl rfl rfl (by decide +kernel) (ik_runV (st := []) (As := [.int (-1000006 : Int32)]) C hM mv_X6_tell wl_5_16 ⟨rfl, rfl, Nat.le_of_ble_eq_true rfl, Nat.le_of_ble_eq_true rfl⟩ [0, 1] rfl (by decide +kernel) 0 rfl rfl rfl rfl (Nat.le_of_ble_eq_true rfl) dX6_copy_56 ⟨Nat.zero_le _, Nat.zero_le _⟩) rfl ?_
              obtain ⟨rfl, rfl, rfl⟩ := ik_e3 hf
              exact ik_iretW C hr hlk dX6_copy_59
        · have hf := ik_neg hb0 hf; have hf := ik_pos hc hf
          refine ik_astore C [(7, .ref s10), (6, .ref s10), (0, .ref o0), (1, .int x1), (2, .int x2), (3, .int x3), (4, .int x4), (5, .int x5)] (by decide) rfl dX6_copy_35 ?_
          refine ik_aload C 1 rfl dX6_copy_37 ?_
          obtain ⟨r3, hc3, hf⟩ := ik_b1s hf
          have hM := (c_X2_isMissing l D cI cS s10 s11 (sbits 1) (ssize 1) (snum 1) r3 hc3)
          refine ik_goR (ik_runV (st := []) (As := []) C hM mv_X2_isMissing wl_45_9 ⟨rfl, rfl, Nat.le_of_ble_eq_true rfl, Nat.le_of_ble_eq_true rfl⟩ [5, 6] rfl (by decide +kernel) 5 rfl rfl rfl rfl (Nat.le_of_ble_eq_true rfl) dX6_copy_39 ⟨Nat.zero_le _, Nat.zero_le _⟩) rfl ?_
          refine ik_if_ne C 53 dX6_copy_42 (by decide) (fun hc => ?_) (fun hc => ?_)
          · have hf := ik_neg hc hf
            refine ik_aload_n C 2 rfl rfl dX6_copy_53 ?_
            refine ik_ldc C wl_43_13 dX6_copy_54 ?_
            obtain ⟨r4, g5, hc5, hf⟩ := ik_b2s hf
            have hM := (c_X6_tell l D cI cS o0 np0 kp0 tp0 r0 t0 sh0 f0 isk fnd (-1000006 : Int32) r4 g5 hc5)
            refine ik_goW (v := (some (.int r4))) (wc := (wz_X6of cI cS o0 np0 kp0 tp0 r0 t0 sh0 f0 isk fnd)) (w1 := (wz_X6of cI cS o0 np0 kp0 tp0 r0 t0 sh0 f0 isk g5)) [0, 1] [2, 3, 4, 5, 6, 7, 8, 9, 10] 11 rfl rfl (wz_X6ofs cI cS o0 np0 kp0 tp0 r0 t0 sh0 f0 s00 s10 s20 s30 s01 s11 s21 s31 isk g5 sbits ssize snum) rfl [(sh0, .inl (cS, 4, .inr (.inr (.inr (.inr (ik_ref4 s00 s10 s20 s30)))))), (s00, .inr (2, [.int (sbits 0), .int (ssize 0), .ref s01])), (s01, .inl (cI, 40, .inl (snum 0))), (s10, .inr (2, [.int (sbits 1), .int (ssize 1), .ref s11])), (s11, .inl (cI, 40, .inl (snum 1))), (s20, .inr (2, [.int (sbits 2), .int (ssize 2), .ref s21])), (s21, .inl (cI, 40, .inl (snum 2))), (s30, .inr (2, [.int (sbits 3), .int (ssize 3), .ref s31])), (s31, .inl (cI, 40, .inl (snum 3)))] rfl rfl rfl (by decide +kernel) (ik_runV (st := []) (As := [.int (-1000006 : Int32)]) C hM mv_X6_tell wl_5_16 ⟨rfl, rfl, Nat.le_of_ble_eq_true rfl, Nat.le_of_ble_eq_true rfl⟩ [0, 1] rfl (by decide +kernel) 0 rfl rfl rfl rfl (Nat.le_of_ble_eq_true rfl) dX6_copy_56 ⟨Nat.zero_le _, Nat.zero_le _⟩) rfl ?_
            obtain ⟨rfl, rfl, rfl⟩ := ik_e3 hf
            exact ik_iretW C hr hlk dX6_copy_59
          · have hf := ik_pos hc hf
            refine ik_aload C 0 rfl dX6_copy_45 ?_
            obtain ⟨r4, hc4, hf⟩ := ik_b1s hf
            have hM := (c_X2_isMissing l D cI cS s10 s11 (sbits 1) (ssize 1) (snum 1) r4 hc4)
            refine ik_goR (ik_runV (st := []) (As := []) C hM mv_X2_isMissing wl_45_9 ⟨rfl, rfl, Nat.le_of_ble_eq_true rfl, Nat.le_of_ble_eq_true rfl⟩ [5, 6] rfl (by decide +kernel) 5 rfl rfl rfl rfl (Nat.le_of_ble_eq_true rfl) dX6_copy_47 ⟨Nat.zero_le _, Nat.zero_le _⟩) rfl ?_
            refine ik_if_eq C 60 dX6_copy_50 (by decide) (fun hc => ?_) (fun hc => ?_)
            · have hf := ik_pos hc hf
              refine ik_aload C 1 rfl dX6_copy_60 ?_
              refine ik_get C inlX2 5 rfl rfl 0 (by decide) wl_46_1 rfl (v := .int (sbits 1)) rfl dX6_copy_62 ?_
              refine ik_aload C 0 rfl dX6_copy_65 ?_
              refine ik_get C inlX2 5 rfl rfl 0 (by decide) wl_46_1 rfl (v := .int (sbits 1)) rfl dX6_copy_67 ?_
              refine ik_icmp_eq C 80 dX6_copy_70 (by decide) (fun hc => ?_) (fun hc => ?_)
              · have hf := ik_pos hc hf
                refine ik_aload C 1 rfl dX6_copy_80 ?_
                refine ik_iload_n C 4 rfl rfl dX6_copy_82 ?_
                refine ik_iload C 7 rfl dX6_copy_83 ?_
                obtain ⟨r5, hc5, hf⟩ := ik_b1s hf
                have hM := (c_X2_hasRange l D cI cS s10 s11 (sbits 1) (ssize 1) (snum 1) x2 x5 r5 hc5)
                refine ik_goR (ik_runV (st := []) (As := [.int x2, .int x5]) C hM mv_X2_hasRange wl_46_4 ⟨rfl, rfl, Nat.le_of_ble_eq_true rfl, Nat.le_of_ble_eq_true rfl⟩ [5, 6] rfl (by decide +kernel) 5 rfl rfl rfl rfl (Nat.le_of_ble_eq_true rfl) dX6_copy_85 ⟨Nat.zero_le _, Nat.zero_le _⟩) rfl ?_
                refine ik_if_eq C 103 dX6_copy_88 (by decide) (fun hc => ?_) (fun hc => ?_)
                · have hf := ik_pos hc hf
                  refine ik_aload_n C 2 rfl rfl dX6_copy_103 ?_
                  refine ik_ldc C wl_5_3 dX6_copy_104 ?_
                  obtain ⟨r6, g7, hc7, hf⟩ := ik_b2s hf
                  have hM := (c_X6_tell l D cI cS o0 np0 kp0 tp0 r0 t0 sh0 f0 isk fnd (-1000001 : Int32) r6 g7 hc7)
                  refine ik_goW (v := (some (.int r6))) (wc := (wz_X6of cI cS o0 np0 kp0 tp0 r0 t0 sh0 f0 isk fnd)) (w1 := (wz_X6of cI cS o0 np0 kp0 tp0 r0 t0 sh0 f0 isk g7)) [0, 1] [2, 3, 4, 5, 6, 7, 8, 9, 10] 11 rfl rfl (wz_X6ofs cI cS o0 np0 kp0 tp0 r0 t0 sh0 f0 s00 s10 s20 s30 s01 s11 s21 s31 isk g7 sbits ssize snum) rfl [(sh0, .inl (cS, 4, .inr (.inr (.inr (.inr (ik_ref4 s00 s10 s20 s30)))))), (s00, .inr (2, [.int (sbits 0), .int (ssize 0), .ref s01])), (s01, .inl (cI, 40, .inl (snum 0))), (s10, .inr (2, [.int (sbits 1), .int (ssize 1), .ref s11])), (s11, .inl (cI, 40, .inl (snum 1))), (s20, .inr (2, [.int (sbits 2), .int (ssize 2), .ref s21])), (s21, .inl (cI, 40, .inl (snum 2))), (s30, .inr (2, [.int (sbits 3), .int (ssize 3), .ref s31])), (s31, .inl (cI, 40, .inl (snum 3)))] rfl rfl rfl (by decide +kernel) (ik_runV (st := []) (As := [.int (-1000001 : Int32)]) C hM mv_X6_tell wl_5_16 ⟨rfl, rfl, Nat.le_of_ble_eq_true rfl, Nat.le_of_ble_eq_true rfl⟩ [0, 1] rfl (by decide +kernel) 0 rfl rfl rfl rfl (Nat.le_of_ble_eq_true rfl) dX6_copy_106 ⟨Nat.zero_le _, Nat.zero_le _⟩) rfl ?_
                  obtain ⟨rfl, rfl, rfl⟩ := ik_e3 hf
                  exact ik_iretW C hr hlk dX6_copy_109
                · have hf := ik_neg hc hf
                  refine ik_aload C 0 rfl dX6_copy_91 ?_
                  refine ik_iload C 6 rfl dX6_copy_93 ?_
                  refine ik_iload C 7 rfl dX6_copy_95 ?_
                  obtain ⟨r6, hc6, hf⟩ := ik_b1s hf
                  have hM := (c_X2_hasRange l D cI cS s10 s11 (sbits 1) (ssize 1) (snum 1) x4 x5 r6 hc6)
                  refine ik_goR (ik_runV (st := []) (As := [.int x4, .int x5]) C hM mv_X2_hasRange wl_46_4 ⟨rfl, rfl, Nat.le_of_ble_eq_true rfl, Nat.le_of_ble_eq_true rfl⟩ [5, 6] rfl (by decide +kernel) 5 rfl rfl rfl rfl (Nat.le_of_ble_eq_true rfl) dX6_copy_97 ⟨Nat.zero_le _, Nat.zero_le _⟩) rfl ?_
                  refine ik_if_ne C 110 dX6_copy_100 (by decide) (fun hc => ?_) (fun hc => ?_)
                  · have hf := ik_neg hc hf
                    refine ik_aload C 1 rfl dX6_copy_110 ?_
                    refine ik_get C inlX2 5 rfl rfl 2 (by decide) wl_46_2 rfl (v := .ref s11) rfl dX6_copy_112 ?_
                    refine ik_iload_n C 4 rfl rfl dX6_copy_115 ?_
                    refine ik_aload C 0 rfl dX6_copy_116 ?_
                    refine ik_get C inlX2 5 rfl rfl 2 (by decide) wl_46_2 rfl (v := .ref s11) rfl dX6_copy_118 ?_
                    refine ik_iload C 6 rfl dX6_copy_121 ?_
                    refine ik_iload C 7 rfl dX6_copy_123 ?_
                    have hg := ik_gci hf
                    have hf := ik_gck hf
                    refine ik_copy C wl_46_3 wl_23_19 wl_23_20 wl_23_21 6 6 rfl rfl hg (Nat.le_of_ble_eq_true rfl) (Nat.le_of_ble_eq_true rfl) (wz_X6ofs cI cS o0 np0 kp0 tp0 r0 t0 sh0 f0 s00 s10 s20 s30 s01 s11 s21 s31 isk fnd sbits ssize (va_up snum 1 (va_cpy (snum 1) (snum 1) (x2).toNatClampNeg (x4).toNatClampNeg (x5).toNatClampNeg))) rfl dX6_copy_125 ?_
                    refine ik_iload C 7 rfl dX6_copy_128 ?_
                    obtain ⟨rfl, rfl, rfl⟩ := ik_e3 hf
                    exact ik_iretW C hr hlk dX6_copy_130
                  · have hf := ik_pos hc hf
                    refine ik_aload_n C 2 rfl rfl dX6_copy_103 ?_
                    refine ik_ldc C wl_5_3 dX6_copy_104 ?_
                    obtain ⟨r7, g8, hc8, hf⟩ := ik_b2s hf
                    have hM := (c_X6_tell l D cI cS o0 np0 kp0 tp0 r0 t0 sh0 f0 isk fnd (-1000001 : Int32) r7 g8 hc8)
                    refine ik_goW (v := (some (.int r7))) (wc := (wz_X6of cI cS o0 np0 kp0 tp0 r0 t0 sh0 f0 isk fnd)) (w1 := (wz_X6of cI cS o0 np0 kp0 tp0 r0 t0 sh0 f0 isk g8)) [0, 1] [2, 3, 4, 5, 6, 7, 8, 9, 10] 11 rfl rfl (wz_X6ofs cI cS o0 np0 kp0 tp0 r0 t0 sh0 f0 s00 s10 s20 s30 s01 s11 s21 s31 isk g8 sbits ssize snum) rfl [(sh0, .inl (cS, 4, .inr (.inr (.inr (.inr (ik_ref4 s00 s10 s20 s30)))))), (s00, .inr (2, [.int (sbits 0), .int (ssize 0), .ref s01])), (s01, .inl (cI, 40, .inl (snum 0))), (s10, .inr (2, [.int (sbits 1), .int (ssize 1), .ref s11])), (s11, .inl (cI, 40, .inl (snum 1))), (s20, .inr (2, [.int (sbits 2), .int (ssize 2), .ref s21])), (s21, .inl (cI, 40, .inl (snum 2))), (s30, .inr (2, [.int (sbits 3), .int (ssize 3), .ref s31])), (s31, .inl (cI, 40, .inl (snum 3)))] rfl rfl rfl (by decide +kernel) (ik_runV (st := []) (As := [.int (-1000001 : Int32)]) C hM mv_X6_tell wl_5_16 ⟨rfl, rfl, Nat.le_of_ble_eq_true rfl, Nat.le_of_ble_eq_true rfl⟩ [0, 1] rfl (by decide +kernel) 0 rfl rfl rfl rfl (Nat.le_of_ble_eq_true rfl) dX6_copy_106 ⟨Nat.zero_le _, Nat.zero_le _⟩) rfl ?_
                    obtain ⟨rfl, rfl, rfl⟩ := ik_e3 hf
                    exact ik_iretW C hr hlk dX6_copy_109
              · have hf := ik_neg hc hf
                refine ik_aload_n C 2 rfl rfl dX6_copy_73 ?_
                refine ik_ldc C wl_43_14 dX6_copy_74 ?_
                obtain ⟨r5, g6, hc6, hf⟩ := ik_b2s hf
                have hM := (c_X6_tell l D cI cS o0 np0 kp0 tp0 r0 t0 sh0 f0 isk fnd (-1000003 : Int32) r5 g6 hc6)
                refine ik_goW (v := (some (.int r5))) (wc := (wz_X6of cI cS o0 np0 kp0 tp0 r0 t0 sh0 f0 isk fnd)) (w1 := (wz_X6of cI cS o0 np0 kp0 tp0 r0 t0 sh0 f0 isk g6)) [0, 1] [2, 3, 4, 5, 6, 7, 8, 9, 10] 11 rfl rfl (wz_X6ofs cI cS o0 np0 kp0 tp0 r0 t0 sh0 f0 s00 s10 s20 s30 s01 s11 s21 s31 isk g6 sbits ssize snum) rfl [(sh0, .inl (cS, 4, .inr (.inr (.inr (.inr (ik_ref4 s00 s10 s20 s30)))))), (s00, .inr (2, [.int (sbits 0), .int (ssize 0), .ref s01])), (s01, .inl (cI, 40, .inl (snum 0))), (s10, .inr (2, [.int (sbits 1), .int (ssize 1), .ref s11])), (s11, .inl (cI, 40, .inl (snum 1))), (s20, .inr (2, [.int (sbits 2), .int (ssize 2), .ref s21])), (s21, .inl (cI, 40, .inl (snum 2))), (s30, .inr (2, [.int (sbits 3), .int (ssize 3), .ref s31])), (s31, .inl (cI, 40, .inl (snum 3)))] rfl rfl rfl (by decide +kernel) (ik_runV (st := []) (As := [.int (-1000003 : Int32)]) C hM mv_X6_tell wl_5_16 ⟨rfl, rfl, Nat.le_of_ble_eq_true rfl, Nat.le_of_ble_eq_true rfl⟩ [0, 1] rfl (by decide +kernel) 0 rfl rfl rfl rfl (Nat.le_of_ble_eq_true rfl) dX6_copy_76 ⟨Nat.zero_le _, Nat.zero_le _⟩) rfl ?_
                obtain ⟨rfl, rfl, rfl⟩ := ik_e3 hf
                exact ik_iretW C hr hlk dX6_copy_79
            · have hf := ik_neg hc hf
              refine ik_aload_n C 2 rfl rfl dX6_copy_53 ?_
              refine ik_ldc C wl_43_13 dX6_copy_54 ?_
              obtain ⟨r5, g6, hc6, hf⟩ := ik_b2s hf
              have hM := (c_X6_tell l D cI cS o0 np0 kp0 tp0 r0 t0 sh0 f0 isk fnd (-1000006 : Int32) r5 g6 hc6)
              refine ik_goW (v := (some (.int r5))) (wc := (wz_X6of cI cS o0 np0 kp0 tp0 r0 t0 sh0 f0 isk fnd)) (w1 := (wz_X6of cI cS o0 np0 kp0 tp0 r0 t0 sh0 f0 isk g6)) [0, 1] [2, 3, 4, 5, 6, 7, 8, 9, 10] 11 rfl rfl (wz_X6ofs cI cS o0 np0 kp0 tp0 r0 t0 sh0 f0 s00 s10 s20 s30 s01 s11 s21 s31 isk g6 sbits ssize snum) rfl [(sh0, .inl (cS, 4, .inr (.inr (.inr (.inr (ik_ref4 s00 s10 s20 s30)))))), (s00, .inr (2, [.int (sbits 0), .int (ssize 0), .ref s01])), (s01, .inl (cI, 40, .inl (snum 0))), (s10, .inr (2, [.int (sbits 1), .int (ssize 1), .ref s11])), (s11, .inl (cI, 40, .inl (snum 1))), (s20, .inr (2, [.int (sbits 2), .int (ssize 2), .ref s21])), (s21, .inl (cI, 40, .inl (snum 2))), (s30, .inr (2, [.int (sbits 3), .int (ssize 3), .ref s31])), (s31, .inl (cI, 40, .inl (snum 3)))] rfl rfl rfl (by decide +kernel) (ik_runV (st := []) (As := [.int (-1000006 : Int32)]) C hM mv_X6_tell wl_5_16 ⟨rfl, rfl, Nat.le_of_ble_eq_true rfl, Nat.le_of_ble_eq_true rfl⟩ [0, 1] rfl (by decide +kernel) 0 rfl rfl rfl rfl (Nat.le_of_ble_eq_true rfl) dX6_copy_56 ⟨Nat.zero_le _, Nat.zero_le _⟩) rfl ?_
              obtain ⟨rfl, rfl, rfl⟩ := ik_e3 hf
              exact ik_iretW C hr hlk dX6_copy_59
        · have hf := ik_neg hb0 hf; have hf := ik_neg hb1 hf; have hf := ik_pos hc hf
          refine ik_astore C [(7, .ref s20), (6, .ref s10), (0, .ref o0), (1, .int x1), (2, .int x2), (3, .int x3), (4, .int x4), (5, .int x5)] (by decide) rfl dX6_copy_35 ?_
          refine ik_aload C 1 rfl dX6_copy_37 ?_
          obtain ⟨r3, hc3, hf⟩ := ik_b1s hf
          have hM := (c_X2_isMissing l D cI cS s10 s11 (sbits 1) (ssize 1) (snum 1) r3 hc3)
          refine ik_goR (ik_runV (st := []) (As := []) C hM mv_X2_isMissing wl_45_9 ⟨rfl, rfl, Nat.le_of_ble_eq_true rfl, Nat.le_of_ble_eq_true rfl⟩ [5, 6] rfl (by decide +kernel) 5 rfl rfl rfl rfl (Nat.le_of_ble_eq_true rfl) dX6_copy_39 ⟨Nat.zero_le _, Nat.zero_le _⟩) rfl ?_
          refine ik_if_ne C 53 dX6_copy_42 (by decide) (fun hc => ?_) (fun hc => ?_)
          · have hf := ik_neg hc hf
            refine ik_aload_n C 2 rfl rfl dX6_copy_53 ?_
            refine ik_ldc C wl_43_13 dX6_copy_54 ?_
            obtain ⟨r4, g5, hc5, hf⟩ := ik_b2s hf
            have hM := (c_X6_tell l D cI cS o0 np0 kp0 tp0 r0 t0 sh0 f0 isk fnd (-1000006 : Int32) r4 g5 hc5)
            refine ik_goW (v := (some (.int r4))) (wc := (wz_X6of cI cS o0 np0 kp0 tp0 r0 t0 sh0 f0 isk fnd)) (w1 := (wz_X6of cI cS o0 np0 kp0 tp0 r0 t0 sh0 f0 isk g5)) [0, 1] [2, 3, 4, 5, 6, 7, 8, 9, 10] 11 rfl rfl (wz_X6ofs cI cS o0 np0 kp0 tp0 r0 t0 sh0 f0 s00 s10 s20 s30 s01 s11 s21 s31 isk g5 sbits ssize snum) rfl [(sh0, .inl (cS, 4, .inr (.inr (.inr (.inr (ik_ref4 s00 s10 s20 s30)))))), (s00, .inr (2, [.int (sbits 0), .int (ssize 0), .ref s01])), (s01, .inl (cI, 40, .inl (snum 0))), (s10, .inr (2, [.int (sbits 1), .int (ssize 1), .ref s11])), (s11, .inl (cI, 40, .inl (snum 1))), (s20, .inr (2, [.int (sbits 2), .int (ssize 2), .ref s21])), (s21, .inl (cI, 40, .inl (snum 2))), (s30, .inr (2, [.int (sbits 3), .int (ssize 3), .ref s31])), (s31, .inl (cI, 40, .inl (snum 3)))] rfl rfl rfl (by decide +kernel) (ik_runV (st := []) (As := [.int (-1000006 : Int32)]) C hM mv_X6_tell wl_5_16 ⟨rfl, rfl, Nat.le_of_ble_eq_true rfl, Nat.le_of_ble_eq_true rfl⟩ [0, 1] rfl (by decide +kernel) 0 rfl rfl rfl rfl (Nat.le_of_ble_eq_true rfl) dX6_copy_56 ⟨Nat.zero_le _, Nat.zero_le _⟩) rfl ?_
            obtain ⟨rfl, rfl, rfl⟩ := ik_e3 hf
            exact ik_iretW C hr hlk dX6_copy_59
          · have hf := ik_pos hc hf
            refine ik_aload C 0 rfl dX6_copy_45 ?_
            obtain ⟨r4, hc4, hf⟩ := ik_b1s hf
            have hM := (c_X2_isMissing l D cI cS s20 s21 (sbits 2) (ssize 2) (snum 2) r4 hc4)
            refine ik_goR (ik_runV (st := []) (As := []) C hM mv_X2_isMissing wl_45_9 ⟨rfl, rfl, Nat.le_of_ble_eq_true rfl, Nat.le_of_ble_eq_true rfl⟩ [7, 8] rfl (by decide +kernel) 7 rfl rfl rfl rfl (Nat.le_of_ble_eq_true rfl) dX6_copy_47 ⟨Nat.zero_le _, Nat.zero_le _⟩) rfl ?_
            refine ik_if_eq C 60 dX6_copy_50 (by decide) (fun hc => ?_) (fun hc => ?_)
            · have hf := ik_pos hc hf
              refine ik_aload C 1 rfl dX6_copy_60 ?_
              refine ik_get C inlX2 5 rfl rfl 0 (by decide) wl_46_1 rfl (v := .int (sbits 1)) rfl dX6_copy_62 ?_
              refine ik_aload C 0 rfl dX6_copy_65 ?_
              refine ik_get C inlX2 7 rfl rfl 0 (by decide) wl_46_1 rfl (v := .int (sbits 2)) rfl dX6_copy_67 ?_
              refine ik_icmp_eq C 80 dX6_copy_70 (by decide) (fun hc => ?_) (fun hc => ?_)
              · have hf := ik_pos hc hf
                refine ik_aload C 1 rfl dX6_copy_80 ?_
                refine ik_iload_n C 4 rfl rfl dX6_copy_82 ?_
                refine ik_iload C 7 rfl dX6_copy_83 ?_
                obtain ⟨r5, hc5, hf⟩ := ik_b1s hf
                have hM := (c_X2_hasRange l D cI cS s10 s11 (sbits 1) (ssize 1) (snum 1) x2 x5 r5 hc5)
                refine ik_goR (ik_runV (st := []) (As := [.int x2, .int x5]) C hM mv_X2_hasRange wl_46_4 ⟨rfl, rfl, Nat.le_of_ble_eq_true rfl, Nat.le_of_ble_eq_true rfl⟩ [5, 6] rfl (by decide +kernel) 5 rfl rfl rfl rfl (Nat.le_of_ble_eq_true rfl) dX6_copy_85 ⟨Nat.zero_le _, Nat.zero_le _⟩) rfl ?_
                refine ik_if_eq C 103 dX6_copy_88 (by decide) (fun hc => ?_) (fun hc => ?_)
                · have hf := ik_pos hc hf
                  refine ik_aload_n C 2 rfl rfl dX6_copy_103 ?_
                  refine ik_ldc C wl_5_3 dX6_copy_104 ?_
                  obtain ⟨r6, g7, hc7, hf⟩ := ik_b2s hf
                  have hM := (c_X6_tell l D cI cS o0 np0 kp0 tp0 r0 t0 sh0 f0 isk fnd (-1000001 : Int32) r6 g7 hc7)
                  refine ik_goW (v := (some (.int r6))) (wc := (wz_X6of cI cS o0 np0 kp0 tp0 r0 t0 sh0 f0 isk fnd)) (w1 := (wz_X6of cI cS o0 np0 kp0 tp0 r0 t0 sh0 f0 isk g7)) [0, 1] [2, 3, 4, 5, 6, 7, 8, 9, 10] 11 rfl rfl (wz_X6ofs cI cS o0 np0 kp0 tp0 r0 t0 sh0 f0 s00 s10 s20 s30 s01 s11 s21 s31 isk g7 sbits ssize snum) rfl [(sh0, .inl (cS, 4, .inr (.inr (.inr (.inr (ik_ref4 s00 s10 s20 s30)))))), (s00, .inr (2, [.int (sbits 0), .int (ssize 0), .ref s01])), (s01, .inl (cI, 40, .inl (snum 0))), (s10, .inr (2, [.int (sbits 1), .int (ssize 1), .ref s11])), (s11, .inl (cI, 40, .inl (snum 1))), (s20, .inr (2, [.int (sbits 2), .int (ssize 2), .ref s21])), (s21, .inl (cI, 40, .inl (snum 2))), (s30, .inr (2, [.int (sbits 3), .int (ssize 3), .ref s31])), (s31, .inl (cI, 40, .inl (snum 3)))] rfl rfl rfl (by decide +kernel) (ik_runV (st := []) (As := [.int (-1000001 : Int32)]) C hM mv_X6_tell wl_5_16 ⟨rfl, rfl, Nat.le_of_ble_eq_true rfl, Nat.le_of_ble_eq_true rfl⟩ [0, 1] rfl (by decide +kernel) 0 rfl rfl rfl rfl (Nat.le_of_ble_eq_true rfl) dX6_copy_106 ⟨Nat.zero_le _, Nat.zero_le _⟩) rfl ?_
                  obtain ⟨rfl, rfl, rfl⟩ := ik_e3 hf
                  exact ik_iretW C hr hlk dX6_copy_109
                · have hf := ik_neg hc hf
                  refine ik_aload C 0 rfl dX6_copy_91 ?_
                  refine ik_iload C 6 rfl dX6_copy_93 ?_
                  refine ik_iload C 7 rfl dX6_copy_95 ?_
                  obtain ⟨r6, hc6, hf⟩ := ik_b1s hf
                  have hM := (c_X2_hasRange l D cI cS s20 s21 (sbits 2) (ssize 2) (snum 2) x4 x5 r6 hc6)
                  refine ik_goR (ik_runV (st := []) (As := [.int x4, .int x5]) C hM mv_X2_hasRange wl_46_4 ⟨rfl, rfl, Nat.le_of_ble_eq_true rfl, Nat.le_of_ble_eq_true rfl⟩ [7, 8] rfl (by decide +kernel) 7 rfl rfl rfl rfl (Nat.le_of_ble_eq_true rfl) dX6_copy_97 ⟨Nat.zero_le _, Nat.zero_le _⟩) rfl ?_
                  refine ik_if_ne C 110 dX6_copy_100 (by decide) (fun hc => ?_) (fun hc => ?_)
                  · have hf := ik_neg hc hf
                    refine ik_aload C 1 rfl dX6_copy_110 ?_
                    refine ik_get C inlX2 5 rfl rfl 2 (by decide) wl_46_2 rfl (v := .ref s11) rfl dX6_copy_112 ?_
                    refine ik_iload_n C 4 rfl rfl dX6_copy_115 ?_
                    refine ik_aload C 0 rfl dX6_copy_116 ?_
                    refine ik_get C inlX2 7 rfl rfl 2 (by decide) wl_46_2 rfl (v := .ref s21) rfl dX6_copy_118 ?_
                    refine ik_iload C 6 rfl dX6_copy_121 ?_
                    refine ik_iload C 7 rfl dX6_copy_123 ?_
                    have hg := ik_gci hf
                    have hf := ik_gck hf
                    refine ik_copy C wl_46_3 wl_23_19 wl_23_20 wl_23_21 6 8 rfl rfl hg (Nat.le_of_ble_eq_true rfl) (Nat.le_of_ble_eq_true rfl) (wz_X6ofs cI cS o0 np0 kp0 tp0 r0 t0 sh0 f0 s00 s10 s20 s30 s01 s11 s21 s31 isk fnd sbits ssize (va_up snum 2 (va_cpy (snum 1) (snum 2) (x2).toNatClampNeg (x4).toNatClampNeg (x5).toNatClampNeg))) rfl dX6_copy_125 ?_
                    refine ik_iload C 7 rfl dX6_copy_128 ?_
                    obtain ⟨rfl, rfl, rfl⟩ := ik_e3 hf
                    exact ik_iretW C hr hlk dX6_copy_130
                  · have hf := ik_pos hc hf
                    refine ik_aload_n C 2 rfl rfl dX6_copy_103 ?_
                    refine ik_ldc C wl_5_3 dX6_copy_104 ?_
                    obtain ⟨r7, g8, hc8, hf⟩ := ik_b2s hf
                    have hM := (c_X6_tell l D cI cS o0 np0 kp0 tp0 r0 t0 sh0 f0 isk fnd (-1000001 : Int32) r7 g8 hc8)
                    refine ik_goW (v := (some (.int r7))) (wc := (wz_X6of cI cS o0 np0 kp0 tp0 r0 t0 sh0 f0 isk fnd)) (w1 := (wz_X6of cI cS o0 np0 kp0 tp0 r0 t0 sh0 f0 isk g8)) [0, 1] [2, 3, 4, 5, 6, 7, 8, 9, 10] 11 rfl rfl (wz_X6ofs cI cS o0 np0 kp0 tp0 r0 t0 sh0 f0 s00 s10 s20 s30 s01 s11 s21 s31 isk g8 sbits ssize snum) rfl [(sh0, .inl (cS, 4, .inr (.inr (.inr (.inr (ik_ref4 s00 s10 s20 s30)))))), (s00, .inr (2, [.int (sbits 0), .int (ssize 0), .ref s01])), (s01, .inl (cI, 40, .inl (snum 0))), (s10, .inr (2, [.int (sbits 1), .int (ssize 1), .ref s11])), (s11, .inl (cI, 40, .inl (snum 1))), (s20, .inr (2, [.int (sbits 2), .int (ssize 2), .ref s21])), (s21, .inl (cI, 40, .inl (snum 2))), (s30, .inr (2, [.int (sbits 3), .int (ssize 3), .ref s31])), (s31, .inl (cI, 40, .inl (snum 3)))] rfl rfl rfl (by decide +kernel) (ik_runV (st := []) (As := [.int (-1000001 : Int32)]) C hM mv_X6_tell wl_5_16 ⟨rfl, rfl, Nat.le_of_ble_eq_true rfl, Nat.le_of_ble_eq_true rfl⟩ [0, 1] rfl (by decide +kernel) 0 rfl rfl rfl rfl (Nat.le_of_ble_eq_true rfl) dX6_copy_106 ⟨Nat.zero_le _, Nat.zero_le _⟩) rfl ?_
                    obtain ⟨rfl, rfl, rfl⟩ := ik_e3 hf
                    exact ik_iretW C hr hlk dX6_copy_109
              · have hf := ik_neg hc hf
                refine ik_aload_n C 2 rfl rfl dX6_copy_73 ?_
                refine ik_ldc C wl_43_14 dX6_copy_74 ?_
                obtain ⟨r5, g6, hc6, hf⟩ := ik_b2s hf
                have hM := (c_X6_tell l D cI cS o0 np0 kp0 tp0 r0 t0 sh0 f0 isk fnd (-1000003 : Int32) r5 g6 hc6)
                refine ik_goW (v := (some (.int r5))) (wc := (wz_X6of cI cS o0 np0 kp0 tp0 r0 t0 sh0 f0 isk fnd)) (w1 := (wz_X6of cI cS o0 np0 kp0 tp0 r0 t0 sh0 f0 isk g6)) [0, 1] [2, 3, 4, 5, 6, 7, 8, 9, 10] 11 rfl rfl (wz_X6ofs cI cS o0 np0 kp0 tp0 r0 t0 sh0 f0 s00 s10 s20 s30 s01 s11 s21 s31 isk g6 sbits ssize snum) rfl [(sh0, .inl (cS, 4, .inr (.inr (.inr (.inr (ik_ref4 s00 s10 s20 s30)))))), (s00, .inr (2, [.int (sbits 0), .int (ssize 0), .ref s01])), (s01, .inl (cI, 40, .inl (snum 0))), (s10, .inr (2, [.int (sbits 1), .int (ssize 1), .ref s11])), (s11, .inl (cI, 40, .inl (snum 1))), (s20, .inr (2, [.int (sbits 2), .int (ssize 2), .ref s21])), (s21, .inl (cI, 40, .inl (snum 2))), (s30, .inr (2, [.int (sbits 3), .int (ssize 3), .ref s31])), (s31, .inl (cI, 40, .inl (snum 3)))] rfl rfl rfl (by decide +kernel) (ik_runV (st := []) (As := [.int (-1000003 : Int32)]) C hM mv_X6_tell wl_5_16 ⟨rfl, rfl, Nat.le_of_ble_eq_true rfl, Nat.le_of_ble_eq_true rfl⟩ [0, 1] rfl (by decide +kernel) 0 rfl rfl rfl rfl (Nat.le_of_ble_eq_true rfl) dX6_copy_76 ⟨Nat.zero_le _, Nat.zero_le _⟩) rfl ?_
                obtain ⟨rfl, rfl, rfl⟩ := ik_e3 hf
                exact ik_iretW C hr hlk dX6_copy_79
            · have hf := ik_neg hc hf
              refine ik_aload_n C 2 rfl rfl dX6_copy_53 ?_
              refine ik_ldc C wl_43_13 dX6_copy_54 ?_
              obtain ⟨r5, g6, hc6, hf⟩ := ik_b2s hf
              have hM := (c_X6_tell l D cI cS o0 np0 kp0 tp0 r0 t0 sh0 f0 isk fnd (-1000006 : Int32) r5 g6 hc6)
              refine ik_goW (v := (some (.int r5))) (wc := (wz_X6of cI cS o0 np0 kp0 tp0 r0 t0 sh0 f0 isk fnd)) (w1 := (wz_X6of cI cS o0 np0 kp0 tp0 r0 t0 sh0 f0 isk g6)) [0, 1] [2, 3, 4, 5, 6, 7, 8, 9, 10] 11 rfl rfl (wz_X6ofs cI cS o0 np0 kp0 tp0 r0 t0 sh0 f0 s00 s10 s20 s30 s01 s11 s21 s31 isk g6 sbits ssize snum) rfl [(sh0, .inl (cS, 4, .inr (.inr (.inr (.inr (ik_ref4 s00 s10 s20 s30)))))), (s00, .inr (2, [.int (sbits 0), .int (ssize 0), .ref s01])), (s01, .inl (cI, 40, .inl (snum 0))), (s10, .inr (2, [.int (sbits 1), .int (ssize 1), .ref s11])), (s11, .inl (cI, 40, .inl (snum 1))), (s20, .inr (2, [.int (sbits 2), .int (ssize 2), .ref s21])), (s21, .inl (cI, 40, .inl (snum 2))), (s30, .inr (2, [.int (sbits 3), .int (ssize 3), .ref s31])), (s31, .inl (cI, 40, .inl (snum 3)))] rfl rfl rfl (by decide +kernel) (ik_runV (st := []) (As := [.int (-1000006 : Int32)]) C hM mv_X6_tell wl_5_16 ⟨rfl, rfl, Nat.le_of_ble_eq_true rfl, Nat.le_of_ble_eq_true rfl⟩ [0, 1] rfl (by decide +kernel) 0 rfl rfl rfl rfl (Nat.le_of_ble_eq_true rfl) dX6_copy_56 ⟨Nat.zero_le _, Nat.zero_le _⟩) rfl ?_
              obtain ⟨rfl, rfl, rfl⟩ := ik_e3 hf
              exact ik_iretW C hr hlk dX6_copy_59
        · have hf := ik_neg hb0 hf; have hf := ik_neg hb1 hf; have hf := ik_neg hb2 hf
          refine ik_astore C [(7, .ref s30), (6, .ref s10), (0, .ref o0), (1, .int x1), (2, .int x2), (3, .int x3), (4, .int x4), (5, .int x5)] (by decide) rfl dX6_copy_35 ?_
          refine ik_aload C 1 rfl dX6_copy_37 ?_
          obtain ⟨r3, hc3, hf⟩ := ik_b1s hf
          have hM := (c_X2_isMissing l D cI cS s10 s11 (sbits 1) (ssize 1) (snum 1) r3 hc3)
          refine ik_goR (ik_runV (st := []) (As := []) C hM mv_X2_isMissing wl_45_9 ⟨rfl, rfl, Nat.le_of_ble_eq_true rfl, Nat.le_of_ble_eq_true rfl⟩ [5, 6] rfl (by decide +kernel) 5 rfl rfl rfl rfl (Nat.le_of_ble_eq_true rfl) dX6_copy_39 ⟨Nat.zero_le _, Nat.zero_le _⟩) rfl ?_
          refine ik_if_ne C 53 dX6_copy_42 (by decide) (fun hc => ?_) (fun hc => ?_)
          · have hf := ik_neg hc hf
            refine ik_aload_n C 2 rfl rfl dX6_copy_53 ?_
            refine ik_ldc C wl_43_13 dX6_copy_54 ?_
            obtain ⟨r4, g5, hc5, hf⟩ := ik_b2s hf
            have hM := (c_X6_tell l D cI cS o0 np0 kp0 tp0 r0 t0 sh0 f0 isk fnd (-1000006 : Int32) r4 g5 hc5)
            refine ik_goW (v := (some (.int r4))) (wc := (wz_X6of cI cS o0 np0 kp0 tp0 r0 t0 sh0 f0 isk fnd)) (w1 := (wz_X6of cI cS o0 np0 kp0 tp0 r0 t0 sh0 f0 isk g5)) [0, 1] [2, 3, 4, 5, 6, 7, 8, 9, 10] 11 rfl rfl (wz_X6ofs cI cS o0 np0 kp0 tp0 r0 t0 sh0 f0 s00 s10 s20 s30 s01 s11 s21 s31 isk g5 sbits ssize snum) rfl [(sh0, .inl (cS, 4, .inr (.inr (.inr (.inr (ik_ref4 s00 s10 s20 s30)))))), (s00, .inr (2, [.int (sbits 0), .int (ssize 0), .ref s01])), (s01, .inl (cI, 40, .inl (snum 0))), (s10, .inr (2, [.int (sbits 1), .int (ssize 1), .ref s11])), (s11, .inl (cI, 40, .inl (snum 1))), (s20, .inr (2, [.int (sbits 2), .int (ssize 2), .ref s21])), (s21, .inl (cI, 40, .inl (snum 2))), (s30, .inr (2, [.int (sbits 3), .int (ssize 3), .ref s31])), (s31, .inl (cI, 40, .inl (snum 3)))] rfl rfl rfl (by decide +kernel) (ik_runV (st := []) (As := [.int (-1000006 : Int32)]) C hM mv_X6_tell wl_5_16 ⟨rfl, rfl, Nat.le_of_ble_eq_true rfl, Nat.le_of_ble_eq_true rfl⟩ [0, 1] rfl (by decide +kernel) 0 rfl rfl rfl rfl (Nat.le_of_ble_eq_true rfl) dX6_copy_56 ⟨Nat.zero_le _, Nat.zero_le _⟩) rfl ?_
            obtain ⟨rfl, rfl, rfl⟩ := ik_e3 hf
            exact ik_iretW C hr hlk dX6_copy_59
          · have hf := ik_pos hc hf
            refine ik_aload C 0 rfl dX6_copy_45 ?_
            obtain ⟨r4, hc4, hf⟩ := ik_b1s hf
            have hM := (c_X2_isMissing l D cI cS s30 s31 (sbits 3) (ssize 3) (snum 3) r4 hc4)
            refine ik_goR (ik_runV (st := []) (As := []) C hM mv_X2_isMissing wl_45_9 ⟨rfl, rfl, Nat.le_of_ble_eq_true rfl, Nat.le_of_ble_eq_true rfl⟩ [9, 10] rfl (by decide +kernel) 9 rfl rfl rfl rfl (Nat.le_of_ble_eq_true rfl) dX6_copy_47 ⟨Nat.zero_le _, Nat.zero_le _⟩) rfl ?_
            refine ik_if_eq C 60 dX6_copy_50 (by decide) (fun hc => ?_) (fun hc => ?_)
            · have hf := ik_pos hc hf
              refine ik_aload C 1 rfl dX6_copy_60 ?_
              refine ik_get C inlX2 5 rfl rfl 0 (by decide) wl_46_1 rfl (v := .int (sbits 1)) rfl dX6_copy_62 ?_
              refine ik_aload C 0 rfl dX6_copy_65 ?_
              refine ik_get C inlX2 9 rfl rfl 0 (by decide) wl_46_1 rfl (v := .int (sbits 3)) rfl dX6_copy_67 ?_
              refine ik_icmp_eq C 80 dX6_copy_70 (by decide) (fun hc => ?_) (fun hc => ?_)
              · have hf := ik_pos hc hf
                refine ik_aload C 1 rfl dX6_copy_80 ?_
                refine ik_iload_n C 4 rfl rfl dX6_copy_82 ?_
                refine ik_iload C 7 rfl dX6_copy_83 ?_
                obtain ⟨r5, hc5, hf⟩ := ik_b1s hf
                have hM := (c_X2_hasRange l D cI cS s10 s11 (sbits 1) (ssize 1) (snum 1) x2 x5 r5 hc5)
                refine ik_goR (ik_runV (st := []) (As := [.int x2, .int x5]) C hM mv_X2_hasRange wl_46_4 ⟨rfl, rfl, Nat.le_of_ble_eq_true rfl, Nat.le_of_ble_eq_true rfl⟩ [5, 6] rfl (by decide +kernel) 5 rfl rfl rfl rfl (Nat.le_of_ble_eq_true rfl) dX6_copy_85 ⟨Nat.zero_le _, Nat.zero_le _⟩) rfl ?_
                refine ik_if_eq C 103 dX6_copy_88 (by decide) (fun hc => ?_) (fun hc => ?_)
                · have hf := ik_pos hc hf
                  refine ik_aload_n C 2 rfl rfl dX6_copy_103 ?_
                  refine ik_ldc C wl_5_3 dX6_copy_104 ?_
                  obtain ⟨r6, g7, hc7, hf⟩ := ik_b2s hf
                  have hM := (c_X6_tell l D cI cS o0 np0 kp0 tp0 r0 t0 sh0 f0 isk fnd (-1000001 : Int32) r6 g7 hc7)
                  refine ik_goW (v := (some (.int r6))) (wc := (wz_X6of cI cS o0 np0 kp0 tp0 r0 t0 sh0 f0 isk fnd)) (w1 := (wz_X6of cI cS o0 np0 kp0 tp0 r0 t0 sh0 f0 isk g7)) [0, 1] [2, 3, 4, 5, 6, 7, 8, 9, 10] 11 rfl rfl (wz_X6ofs cI cS o0 np0 kp0 tp0 r0 t0 sh0 f0 s00 s10 s20 s30 s01 s11 s21 s31 isk g7 sbits ssize snum) rfl [(sh0, .inl (cS, 4, .inr (.inr (.inr (.inr (ik_ref4 s00 s10 s20 s30)))))), (s00, .inr (2, [.int (sbits 0), .int (ssize 0), .ref s01])), (s01, .inl (cI, 40, .inl (snum 0))), (s10, .inr (2, [.int (sbits 1), .int (ssize 1), .ref s11])), (s11, .inl (cI, 40, .inl (snum 1))), (s20, .inr (2, [.int (sbits 2), .int (ssize 2), .ref s21])), (s21, .inl (cI, 40, .inl (snum 2))), (s30, .inr (2, [.int (sbits 3), .int (ssize 3), .ref s31])), (s31, .inl (cI, 40, .inl (snum 3)))] rfl rfl rfl (by decide +kernel) (ik_runV (st := []) (As := [.int (-1000001 : Int32)]) C hM mv_X6_tell wl_5_16 ⟨rfl, rfl, Nat.le_of_ble_eq_true rfl, Nat.le_of_ble_eq_true rfl⟩ [0, 1] rfl (by decide +kernel) 0 rfl rfl rfl rfl (Nat.le_of_ble_eq_true rfl) dX6_copy_106 ⟨Nat.zero_le _, Nat.zero_le _⟩) rfl ?_
                  obtain ⟨rfl, rfl, rfl⟩ := ik_e3 hf
                  exact ik_iretW C hr hlk dX6_copy_109
                · have hf := ik_neg hc hf
                  refine ik_aload C 0 rfl dX6_copy_91 ?_
                  refine ik_iload C 6 rfl dX6_copy_93 ?_
                  refine ik_iload C 7 rfl dX6_copy_95 ?_
                  obtain ⟨r6, hc6, hf⟩ := ik_b1s hf
                  have hM := (c_X2_hasRange l D cI cS s30 s31 (sbits 3) (ssize 3) (snum 3) x4 x5 r6 hc6)
                  refine ik_goR (ik_runV (st := []) (As := [.int x4, .int x5]) C hM mv_X2_hasRange wl_46_4 ⟨rfl, rfl, Nat.le_of_ble_eq_true rfl, Nat.le_of_ble_eq_true rfl⟩ [9, 10] rfl (by decide +kernel) 9 rfl rfl rfl rfl (Nat.le_of_ble_eq_true rfl) dX6_copy_97 ⟨Nat.zero_le _, Nat.zero_le _⟩) rfl ?_
                  refine ik_if_ne C 110 dX6_copy_100 (by decide) (fun hc => ?_) (fun hc => ?_)
                  · have hf := ik_neg hc hf
                    refine ik_aload C 1 rfl dX6_copy_110 ?_
                    refine ik_get C inlX2 5 rfl rfl 2 (by decide) wl_46_2 rfl (v := .ref s11) rfl dX6_copy_112 ?_
                    refine ik_iload_n C 4 rfl rfl dX6_copy_115 ?_
                    refine ik_aload C 0 rfl dX6_copy_116 ?_
                    refine ik_get C inlX2 9 rfl rfl 2 (by decide) wl_46_2 rfl (v := .ref s31) rfl dX6_copy_118 ?_
                    refine ik_iload C 6 rfl dX6_copy_121 ?_
                    refine ik_iload C 7 rfl dX6_copy_123 ?_
                    have hg := ik_gci hf
                    have hf := ik_gck hf
                    refine ik_copy C wl_46_3 wl_23_19 wl_23_20 wl_23_21 6 10 rfl rfl hg (Nat.le_of_ble_eq_true rfl) (Nat.le_of_ble_eq_true rfl) (wz_X6ofs cI cS o0 np0 kp0 tp0 r0 t0 sh0 f0 s00 s10 s20 s30 s01 s11 s21 s31 isk fnd sbits ssize (va_up snum 3 (va_cpy (snum 1) (snum 3) (x2).toNatClampNeg (x4).toNatClampNeg (x5).toNatClampNeg))) rfl dX6_copy_125 ?_
                    refine ik_iload C 7 rfl dX6_copy_128 ?_
                    obtain ⟨rfl, rfl, rfl⟩ := ik_e3 hf
                    exact ik_iretW C hr hlk dX6_copy_130
                  · have hf := ik_pos hc hf
                    refine ik_aload_n C 2 rfl rfl dX6_copy_103 ?_
                    refine ik_ldc C wl_5_3 dX6_copy_104 ?_
                    obtain ⟨r7, g8, hc8, hf⟩ := ik_b2s hf
                    have hM := (c_X6_tell l D cI cS o0 np0 kp0 tp0 r0 t0 sh0 f0 isk fnd (-1000001 : Int32) r7 g8 hc8)
                    refine ik_goW (v := (some (.int r7))) (wc := (wz_X6of cI cS o0 np0 kp0 tp0 r0 t0 sh0 f0 isk fnd)) (w1 := (wz_X6of cI cS o0 np0 kp0 tp0 r0 t0 sh0 f0 isk g8)) [0, 1] [2, 3, 4, 5, 6, 7, 8, 9, 10] 11 rfl rfl (wz_X6ofs cI cS o0 np0 kp0 tp0 r0 t0 sh0 f0 s00 s10 s20 s30 s01 s11 s21 s31 isk g8 sbits ssize snum) rfl [(sh0, .inl (cS, 4, .inr (.inr (.inr (.inr (ik_ref4 s00 s10 s20 s30)))))), (s00, .inr (2, [.int (sbits 0), .int (ssize 0), .ref s01])), (s01, .inl (cI, 40, .inl (snum 0))), (s10, .inr (2, [.int (sbits 1), .int (ssize 1), .ref s11])), (s11, .inl (cI, 40, .inl (snum 1))), (s20, .inr (2, [.int (sbits 2), .int (ssize 2), .ref s21])), (s21, .inl (cI, 40, .inl (snum 2))), (s30, .inr (2, [.int (sbits 3), .int (ssize 3), .ref s31])), (s31, .inl (cI, 40, .inl (snum 3)))] rfl rfl rfl (by decide +kernel) (ik_runV (st := []) (As := [.int (-1000001 : Int32)]) C hM mv_X6_tell wl_5_16 ⟨rfl, rfl, Nat.le_of_ble_eq_true rfl, Nat.le_of_ble_eq_true rfl⟩ [0, 1] rfl (by decide +kernel) 0 rfl rfl rfl rfl (Nat.le_of_ble_eq_true rfl) dX6_copy_106 ⟨Nat.zero_le _, Nat.zero_le _⟩) rfl ?_
                    obtain ⟨rfl, rfl, rfl⟩ := ik_e3 hf
                    exact ik_iretW C hr hlk dX6_copy_109
              · have hf := ik_neg hc hf
                refine ik_aload_n C 2 rfl rfl dX6_copy_73 ?_
                refine ik_ldc C wl_43_14 dX6_copy_74 ?_
                obtain ⟨r5, g6, hc6, hf⟩ := ik_b2s hf
                have hM := (c_X6_tell l D cI cS o0 np0 kp0 tp0 r0 t0 sh0 f0 isk fnd (-1000003 : Int32) r5 g6 hc6)
                refine ik_goW (v := (some (.int r5))) (wc := (wz_X6of cI cS o0 np0 kp0 tp0 r0 t0 sh0 f0 isk fnd)) (w1 := (wz_X6of cI cS o0 np0 kp0 tp0 r0 t0 sh0 f0 isk g6)) [0, 1] [2, 3, 4, 5, 6, 7, 8, 9, 10] 11 rfl rfl (wz_X6ofs cI cS o0 np0 kp0 tp0 r0 t0 sh0 f0 s00 s10 s20 s30 s01 s11 s21 s31 isk g6 sbits ssize snum) rfl [(sh0, .inl (cS, 4, .inr (.inr (.inr (.inr (ik_ref4 s00 s10 s20 s30)))))), (s00, .inr (2, [.int (sbits 0), .int (ssize 0), .ref s01])), (s01, .inl (cI, 40, .inl (snum 0))), (s10, .inr (2, [.int (sbits 1), .int (ssize 1), .ref s11])), (s11, .inl (cI, 40, .inl (snum 1))), (s20, .inr (2, [.int (sbits 2), .int (ssize 2), .ref s21])), (s21, .inl (cI, 40, .inl (snum 2))), (s30, .inr (2, [.int (sbits 3), .int (ssize 3), .ref s31])), (s31, .inl (cI, 40, .inl (snum 3)))] rfl rfl rfl (by decide +kernel) (ik_runV (st := []) (As := [.int (-1000003 : Int32)]) C hM mv_X6_tell wl_5_16 ⟨rfl, rfl, Nat.le_of_ble_eq_true rfl, Nat.le_of_ble_eq_true rfl⟩ [0, 1] rfl (by decide +kernel) 0 rfl rfl rfl rfl (Nat.le_of_ble_eq_true rfl) dX6_copy_76 ⟨Nat.zero_le _, Nat.zero_le _⟩) rfl ?_
                obtain ⟨rfl, rfl, rfl⟩ := ik_e3 hf
                exact ik_iretW C hr hlk dX6_copy_79
            · have hf := ik_neg hc hf
              refine ik_aload_n C 2 rfl rfl dX6_copy_53 ?_
              refine ik_ldc C wl_43_13 dX6_copy_54 ?_
              obtain ⟨r5, g6, hc6, hf⟩ := ik_b2s hf
              have hM := (c_X6_tell l D cI cS o0 np0 kp0 tp0 r0 t0 sh0 f0 isk fnd (-1000006 : Int32) r5 g6 hc6)
              refine ik_goW (v := (some (.int r5))) (wc := (wz_X6of cI cS o0 np0 kp0 tp0 r0 t0 sh0 f0 isk fnd)) (w1 := (wz_X6of cI cS o0 np0 kp0 tp0 r0 t0 sh0 f0 isk g6)) [0, 1] [2, 3, 4, 5, 6, 7, 8, 9, 10] 11 rfl rfl (wz_X6ofs cI cS o0 np0 kp0 tp0 r0 t0 sh0 f0 s00 s10 s20 s30 s01 s11 s21 s31 isk g6 sbits ssize snum) rfl [(sh0, .inl (cS, 4, .inr (.inr (.inr (.inr (ik_ref4 s00 s10 s20 s30)))))), (s00, .inr (2, [.int (sbits 0), .int (ssize 0), .ref s01])), (s01, .inl (cI, 40, .inl (snum 0))), (s10, .inr (2, [.int (sbits 1), .int (ssize 1), .ref s11])), (s11, .inl (cI, 40, .inl (snum 1))), (s20, .inr (2, [.int (sbits 2), .int (ssize 2), .ref s21])), (s21, .inl (cI, 40, .inl (snum 2))), (s30, .inr (2, [.int (sbits 3), .int (ssize 3), .ref s31])), (s31, .inl (cI, 40, .inl (snum 3)))] rfl rfl rfl (by decide +kernel) (ik_runV (st := []) (As := [.int (-1000006 : Int32)]) C hM mv_X6_tell wl_5_16 ⟨rfl, rfl, Nat.le_of_ble_eq_true rfl, Nat.le_of_ble_eq_true rfl⟩ [0, 1] rfl (by decide +kernel) 0 rfl rfl rfl rfl (Nat.le_of_ble_eq_true rfl) dX6_copy_56 ⟨Nat.zero_le _, Nat.zero_le _⟩) rfl ?_
              obtain ⟨rfl, rfl, rfl⟩ := ik_e3 hf
              exact ik_iretW C hr hlk dX6_copy_59
      · have hf := ik_neg hb0 hf; have hf := ik_neg hb1 hf; have hf := ik_pos hc hf
        refine ik_astore C [(6, .ref s20), (0, .ref o0), (1, .int x1), (2, .int x2), (3, .int x3), (4, .int x4), (5, .int x5)] (by decide) rfl dX6_copy_27 ?_
        refine ik_aload_n C 1 rfl rfl dX6_copy_29 ?_
        refine ik_get C inlX6 0 rfl rfl 6 (by decide) wl_2_1 rfl (v := .ref sh0) rfl dX6_copy_30 ?_
        refine ik_iload_n C 4 rfl rfl dX6_copy_33 ?_
        have hg := ik_gdi hf
        have hf := ik_gdk hf
        refine ik_aald4 C 2 rfl hg (a0 := s00) (a1 := s10) (a2 := s20) (a3 := s30) rfl rfl rfl rfl dX6_copy_34 (fun hc => ?_) (fun hb0 hc => ?_) (fun hb0 hb1 hc => ?_) (fun hb0 hb1 hb2 hc => ?_)
        · have hf := ik_pos hc hf
          refine ik_astore C [(7, .ref s00), (6, .ref s20), (0, .ref o0), (1, .int x1), (2, .int x2), (3, .int x3), (4, .int x4), (5, .int x5)] (by decide) rfl dX6_copy_35 ?_
          refine ik_aload C 1 rfl dX6_copy_37 ?_
          obtain ⟨r3, hc3, hf⟩ := ik_b1s hf
          have hM := (c_X2_isMissing l D cI cS s20 s21 (sbits 2) (ssize 2) (snum 2) r3 hc3)
          refine ik_goR (ik_runV (st := []) (As := []) C hM mv_X2_isMissing wl_45_9 ⟨rfl, rfl, Nat.le_of_ble_eq_true rfl, Nat.le_of_ble_eq_true rfl⟩ [7, 8] rfl (by decide +kernel) 7 rfl rfl rfl rfl (Nat.le_of_ble_eq_true rfl) dX6_copy_39 ⟨Nat.zero_le _, Nat.zero_le _⟩) rfl ?_
          refine ik_if_ne C 53 dX6_copy_42 (by decide) (fun hc => ?_) (fun hc => ?_)
          · have hf := ik_neg hc hf
            refine ik_aload_n C 2 rfl rfl dX6_copy_53 ?_
            refine ik_ldc C wl_43_13 dX6_copy_54 ?_
            obtain ⟨r4, g5, hc5, hf⟩ := ik_b2s hf
            have hM := (c_X6_tell l D cI cS o0 np0 kp0 tp0 r0 t0 sh0 f0 isk fnd (-1000006 : Int32) r4 g5 hc5)
            refine ik_goW (v := (some (.int r4))) (wc := (wz_X6of cI cS o0 np0 kp0 tp0 r0 t0 sh0 f0 isk fnd)) (w1 := (wz_X6of cI cS o0 np0 kp0 tp0 r0 t0 sh0 f0 isk g5)) [0, 1] [2, 3, 4, 5, 6, 7, 8, 9, 10] 11 rfl rfl (wz_X6ofs cI cS o0 np0 kp0 tp0 r0 t0 sh0 f0 s00 s10 s20 s30 s01 s11 s21 s31 isk g5 sbits ssize snum) rfl [(sh0, .inl (cS, 4, .inr (.inr (.inr (.inr (ik_ref4 s00 s10 s20 s30)))))), (s00, .inr (2, [.int (sbits 0), .int (ssize 0), .ref s01])), (s01, .inl (cI, 40, .inl (snum 0))), (s10, .inr (2, [.int (sbits 1), .int (ssize 1), .ref s11])), (s11, .inl (cI, 40, .inl (snum 1))), (s20, .inr (2, [.int (sbits 2), .int (ssize 2), .ref s21])), (s21, .inl (cI, 40, .inl (snum 2))), (s30, .inr (2, [.int (sbits 3), .int (ssize 3), .ref s31])), (s31, .inl (cI, 40, .inl (snum 3)))] rfl rfl rfl (by decide +kernel) (ik_runV (st := []) (As := [.int (-1000006 : Int32)]) C hM mv_X6_tell wl_5_16 ⟨rfl, rfl, Nat.le_of_ble_eq_true rfl, Nat.le_of_ble_eq_true rfl⟩ [0, 1] rfl (by decide +kernel) 0 rfl rfl rfl rfl (Nat.le_of_ble_eq_true rfl) dX6_copy_56 ⟨Nat.zero_le _, Nat.zero_le _⟩) rfl ?_
            obtain ⟨rfl, rfl, rfl⟩ := ik_e3 hf
            exact ik_iretW C hr hlk dX6_copy_59
          · have hf := ik_pos hc hf
            refine ik_aload C 0 rfl dX6_copy_45 ?_
            obtain ⟨r4, hc4, hf⟩ := ik_b1s hf
            have hM := (c_X2_isMissing l D cI cS s00 s01 (sbits 0) (ssize 0) (snum 0) r4 hc4)
            refine ik_goR (ik_runV (st := []) (As := []) C hM mv_X2_isMissing wl_45_9 ⟨rfl, rfl, Nat.le_of_ble_eq_true rfl, Nat.le_of_ble_eq_true rfl⟩ [3, 4] rfl (by decide +kernel) 3 rfl rfl rfl rfl (Nat.le_of_ble_eq_true rfl) dX6_copy_47 ⟨Nat.zero_le _, Nat.zero_le _⟩) rfl ?_
            refine ik_if_eq C 60 dX6_copy_50 (by decide) (fun hc => ?_) (fun hc => ?_)
            · have hf := ik_pos hc hf
              refine ik_aload C 1 rfl dX6_copy_60 ?_
              refine ik_get C inlX2 7 rfl rfl 0 (by decide) wl_46_1 rfl (v := .int (sbits 2)) rfl dX6_copy_62 ?_
              refine ik_aload C 0 rfl dX6_copy_65 ?_
              refine ik_get C inlX2 3 rfl rfl 0 (by decide) wl_46_1 rfl (v := .int (sbits 0)) rfl dX6_copy_67 ?_
              refine ik_icmp_eq C 80 dX6_copy_70 (by decide) (fun hc => ?_) (fun hc => ?_)
              · have hf := ik_pos hc hf
                refine ik_aload C 1 rfl dX6_copy_80 ?_
                refine ik_iload_n C 4 rfl rfl dX6_copy_82 ?_
                refine ik_iload C 7 rfl dX6_copy_83 ?_
                obtain ⟨r5, hc5, hf⟩ := ik_b1s hf
                have hM := (c_X2_hasRange l D cI cS s20 s21 (sbits 2) (ssize 2) (snum 2) x2 x5 r5 hc5)
                refine ik_goR (ik_runV (st := []) (As := [.int x2, .int x5]) C hM mv_X2_hasRange wl_46_4 ⟨rfl, rfl, Nat.le_of_ble_eq_true rfl, Nat.le_of_ble_eq_true rfl⟩ [7, 8] rfl (by decide +kernel) 7 rfl rfl rfl rfl (Nat.le_of_ble_eq_true rfl) dX6_copy_85 ⟨Nat.zero_le _, Nat.zero_le _⟩) rfl ?_
                refine ik_if_eq C 103 dX6_copy_88 (by decide) (fun hc => ?_) (fun hc => ?_)
                · have hf := ik_pos hc hf
                  refine ik_aload_n C 2 rfl rfl dX6_copy_103 ?_
                  refine ik_ldc C wl_5_3 dX6_copy_104 ?_
                  obtain ⟨r6, g7, hc7, hf⟩ := ik_b2s hf
                  have hM := (c_X6_tell l D cI cS o0 np0 kp0 tp0 r0 t0 sh0 f0 isk fnd (-1000001 : Int32) r6 g7 hc7)
                  refine ik_goW (v := (some (.int r6))) (wc := (wz_X6of cI cS o0 np0 kp0 tp0 r0 t0 sh0 f0 isk fnd)) (w1 := (wz_X6of cI cS o0 np0 kp0 tp0 r0 t0 sh0 f0 isk g7)) [0, 1] [2, 3, 4, 5, 6, 7, 8, 9, 10] 11 rfl rfl (wz_X6ofs cI cS o0 np0 kp0 tp0 r0 t0 sh0 f0 s00 s10 s20 s30 s01 s11 s21 s31 isk g7 sbits ssize snum) rfl [(sh0, .inl (cS, 4, .inr (.inr (.inr (.inr (ik_ref4 s00 s10 s20 s30)))))), (s00, .inr (2, [.int (sbits 0), .int (ssize 0), .ref s01])), (s01, .inl (cI, 40, .inl (snum 0))), (s10, .inr (2, [.int (sbits 1), .int (ssize 1), .ref s11])), (s11, .inl (cI, 40, .inl (snum 1))), (s20, .inr (2, [.int (sbits 2), .int (ssize 2), .ref s21])), (s21, .inl (cI, 40, .inl (snum 2))), (s30, .inr (2, [.int (sbits 3), .int (ssize 3), .ref s31])), (s31, .inl (cI, 40, .inl (snum 3)))] rfl rfl rfl (by decide +kernel) (ik_runV (st := []) (As := [.int (-1000001 : Int32)]) C hM mv_X6_tell wl_5_16 ⟨rfl, rfl, Nat.le_of_ble_eq_true rfl, Nat.le_of_ble_eq_true rfl⟩ [0, 1] rfl (by decide +kernel) 0 rfl rfl rfl rfl (Nat.le_of_ble_eq_true rfl) dX6_copy_106 ⟨Nat.zero_le _, Nat.zero_le _⟩) rfl ?_
                  obtain ⟨rfl, rfl, rfl⟩ := ik_e3 hf
                  exact ik_iretW C hr hlk dX6_copy_109
                · have hf := ik_neg hc hf
                  refine ik_aload C 0 rfl dX6_copy_91 ?_
                  refine ik_iload C 6 rfl dX6_copy_93 ?_
                  refine ik_iload C 7 rfl dX6_copy_95 ?_
                  obtain ⟨r6, hc6, hf⟩ := ik_b1s hf
                  have hM := (c_X2_hasRange l D cI cS s00 s01 (sbits 0) (ssize 0) (snum 0) x4 x5 r6 hc6)
                  refine ik_goR (ik_runV (st := []) (As := [.int x4, .int x5]) C hM mv_X2_hasRange wl_46_4 ⟨rfl, rfl, Nat.le_of_ble_eq_true rfl, Nat.le_of_ble_eq_true rfl⟩ [3, 4] rfl (by decide +kernel) 3 rfl rfl rfl rfl (Nat.le_of_ble_eq_true rfl) dX6_copy_97 ⟨Nat.zero_le _, Nat.zero_le _⟩) rfl ?_
                  refine ik_if_ne C 110 dX6_copy_100 (by decide) (fun hc => ?_) (fun hc => ?_)
                  · have hf := ik_neg hc hf
                    refine ik_aload C 1 rfl dX6_copy_110 ?_
                    refine ik_get C inlX2 7 rfl rfl 2 (by decide) wl_46_2 rfl (v := .ref s21) rfl dX6_copy_112 ?_
                    refine ik_iload_n C 4 rfl rfl dX6_copy_115 ?_
                    refine ik_aload C 0 rfl dX6_copy_116 ?_
                    refine ik_get C inlX2 3 rfl rfl 2 (by decide) wl_46_2 rfl (v := .ref s01) rfl dX6_copy_118 ?_
                    refine ik_iload C 6 rfl dX6_copy_121 ?_
                    refine ik_iload C 7 rfl dX6_copy_123 ?_
                    have hg := ik_gci hf
                    have hf := ik_gck hf
                    refine ik_copy C wl_46_3 wl_23_19 wl_23_20 wl_23_21 8 4 rfl rfl hg (Nat.le_of_ble_eq_true rfl) (Nat.le_of_ble_eq_true rfl) (wz_X6ofs cI cS o0 np0 kp0 tp0 r0 t0 sh0 f0 s00 s10 s20 s30 s01 s11 s21 s31 isk fnd sbits ssize (va_up snum 0 (va_cpy (snum 2) (snum 0) (x2).toNatClampNeg (x4).toNatClampNeg (x5).toNatClampNeg))) rfl dX6_copy_125 ?_
                    refine ik_iload C 7 rfl dX6_copy_128 ?_
                    obtain ⟨rfl, rfl, rfl⟩ := ik_e3 hf
                    exact ik_iretW C hr hlk dX6_copy_130
                  · have hf := ik_pos hc hf
                    refine ik_aload_n C 2 rfl rfl dX6_copy_103 ?_
                    refine ik_ldc C wl_5_3 dX6_copy_104 ?_
                    obtain ⟨r7, g8, hc8, hf⟩ := ik_b2s hf
                    have hM := (c_X6_tell l D cI cS o0 np0 kp0 tp0 r0 t0 sh0 f0 isk fnd (-1000001 : Int32) r7 g8 hc8)
                    refine ik_goW (v := (some (.int r7))) (wc := (wz_X6of cI cS o0 np0 kp0 tp0 r0 t0 sh0 f0 isk fnd)) (w1 := (wz_X6of cI cS o0 np0 kp0 tp0 r0 t0 sh0 f0 isk g8)) [0, 1] [2, 3, 4, 5, 6, 7, 8, 9, 10] 11 rfl rfl (wz_X6ofs cI cS o0 np0 kp0 tp0 r0 t0 sh0 f0 s00 s10 s20 s30 s01 s11 s21 s31 isk g8 sbits ssize snum) rfl [(sh0, .inl (cS, 4, .inr (.inr (.inr (.inr (ik_ref4 s00 s10 s20 s30)))))), (s00, .inr (2, [.int (sbits 0), .int (ssize 0), .ref s01])), (s01, .inl (cI, 40, .inl (snum 0))), (s10, .inr (2, [.int (sbits 1), .int (ssize 1), .ref s11])), (s11, .inl (cI, 40, .inl (snum 1))), (s20, .inr (2, [.int (sbits 2), .int (ssize 2), .ref s21])), (s21, .inl (cI, 40, .inl (snum 2))), (s30, .inr (2, [.int (sbits 3), .int (ssize 3), .ref s31])), (s31, .inl (cI, 40, .inl (snum 3)))] rfl rfl rfl (by decide +kernel) (ik_runV (st := []) (As := [.int (-1000001 : Int32)]) C hM mv_X6_tell wl_5_16 ⟨rfl, rfl, Nat.le_of_ble_eq_true rfl, Nat.le_of_ble_eq_true rfl⟩ [0, 1] rfl (by decide +kernel) 0 rfl rfl rfl rfl (Nat.le_of_ble_eq_true rfl) dX6_copy_106 ⟨Nat.zero_le _, Nat.zero_le _⟩) rfl ?_
                    obtain ⟨rfl, rfl, rfl⟩ := ik_e3 hf
                    exact ik_iretW C hr hlk dX6_copy_109
              · have hf := ik_neg hc hf
                refine ik_aload_n C 2 rfl rfl dX6_copy_73 ?_
                refine ik_ldc C wl_43_14 dX6_copy_74 ?_
                obtain ⟨r5, g6, hc6, hf⟩ := ik_b2s hf
                have hM := (c_X6_tell l D cI cS o0 np0 kp0 tp0 r0 t0 sh0 f0 isk fnd (-1000003 : Int32) r5 g6 hc6)
                refine ik_goW (v := (some (.int r5))) (wc := (wz_X6of cI cS o0 np0 kp0 tp0 r0 t0 sh0 f0 isk fnd)) (w1 := (wz_X6of cI cS o0 np0 kp0 tp0 r0 t0 sh0 f0 isk g6)) [0, 1] [2, 3, 4, 5, 6, 7, 8, 9, 10] 11 rfl rfl (wz_X6ofs cI cS o0 np0 kp0 tp0 r0 t0 sh0 f0 s00 s10 s20 s30 s01 s11 s21 s31 isk g6 sbits ssize snum) rfl [(sh0, .inl (cS, 4, .inr (.inr (.inr (.inr (ik_ref4 s00 s10 s20 s30)))))), (s00, .inr (2, [.int (sbits 0), .int (ssize 0), .ref s01])), (s01, .inl (cI, 40, .inl (snum 0))), (s10, .inr (2, [.int (sbits 1), .int (ssize 1), .ref s11])), (s11, .inl (cI, 40, .inl (snum 1))), (s20, .inr (2, [.int (sbits 2), .int (ssize 2), .ref s21])), (s21, .inl (cI, 40, .inl (snum 2))), (s30, .inr (2, [.int (sbits 3), .int (ssize 3), .ref s31])), (s31, .inl (cI, 40, .inl (snum 3)))] rfl rfl rfl (by decide +kernel) (ik_runV (st := []) (As := [.int (-1000003 : Int32)]) C hM mv_X6_tell wl_5_16 ⟨rfl, rfl, Nat.le_of_ble_eq_true rfl, Nat.le_of_ble_eq_true rfl⟩ [0, 1] rfl (by decide +kernel) 0 rfl rfl rfl rfl (Nat.le_of_ble_eq_true rfl) dX6_copy_76 ⟨Nat.zero_le _, Nat.zero_le _⟩) rfl ?_
                obtain ⟨rfl, rfl, rfl⟩ := ik_e3 hf
                exact ik_iretW C hr hlk dX6_copy_79
            · have hf := ik_neg hc hf
              refine ik_aload_n C 2 rfl rfl dX6_copy_53 ?_
              refine ik_ldc C wl_43_13 dX6_copy_54 ?_
              obtain ⟨r5, g6, hc6, hf⟩ := ik_b2s hf
              have hM := (c_X6_tell l D cI cS o0 np0 kp0 tp0 r0 t0 sh0 f0 isk fnd (-1000006 : Int32) r5 g6 hc6)
              refine ik_goW (v := (some (.int r5))) (wc := (wz_X6of cI cS o0 np0 kp0 tp0 r0 t0 sh0 f0 isk fnd)) (w1 := (wz_X6of cI cS o0 np0 kp0 tp0 r0 t0 sh0 f0 isk g6)) [0, 1] [2, 3, 4, 5, 6, 7, 8, 9, 10] 11 rfl rfl (wz_X6ofs cI cS o0 np0 kp0 tp0 r0 t0 sh0 f0 s00 s10 s20 s30 s01 s11 s21 s31 isk g6 sbits ssize snum) rfl [(sh0, .inl (cS, 4, .inr (.inr (.inr (.inr (ik_ref4 s00 s10 s20 s30)))))), (s00, .inr (2, [.int (sbits 0), .int (ssize 0), .ref s01])), (s01, .inl (cI, 40, .inl (snum 0))), (s10, .inr (2, [.int (sbits 1), .int (ssize 1), .ref s11])), (s11, .inl (cI, 40, .inl (snum 1))), (s20, .inr (2, [.int (sbits 2), .int (ssize 2), .ref s21])), (s21, .inl (cI, 40, .inl (snum 2))), (s30, .inr (2, [.int (sbits 3), .int (ssize 3), .ref s31])), (s31, .inl (cI, 40, .inl (snum 3)))] rfl rfl rfl (by decide +kernel) (ik_runV (st := []) (As := [.int (-1000006 : Int32)]) C hM mv_X6_tell wl_5_16 ⟨rfl, rfl, Nat.le_of_ble_eq_true rfl, Nat.le_of_ble_eq_true rfl⟩ [0, 1] rfl (by decide +kernel) 0 rfl rfl rfl rfl (Nat.le_of_ble_eq_true rfl) dX6_copy_56 ⟨Nat.zero_le _, Nat.zero_le _⟩) rfl ?_
              obtain ⟨rfl, rfl, rfl⟩ := ik_e3 hf
              exact ik_iretW C hr hlk dX6_copy_59
        · have hf := ik_neg hb0 hf; have hf := ik_pos hc hf
          refine ik_astore C [(7, .ref s10), (6, .ref s20), (0, .ref o0), (1, .int x1), (2, .int x2), (3, .int x3), (4, .int x4), (5, .int x5)] (by decide) rfl dX6_copy_35 ?_
          refine ik_aload C 1 rfl dX6_copy_37 ?_
          obtain ⟨r3, hc3, hf⟩ := ik_b1s hf
          have hM := (c_X2_isMissing l D cI cS s20 s21 (sbits 2) (ssize 2) (snum 2) r3 hc3)
          refine ik_goR (ik_runV (st := []) (As := []) C hM mv_X2_isMissing wl_45_9 ⟨rfl, rfl, Nat.le_of_ble_eq_true rfl, Nat.le_of_ble_eq_true rfl⟩ [7, 8] rfl (by decide +kernel) 7 rfl rfl rfl rfl (Nat.le_of_ble_eq_true rfl) dX6_copy_39 ⟨Nat.zero_le _, Nat.zero_le _⟩) rfl ?_
          refine ik_if_ne C 53 dX6_copy_42 (by decide) (fun hc => ?_) (fun hc => ?_)
          · have hf := ik_neg hc hf
            refine ik_aload_n C 2 rfl rfl dX6_copy_53 ?_
            refine ik_ldc C wl_43_13 dX6_copy_54 ?_
            obtain ⟨r4, g5, hc5, hf⟩ := ik_b2s hf
            have hM := (c_X6_tell l D cI cS o0 np0 kp0 tp0 r0 t0 sh0 f0 isk fnd (-1000006 : Int32) r4 g5 hc5)
            refine ik_goW (v := (some (.int r4))) (wc := (wz_X6of cI cS o0 np0 kp0 tp0 r0 t0 sh0 f0 isk fnd)) (w1 := (wz_X6of cI cS o0 np0 kp0 tp0 r0 t0 sh0 f0 isk g5)) [0, 1] [2, 3, 4, 5, 6, 7, 8, 9, 10] 11 rfl rfl (wz_X6ofs cI cS o0 np0 kp0 tp0 r0 t0 sh0 f0 s00 s10 s20 s30 s01 s11 s21 s31 isk g5 sbits ssize snum) rfl [(sh0, .inl (cS, 4, .inr (.inr (.inr (.inr (ik_ref4 s00 s10 s20 s30)))))), (s00, .inr (2, [.int (sbits 0), .int (ssize 0), .ref s01])), (s01, .inl (cI, 40, .inl (snum 0))), (s10, .inr (2, [.int (sbits 1), .int (ssize 1), .ref s11])), (s11, .inl (cI, 40, .inl (snum 1))), (s20, .inr (2, [.int (sbits 2), .int (ssize 2), .ref s21])), (s21, .inl (cI, 40, .inl (snum 2))), (s30, .inr (2, [.int (sbits 3), .int (ssize 3), .ref s31])), (s31, .inl (cI, 40, .inl (snum 3)))] rfl rfl rfl (by decide +kernel) (ik_runV (st := []) (As := [.int (-1000006 : Int32)]) C hM mv_X6_tell wl_5_16 ⟨rfl, rfl, Nat.le_of_ble_eq_true rfl, Nat.le_of_ble_eq_true rfl⟩ [0, 1] rfl (by decide +kernel) 0 rfl rfl rfl rfl (Nat.le_of_ble_eq_true rfl) dX6_copy_56 ⟨Nat.zero_le _, Nat.zero_le _⟩) rfl ?_
            obtain ⟨rfl, rfl, rfl⟩ := ik_e3 hf
            exact ik_iretW C hr hlk dX6_copy_59
          · have hf := ik_pos hc hf
            refine ik_aload C 0 rfl dX6_copy_45 ?_
            obtain ⟨r4, hc4, hf⟩ := ik_b1s hf
            have hM := (c_X2_isMissing l D cI cS s10 s11 (sbits 1) (ssize 1) (snum 1) r4 hc4)
            refine ik_goR (ik_runV (st := []) (As := []) C hM mv_X2_isMissing wl_45_9 ⟨rfl, rfl, Nat.le_of_ble_eq_true rfl, Nat.le_of_ble_eq_true rfl⟩ [5, 6] rfl (by decide +kernel) 5 rfl rfl rfl rfl (Nat.le_of_ble_eq_true rfl) dX6_copy_47 ⟨Nat.zero_le _, Nat.zero_le _⟩) rfl ?_
            refine ik_if_eq C 60 dX6_copy_50 (by decide) (fun hc => ?_) (fun hc => ?_)
            · have hf := ik_pos hc hf
              refine ik_aload C 1 rfl dX6_copy_60 ?_
              refine ik_get C inlX2 7 rfl rfl 0 (by decide) wl_46_1 rfl (v := .int (sbits 2)) rfl dX6_copy_62 ?_
              refine ik_aload C 0 rfl dX6_copy_65 ?_
              refine ik_get C inlX2 5 rfl rfl 0 (by decide) wl_46_1 rfl (v := .int (sbits 1)) rfl dX6_copy_67 ?_
              refine ik_icmp_eq C 80 dX6_copy_70 (by decide) (fun hc => ?_) (fun hc => ?_)
              · have hf := ik_pos hc hf
                refine ik_aload C 1 rfl dX6_copy_80 ?_
                refine ik_iload_n C 4 rfl rfl dX6_copy_82 ?_
                refine ik_iload C 7 rfl dX6_copy_83 ?_
                obtain ⟨r5, hc5, hf⟩ := ik_b1s hf
                have hM := (c_X2_hasRange l D cI cS s20 s21 (sbits 2) (ssize 2) (snum 2) x2 x5 r5 hc5)
                refine ik_goR (ik_runV (st := []) (As := [.int x2, .int x5]) C hM mv_X2_hasRange wl_46_4 ⟨rfl, rfl, Nat.le_of_ble_eq_true rfl, Nat.le_of_ble_eq_true rfl⟩ [7, 8] rfl (by decide +kernel) 7 rfl rfl rfl rfl (Nat.le_of_ble_eq_true rfl) dX6_copy_85 ⟨Nat.zero_le _, Nat.zero_le _⟩) rfl ?_
                refine ik_if_eq C 103 dX6_copy_88 (by decide) (fun hc => ?_) (fun hc => ?_)
                · have hf := ik_pos hc hf
                  refine ik_aload_n C 2 rfl rfl dX6_copy_103 ?_
                  refine ik_ldc C wl_5_3 dX6_copy_104 ?_
                  obtain ⟨r6, g7, hc7, hf⟩ := ik_b2s hf
                  have hM := (c_X6_tell l D cI cS o0 np0 kp0 tp0 r0 t0 sh0 f0 isk fnd (-1000001 : Int32) r6 g7 hc7)
                  refine ik_goW (v := (some (.int r6))) (wc := (wz_X6of cI cS o0 np0 kp0 tp0 r0 t0 sh0 f0 isk fnd)) (w1 := (wz_X6of cI cS o0 np0 kp0 tp0 r0 t0 sh0 f0 isk g7)) [0, 1] [2, 3, 4, 5, 6, 7, 8, 9, 10] 11 rfl rfl (wz_X6ofs cI cS o0 np0 kp0 tp0 r0 t0 sh0 f0 s00 s10 s20 s30 s01 s11 s21 s31 isk g7 sbits ssize snum) rfl [(sh0, .inl (cS, 4, .inr (.inr (.inr (.inr (ik_ref4 s00 s10 s20 s30)))))), (s00, .inr (2, [.int (sbits 0), .int (ssize 0), .ref s01])), (s01, .inl (cI, 40, .inl (snum 0))), (s10, .inr (2, [.int (sbits 1), .int (ssize 1), .ref s11])), (s11, .inl (cI, 40, .inl (snum 1))), (s20, .inr (2, [.int (sbits 2), .int (ssize 2), .ref s21])), (s21, .inl (cI, 40, .inl (snum 2))), (s30, .inr (2, [.int (sbits 3), .int (ssize 3), .ref s31])), (s31, .inl (cI, 40, .inl (snum 3)))] rfl rfl rfl (by decide +kernel) (ik_runV (st := []) (As := [.int (-1000001 : Int32)]) C hM mv_X6_tell wl_5_16 ⟨rfl, rfl, Nat.le_of_ble_eq_true rfl, Nat.le_of_ble_eq_true rfl⟩ [0, 1] rfl (by decide +kernel) 0 rfl rfl rfl rfl (Nat.le_of_ble_eq_true rfl) dX6_copy_106 ⟨Nat.zero_le _, Nat.zero_le _⟩) rfl ?_
                  obtain ⟨rfl, rfl, rfl⟩ := ik_e3 hf
                  exact ik_iretW C hr hlk dX6_copy_109
                · have hf := ik_neg hc hf
                  refine ik_aload C 0 rfl dX6_copy_91 ?_
                  refine ik_iload C 6 rfl dX6_copy_93 ?_
                  refine ik_iload C 7 rfl dX6_copy_95 ?_
                  obtain ⟨r6, hc6, hf⟩ := ik_b1s hf
                  have hM := (c_X2_hasRange l D cI cS s10 s11 (sbits 1) (ssize 1) (snum 1) x4 x5 r6 hc6)
                  refine ik_goR (ik_runV (st := []) (As := [.int x4, .int x5]) C hM mv_X2_hasRange wl_46_4 ⟨rfl, rfl, Nat.le_of_ble_eq_true rfl, Nat.le_of_ble_eq_true rfl⟩ [5, 6] rfl (by decide +kernel) 5 rfl rfl rfl rfl (Nat.le_of_ble_eq_true rfl) dX6_copy_97 ⟨Nat.zero_le _, Nat.zero_le _⟩) rfl ?_
                  refine ik_if_ne C 110 dX6_copy_100 (by decide) (fun hc => ?_) (fun hc => ?_)
                  · have hf := ik_neg hc hf
                    refine ik_aload C 1 rfl dX6_copy_110 ?_
                    refine ik_get C inlX2 7 rfl rfl 2 (by decide) wl_46_2 rfl (v := .ref s21) rfl dX6_copy_112 ?_
                    refine ik_iload_n C 4 rfl rfl dX6_copy_115 ?_
                    refine ik_aload C 0 rfl dX6_copy_116 ?_
                    refine ik_get C inlX2 5 rfl rfl 2 (by decide) wl_46_2 rfl (v := .ref s11) rfl dX6_copy_118 ?_
                    refine ik_iload C 6 rfl dX6_copy_121 ?_
                    refine ik_iload C 7 rfl dX6_copy_123 ?_
                    have hg := ik_gci hf
                    have hf := ik_gck hf
                    refine ik_copy C wl_46_3 wl_23_19 wl_23_20 wl_23_21 8 6 rfl rfl hg (Nat.le_of_ble_eq_true rfl) (Nat.le_of_ble_eq_true rfl) (wz_X6ofs cI cS o0 np0 kp0 tp0 r0 t0 sh0 f0 s00 s10 s20 s30 s01 s11 s21 s31 isk fnd sbits ssize (va_up snum 1 (va_cpy (snum 2) (snum 1) (x2).toNatClampNeg (x4).toNatClampNeg (x5).toNatClampNeg))) rfl dX6_copy_125 ?_
                    refine ik_iload C 7 rfl dX6_copy_128 ?_
                    obtain ⟨rfl, rfl, rfl⟩ := ik_e3 hf
                    exact ik_iretW C hr hlk dX6_copy_130
                  · have hf := ik_pos hc hf
                    refine ik_aload_n C 2 rfl rfl dX6_copy_103 ?_
                    refine ik_ldc C wl_5_3 dX6_copy_104 ?_
                    obtain ⟨r7, g8, hc8, hf⟩ := ik_b2s hf
                    have hM := (c_X6_tell l D cI cS o0 np0 kp0 tp0 r0 t0 sh0 f0 isk fnd (-1000001 : Int32) r7 g8 hc8)
                    refine ik_goW (v := (some (.int r7))) (wc := (wz_X6of cI cS o0 np0 kp0 tp0 r0 t0 sh0 f0 isk fnd)) (w1 := (wz_X6of cI cS o0 np0 kp0 tp0 r0 t0 sh0 f0 isk g8)) [0, 1] [2, 3, 4, 5, 6, 7, 8, 9, 10] 11 rfl rfl (wz_X6ofs cI cS o0 np0 kp0 tp0 r0 t0 sh0 f0 s00 s10 s20 s30 s01 s11 s21 s31 isk g8 sbits ssize snum) rfl [(sh0, .inl (cS, 4, .inr (.inr (.inr (.inr (ik_ref4 s00 s10 s20 s30)))))), (s00, .inr (2, [.int (sbits 0), .int (ssize 0), .ref s01])), (s01, .inl (cI, 40, .inl (snum 0))), (s10, .inr (2, [.int (sbits 1), .int (ssize 1), .ref s11])), (s11, .inl (cI, 40, .inl (snum 1))), (s20, .inr (2, [.int (sbits 2), .int (ssize 2), .ref s21])), (s21, .inl (cI, 40, .inl (snum 2))), (s30, .inr (2, [.int (sbits 3), .int (ssize 3), .ref s31])), (s31, .inl (cI, 40, .inl (snum 3)))] rfl rfl rfl (by decide +kernel) (ik_runV (st := []) (As := [.int (-1000001 : Int32)]) C hM mv_X6_tell wl_5_16 ⟨rfl, rfl, Nat.le_of_ble_eq_true rfl, Nat.le_of_ble_eq_true rfl⟩ [0, 1] rfl (by decide +kernel) 0 rfl rfl rfl rfl (Nat.le_of_ble_eq_true rfl) dX6_copy_106 ⟨Nat.zero_le _, Nat.zero_le _⟩) rfl ?_
                    obtain ⟨rfl, rfl, rfl⟩ := ik_e3 hf
                    exact ik_iretW C hr hlk dX6_copy_109
              · have hf := ik_neg hc hf
                refine ik_aload_n C 2 rfl rfl dX6_copy_73 ?_
                refine ik_ldc C wl_43_14 dX6_copy_74 ?_
                obtain ⟨r5, g6, hc6, hf⟩ := ik_b2s hf
                have hM := (c_X6_tell l D cI cS o0 np0 kp0 tp0 r0 t0 sh0 f0 isk fnd (-1000003 : Int32) r5 g6 hc6)
                refine ik_goW (v := (some (.int r5))) (wc := (wz_X6of cI cS o0 np0 kp0 tp0 r0 t0 sh0 f0 isk fnd)) (w1 := (wz_X6of cI cS o0 np0 kp0 tp0 r0 t0 sh0 f0 isk g6)) [0, 1] [2, 3, 4, 5, 6, 7, 8, 9, 10] 11 rfl rfl (wz_X6ofs cI cS o0 np0 kp0 tp0 r0 t0 sh0 f0 s00 s10 s20 s30 s01 s11 s21 s31 isk g6 sbits ssize snum) rfl [(sh0, .inl (cS, 4, .inr (.inr (.inr (.inr (ik_ref4 s00 s10 s20 s30)))))), (s00, .inr (2, [.int (sbits 0), .int (ssize 0), .ref s01])), (s01, .inl (cI, 40, .inl (snum 0))), (s10, .inr (2, [.int (sbits 1), .int (ssize 1), .ref s11])), (s11, .inl (cI, 40, .inl (snum 1))), (s20, .inr (2, [.int (sbits 2), .int (ssize 2), .ref s21])), (s21, .inl (cI, 40, .inl (snum 2))), (s30, .inr (2, [.int (sbits 3), .int (ssize 3), .ref s31])), (s31, .inl (cI, 40, .inl (snum 3)))] rfl rfl rfl (by decide +kernel) (ik_runV (st := []) (As := [.int (-1000003 : Int32)]) C hM mv_X6_tell wl_5_16 ⟨rfl, rfl, Nat.le_of_ble_eq_true rfl, Nat.le_of_ble_eq_true rfl⟩ [0, 1] rfl (by decide +kernel) 0 rfl rfl rfl rfl (Nat.le_of_ble_eq_true rfl) dX6_copy_76 ⟨Nat.zero_le _, Nat.zero_le _⟩) rfl ?_
                obtain ⟨rfl, rfl, rfl⟩ := ik_e3 hf
                exact ik_iretW C hr hlk dX6_copy_79
            · have hf := ik_neg hc hf
              refine ik_aload_n C 2 rfl rfl dX6_copy_53 ?_
              refine ik_ldc C wl_43_13 dX6_copy_54 ?_
              obtain ⟨r5, g6, hc6, hf⟩ := ik_b2s hf
              have hM := (c_X6_tell l D cI cS o0 np0 kp0 tp0 r0 t0 sh0 f0 isk fnd (-1000006 : Int32) r5 g6 hc6)
              refine ik_goW (v := (some (.int r5))) (wc := (wz_X6of cI cS o0 np0 kp0 tp0 r0 t0 sh0 f0 isk fnd)) (w1 := (wz_X6of cI cS o0 np0 kp0 tp0 r0 t0 sh0 f0 isk g6)) [0, 1] [2, 3, 4, 5, 6, 7, 8, 9, 10] 11 rfl rfl (wz_X6ofs cI cS o0 np0 kp0 tp0 r0 t0 sh0 f0 s00 s10 s20 s30 s01 s11 s21 s31 isk g6 sbits ssize snum) rfl [(sh0, .inl (cS, 4, .inr (.inr (.inr (.inr (ik_ref4 s00 s10 s20 s30)))))), (s00, .inr (2, [.int (sbits 0), .int (ssize 0), .ref s01])), (s01, .inl (cI, 40, .inl (snum 0))), (s10, .inr (2, [.int (sbits 1), .int (ssize 1), .ref s11])), (s11, .inl (cI, 40, .inl (snum 1))), (s20, .inr (2, [.int (sbits 2), .int (ssize 2), .ref s21])), (s21, .inl (cI, 40, .inl (snum 2))), (s30, .inr (2, [.int (sbits 3), .int (ssize 3), .ref s31])), (s31, .inl (cI, 40, .inl (snum 3)))] rfl rfl rfl (by decide +kernel) (ik_runV (st := []) (As := [.int (-1000006 : Int32)]) C hM mv_X6_tell wl_5_16 ⟨rfl, rfl, Nat.le_of_ble_eq_true rfl, Nat.le_of_ble_eq_true rfl⟩ [0, 1] rfl (by decide +kernel) 0 rfl rfl rfl rfl (Nat.le_of_ble_eq_true rfl) dX6_copy_56 ⟨Nat.zero_le _, Nat.zero_le _⟩) rfl ?_
              obtain ⟨rfl, rfl, rfl⟩ := ik_e3 hf
              exact ik_iretW C hr hlk dX6_copy_59
        · have hf := ik_neg hb0 hf; have hf := ik_neg hb1 hf; have hf := ik_pos hc hf
          refine ik_astore C [(7, .ref s20), (6, .ref s20), (0, .ref o0), (1, .int x1), (2, .int x2), (3, .int x3), (4, .int x4), (5, .int x5)] (by decide) rfl dX6_copy_35 ?_
          refine ik_aload C 1 rfl dX6_copy_37 ?_
          obtain ⟨r3, hc3, hf⟩ := ik_b1s hf
          have hM := (c_X2_isMissing l D cI cS s20 s21 (sbits 2) (ssize 2) (snum 2) r3 hc3)
          refine ik_goR (ik_runV (st := []) (As := []) C hM mv_X2_isMissing wl_45_9 ⟨rfl, rfl, Nat.le_of_ble_eq_true rfl, Nat.le_of_ble_eq_true rfl⟩ [7, 8] rfl (by decide +kernel) 7 rfl rfl rfl rfl (Nat.le_of_ble_eq_true rfl) dX6_copy_39 ⟨Nat.zero_le _, Nat.zero_le _⟩) rfl ?_
          refine ik_if_ne C 53 dX6_copy_42 (by decide) (fun hc => ?_) (fun hc => ?_)
          · have hf := ik_neg hc hf
            refine ik_aload_n C 2 rfl rfl dX6_copy_53 ?_
            refine ik_ldc C wl_43_13 dX6_copy_54 ?_
            obtain ⟨r4, g5, hc5, hf⟩ := ik_b2s hf
            have hM := (c_X6_tell l D cI cS o0 np0 kp0 tp0 r0 t0 sh0 f0 isk fnd (-1000006 : Int32) r4 g5 hc5)
            refine ik_goW (v := (some (.int r4))) (wc := (wz_X6of cI cS o0 np0 kp0 tp0 r0 t0 sh0 f0 isk fnd)) (w1 := (wz_X6of cI cS o0 np0 kp0 tp0 r0 t0 sh0 f0 isk g5)) [0, 1] [2, 3, 4, 5, 6, 7, 8, 9, 10] 11 rfl rfl (wz_X6ofs cI cS o0 np0 kp0 tp0 r0 t0 sh0 f0 s00 s10 s20 s30 s01 s11 s21 s31 isk g5 sbits ssize snum) rfl [(sh0, .inl (cS, 4, .inr (.inr (.inr (.inr (ik_ref4 s00 s10 s20 s30)))))), (s00, .inr (2, [.int (sbits 0), .int (ssize 0), .ref s01])), (s01, .inl (cI, 40, .inl (snum 0))), (s10, .inr (2, [.int (sbits 1), .int (ssize 1), .ref s11])), (s11, .inl (cI, 40, .inl (snum 1))), (s20, .inr (2, [.int (sbits 2), .int (ssize 2), .ref s21])), (s21, .inl (cI, 40, .inl (snum 2))), (s30, .inr (2, [.int (sbits 3), .int (ssize 3), .ref s31])), (s31, .inl (cI, 40, .inl (snum 3)))] rfl rfl rfl (by decide +kernel) (ik_runV (st := []) (As := [.int (-1000006 : Int32)]) C hM mv_X6_tell wl_5_16 ⟨rfl, rfl, Nat.le_of_ble_eq_true rfl, Nat.le_of_ble_eq_true rfl⟩ [0, 1] rfl (by decide +kernel) 0 rfl rfl rfl rfl (Nat.le_of_ble_eq_true rfl) dX6_copy_56 ⟨Nat.zero_le _, Nat.zero_le _⟩) rfl ?_
            obtain ⟨rfl, rfl, rfl⟩ := ik_e3 hf
            exact ik_iretW C hr hlk dX6_copy_59
          · have hf := ik_pos hc hf
            refine ik_aload C 0 rfl dX6_copy_45 ?_
            obtain ⟨r4, hc4, hf⟩ := ik_b1s hf
            have hM := (c_X2_isMissing l D cI cS s20 s21 (sbits 2) (ssize 2) (snum 2) r4 hc4)
            refine ik_goR (ik_runV (st := []) (As := []) C hM mv_X2_isMissing wl_45_9 ⟨rfl, rfl, Nat.le_of_ble_eq_true rfl, Nat.le_of_ble_eq_true rfl⟩ [7, 8] rfl (by decide +kernel) 7 rfl rfl rfl rfl (Nat.le_of_ble_eq_true rfl) dX6_copy_47 ⟨Nat.zero_le _, Nat.zero_le _⟩) rfl ?_
            refine ik_if_eq C 60 dX6_copy_50 (by decide) (fun hc => ?_) (fun hc => ?_)
            · have hf := ik_pos hc hf
              refine ik_aload C 1 rfl dX6_copy_60 ?_
              refine ik_get C inlX2 7 rfl rfl 0 (by decide) wl_46_1 rfl (v := .int (sbits 2)) rfl dX6_copy_62 ?_
              refine ik_aload C 0 rfl dX6_copy_65 ?_
              refine ik_get C inlX2 7 rfl rfl 0 (by decide) wl_46_1 rfl (v := .int (sbits 2)) rfl dX6_copy_67 ?_
              refine ik_icmp_eq C 80 dX6_copy_70 (by decide) (fun hc => ?_) (fun hc => ?_)
              · have hf := ik_pos hc hf
                refine ik_aload C 1 rfl dX6_copy_80 ?_
                refine ik_iload_n C 4 rfl rfl dX6_copy_82 ?_
                refine ik_iload C 7 rfl dX6_copy_83 ?_
                obtain ⟨r5, hc5, hf⟩ := ik_b1s hf
                have hM := (c_X2_hasRange l D cI cS s20 s21 (sbits 2) (ssize 2) (snum 2) x2 x5 r5 hc5)
                refine ik_goR (ik_runV (st := []) (As := [.int x2, .int x5]) C hM mv_X2_hasRange wl_46_4 ⟨rfl, rfl, Nat.le_of_ble_eq_true rfl, Nat.le_of_ble_eq_true rfl⟩ [7, 8] rfl (by decide +kernel) 7 rfl rfl rfl rfl (Nat.le_of_ble_eq_true rfl) dX6_copy_85 ⟨Nat.zero_le _, Nat.zero_le _⟩) rfl ?_
                refine ik_if_eq C 103 dX6_copy_88 (by decide) (fun hc => ?_) (fun hc => ?_)
                · have hf := ik_pos hc hf
                  refine ik_aload_n C 2 rfl rfl dX6_copy_103 ?_
                  refine ik_ldc C wl_5_3 dX6_copy_104 ?_
                  obtain ⟨r6, g7, hc7, hf⟩ := ik_b2s hf
                  have hM := (c_X6_tell l D cI cS o0 np0 kp0 tp0 r0 t0 sh0 f0 isk fnd (-1000001 : Int32) r6 g7 hc7)
                  refine ik_goW (v := (some (.int r6))) (wc := (wz_X6of cI cS o0 np0 kp0 tp0 r0 t0 sh0 f0 isk fnd)) (w1 := (wz_X6of cI cS o0 np0 kp0 tp0 r0 t0 sh0 f0 isk g7)) [0, 1] [2, 3, 4, 5, 6, 7, 8, 9, 10] 11 rfl rfl (wz_X6ofs cI cS o0 np0 kp0 tp0 r0 t0 sh0 f0 s00 s10 s20 s30 s01 s11 s21 s31 isk g7 sbits ssize snum) rfl [(sh0, .inl (cS, 4, .inr (.inr (.inr (.inr (ik_ref4 s00 s10 s20 s30)))))), (s00, .inr (2, [.int (sbits 0), .int (ssize 0), .ref s01])), (s01, .inl (cI, 40, .inl (snum 0))), (s10, .inr (2, [.int (sbits 1), .int (ssize 1), .ref s11])), (s11, .inl (cI, 40, .inl (snum 1))), (s20, .inr (2, [.int (sbits 2), .int (ssize 2), .ref s21])), (s21, .inl (cI, 40, .inl (snum 2))), (s30, .inr (2, [.int (sbits 3), .int (ssize 3), .ref s31])), (s31, .inl (cI, 40, .inl (snum 3)))] rfl rfl rfl (by decide +kernel) (ik_runV (st := []) (As := [.int (-1000001 : Int32)]) C hM mv_X6_tell wl_5_16 ⟨rfl, rfl, Nat.le_of_ble_eq_true rfl, Nat.le_of_ble_eq_true rfl⟩ [0, 1] rfl (by decide +kernel) 0 rfl rfl rfl rfl (Nat.le_of_ble_eq_true rfl) dX6_copy_106 ⟨Nat.zero_le _, Nat.zero_le _⟩) rfl ?_
                  obtain ⟨rfl, rfl, rfl⟩ := ik_e3 hf
                  exact ik_iretW C hr hlk dX6_copy_109
                · have hf := ik_neg hc hf
                  refine ik_aload C 0 rfl dX6_copy_91 ?_
                  refine ik_iload C 6 rfl dX6_copy_93 ?_
                  refine ik_iload C 7 rfl dX6_copy_95 ?_
                  obtain ⟨r6, hc6, hf⟩ := ik_b1s hf
                  have hM := (c_X2_hasRange l D cI cS s20 s21 (sbits 2) (ssize 2) (snum 2) x4 x5 r6 hc6)
                  refine ik_goR (ik_runV (st := []) (As := [.int x4, .int x5]) C hM mv_X2_hasRange wl_46_4 ⟨rfl, rfl, Nat.le_of_ble_eq_true rfl, Nat.le_of_ble_eq_true rfl⟩ [7, 8] rfl (by decide +kernel) 7 rfl rfl rfl rfl (Nat.le_of_ble_eq_true rfl) dX6_copy_97 ⟨Nat.zero_le _, Nat.zero_le _⟩) rfl ?_
                  refine ik_if_ne C 110 dX6_copy_100 (by decide) (fun hc => ?_) (fun hc => ?_)
                  · have hf := ik_neg hc hf
                    refine ik_aload C 1 rfl dX6_copy_110 ?_
                    refine ik_get C inlX2 7 rfl rfl 2 (by decide) wl_46_2 rfl (v := .ref s21) rfl dX6_copy_112 ?_
                    refine ik_iload_n C 4 rfl rfl dX6_copy_115 ?_
                    refine ik_aload C 0 rfl dX6_copy_116 ?_
                    refine ik_get C inlX2 7 rfl rfl 2 (by decide) wl_46_2 rfl (v := .ref s21) rfl dX6_copy_118 ?_
                    refine ik_iload C 6 rfl dX6_copy_121 ?_
                    refine ik_iload C 7 rfl dX6_copy_123 ?_
                    have hg := ik_gci hf
                    have hf := ik_gck hf
                    refine ik_copy C wl_46_3 wl_23_19 wl_23_20 wl_23_21 8 8 rfl rfl hg (Nat.le_of_ble_eq_true rfl) (Nat.le_of_ble_eq_true rfl) (wz_X6ofs cI cS o0 np0 kp0 tp0 r0 t0 sh0 f0 s00 s10 s20 s30 s01 s11 s21 s31 isk fnd sbits ssize (va_up snum 2 (va_cpy (snum 2) (snum 2) (x2).toNatClampNeg (x4).toNatClampNeg (x5).toNatClampNeg))) rfl dX6_copy_125 ?_
                    refine ik_iload C 7 rfl dX6_copy_128 ?_
                    obtain ⟨rfl, rfl, rfl⟩ := ik_e3 hf
                    exact ik_iretW C hr hlk dX6_copy_130
                  · have hf := ik_pos hc hf
                    refine ik_aload_n C 2 rfl rfl dX6_copy_103 ?_
                    refine ik_ldc C wl_5_3 dX6_copy_104 ?_
                    obtain ⟨r7, g8, hc8, hf⟩ := ik_b2s hf
                    have hM := (c_X6_tell l D cI cS o0 np0 kp0 tp0 r0 t0 sh0 f0 isk fnd (-1000001 : Int32) r7 g8 hc8)
                    refine ik_goW (v := (some (.int r7))) (wc := (wz_X6of cI cS o0 np0 kp0 tp0 r0 t0 sh0 f0 isk fnd)) (w1 := (wz_X6of cI cS o0 np0 kp0 tp0 r0 t0 sh0 f0 isk g8)) [0, 1] [2, 3, 4, 5, 6, 7, 8, 9, 10] 11 rfl rfl (wz_X6ofs cI cS o0 np0 kp0 tp0 r0 t0 sh0 f0 s00 s10 s20 s30 s01 s11 s21 s31 isk g8 sbits ssize snum) rfl [(sh0, .inl (cS, 4, .inr (.inr (.inr (.inr (ik_ref4 s00 s10 s20 s30)))))), (s00, .inr (2, [.int (sbits 0), .int (ssize 0), .ref s01])), (s01, .inl (cI, 40, .inl (snum 0))), (s10, .inr (2, [.int (sbits 1), .int (ssize 1), .ref s11])), (s11, .inl (cI, 40, .inl (snum 1))), (s20, .inr (2, [.int (sbits 2), .int (ssize 2), .ref s21])), (s21, .inl (cI, 40, .inl (snum 2))), (s30, .inr (2, [.int (sbits 3), .int (ssize 3), .ref s31])), (s31, .inl (cI, 40, .inl (snum 3)))] rfl rfl rfl (by decide +kernel) (ik_runV (st := []) (As := [.int (-1000001 : Int32)]) C hM mv_X6_tell wl_5_16 ⟨rfl, rfl, Nat.le_of_ble_eq_true rfl, Nat.le_of_ble_eq_true rfl⟩ [0, 1] rfl (by decide +kernel) 0 rfl rfl rfl rfl (Nat.le_of_ble_eq_true rfl) dX6_copy_106 ⟨Nat.zero_le _, Nat.zero_le _⟩) rfl ?_
                    obtain ⟨rfl, rfl, rfl⟩ := ik_e3 hf
                    exact ik_iretW C hr hlk dX6_copy_109
              · have hf := ik_neg hc hf
                refine ik_aload_n C 2 rfl rfl dX6_copy_73 ?_
                refine ik_ldc C wl_43_14 dX6_copy_74 ?_
                obtain ⟨r5, g6, hc6, hf⟩ := ik_b2s hf
                have hM := (c_X6_tell l D cI cS o0 np0 kp0 tp0 r0 t0 sh0 f0 isk fnd (-1000003 : Int32) r5 g6 hc6)
                refine ik_goW (v := (some (.int r5))) (wc := (wz_X6of cI cS o0 np0 kp0 tp0 r0 t0 sh0 f0 isk fnd)) (w1 := (wz_X6of cI cS o0 np0 kp0 tp0 r0 t0 sh0 f0 isk g6)) [0, 1] [2, 3, 4, 5, 6, 7, 8, 9, 10] 11 rfl rfl (wz_X6ofs cI cS o0 np0 kp0 tp0 r0 t0 sh0 f0 s00 s10 s20 s30 s01 s11 s21 s31 isk g6 sbits ssize snum) rfl [(sh0, .inl (cS, 4, .inr (.inr (.inr (.inr (ik_ref4 s00 s10 s20 s30)))))), (s00, .inr (2, [.int (sbits 0), .int (ssize 0), .ref s01])), (s01, .inl (cI, 40, .inl (snum 0))), (s10, .inr (2, [.int (sbits 1), .int (ssize 1), .ref s11])), (s11, .inl (cI, 40, .inl (snum 1))), (s20, .inr (2, [.int (sbits 2), .int (ssize 2), .ref s21])), (s21, .inl (cI, 40, .inl (snum 2))), (s30, .inr (2, [.int (sbits 3), .int (ssize 3), .ref s31])), (s31, .inl (cI, 40, .inl (snum 3)))] rfl rfl rfl (by decide +kernel) (ik_runV (st := []) (As := [.int (-1000003 : Int32)]) C hM mv_X6_tell wl_5_16 ⟨rfl, rfl, Nat.le_of_ble_eq_true rfl, Nat.le_of_ble_eq_true rfl⟩ [0, 1] rfl (by decide +kernel) 0 rfl rfl rfl rfl (Nat.le_of_ble_eq_true rfl) dX6_copy_76 ⟨Nat.zero_le _, Nat.zero_le _⟩) rfl ?_
                obtain ⟨rfl, rfl, rfl⟩ := ik_e3 hf
                exact ik_iretW C hr hlk dX6_copy_79
            · have hf := ik_neg hc hf
              refine ik_aload_n C 2 rfl rfl dX6_copy_53 ?_
              refine ik_ldc C wl_43_13 dX6_copy_54 ?_
              obtain ⟨r5, g6, hc6, hf⟩ := ik_b2s hf
              have hM := (c_X6_tell l D cI cS o0 np0 kp0 tp0 r0 t0 sh0 f0 isk fnd (-1000006 : Int32) r5 g6 hc6)
              refine ik_goW (v := (some (.int r5))) (wc := (wz_X6of cI cS o0 np0 kp0 tp0 r0 t0 sh0 f0 isk fnd)) (w1 := (wz_X6of cI cS o0 np0 kp0 tp0 r0 t0 sh0 f0 isk g6)) [0, 1] [2, 3, 4, 5, 6, 7, 8, 9, 10] 11 rfl rfl (wz_X6ofs cI cS o0 np0 kp0 tp0 r0 t0 sh0 f0 s00 s10 s20 s30 s01 s11 s21 s31 isk g6 sbits ssize snum) rfl [(sh0, .inl (cS, 4, .inr (.inr (.inr (.inr (ik_ref4 s00 s10 s20 s30)))))), (s00, .inr (2, [.int (sbits 0), .int (ssize 0), .ref s01])), (s01, .inl (cI, 40, .inl (snum 0))), (s10, .inr (2, [.int (sbits 1), .int (ssize 1), .ref s11])), (s11, .inl (cI, 40, .inl (snum 1))), (s20, .inr (2, [.int (sbits 2), .int (ssize 2), .ref s21])), (s21, .inl (cI, 40, .inl (snum 2))), (s30, .inr (2, [.int (sbits 3), .int (ssize 3), .ref s31])), (s31, .inl (cI, 40, .inl (snum 3)))] rfl rfl rfl (by decide +kernel) (ik_runV (st := []) (As := [.int (-1000006 : Int32)]) C hM mv_X6_tell wl_5_16 ⟨rfl, rfl, Nat.le_of_ble_eq_true rfl, Nat.le_of_ble_eq_true rfl⟩ [0, 1] rfl (by decide +kernel) 0 rfl rfl rfl rfl (Nat.le_of_ble_eq_true rfl) dX6_copy_56 ⟨Nat.zero_le _, Nat.zero_le _⟩) rfl ?_
              obtain ⟨rfl, rfl, rfl⟩ := ik_e3 hf
              exact ik_iretW C hr hlk dX6_copy_59
        · have hf := ik_neg hb0 hf; have hf := ik_neg hb1 hf; have hf := ik_neg hb2 hf
          refine ik_astore C [(7, .ref s30), (6, .ref s20), (0, .ref o0), (1, .int x1), (2, .int x2), (3, .int x3), (4, .int x4), (5, .int x5)] (by decide) rfl dX6_copy_35 ?_
          refine ik_aload C 1 rfl dX6_copy_37 ?_
          obtain ⟨r3, hc3, hf⟩ := ik_b1s hf
          have hM := (c_X2_isMissing l D cI cS s20 s21 (sbits 2) (ssize 2) (snum 2) r3 hc3)
          refine ik_goR (ik_runV (st := []) (As := []) C hM mv_X2_isMissing wl_45_9 ⟨rfl, rfl, Nat.le_of_ble_eq_true rfl, Nat.le_of_ble_eq_true rfl⟩ [7, 8] rfl (by decide +kernel) 7 rfl rfl rfl rfl (Nat.le_of_ble_eq_true rfl) dX6_copy_39 ⟨Nat.zero_le _, Nat.zero_le _⟩) rfl ?_
          refine ik_if_ne C 53 dX6_copy_42 (by decide) (fun hc => ?_) (fun hc => ?_)
          · have hf := ik_neg hc hf
            refine ik_aload_n C 2 rfl rfl dX6_copy_53 ?_
            refine ik_ldc C wl_43_13 dX6_copy_54 ?_
            obtain ⟨r4, g5, hc5, hf⟩ := ik_b2s hf
            have hM := (c_X6_tell l D cI cS o0 np0 kp0 tp0 r0 t0 sh0 f0 isk fnd (-1000006 : Int32) r4 g5 hc5)
            refine ik_goW (v := (some (.int r4))) (wc := (wz_X6of cI cS o0 np0 kp0 tp0 r0 t0 sh0 f0 isk fnd)) (w1 := (wz_X6of cI cS o0 np0 kp0 tp0 r0 t0 sh0 f0 isk g5)) [0, 1] [2, 3, 4, 5, 6, 7, 8, 9, 10] 11 rfl rfl (wz_X6ofs cI cS o0 np0 kp0 tp0 r0 t0 sh0 f0 s00 s10 s20 s30 s01 s11 s21 s31 isk g5 sbits ssize snum) rfl [(sh0, .inl (cS, 4, .inr (.inr (.inr (.inr (ik_ref4 s00 s10 s20 s30)))))), (s00, .inr (2, [.int (sbits 0), .int (ssize 0), .ref s01])), (s01, .inl (cI, 40, .inl (snum 0))), (s10, .inr (2, [.int (sbits 1), .int (ssize 1), .ref s11])), (s11, .inl (cI, 40, .inl (snum 1))), (s20, .inr (2, [.int (sbits 2), .int (ssize 2), .ref s21])), (s21, .inl (cI, 40, .inl (snum 2))), (s30, .inr (2, [.int (sbits 3), .int (ssize 3), .ref s31])), (s31, .inl (cI, 40, .inl (snum 3)))] rfl rfl rfl (by decide +kernel) (ik_runV (st := []) (As := [.int (-1000006 : Int32)]) C hM mv_X6_tell wl_5_16 ⟨rfl, rfl, Nat.le_of_ble_eq_true rfl, Nat.le_of_ble_eq_true rfl⟩ [0, 1] rfl (by decide +kernel) 0 rfl rfl rfl rfl (Nat.le_of_ble_eq_true rfl) dX6_copy_56 ⟨Nat.zero_le _, Nat.zero_le _⟩) rfl ?_
            obtain ⟨rfl, rfl, rfl⟩ := ik_e3 hf
            exact ik_iretW C hr hlk dX6_copy_59
          · have hf := ik_pos hc hf
            refine ik_aload C 0 rfl dX6_copy_45 ?_
            obtain ⟨r4, hc4, hf⟩ := ik_b1s hf
            have hM := (c_X2_isMissing l D cI cS s30 s31 (sbits 3) (ssize 3) (snum 3) r4 hc4)
            refine ik_goR (ik_runV (st := []) (As := []) C hM mv_X2_isMissing wl_45_9 ⟨rfl, rfl, Nat.le_of_ble_eq_true rfl, Nat.le_of_ble_eq_true rfl⟩ [9, 10] rfl (by decide +kernel) 9 rfl rfl rfl rfl (Nat.le_of_ble_eq_true rfl) dX6_copy_47 ⟨Nat.zero_le _, Nat.zero_le _⟩) rfl ?_
            refine ik_if_eq C 60 dX6_copy_50 (by decide) (fun hc => ?_) (fun hc => ?_)
            · have hf := ik_pos hc hf
              refine ik_aload C 1 rfl dX6_copy_60 ?_
              refine ik_get C inlX2 7 rfl rfl 0 (by decide) wl_46_1 rfl (v := .int (sbits 2)) rfl dX6_copy_62 ?_
              refine ik_aload C 0 rfl dX6_copy_65 ?_
              refine ik_get C inlX2 9 rfl rfl 0 (by decide) wl_46_1 rfl (v := .int (sbits 3)) rfl dX6_copy_67 ?_
              refine ik_icmp_eq C 80 dX6_copy_70 (by decide) (fun hc => ?_) (fun hc => ?_)
              · have hf := ik_pos hc hf
                refine ik_aload C 1 rfl dX6_copy_80 ?_
                refine ik_iload_n C 4 rfl rfl dX6_copy_82 ?_
                refine ik_iload C 7 rfl dX6_copy_83 ?_
                obtain ⟨r5, hc5, hf⟩ := ik_b1s hf
                have hM := (c_X2_hasRange l D cI cS s20 s21 (sbits 2) (ssize 2) (snum 2) x2 x5 r5 hc5)
                refine ik_goR (ik_runV (st := []) (As := [.int x2, .int x5]) C hM mv_X2_hasRange wl_46_4 ⟨rfl, rfl, Nat.le_of_ble_eq_true rfl, Nat.le_of_ble_eq_true rfl⟩ [7, 8] rfl (by decide +kernel) 7 rfl rfl rfl rfl (Nat.le_of_ble_eq_true rfl) dX6_copy_85 ⟨Nat.zero_le _, Nat.zero_le _⟩) rfl ?_
                refine ik_if_eq C 103 dX6_copy_88 (by decide) (fun hc => ?_) (fun hc => ?_)
                · have hf := ik_pos hc hf
                  refine ik_aload_n C 2 rfl rfl dX6_copy_103 ?_
                  refine ik_ldc C wl_5_3 dX6_copy_104 ?_
                  obtain ⟨r6, g7, hc7, hf⟩ := ik_b2s hf
                  have hM := (c_X6_tell l D cI cS o0 np0 kp0 tp0 r0 t0 sh0 f0 isk fnd (-1000001 : Int32) r6 g7 hc7)
                  refine ik_goW (v := (some (.int r6))) (wc := (wz_X6of cI cS o0 np0 kp0 tp0 r0 t0 sh0 f0 isk fnd)) (w1 := (wz_X6of cI cS o0 np0 kp0 tp0 r0 t0 sh0 f0 isk g7)) [0, 1] [2, 3, 4, 5, 6, 7, 8, 9, 10] 11 rfl rfl (wz_X6ofs cI cS o0 np0 kp0 tp0 r0 t0 sh0 f0 s00 s10 s20 s30 s01 s11 s21 s31 isk g7 sbits ssize snum) rfl [(sh0, .inl (cS, 4, .inr (.inr (.inr (.inr (ik_ref4 s00 s10 s20 s30)))))), (s00, .inr (2, [.int (sbits 0), .int (ssize 0), .ref s01])), (s01, .inl (cI, 40, .inl (snum 0))), (s10, .inr (2, [.int (sbits 1), .int (ssize 1), .ref s11])), (s11, .inl (cI, 40, .inl (snum 1))), (s20, .inr (2, [.int (sbits 2), .int (ssize 2), .ref s21])), (s21, .inl (cI, 40, .inl (snum 2))), (s30, .inr (2, [.int (sbits 3), .int (ssize 3), .ref s31])), (s31, .inl (cI, 40, .inl (snum 3)))] rfl rfl rfl (by decide +kernel) (ik_runV (st := []) (As := [.int (-1000001 : Int32)]) C hM mv_X6_tell wl_5_16 ⟨rfl, rfl, Nat.le_of_ble_eq_true rfl, Nat.le_of_ble_eq_true rfl⟩ [0, 1] rfl (by decide +kernel) 0 rfl rfl rfl rfl (Nat.le_of_ble_eq_true rfl) dX6_copy_106 ⟨Nat.zero_le _, Nat.zero_le _⟩) rfl ?_
                  obtain ⟨rfl, rfl, rfl⟩ := ik_e3 hf
                  exact ik_iretW C hr hlk dX6_copy_109
                · have hf := ik_neg hc hf
                  refine ik_aload C 0 rfl dX6_copy_91 ?_
                  refine ik_iload C 6 rfl dX6_copy_93 ?_
                  refine ik_iload C 7 rfl dX6_copy_95 ?_
                  obtain ⟨r6, hc6, hf⟩ := ik_b1s hf
                  have hM := (c_X2_hasRange l D cI cS s30 s31 (sbits 3) (ssize 3) (snum 3) x4 x5 r6 hc6)
                  refine ik_goR (ik_runV (st := []) (As := [.int x4, .int x5]) C hM mv_X2_hasRange wl_46_4 ⟨rfl, rfl, Nat.le_of_ble_eq_true rfl, Nat.le_of_ble_eq_true rfl⟩ [9, 10] rfl (by decide +kernel) 9 rfl rfl rfl rfl (Nat.le_of_ble_eq_true rfl) dX6_copy_97 ⟨Nat.zero_le _, Nat.zero_le _⟩) rfl ?_
                  refine ik_if_ne C 110 dX6_copy_100 (by decide) (fun hc => ?_) (fun hc => ?_)
                  · have hf := ik_neg hc hf
                    refine ik_aload C 1 rfl dX6_copy_110 ?_
                    refine ik_get C inlX2 7 rfl rfl 2 (by decide) wl_46_2 rfl (v := .ref s21) rfl dX6_copy_112 ?_
                    refine ik_iload_n C 4 rfl rfl dX6_copy_115 ?_
                    refine ik_aload C 0 rfl dX6_copy_116 ?_
                    refine ik_get C inlX2 9 rfl rfl 2 (by decide) wl_46_2 rfl (v := .ref s31) rfl dX6_copy_118 ?_
                    refine ik_iload C 6 rfl dX6_copy_121 ?_
                    refine ik_iload C 7 rfl dX6_copy_123 ?_
                    have hg := ik_gci hf
                    have hf := ik_gck hf
                    refine ik_copy C wl_46_3 wl_23_19 wl_23_20 wl_23_21 8 10 rfl rfl hg (Nat.le_of_ble_eq_true rfl) (Nat.le_of_ble_eq_true rfl) (wz_X6ofs cI cS o0 np0 kp0 tp0 r0 t0 sh0 f0 s00 s10 s20 s30 s01 s11 s21 s31 isk fnd sbits ssize (va_up snum 3 (va_cpy (snum 2) (snum 3) (x2).toNatClampNeg (x4).toNatClampNeg (x5).toNatClampNeg))) rfl dX6_copy_125 ?_
                    refine ik_iload C 7 rfl dX6_copy_128 ?_
                    obtain ⟨rfl, rfl, rfl⟩ := ik_e3 hf
                    exact ik_iretW C hr hlk dX6_copy_130
                  · have hf := ik_pos hc hf
                    refine ik_aload_n C 2 rfl rfl dX6_copy_103 ?_
                    refine ik_ldc C wl_5_3 dX6_copy_104 ?_
                    obtain ⟨r7, g8, hc8, hf⟩ := ik_b2s hf
                    have hM := (c_X6_tell l D cI cS o0 np0 kp0 tp0 r0 t0 sh0 f0 isk fnd (-1000001 : Int32) r7 g8 hc8)
                    refine ik_goW (v := (some (.int r7))) (wc := (wz_X6of cI cS o0 np0 kp0 tp0 r0 t0 sh0 f0 isk fnd)) (w1 := (wz_X6of cI cS o0 np0 kp0 tp0 r0 t0 sh0 f0 isk g8)) [0, 1] [2, 3, 4, 5, 6, 7, 8, 9, 10] 11 rfl rfl (wz_X6ofs cI cS o0 np0 kp0 tp0 r0 t0 sh0 f0 s00 s10 s20 s30 s01 s11 s21 s31 isk g8 sbits ssize snum) rfl [(sh0, .inl (cS, 4, .inr (.inr (.inr (.inr (ik_ref4 s00 s10 s20 s30)))))), (s00, .inr (2, [.int (sbits 0), .int (ssize 0), .ref s01])), (s01, .inl (cI, 40, .inl (snum 0))), (s10, .inr (2, [.int (sbits 1), .int (ssize 1), .ref s11])), (s11, .inl (cI, 40, .inl (snum 1))), (s20, .inr (2, [.int (sbits 2), .int (ssize 2), .ref s21])), (s21, .inl (cI, 40, .inl (snum 2))), (s30, .inr (2, [.int (sbits 3), .int (ssize 3), .ref s31])), (s31, .inl (cI, 40, .inl (snum 3)))] rfl rfl rfl (by decide +kernel) (ik_runV (st := []) (As := [.int (-1000001 : Int32)]) C hM mv_X6_tell wl_5_16 ⟨rfl, rfl, Nat.le_of_ble_eq_true rfl, Nat.le_of_ble_eq_true rfl⟩ [0, 1] rfl (by decide +kernel) 0 rfl rfl rfl rfl (Nat.le_of_ble_eq_true rfl) dX6_copy_106 ⟨Nat.zero_le _, Nat.zero_le _⟩) rfl ?_
                    obtain ⟨rfl, rfl, rfl⟩ := ik_e3 hf
                    exact ik_iretW C hr hlk dX6_copy_109
              · have hf := ik_neg hc hf
                refine ik_aload_n C 2 rfl rfl dX6_copy_73 ?_
                refine ik_ldc C wl_43_14 dX6_copy_74 ?_
                obtain ⟨r5, g6, hc6, hf⟩ := ik_b2s hf
                have hM := (c_X6_tell l D cI cS o0 np0 kp0 tp0 r0 t0 sh0 f0 isk fnd (-1000003 : Int32) r5 g6 hc6)
                refine ik_goW (v := (some (.int r5))) (wc := (wz_X6of cI cS o0 np0 kp0 tp0 r0 t0 sh0 f0 isk fnd)) (w1 := (wz_X6of cI cS o0 np0 kp0 tp0 r0 t0 sh0 f0 isk g6)) [0, 1] [2, 3, 4, 5, 6, 7, 8, 9, 10] 11 rfl rfl (wz_X6ofs cI cS o0 np0 kp0 tp0 r0 t0 sh0 f0 s00 s10 s20 s30 s01 s11 s21 s31 isk g6 sbits ssize snum) rfl [(sh0, .inl (cS, 4, .inr (.inr (.inr (.inr (ik_ref4 s00 s10 s20 s30)))))), (s00, .inr (2, [.int (sbits 0), .int (ssize 0), .ref s01])), (s01, .inl (cI, 40, .inl (snum 0))), (s10, .inr (2, [.int (sbits 1), .int (ssize 1), .ref s11])), (s11, .inl (cI, 40, .inl (snum 1))), (s20, .inr (2, [.int (sbits 2), .int (ssize 2), .ref s21])), (s21, .inl (cI, 40, .inl (snum 2))), (s30, .inr (2, [.int (sbits 3), .int (ssize 3), .ref s31])), (s31, .inl (cI, 40, .inl (snum 3)))] rfl rfl rfl (by decide +kernel) (ik_runV (st := []) (As := [.int (-1000003 : Int32)]) C hM mv_X6_tell wl_5_16 ⟨rfl, rfl, Nat.le_of_ble_eq_true rfl, Nat.le_of_ble_eq_true rfl⟩ [0, 1] rfl (by decide +kernel) 0 rfl rfl rfl rfl (Nat.le_of_ble_eq_true rfl) dX6_copy_76 ⟨Nat.zero_le _, Nat.zero_le _⟩) rfl ?_
                obtain ⟨rfl, rfl, rfl⟩ := ik_e3 hf
                exact ik_iretW C hr hlk dX6_copy_79
            · have hf := ik_neg hc hf
              refine ik_aload_n C 2 rfl rfl dX6_copy_53 ?_
              refine ik_ldc C wl_43_13 dX6_copy_54 ?_
              obtain ⟨r5, g6, hc6, hf⟩ := ik_b2s hf
              have hM := (c_X6_tell l D cI cS o0 np0 kp0 tp0 r0 t0 sh0 f0 isk fnd (-1000006 : Int32) r5 g6 hc6)
              refine ik_goW (v := (some (.int r5))) (wc := (wz_X6of cI cS o0 np0 kp0 tp0 r0 t0 sh0 f0 isk fnd)) (w1 := (wz_X6of cI cS o0 np0 kp0 tp0 r0 t0 sh0 f0 isk g6)) [0, 1] [2, 3, 4, 5, 6, 7, 8, 9, 10] 11 rfl rfl (wz_X6ofs cI cS o0 np0 kp0 tp0 r0 t0 sh0 f0 s00 s10 s20 s30 s01 s11 s21 s31 isk g6 sbits ssize snum) rfl [(sh0, .inl (cS, 4, .inr (.inr (.inr (.inr (ik_ref4 s00 s10 s20 s30)))))), (s00, .inr (2, [.int (sbits 0), .int (ssize 0), .ref s01])), (s01, .inl (cI, 40, .inl (snum 0))), (s10, .inr (2, [.int (sbits 1), .int (ssize 1), .ref s11])), (s11, .inl (cI, 40, .inl (snum 1))), (s20, .inr (2, [.int (sbits 2), .int (ssize 2), .ref s21])), (s21, .inl (cI, 40, .inl (snum 2))), (s30, .inr (2, [.int (sbits 3), .int (ssize 3), .ref s31])), (s31, .inl (cI, 40, .inl (snum 3)))] rfl rfl rfl (by decide +kernel) (ik_runV (st := []) (As := [.int (-1000006 : Int32)]) C hM mv_X6_tell wl_5_16 ⟨rfl, rfl, Nat.le_of_ble_eq_true rfl, Nat.le_of_ble_eq_true rfl⟩ [0, 1] rfl (by decide +kernel) 0 rfl rfl rfl rfl (Nat.le_of_ble_eq_true rfl) dX6_copy_56 ⟨Nat.zero_le _, Nat.zero_le _⟩) rfl ?_
              obtain ⟨rfl, rfl, rfl⟩ := ik_e3 hf
              exact ik_iretW C hr hlk dX6_copy_59
      · have hf := ik_neg hb0 hf; have hf := ik_neg hb1 hf; have hf := ik_neg hb2 hf
        refine ik_astore C [(6, .ref s30), (0, .ref o0), (1, .int x1), (2, .int x2), (3, .int x3), (4, .int x4), (5, .int x5)] (by decide) rfl dX6_copy_27 ?_
        refine ik_aload_n C 1 rfl rfl dX6_copy_29 ?_
        refine ik_get C inlX6 0 rfl rfl 6 (by decide) wl_2_1 rfl (v := .ref sh0) rfl dX6_copy_30 ?_
        refine ik_iload_n C 4 rfl rfl dX6_copy_33 ?_
        have hg := ik_gdi hf
        have hf := ik_gdk hf
        refine ik_aald4 C 2 rfl hg (a0 := s00) (a1 := s10) (a2 := s20) (a3 := s30) rfl rfl rfl rfl dX6_copy_34 (fun hc => ?_) (fun hb0 hc => ?_) (fun hb0 hb1 hc => ?_) (fun hb0 hb1 hb2 hc => ?_)
        · have hf := ik_pos hc hf
          refine ik_astore C [(7, .ref s00), (6, .ref s30), (0, .ref o0), (1, .int x1), (2, .int x2), (3, .int x3), (4, .int x4), (5, .int x5)] (by decide) rfl dX6_copy_35 ?_
          refine ik_aload C 1 rfl dX6_copy_37 ?_
          obtain ⟨r3, hc3, hf⟩ := ik_b1s hf
          have hM := (c_X2_isMissing l D cI cS s30 s31 (sbits 3) (ssize 3) (snum 3) r3 hc3)
          refine ik_goR (ik_runV (st := []) (As := []) C hM mv_X2_isMissing wl_45_9 ⟨rfl, rfl, Nat.le_of_ble_eq_true rfl, Nat.le_of_ble_eq_true rfl⟩ [9, 10] rfl (by decide +kernel) 9 rfl rfl rfl rfl (Nat.le_of_ble_eq_true rfl) dX6_copy_39 ⟨Nat.zero_le _, Nat.zero_le _⟩) rfl ?_
          refine ik_if_ne C 53 dX6_copy_42 (by decide) (fun hc => ?_) (fun hc => ?_)
          · have hf := ik_neg hc hf
            refine ik_aload_n C 2 rfl rfl dX6_copy_53 ?_
            refine ik_ldc C wl_43_13 dX6_copy_54 ?_
            obtain ⟨r4, g5, hc5, hf⟩ := ik_b2s hf
            have hM := (c_X6_tell l D cI cS o0 np0 kp0 tp0 r0 t0 sh0 f0 isk fnd (-1000006 : Int32) r4 g5 hc5)
            refine ik_goW (v := (some (.int r4))) (wc := (wz_X6of cI cS o0 np0 kp0 tp0 r0 t0 sh0 f0 isk fnd)) (w1 := (wz_X6of cI cS o0 np0 kp0 tp0 r0 t0 sh0 f0 isk g5)) [0, 1] [2, 3, 4, 5, 6, 7, 8, 9, 10] 11 rfl rfl (wz_X6ofs cI cS o0 np0 kp0 tp0 r0 t0 sh0 f0 s00 s10 s20 s30 s01 s11 s21 s31 isk g5 sbits ssize snum) rfl [(sh0, .inl (cS, 4, .inr (.inr (.inr (.inr (ik_ref4 s00 s10 s20 s30)))))), (s00, .inr (2, [.int (sbits 0), .int (ssize 0), .ref s01])), (s01, .inl (cI, 40, .inl (snum 0))), (s10, .inr (2, [.int (sbits 1), .int (ssize 1), .ref s11])), (s11, .inl (cI, 40, .inl (snum 1))), (s20, .inr (2, [.int (sbits 2), .int (ssize 2), .ref s21])), (s21, .inl (cI, 40, .inl (snum 2))), (s30, .inr (2, [.int (sbits 3), .int (ssize 3), .ref s31])), (s31, .inl (cI, 40, .inl (snum 3)))] rfl rfl rfl (by decide +kernel) (ik_runV (st := []) (As := [.int (-1000006 : Int32)]) C hM mv_X6_tell wl_5_16 ⟨rfl, rfl, Nat.le_of_ble_eq_true rfl, Nat.le_of_ble_eq_true rfl⟩ [0, 1] rfl (by decide +kernel) 0 rfl rfl rfl rfl (Nat.le_of_ble_eq_true rfl) dX6_copy_56 ⟨Nat.zero_le _, Nat.zero_le _⟩) rfl ?_
            obtain ⟨rfl, rfl, rfl⟩ := ik_e3 hf
            exact ik_iretW C hr hlk dX6_copy_59
          · have hf := ik_pos hc hf
            refine ik_aload C 0 rfl dX6_copy_45 ?_
            obtain ⟨r4, hc4, hf⟩ := ik_b1s hf
            have hM := (c_X2_isMissing l D cI cS s00 s01 (sbits 0) (ssize 0) (snum 0) r4 hc4)
            refine ik_goR (ik_runV (st := []) (As := []) C hM mv_X2_isMissing wl_45_9 ⟨rfl, rfl, Nat.le_of_ble_eq_true rfl, Nat.le_of_ble_eq_true rfl⟩ [3, 4] rfl (by decide +kernel) 3 rfl rfl rfl rfl (Nat.le_of_ble_eq_true rfl) dX6_copy_47 ⟨Nat.zero_le _, Nat.zero_le _⟩) rfl ?_
            refine ik_if_eq C 60 dX6_copy_50 (by decide) (fun hc => ?_) (fun hc => ?_)
            · have hf := ik_pos hc hf
              refine ik_aload C 1 rfl dX6_copy_60 ?_
              refine ik_get C inlX2 9 rfl rfl 0 (by decide) wl_46_1 rfl (v := .int (sbits 3)) rfl dX6_copy_62 ?_
              refine ik_aload C 0 rfl dX6_copy_65 ?_
              refine ik_get C inlX2 3 rfl rfl 0 (by decide) wl_46_1 rfl (v := .int (sbits 0)) rfl dX6_copy_67 ?_
              refine ik_icmp_eq C 80 dX6_copy_70 (by decide) (fun hc => ?_) (fun hc => ?_)
              · have hf := ik_pos hc hf
                refine ik_aload C 1 rfl dX6_copy_80 ?_
                refine ik_iload_n C 4 rfl rfl dX6_copy_82 ?_
                refine ik_iload C 7 rfl dX6_copy_83 ?_
                obtain ⟨r5, hc5, hf⟩ := ik_b1s hf
                have hM := (c_X2_hasRange l D cI cS s30 s31 (sbits 3) (ssize 3) (snum 3) x2 x5 r5 hc5)
                refine ik_goR (ik_runV (st := []) (As := [.int x2, .int x5]) C hM mv_X2_hasRange wl_46_4 ⟨rfl, rfl, Nat.le_of_ble_eq_true rfl, Nat.le_of_ble_eq_true rfl⟩ [9, 10] rfl (by decide +kernel) 9 rfl rfl rfl rfl (Nat.le_of_ble_eq_true rfl) dX6_copy_85 ⟨Nat.zero_le _, Nat.zero_le _⟩) rfl ?_
                refine ik_if_eq C 103 dX6_copy_88 (by decide) (fun hc => ?_) (fun hc => ?_)
                · have hf := ik_pos hc hf
                  refine ik_aload_n C 2 rfl rfl dX6_copy_103 ?_
                  refine ik_ldc C wl_5_3 dX6_copy_104 ?_
                  obtain ⟨r6, g7, hc7, hf⟩ := ik_b2s hf
                  have hM := (c_X6_tell l D cI cS o0 np0 kp0 tp0 r0 t0 sh0 f0 isk fnd (-1000001 : Int32) r6 g7 hc7)
                  refine ik_goW (v := (some (.int r6))) (wc := (wz_X6of cI cS o0 np0 kp0 tp0 r0 t0 sh0 f0 isk fnd)) (w1 := (wz_X6of cI cS o0 np0 kp0 tp0 r0 t0 sh0 f0 isk g7)) [0, 1] [2, 3, 4, 5, 6, 7, 8, 9, 10] 11 rfl rfl (wz_X6ofs cI cS o0 np0 kp0 tp0 r0 t0 sh0 f0 s00 s10 s20 s30 s01 s11 s21 s31 isk g7 sbits ssize snum) rfl [(sh0, .inl (cS, 4, .inr (.inr (.inr (.inr (ik_ref4 s00 s10 s20 s30)))))), (s00, .inr (2, [.int (sbits 0), .int (ssize 0), .ref s01])), (s01, .inl (cI, 40, .inl (snum 0))), (s10, .inr (2, [.int (sbits 1), .int (ssize 1), .ref s11])), (s11, .inl (cI, 40, .inl (snum 1))), (s20, .inr (2, [.int (sbits 2), .int (ssize 2), .ref s21])), (s21, .inl (cI, 40, .inl (snum 2))), (s30, .inr (2, [.int (sbits 3), .int (ssize 3), .ref s31])), (s31, .inl (cI, 40, .inl (snum 3)))] rfl rfl rfl (by decide +kernel) (ik_runV (st := []) (As := [.int (-1000001 : Int32)]) C hM mv_X6_tell wl_5_16 ⟨rfl, rfl, Nat.le_of_ble_eq_true rfl, Nat.le_of_ble_eq_true rfl⟩ [0, 1] rfl (by decide +kernel) 0 rfl rfl rfl rfl (Nat.le_of_ble_eq_true rfl) dX6_copy_106 ⟨Nat.zero_le _, Nat.zero_le _⟩) rfl ?_
                  obtain ⟨rfl, rfl, rfl⟩ := ik_e3 hf
                  exact ik_iretW C hr hlk dX6_copy_109
                · have hf := ik_neg hc hf
                  refine ik_aload C 0 rfl dX6_copy_91 ?_
                  refine ik_iload C 6 rfl dX6_copy_93 ?_
                  refine ik_iload C 7 rfl dX6_copy_95 ?_
                  obtain ⟨r6, hc6, hf⟩ := ik_b1s hf
                  have hM := (c_X2_hasRange l D cI cS s00 s01 (sbits 0) (ssize 0) (snum 0) x4 x5 r6 hc6)
                  refine ik_goR (ik_runV (st := []) (As := [.int x4, .int x5]) C hM mv_X2_hasRange wl_46_4 ⟨rfl, rfl, Nat.le_of_ble_eq_true rfl, Nat.le_of_ble_eq_true rfl⟩ [3, 4] rfl (by decide +kernel) 3 rfl rfl rfl rfl (Nat.le_of_ble_eq_true rfl) dX6_copy_97 ⟨Nat.zero_le _, Nat.zero_le _⟩) rfl ?_
                  refine ik_if_ne C 110 dX6_copy_100 (by decide) (fun hc => ?_) (fun hc => ?_)
                  · have hf := ik_neg hc hf
                    refine ik_aload C 1 rfl dX6_copy_110 ?_
                    refine ik_get C inlX2 9 rfl rfl 2 (by decide) wl_46_2 rfl (v := .ref s31) rfl dX6_copy_112 ?_
                    refine ik_iload_n C 4 rfl rfl dX6_copy_115 ?_
                    refine ik_aload C 0 rfl dX6_copy_116 ?_
                    refine ik_get C inlX2 3 rfl rfl 2 (by decide) wl_46_2 rfl (v := .ref s01) rfl dX6_copy_118 ?_
                    refine ik_iload C 6 rfl dX6_copy_121 ?_
                    refine ik_iload C 7 rfl dX6_copy_123 ?_
                    have hg := ik_gci hf
                    have hf := ik_gck hf
                    refine ik_copy C wl_46_3 wl_23_19 wl_23_20 wl_23_21 10 4 rfl rfl hg (Nat.le_of_ble_eq_true rfl) (Nat.le_of_ble_eq_true rfl) (wz_X6ofs cI cS o0 np0 kp0 tp0 r0 t0 sh0 f0 s00 s10 s20 s30 s01 s11 s21 s31 isk fnd sbits ssize (va_up snum 0 (va_cpy (snum 3) (snum 0) (x2).toNatClampNeg (x4).toNatClampNeg (x5).toNatClampNeg))) rfl dX6_copy_125 ?_
                    refine ik_iload C 7 rfl dX6_copy_128 ?_
                    obtain ⟨rfl, rfl, rfl⟩ := ik_e3 hf
                    exact ik_iretW C hr hlk dX6_copy_130
                  · have hf := ik_pos hc hf
                    refine ik_aload_n C 2 rfl rfl dX6_copy_103 ?_
                    refine ik_ldc C wl_5_3 dX6_copy_104 ?_
                    obtain ⟨r7, g8, hc8, hf⟩ := ik_b2s hf
                    have hM := (c_X6_tell l D cI cS o0 np0 kp0 tp0 r0 t0 sh0 f0 isk fnd (-1000001 : Int32) r7 g8 hc8)
                    refine ik_goW (v := (some (.int r7))) (wc := (wz_X6of cI cS o0 np0 kp0 tp0 r0 t0 sh0 f0 isk fnd)) (w1 := (wz_X6of cI cS o0 np0 kp0 tp0 r0 t0 sh0 f0 isk g8)) [0, 1] [2, 3, 4, 5, 6, 7, 8, 9, 10] 11 rfl rfl (wz_X6ofs cI cS o0 np0 kp0 tp0 r0 t0 sh0 f0 s00 s10 s20 s30 s01 s11 s21 s31 isk g8 sbits ssize snum) rfl [(sh0, .inl (cS, 4, .inr (.inr (.inr (.inr (ik_ref4 s00 s10 s20 s30)))))), (s00, .inr (2, [.int (sbits 0), .int (ssize 0), .ref s01])), (s01, .inl (cI, 40, .inl (snum 0))), (s10, .inr (2, [.int (sbits 1), .int (ssize 1), .ref s11])), (s11, .inl (cI, 40, .inl (snum 1))), (s20, .inr (2, [.int (sbits 2), .int (ssize 2), .ref s21])), (s21, .inl (cI, 40, .inl (snum 2))), (s30, .inr (2, [.int (sbits 3), .int (ssize 3), .ref s31])), (s31, .inl (cI, 40, .inl (snum 3)))] rfl rfl rfl (by decide +kernel) (ik_runV (st := []) (As := [.int (-1000001 : Int32)]) C hM mv_X6_tell wl_5_16 ⟨rfl, rfl, Nat.le_of_ble_eq_true rfl, Nat.le_of_ble_eq_true rfl⟩ [0, 1] rfl (by decide +kernel) 0 rfl rfl rfl rfl (Nat.le_of_ble_eq_true rfl) dX6_copy_106 ⟨Nat.zero_le _, Nat.zero_le _⟩) rfl ?_
                    obtain ⟨rfl, rfl, rfl⟩ := ik_e3 hf
                    exact ik_iretW C hr hlk dX6_copy_109
              · have hf := ik_neg hc hf
                refine ik_aload_n C 2 rfl rfl dX6_copy_73 ?_
                refine ik_ldc C wl_43_14 dX6_copy_74 ?_
                obtain ⟨r5, g6, hc6, hf⟩ := ik_b2s hf
                have hM := (c_X6_tell l D cI cS o0 np0 kp0 tp0 r0 t0 sh0 f0 isk fnd (-1000003 : Int32) r5 g6 hc6)
                refine ik_goW (v := (some (.int r5))) (wc := (wz_X6of cI cS o0 np0 kp0 tp0 r0 t0 sh0 f0 isk fnd)) (w1 := (wz_X6of cI cS o0 np0 kp0 tp0 r0 t0 sh0 f0 isk g6)) [0, 1] [2, 3, 4, 5, 6, 7, 8, 9, 10] 11 rfl rfl (wz_X6ofs cI cS o0 np0 kp0 tp0 r0 t0 sh0 f0 s00 s10 s20 s30 s01 s11 s21 s31 isk g6 sbits ssize snum) rfl [(sh0, .inl (cS, 4, .inr (.inr (.inr (.inr (ik_ref4 s00 s10 s20 s30)))))), (s00, .inr (2, [.int (sbits 0), .int (ssize 0), .ref s01])), (s01, .inl (cI, 40, .inl (snum 0))), (s10, .inr (2, [.int (sbits 1), .int (ssize 1), .ref s11])), (s11, .inl (cI, 40, .inl (snum 1))), (s20, .inr (2, [.int (sbits 2), .int (ssize 2), .ref s21])), (s21, .inl (cI, 40, .inl (snum 2))), (s30, .inr (2, [.int (sbits 3), .int (ssize 3), .ref s31])), (s31, .inl (cI, 40, .inl (snum 3)))] rfl rfl rfl (by decide +kernel) (ik_runV (st := []) (As := [.int (-1000003 : Int32)]) C hM mv_X6_tell wl_5_16 ⟨rfl, rfl, Nat.le_of_ble_eq_true rfl, Nat.le_of_ble_eq_true rfl⟩ [0, 1] rfl (by decide +kernel) 0 rfl rfl rfl rfl (Nat.le_of_ble_eq_true rfl) dX6_copy_76 ⟨Nat.zero_le _, Nat.zero_le _⟩) rfl ?_
                obtain ⟨rfl, rfl, rfl⟩ := ik_e3 hf
                exact ik_iretW C hr hlk dX6_copy_79
            · have hf := ik_neg hc hf
              refine ik_aload_n C 2 rfl rfl dX6_copy_53 ?_
              refine ik_ldc C wl_43_13 dX6_copy_54 ?_
              obtain ⟨r5, g6, hc6, hf⟩ := ik_b2s hf
              have hM := (c_X6_tell l D cI cS o0 np0 kp0 tp0 r0 t0 sh0 f0 isk fnd (-1000006 : Int32) r5 g6 hc6)
              refine ik_goW (v := (some (.int r5))) (wc := (wz_X6of cI cS o0 np0 kp0 tp0 r0 t0 sh0 f0 isk fnd)) (w1 := (wz_X6of cI cS o0 np0 kp0 tp0 r0 t0 sh0 f0 isk g6)) [0, 1] [2, 3, 4, 5, 6, 7, 8, 9, 10] 11 rfl rfl (wz_X6ofs cI cS o0 np0 kp0 tp0 r0 t0 sh0 f0 s00 s10 s20 s30 s01 s11 s21 s31 isk g6 sbits ssize snum) rfl [(sh0, .inl (cS, 4, .inr (.inr (.inr (.inr (ik_ref4 s00 s10 s20 s30)))))), (s00, .inr (2, [.int (sbits 0), .int (ssize 0), .ref s01])), (s01, .inl (cI, 40, .inl (snum 0))), (s10, .inr (2, [.int (sbits 1), .int (ssize 1), .ref s11])), (s11, .inl (cI, 40, .inl (snum 1))), (s20, .inr (2, [.int (sbits 2), .int (ssize 2), .ref s21])), (s21, .inl (cI, 40, .inl (snum 2))), (s30, .inr (2, [.int (sbits 3), .int (ssize 3), .ref s31])), (s31, .inl (cI, 40, .inl (snum 3)))] rfl rfl rfl (by decide +kernel) (ik_runV (st := []) (As := [.int (-1000006 : Int32)]) C hM mv_X6_tell wl_5_16 ⟨rfl, rfl, Nat.le_of_ble_eq_true rfl, Nat.le_of_ble_eq_true rfl⟩ [0, 1] rfl (by decide +kernel) 0 rfl rfl rfl rfl (Nat.le_of_ble_eq_true rfl) dX6_copy_56 ⟨Nat.zero_le _, Nat.zero_le _⟩) rfl ?_
              obtain ⟨rfl, rfl, rfl⟩ := ik_e3 hf
              exact ik_iretW C hr hlk dX6_copy_59
        · have hf := ik_neg hb0 hf; have hf := ik_pos hc hf
          refine ik_astore C [(7, .ref s10), (6, .ref s30), (0, .ref o0), (1, .int x1), (2, .int x2), (3, .int x3), (4, .int x4), (5, .int x5)] (by decide) rfl dX6_copy_35 ?_
          refine ik_aload C 1 rfl dX6_copy_37 ?_
          obtain ⟨r3, hc3, hf⟩ := ik_b1s hf
          have hM := (c_X2_isMissing l D cI cS s30 s31 (sbits 3) (ssize 3) (snum 3) r3 hc3)
          refine ik_goR (ik_runV (st := []) (As := []) C hM mv_X2_isMissing wl_45_9 ⟨rfl, rfl, Nat.le_of_ble_eq_true rfl, Nat.le_of_ble_eq_true rfl⟩ [9, 10] rfl (by decide +kernel) 9 rfl rfl rfl rfl (Nat.le_of_ble_eq_true rfl) dX6_copy_39 ⟨Nat.zero_le _, Nat.zero_le _⟩) rfl ?_
          refine ik_if_ne C 53 dX6_copy_42 (by decide) (fun hc => ?_) (fun hc => ?_)
          · have hf := ik_neg hc hf
            refine ik_aload_n C 2 rfl rfl dX6_copy_53 ?_
            refine ik_ldc C wl_43_13 dX6_copy_54 ?_
            obtain ⟨r4, g5, hc5, hf⟩ := ik_b2s hf
            have hM := (c_X6_tell l D cI cS o0 np0 kp0 tp0 r0 t0 sh0 f0 isk fnd (-1000006 : Int32) r4 g5 hc5)
            refine ik_goW (v := (some (.int r4))) (wc := (wz_X6of cI cS o0 np0 kp0 tp0 r0 t0 sh0 f0 isk fnd)) (w1 := (wz_X6of cI cS o0 np0 kp0 tp0 r0 t0 sh0 f0 isk g5)) [0, 1] [2, 3, 4, 5, 6, 7, 8, 9, 10] 11 rfl rfl (wz_X6ofs cI cS o0 np0 kp0 tp0 r0 t0 sh0 f0 s00 s10 s20 s30 s01 s11 s21 s31 isk g5 sbits ssize snum) rfl [(sh0, .inl (cS, 4, .inr (.inr (.inr (.inr (ik_ref4 s00 s10 s20 s30)))))), (s00, .inr (2, [.int (sbits 0), .int (ssize 0), .ref s01])), (s01, .inl (cI, 40, .inl (snum 0))), (s10, .inr (2, [.int (sbits 1), .int (ssize 1), .ref s11])), (s11, .inl (cI, 40, .inl (snum 1))), (s20, .inr (2, [.int (sbits 2), .int (ssize 2), .ref s21])), (s21, .inl (cI, 40, .inl (snum 2))), (s30, .inr (2, [.int (sbits 3), .int (ssize 3), .ref s31])), (s31, .inl (cI, 40, .inl (snum 3)))] rfl rfl rfl (by decide +kernel) (ik_runV (st := []) (As := [.int (-1000006 : Int32)]) C hM mv_X6_tell wl_5_16 ⟨rfl, rfl, Nat.le_of_ble_eq_true rfl, Nat.le_of_ble_eq_true rfl⟩ [0, 1] rfl (by decide +kernel) 0 rfl rfl rfl rfl (Nat.le_of_ble_eq_true rfl) dX6_copy_56 ⟨Nat.zero_le _, Nat.zero_le _⟩) rfl ?_
            obtain ⟨rfl, rfl, rfl⟩ := ik_e3 hf
            exact ik_iretW C hr hlk dX6_copy_59
          · have hf := ik_pos hc hf
            refine ik_aload C 0 rfl dX6_copy_45 ?_
            obtain ⟨r4, hc4, hf⟩ := ik_b1s hf
            have hM := (c_X2_isMissing l D cI cS s10 s11 (sbits 1) (ssize 1) (snum 1) r4 hc4)
            refine ik_goR (ik_runV (st := []) (As := []) C hM mv_X2_isMissing wl_45_9 ⟨rfl, rfl, Nat.le_of_ble_eq_true rfl, Nat.le_of_ble_eq_true rfl⟩ [5, 6] rfl (by decide +kernel) 5 rfl rfl rfl rfl (Nat.le_of_ble_eq_true rfl) dX6_copy_47 ⟨Nat.zero_le _, Nat.zero_le _⟩) rfl ?_
            refine ik_if_eq C 60 dX6_copy_50 (by decide) (fun hc => ?_) (fun hc => ?_)
            · have hf := ik_pos hc hf
              refine ik_aload C 1 rfl dX6_copy_60 ?_
              refine ik_get C inlX2 9 rfl rfl 0 (by decide) wl_46_1 rfl (v := .int (sbits 3)) rfl dX6_copy_62 ?_
              refine ik_aload C 0 rfl dX6_copy_65 ?_
              refine ik_get C inlX2 5 rfl rfl 0 (by decide) wl_46_1 rfl (v := .int (sbits 1)) rfl dX6_copy_67 ?_
              refine ik_icmp_eq C 80 dX6_copy_70 (by decide) (fun hc => ?_) (fun hc => ?_)
              · have hf := ik_pos hc hf
                refine ik_aload C 1 rfl dX6_copy_80 ?_
                refine ik_iload_n C 4 rfl rfl dX6_copy_82 ?_
                refine ik_iload C 7 rfl dX6_copy_83 ?_
                obtain ⟨r5, hc5, hf⟩ := ik_b1s hf
                have hM := (c_X2_hasRange l D cI cS s30 s31 (sbits 3) (ssize 3) (snum 3) x2 x5 r5 hc5)
                refine ik_goR (ik_runV (st := []) (As := [.int x2, .int x5]) C hM mv_X2_hasRange wl_46_4 ⟨rfl, rfl, Nat.le_of_ble_eq_true rfl, Nat.le_of_ble_eq_true rfl⟩ [9, 10] rfl (by decide +kernel) 9 rfl rfl rfl rfl (Nat.le_of_ble_eq_true rfl) dX6_copy_85 ⟨Nat.zero_le _, Nat.zero_le _⟩) rfl ?_
                refine ik_if_eq C 103 dX6_copy_88 (by decide) (fun hc => ?_) (fun hc => ?_)
                · have hf := ik_pos hc hf
                  refine ik_aload_n C 2 rfl rfl dX6_copy_103 ?_
                  refine ik_ldc C wl_5_3 dX6_copy_104 ?_
                  obtain ⟨r6, g7, hc7, hf⟩ := ik_b2s hf
                  have hM := (c_X6_tell l D cI cS o0 np0 kp0 tp0 r0 t0 sh0 f0 isk fnd (-1000001 : Int32) r6 g7 hc7)
                  refine ik_goW (v := (some (.int r6))) (wc := (wz_X6of cI cS o0 np0 kp0 tp0 r0 t0 sh0 f0 isk fnd)) (w1 := (wz_X6of cI cS o0 np0 kp0 tp0 r0 t0 sh0 f0 isk g7)) [0, 1] [2, 3, 4, 5, 6, 7, 8, 9, 10] 11 rfl rfl (wz_X6ofs cI cS o0 np0 kp0 tp0 r0 t0 sh0 f0 s00 s10 s20 s30 s01 s11 s21 s31 isk g7 sbits ssize snum) rfl [(sh0, .inl (cS, 4, .inr (.inr (.inr (.inr (ik_ref4 s00 s10 s20 s30)))))), (s00, .inr (2, [.int (sbits 0), .int (ssize 0), .ref s01])), (s01, .inl (cI, 40, .inl (snum 0))), (s10, .inr (2, [.int (sbits 1), .int (ssize 1), .ref s11])), (s11, .inl (cI, 40, .inl (snum 1))), (s20, .inr (2, [.int (sbits 2), .int (ssize 2), .ref s21])), (s21, .inl (cI, 40, .inl (snum 2))), (s30, .inr (2, [.int (sbits 3), .int (ssize 3), .ref s31])), (s31, .inl (cI, 40, .inl (snum 3)))] rfl rfl rfl (by decide +kernel) (ik_runV (st := []) (As := [.int (-1000001 : Int32)]) C hM mv_X6_tell wl_5_16 ⟨rfl, rfl, Nat.le_of_ble_eq_true rfl, Nat.le_of_ble_eq_true rfl⟩ [0, 1] rfl (by decide +kernel) 0 rfl rfl rfl rfl (Nat.le_of_ble_eq_true rfl) dX6_copy_106 ⟨Nat.zero_le _, Nat.zero_le _⟩) rfl ?_
                  obtain ⟨rfl, rfl, rfl⟩ := ik_e3 hf
                  exact ik_iretW C hr hlk dX6_copy_109
                · have hf := ik_neg hc hf
                  refine ik_aload C 0 rfl dX6_copy_91 ?_
                  refine ik_iload C 6 rfl dX6_copy_93 ?_
                  refine ik_iload C 7 rfl dX6_copy_95 ?_
                  obtain ⟨r6, hc6, hf⟩ := ik_b1s hf
                  have hM := (c_X2_hasRange l D cI cS s10 s11 (sbits 1) (ssize 1) (snum 1) x4 x5 r6 hc6)
                  refine ik_goR (ik_runV (st := []) (As := [.int x4, .int x5]) C hM mv_X2_hasRange wl_46_4 ⟨rfl, rfl, Nat.le_of_ble_eq_true rfl, Nat.le_of_ble_eq_true rfl⟩ [5, 6] rfl (by decide +kernel) 5 rfl rfl rfl rfl (Nat.le_of_ble_eq_true rfl) dX6_copy_97 ⟨Nat.zero_le _, Nat.zero_le _⟩) rfl ?_
                  refine ik_if_ne C 110 dX6_copy_100 (by decide) (fun hc => ?_) (fun hc => ?_)
                  · have hf := ik_neg hc hf
                    refine ik_aload C 1 rfl dX6_copy_110 ?_
                    refine ik_get C inlX2 9 rfl rfl 2 (by decide) wl_46_2 rfl (v := .ref s31) rfl dX6_copy_112 ?_
                    refine ik_iload_n C 4 rfl rfl dX6_copy_115 ?_
                    refine ik_aload C 0 rfl dX6_copy_116 ?_
                    refine ik_get C inlX2 5 rfl rfl 2 (by decide) wl_46_2 rfl (v := .ref s11) rfl dX6_copy_118 ?_
                    refine ik_iload C 6 rfl dX6_copy_121 ?_
                    refine ik_iload C 7 rfl dX6_copy_123 ?_
                    have hg := ik_gci hf
                    have hf := ik_gck hf
                    refine ik_copy C wl_46_3 wl_23_19 wl_23_20 wl_23_21 10 6 rfl rfl hg (Nat.le_of_ble_eq_true rfl) (Nat.le_of_ble_eq_true rfl) (wz_X6ofs cI cS o0 np0 kp0 tp0 r0 t0 sh0 f0 s00 s10 s20 s30 s01 s11 s21 s31 isk fnd sbits ssize (va_up snum 1 (va_cpy (snum 3) (snum 1) (x2).toNatClampNeg (x4).toNatClampNeg (x5).toNatClampNeg))) rfl dX6_copy_125 ?_
                    refine ik_iload C 7 rfl dX6_copy_128 ?_
                    obtain ⟨rfl, rfl, rfl⟩ := ik_e3 hf
                    exact ik_iretW C hr hlk dX6_copy_130
                  · have hf := ik_pos hc hf
                    refine ik_aload_n C 2 rfl rfl dX6_copy_103 ?_
                    refine ik_ldc C wl_5_3 dX6_copy_104 ?_
                    obtain ⟨r7, g8, hc8, hf⟩ := ik_b2s hf
                    have hM := (c_X6_tell l D cI cS o0 np0 kp0 tp0 r0 t0 sh0 f0 isk fnd (-1000001 : Int32) r7 g8 hc8)
                    refine ik_goW (v := (some (.int r7))) (wc := (wz_X6of cI cS o0 np0 kp0 tp0 r0 t0 sh0 f0 isk fnd)) (w1 := (wz_X6of cI cS o0 np0 kp0 tp0 r0 t0 sh0 f0 isk g8)) [0, 1] [2, 3, 4, 5, 6, 7, 8, 9, 10] 11 rfl rfl (wz_X6ofs cI cS o0 np0 kp0 tp0 r0 t0 sh0 f0 s00 s10 s20 s30 s01 s11 s21 s31 isk g8 sbits ssize snum) rfl [(sh0, .inl (cS, 4, .inr (.inr (.inr (.inr (ik_ref4 s00 s10 s20 s30)))))), (s00, .inr (2, [.int (sbits 0), .int (ssize 0), .ref s01])), (s01, .inl (cI, 40, .inl (snum 0))), (s10, .inr (2, [.int (sbits 1), .int (ssize 1), .ref s11])), (s11, .inl (cI, 40, .inl (snum 1))), (s20, .inr (2, [.int (sbits 2), .int (ssize 2), .ref s21])), (s21, .inl (cI, 40, .inl (snum 2))), (s30, .inr (2, [.int (sbits 3), .int (ssize 3), .ref s31])), (s31, .inl (cI, 40, .inl (snum 3)))] rfl rfl rfl (by decide +kernel) (ik_runV (st := []) (As := [.int (-1000001 : Int32)]) C hM mv_X6_tell wl_5_16 ⟨rfl, rfl, Nat.le_of_ble_eq_true rfl, Nat.le_of_ble_eq_true rfl⟩ [0, 1] rfl (by decide +kernel) 0 rfl rfl rfl rfl (Nat.le_of_ble_eq_true rfl) dX6_copy_106 ⟨Nat.zero_le _, Nat.zero_le _⟩) rfl ?_
                    obtain ⟨rfl, rfl, rfl⟩ := ik_e3 hf
                    exact ik_iretW C hr hlk dX6_copy_109
              · have hf := ik_neg hc hf
                refine ik_aload_n C 2 rfl rfl dX6_copy_73 ?_
                refine ik_ldc C wl_43_14 dX6_copy_74 ?_
                obtain ⟨r5, g6, hc6, hf⟩ := ik_b2s hf
                have hM := (c_X6_tell l D cI cS o0 np0 kp0 tp0 r0 t0 sh0 f0 isk fnd (-1000003 : Int32) r5 g6 hc6)
                refine ik_goW (v := (some (.int r5))) (wc := (wz_X6of cI cS o0 np0 kp0 tp0 r0 t0 sh0 f0 isk fnd)) (w1 := (wz_X6of cI cS o0 np0 kp0 tp0 r0 t0 sh0 f0 isk g6)) [0, 1] [2, 3, 4, 5, 6, 7, 8, 9, 10] 11 rfl rfl (wz_X6ofs cI cS o0 np0 kp0 tp0 r0 t0 sh0 f0 s00 s10 s20 s30 s01 s11 s21 s31 isk g6 sbits ssize snum) rfl [(sh0, .inl (cS, 4, .inr (.inr (.inr (.inr (ik_ref4 s00 s10 s20 s30)))))), (s00, .inr (2, [.int (sbits 0), .int (ssize 0), .ref s01])), (s01, .inl (cI, 40, .inl (snum 0))), (s10, .inr (2, [.int (sbits 1), .int (ssize 1), .ref s11])), (s11, .inl (cI, 40, .inl (snum 1))), (s20, .inr (2, [.int (sbits 2), .int (ssize 2), .ref s21])), (s21, .inl (cI, 40, .inl (snum 2))), (s30, .inr (2, [.int (sbits 3), .int (ssize 3), .ref s31])), (s31, .inl (cI, 40, .inl (snum 3)))] rfl rfl rfl (by decide +kernel) (ik_runV (st := []) (As := [.int (-1000003 : Int32)]) C hM mv_X6_tell wl_5_16 ⟨rfl, rfl, Nat.le_of_ble_eq_true rfl, Nat.le_of_ble_eq_true rfl⟩ [0, 1] rfl (by decide +kernel) 0 rfl rfl rfl rfl (Nat.le_of_ble_eq_true rfl) dX6_copy_76 ⟨Nat.zero_le _, Nat.zero_le _⟩) rfl ?_
                obtain ⟨rfl, rfl, rfl⟩ := ik_e3 hf
                exact ik_iretW C hr hlk dX6_copy_79
            · have hf := ik_neg hc hf
              refine ik_aload_n C 2 rfl rfl dX6_copy_53 ?_
              refine ik_ldc C wl_43_13 dX6_copy_54 ?_
              obtain ⟨r5, g6, hc6, hf⟩ := ik_b2s hf
              have hM := (c_X6_tell l D cI cS o0 np0 kp0 tp0 r0 t0 sh0 f0 isk fnd (-1000006 : Int32) r5 g6 hc6)
              refine ik_goW (v := (some (.int r5))) (wc := (wz_X6of cI cS o0 np0 kp0 tp0 r0 t0 sh0 f0 isk fnd)) (w1 := (wz_X6of cI cS o0 np0 kp0 tp0 r0 t0 sh0 f0 isk g6)) [0, 1] [2, 3, 4, 5, 6, 7, 8, 9, 10] 11 rfl rfl (wz_X6ofs cI cS o0 np0 kp0 tp0 r0 t0 sh0 f0 s00 s10 s20 s30 s01 s11 s21 s31 isk g6 sbits ssize snum) rfl [(sh0, .inl (cS, 4, .inr (.inr (.inr (.inr (ik_ref4 s00 s10 s20 s30)))))), (s00, .inr (2, [.int (sbits 0), .int (ssize 0), .ref s01])), (s01, .inl (cI, 40, .inl (snum 0))), (s10, .inr (2, [.int (sbits 1), .int (ssize 1), .ref s11])), (s11, .inl (cI, 40, .inl (snum 1))), (s20, .inr (2, [.int (sbits 2), .int (ssize 2), .ref s21])), (s21, .inl (cI, 40, .inl (snum 2))), (s30, .inr (2, [.int (sbits 3), .int (ssize 3), .ref s31])), (s31, .inl (cI, 40, .inl (snum 3)))] rfl rfl rfl (by decide +kernel) (ik_runV (st := []) (As := [.int (-1000006 : Int32)]) C hM mv_X6_tell wl_5_16 ⟨rfl, rfl, Nat.le_of_ble_eq_true rfl, Nat.le_of_ble_eq_true rfl⟩ [0, 1] rfl (by decide +kernel) 0 rfl rfl rfl rfl (Nat.le_of_ble_eq_true rfl) dX6_copy_56 ⟨Nat.zero_le _, Nat.zero_le _⟩) rfl ?_
              obtain ⟨rfl, rfl, rfl⟩ := ik_e3 hf
              exact ik_iretW C hr hlk dX6_copy_59
        · have hf := ik_neg hb0 hf; have hf := ik_neg hb1 hf; have hf := ik_pos hc hf
          refine ik_astore C [(7, .ref s20), (6, .ref s30), (0, .ref o0), (1, .int x1), (2, .int x2), (3, .int x3), (4, .int x4), (5, .int x5)] (by decide) rfl dX6_copy_35 ?_
          refine ik_aload C 1 rfl dX6_copy_37 ?_
          obtain ⟨r3, hc3, hf⟩ := ik_b1s hf
          have hM := (c_X2_isMissing l D cI cS s30 s31 (sbits 3) (ssize 3) (snum 3) r3 hc3)
          refine ik_goR (ik_runV (st := []) (As := []) C hM mv_X2_isMissing wl_45_9 ⟨rfl, rfl, Nat.le_of_ble_eq_true rfl, Nat.le_of_ble_eq_true rfl⟩ [9, 10] rfl (by decide +kernel) 9 rfl rfl rfl rfl (Nat.le_of_ble_eq_true rfl) dX6_copy_39 ⟨Nat.zero_le _, Nat.zero_le _⟩) rfl ?_
          refine ik_if_ne C 53 dX6_copy_42 (by decide) (fun hc => ?_) (fun hc => ?_)
          · have hf := ik_neg hc hf
            refine ik_aload_n C 2 rfl rfl dX6_copy_53 ?_
            refine ik_ldc C wl_43_13 dX6_copy_54 ?_
            obtain ⟨r4, g5, hc5, hf⟩ := ik_b2s hf
            have hM := (c_X6_tell l D cI cS o0 np0 kp0 tp0 r0 t0 sh0 f0 isk fnd (-1000006 : Int32) r4 g5 hc5)
            refine ik_goW (v := (some (.int r4))) (wc := (wz_X6of cI cS o0 np0 kp0 tp0 r0 t0 sh0 f0 isk fnd)) (w1 := (wz_X6of cI cS o0 np0 kp0 tp0 r0 t0 sh0 f0 isk g5)) [0, 1] [2, 3, 4, 5, 6, 7, 8, 9, 10] 11 rfl rfl (wz_X6ofs cI cS o0 np0 kp0 tp0 r0 t0 sh0 f0 s00 s10 s20 s30 s01 s11 s21 s31 isk g5 sbits ssize snum) rfl [(sh0, .inl (cS, 4, .inr (.inr (.inr (.inr (ik_ref4 s00 s10 s20 s30)))))), (s00, .inr (2, [.int (sbits 0), .int (ssize 0), .ref s01])), (s01, .inl (cI, 40, .inl (snum 0))), (s10, .inr (2, [.int (sbits 1), .int (ssize 1), .ref s11])), (s11, .inl (cI, 40, .inl (snum 1))), (s20, .inr (2, [.int (sbits 2), .int (ssize 2), .ref s21])), (s21, .inl (cI, 40, .inl (snum 2))), (s30, .inr (2, [.int (sbits 3), .int (ssize 3), .ref s31])), (s31, .inl (cI, 40, .inl (snum 3)))] rfl rfl rfl (by decide +kernel) (ik_runV (st := []) (As := [.int (-1000006 : Int32)]) C hM mv_X6_tell wl_5_16 ⟨rfl, rfl, Nat.le_of_ble_eq_true rfl, Nat.le_of_ble_eq_true rfl⟩ [0, 1] rfl (by decide +kernel) 0 rfl rfl rfl rfl (Nat.le_of_ble_eq_true rfl) dX6_copy_56 ⟨Nat.zero_le _, Nat.zero_le _⟩) rfl ?_
            obtain ⟨rfl, rfl, rfl⟩ := ik_e3 hf
            exact ik_iretW C hr hlk dX6_copy_59
          · have hf := ik_pos hc hf
            refine ik_aload C 0 rfl dX6_copy_45 ?_
            obtain ⟨r4, hc4, hf⟩ := ik_b1s hf
            have hM := (c_X2_isMissing l D cI cS s20 s21 (sbits 2) (ssize 2) (snum 2) r4 hc4)
            refine ik_goR (ik_runV (st := []) (As := []) C hM mv_X2_isMissing wl_45_9 ⟨rfl, rfl, Nat.le_of_ble_eq_true rfl, Nat.le_of_ble_eq_true rfl⟩ [7, 8] rfl (by decide +kernel) 7 rfl rfl rfl rfl (Nat.le_of_ble_eq_true rfl) dX6_copy_47 ⟨Nat.zero_le _, Nat.zero_le _⟩) rfl ?_
            refine ik_if_eq C 60 dX6_copy_50 (by decide) (fun hc => ?_) (fun hc => ?_)
            · have hf := ik_pos hc hf
              refine ik_aload C 1 rfl dX6_copy_60 ?_
              refine ik_get C inlX2 9 rfl rfl 0 (by decide) wl_46_1 rfl (v := .int (sbits 3)) rfl dX6_copy_62 ?_
              refine ik_aload C 0 rfl dX6_copy_65 ?_
              refine ik_get C inlX2 7 rfl rfl 0 (by decide) wl_46_1 rfl (v := .int (sbits 2)) rfl dX6_copy_67 ?_
              refine ik_icmp_eq C 80 dX6_copy_70 (by decide) (fun hc => ?_) (fun hc => ?_)
              · have hf := ik_pos hc hf
                refine ik_aload C 1 rfl dX6_copy_80 ?_
                refine ik_iload_n C 4 rfl rfl dX6_copy_82 ?_
                refine ik_iload C 7 rfl dX6_copy_83 ?_
                obtain ⟨r5, hc5, hf⟩ := ik_b1s hf
                have hM := (c_X2_hasRange l D cI cS s30 s31 (sbits 3) (ssize 3) (snum 3) x2 x5 r5 hc5)
                refine ik_goR (ik_runV (st := []) (As := [.int x2, .int x5]) C hM mv_X2_hasRange wl_46_4 ⟨rfl, rfl, Nat.le_of_ble_eq_true rfl, Nat.le_of_ble_eq_true rfl⟩ [9, 10] rfl (by decide +kernel) 9 rfl rfl rfl rfl (Nat.le_of_ble_eq_true rfl) dX6_copy_85 ⟨Nat.zero_le _, Nat.zero_le _⟩) rfl ?_
                refine ik_if_eq C 103 dX6_copy_88 (by decide) (fun hc => ?_) (fun hc => ?_)
                · have hf := ik_pos hc hf
                  refine ik_aload_n C 2 rfl rfl dX6_copy_103 ?_
                  refine ik_ldc C wl_5_3 dX6_copy_104 ?_
                  obtain ⟨r6, g7, hc7, hf⟩ := ik_b2s hf
                  have hM := (c_X6_tell l D cI cS o0 np0 kp0 tp0 r0 t0 sh0 f0 isk fnd (-1000001 : Int32) r6 g7 hc7)
                  refine ik_goW (v := (some (.int r6))) (wc := (wz_X6of cI cS o0 np0 kp0 tp0 r0 t0 sh0 f0 isk fnd)) (w1 := (wz_X6of cI cS o0 np0 kp0 tp0 r0 t0 sh0 f0 isk g7)) [0, 1] [2, 3, 4, 5, 6, 7, 8, 9, 10] 11 rfl rfl (wz_X6ofs cI cS o0 np0 kp0 tp0 r0 t0 sh0 f0 s00 s10 s20 s30 s01 s11 s21 s31 isk g7 sbits ssize snum) rfl [(sh0, .inl (cS, 4, .inr (.inr (.inr (.inr (ik_ref4 s00 s10 s20 s30)))))), (s00, .inr (2, [.int (sbits 0), .int (ssize 0), .ref s01])), (s01, .inl (cI, 40, .inl (snum 0))), (s10, .inr (2, [.int (sbits 1), .int (ssize 1), .ref s11])), (s11, .inl (cI, 40, .inl (snum 1))), (s20, .inr (2, [.int (sbits 2), .int (ssize 2), .ref s21])), (s21, .inl (cI, 40, .inl (snum 2))), (s30, .inr (2, [.int (sbits 3), .int (ssize 3), .ref s31])), (s31, .inl (cI, 40, .inl (snum 3)))] rfl rfl rfl (by decide +kernel) (ik_runV (st := []) (As := [.int (-1000001 : Int32)]) C hM mv_X6_tell wl_5_16 ⟨rfl, rfl, Nat.le_of_ble_eq_true rfl, Nat.le_of_ble_eq_true rfl⟩ [0, 1] rfl (by decide +kernel) 0 rfl rfl rfl rfl (Nat.le_of_ble_eq_true rfl) dX6_copy_106 ⟨Nat.zero_le _, Nat.zero_le _⟩) rfl ?_
                  obtain ⟨rfl, rfl, rfl⟩ := ik_e3 hf
                  exact ik_iretW C hr hlk dX6_copy_109
                · have hf := ik_neg hc hf
                  refine ik_aload C 0 rfl dX6_copy_91 ?_
                  refine ik_iload C 6 rfl dX6_copy_93 ?_
                  refine ik_iload C 7 rfl dX6_copy_95 ?_
                  obtain ⟨r6, hc6, hf⟩ := ik_b1s hf
                  have hM := (c_X2_hasRange l D cI cS s20 s21 (sbits 2) (ssize 2) (snum 2) x4 x5 r6 hc6)
                  refine ik_goR (ik_runV (st := []) (As := [.int x4, .int x5]) C hM mv_X2_hasRange wl_46_4 ⟨rfl, rfl, Nat.le_of_ble_eq_true rfl, Nat.le_of_ble_eq_true rfl⟩ [7, 8] rfl (by decide +kernel) 7 rfl rfl rfl rfl (Nat.le_of_ble_eq_true rfl) dX6_copy_97 ⟨Nat.zero_le _, Nat.zero_le _⟩) rfl ?_
                  refine ik_if_ne C 110 dX6_copy_100 (by decide) (fun hc => ?_) (fun hc => ?_)
                  · have hf := ik_neg hc hf
                    refine ik_aload C 1 rfl dX6_copy_110 ?_
                    refine ik_get C inlX2 9 rfl rfl 2 (by decide) wl_46_2 rfl (v := .ref s31) rfl dX6_copy_112 ?_
                    refine ik_iload_n C 4 rfl rfl dX6_copy_115 ?_
                    refine ik_aload C 0 rfl dX6_copy_116 ?_
                    refine ik_get C inlX2 7 rfl rfl 2 (by decide) wl_46_2 rfl (v := .ref s21) rfl dX6_copy_118 ?_
                    refine ik_iload C 6 rfl dX6_copy_121 ?_
                    refine ik_iload C 7 rfl dX6_copy_123 ?_
                    have hg := ik_gci hf
                    have hf := ik_gck hf
                    refine ik_copy C wl_46_3 wl_23_19 wl_23_20 wl_23_21 10 8 rfl rfl hg (Nat.le_of_ble_eq_true rfl) (Nat.le_of_ble_eq_true rfl) (wz_X6ofs cI cS o0 np0 kp0 tp0 r0 t0 sh0 f0 s00 s10 s20 s30 s01 s11 s21 s31 isk fnd sbits ssize (va_up snum 2 (va_cpy (snum 3) (snum 2) (x2).toNatClampNeg (x4).toNatClampNeg (x5).toNatClampNeg))) rfl dX6_copy_125 ?_
                    refine ik_iload C 7 rfl dX6_copy_128 ?_
                    obtain ⟨rfl, rfl, rfl⟩ := ik_e3 hf
                    exact ik_iretW C hr hlk dX6_copy_130
                  · have hf := ik_pos hc hf
                    refine ik_aload_n C 2 rfl rfl dX6_copy_103 ?_
                    refine ik_ldc C wl_5_3 dX6_copy_104 ?_
                    obtain ⟨r7, g8, hc8, hf⟩ := ik_b2s hf
                    have hM := (c_X6_tell l D cI cS o0 np0 kp0 tp0 r0 t0 sh0 f0 isk fnd (-1000001 : Int32) r7 g8 hc8)
                    refine ik_goW (v := (some (.int r7))) (wc := (wz_X6of cI cS o0 np0 kp0 tp0 r0 t0 sh0 f0 isk fnd)) (w1 := (wz_X6of cI cS o0 np0 kp0 tp0 r0 t0 sh0 f0 isk g8)) [0, 1] [2, 3, 4, 5, 6, 7, 8, 9, 10] 11 rfl rfl (wz_X6ofs cI cS o0 np0 kp0 tp0 r0 t0 sh0 f0 s00 s10 s20 s30 s01 s11 s21 s31 isk g8 sbits ssize snum) rfl [(sh0, .inl (cS, 4, .inr (.inr (.inr (.inr (ik_ref4 s00 s10 s20 s30)))))), (s00, .inr (2, [.int (sbits 0), .int (ssize 0), .ref s01])), (s01, .inl (cI, 40, .inl (snum 0))), (s10, .inr (2, [.int (sbits 1), .int (ssize 1), .ref s11])), (s11, .inl (cI, 40, .inl (snum 1))), (s20, .inr (2, [.int (sbits 2), .int (ssize 2), .ref s21])), (s21, .inl (cI, 40, .inl (snum 2))), (s30, .inr (2, [.int (sbits 3), .int (ssize 3), .ref s31])), (s31, .inl (cI, 40, .inl (snum 3)))] rfl rfl rfl (by decide +kernel) (ik_runV (st := []) (As := [.int (-1000001 : Int32)]) C hM mv_X6_tell wl_5_16 ⟨rfl, rfl, Nat.le_of_ble_eq_true rfl, Nat.le_of_ble_eq_true rfl⟩ [0, 1] rfl (by decide +kernel) 0 rfl rfl rfl rfl (Nat.le_of_ble_eq_true rfl) dX6_copy_106 ⟨Nat.zero_le _, Nat.zero_le _⟩) rfl ?_
                    obtain ⟨rfl, rfl, rfl⟩ := ik_e3 hf
                    exact ik_iretW C hr hlk dX6_copy_109
              · have hf := ik_neg hc hf
                refine ik_aload_n C 2 rfl rfl dX6_copy_73 ?_
                refine ik_ldc C wl_43_14 dX6_copy_74 ?_
                obtain ⟨r5, g6, hc6, hf⟩ := ik_b2s hf
                have hM := (c_X6_tell l D cI cS o0 np0 kp0 tp0 r0 t0 sh0 f0 isk fnd (-1000003 : Int32) r5 g6 hc6)
                refine ik_goW (v := (some (.int r5))) (wc := (wz_X6of cI cS o0 np0 kp0 tp0 r0 t0 sh0 f0 isk fnd)) (w1 := (wz_X6of cI cS o0 np0 kp0 tp0 r0 t0 sh0 f0 isk g6)) [0, 1] [2, 3, 4, 5, 6, 7, 8, 9, 10] 11 rfl rfl (wz_X6ofs cI cS o0 np0 kp0 tp0 r0 t0 sh0 f0 s00 s10 s20 s30 s01 s11 s21 s31 isk g6 sbits ssize snum) rfl [(sh0, .inl (cS, 4, .inr (.inr (.inr (.inr (ik_ref4 s00 s10 s20 s30)))))), (s00, .inr (2, [.int (sbits 0), .int (ssize 0), .ref s01])), (s01, .inl (cI, 40, .inl (snum 0))), (s10, .inr (2, [.int (sbits 1), .int (ssize 1), .ref s11])), (s11, .inl (cI, 40, .inl (snum 1))), (s20, .inr (2, [.int (sbits 2), .int (ssize 2), .ref s21])), (s21, .inl (cI, 40, .inl (snum 2))), (s30, .inr (2, [.int (sbits 3), .int (ssize 3), .ref s31])), (s31, .inl (cI, 40, .inl (snum 3)))] rfl rfl rfl (by decide +kernel) (ik_runV (st := []) (As := [.int (-1000003 : Int32)]) C hM mv_X6_tell wl_5_16 ⟨rfl, rfl, Nat.le_of_ble_eq_true rfl, Nat.le_of_ble_eq_true rfl⟩ [0, 1] rfl (by decide +kernel) 0 rfl rfl rfl rfl (Nat.le_of_ble_eq_true rfl) dX6_copy_76 ⟨Nat.zero_le _, Nat.zero_le _⟩) rfl ?_
                obtain ⟨rfl, rfl, rfl⟩ := ik_e3 hf
                exact ik_iretW C hr hlk dX6_copy_79
            · have hf := ik_neg hc hf
              refine ik_aload_n C 2 rfl rfl dX6_copy_53 ?_
              refine ik_ldc C wl_43_13 dX6_copy_54 ?_
              obtain ⟨r5, g6, hc6, hf⟩ := ik_b2s hf
              have hM := (c_X6_tell l D cI cS o0 np0 kp0 tp0 r0 t0 sh0 f0 isk fnd (-1000006 : Int32) r5 g6 hc6)
              refine ik_goW (v := (some (.int r5))) (wc := (wz_X6of cI cS o0 np0 kp0 tp0 r0 t0 sh0 f0 isk fnd)) (w1 := (wz_X6of cI cS o0 np0 kp0 tp0 r0 t0 sh0 f0 isk g6)) [0, 1] [2, 3, 4, 5, 6, 7, 8, 9, 10] 11 rfl rfl (wz_X6ofs cI cS o0 np0 kp0 tp0 r0 t0 sh0 f0 s00 s10 s20 s30 s01 s11 s21 s31 isk g6 sbits ssize snum) rfl [(sh0, .inl (cS, 4, .inr (.inr (.inr (.inr (ik_ref4 s00 s10 s20 s30)))))), (s00, .inr (2, [.int (sbits 0), .int (ssize 0), .ref s01])), (s01, .inl (cI, 40, .inl (snum 0))), (s10, .inr (2, [.int (sbits 1), .int (ssize 1), .ref s11])), (s11, .inl (cI, 40, .inl (snum 1))), (s20, .inr (2, [.int (sbits 2), .int (ssize 2), .ref s21])), (s21, .inl (cI, 40, .inl (snum 2))), (s30, .inr (2, [.int (sbits 3), .int (ssize 3), .ref s31])), (s31, .inl (cI, 40, .inl (snum 3)))] rfl rfl rfl (by decide +kernel) (ik_runV (st := []) (As := [.int (-1000006 : Int32)]) C hM mv_X6_tell wl_5_16 ⟨rfl, rfl, Nat.le_of_ble_eq_true rfl, Nat.le_of_ble_eq_true rfl⟩ [0, 1] rfl (by decide +kernel) 0 rfl rfl rfl rfl (Nat.le_of_ble_eq_true rfl) dX6_copy_56 ⟨Nat.zero_le _, Nat.zero_le _⟩) rfl ?_
              obtain ⟨rfl, rfl, rfl⟩ := ik_e3 hf
              exact ik_iretW C hr hlk dX6_copy_59
        · have hf := ik_neg hb0 hf; have hf := ik_neg hb1 hf; have hf := ik_neg hb2 hf
          refine ik_astore C [(7, .ref s30), (6, .ref s30), (0, .ref o0), (1, .int x1), (2, .int x2), (3, .int x3), (4, .int x4), (5, .int x5)] (by decide) rfl dX6_copy_35 ?_
          refine ik_aload C 1 rfl dX6_copy_37 ?_
          obtain ⟨r3, hc3, hf⟩ := ik_b1s hf
          have hM := (c_X2_isMissing l D cI cS s30 s31 (sbits 3) (ssize 3) (snum 3) r3 hc3)
          refine ik_goR (ik_runV (st := []) (As := []) C hM mv_X2_isMissing wl_45_9 ⟨rfl, rfl, Nat.le_of_ble_eq_true rfl, Nat.le_of_ble_eq_true rfl⟩ [9, 10] rfl (by decide +kernel) 9 rfl rfl rfl rfl (Nat.le_of_ble_eq_true rfl) dX6_copy_39 ⟨Nat.zero_le _, Nat.zero_le _⟩) rfl ?_
          refine ik_if_ne C 53 dX6_copy_42 (by decide) (fun hc => ?_) (fun hc => ?_)
          · have hf := ik_neg hc hf
            refine ik_aload_n C 2 rfl rfl dX6_copy_53 ?_
            refine ik_ldc C wl_43_13 dX6_copy_54 ?_
            obtain ⟨r4, g5, hc5, hf⟩ := ik_b2s hf
            have hM := (c_X6_tell l D cI cS o0 np0 kp0 tp0 r0 t0 sh0 f0 isk fnd (-1000006 : Int32) r4 g5 hc5)
            refine ik_goW (v := (some (.int r4))) (wc := (wz_X6of cI cS o0 np0 kp0 tp0 r0 t0 sh0 f0 isk fnd)) (w1 := (wz_X6of cI cS o0 np0 kp0 tp0 r0 t0 sh0 f0 isk g5)) [0, 1] [2, 3, 4, 5, 6, 7, 8, 9, 10] 11 rfl rfl (wz_X6ofs cI cS o0 np0 kp0 tp0 r0 t0 sh0 f0 s00 s10 s20 s30 s01 s11 s21 s31 isk g5 sbits ssize snum) rfl [(sh0, .inl (cS, 4, .inr (.inr (.inr (.inr (ik_ref4 s00 s10 s20 s30)))))), (s00, .inr (2, [.int (sbits 0), .int (ssize 0), .ref s01])), (s01, .inl (cI, 40, .inl (snum 0))), (s10, .inr (2, [.int (sbits 1), .int (ssize 1), .ref s11])), (s11, .inl (cI, 40, .inl (snum 1))), (s20, .inr (2, [.int (sbits 2), .int (ssize 2), .ref s21])), (s21, .inl (cI, 40, .inl (snum 2))), (s30, .inr (2, [.int (sbits 3), .int (ssize 3), .ref s31])), (s31, .inl (cI, 40, .inl (snum 3)))] rfl rfl rfl (by decide +kernel) (ik_runV (st := []) (As := [.int (-1000006 : Int32)]) C hM mv_X6_tell wl_5_16 ⟨rfl, rfl, Nat.le_of_ble_eq_true rfl, Nat.le_of_ble_eq_true rfl⟩ [0, 1] rfl (by decide +kernel) 0 rfl rfl rfl rfl (Nat.le_of_ble_eq_true rfl) dX6_copy_56 ⟨Nat.zero_le _, Nat.zero_le _⟩) rfl ?_
            obtain ⟨rfl, rfl, rfl⟩ := ik_e3 hf
            exact ik_iretW C hr hlk dX6_copy_59
          · have hf := ik_pos hc hf
            refine ik_aload C 0 rfl dX6_copy_45 ?_
            obtain ⟨r4, hc4, hf⟩ := ik_b1s hf
            have hM := (c_X2_isMissing l D cI cS s30 s31 (sbits 3) (ssize 3) (snum 3) r4 hc4)
            refine ik_goR (ik_runV (st := []) (As := []) C hM mv_X2_isMissing wl_45_9 ⟨rfl, rfl, Nat.le_of_ble_eq_true rfl, Nat.le_of_ble_eq_true rfl⟩ [9, 10] rfl (by decide +kernel) 9 rfl rfl rfl rfl (Nat.le_of_ble_eq_true rfl) dX6_copy_47 ⟨Nat.zero_le _, Nat.zero_le _⟩) rfl ?_
            refine ik_if_eq C 60 dX6_copy_50 (by decide) (fun hc => ?_) (fun hc => ?_)
            · have hf := ik_pos hc hf
              refine ik_aload C 1 rfl dX6_copy_60 ?_
              refine ik_get C inlX2 9 rfl rfl 0 (by decide) wl_46_1 rfl (v := .int (sbits 3)) rfl dX6_copy_62 ?_
              refine ik_aload C 0 rfl dX6_copy_65 ?_
              refine ik_get C inlX2 9 rfl rfl 0 (by decide) wl_46_1 rfl (v := .int (sbits 3)) rfl dX6_copy_67 ?_
              refine ik_icmp_eq C 80 dX6_copy_70 (by decide) (fun hc => ?_) (fun hc => ?_)
              · have hf := ik_pos hc hf
                refine ik_aload C 1 rfl dX6_copy_80 ?_
                refine ik_iload_n C 4 rfl rfl dX6_copy_82 ?_
                refine ik_iload C 7 rfl dX6_copy_83 ?_
                obtain ⟨r5, hc5, hf⟩ := ik_b1s hf
                have hM := (c_X2_hasRange l D cI cS s30 s31 (sbits 3) (ssize 3) (snum 3) x2 x5 r5 hc5)
                refine ik_goR (ik_runV (st := []) (As := [.int x2, .int x5]) C hM mv_X2_hasRange wl_46_4 ⟨rfl, rfl, Nat.le_of_ble_eq_true rfl, Nat.le_of_ble_eq_true rfl⟩ [9, 10] rfl (by decide +kernel) 9 rfl rfl rfl rfl (Nat.le_of_ble_eq_true rfl) dX6_copy_85 ⟨Nat.zero_le _, Nat.zero_le _⟩) rfl ?_
                refine ik_if_eq C 103 dX6_copy_88 (by decide) (fun hc => ?_) (fun hc => ?_)
                · have hf := ik_pos hc hf
                  refine ik_aload_n C 2 rfl rfl dX6_copy_103 ?_
                  refine ik_ldc C wl_5_3 dX6_copy_104 ?_
                  obtain ⟨r6, g7, hc7, hf⟩ := ik_b2s hf
                  have hM := (c_X6_tell l D cI cS o0 np0 kp0 tp0 r0 t0 sh0 f0 isk fnd (-1000001 : Int32) r6 g7 hc7)
                  refine ik_goW (v := (some (.int r6))) (wc := (wz_X6of cI cS o0 np0 kp0 tp0 r0 t0 sh0 f0 isk fnd)) (w1 := (wz_X6of cI cS o0 np0 kp0 tp0 r0 t0 sh0 f0 isk g7)) [0, 1] [2, 3, 4, 5, 6, 7, 8, 9, 10] 11 rfl rfl (wz_X6ofs cI cS o0 np0 kp0 tp0 r0 t0 sh0 f0 s00 s10 s20 s30 s01 s11 s21 s31 isk g7 sbits ssize snum) rfl [(sh0, .inl (cS, 4, .inr (.inr (.inr (.inr (ik_ref4 s00 s10 s20 s30)))))), (s00, .inr (2, [.int (sbits 0), .int (ssize 0), .ref s01])), (s01, .inl (cI, 40, .inl (snum 0))), (s10, .inr (2, [.int (sbits 1), .int (ssize 1), .ref s11])), (s11, .inl (cI, 40, .inl (snum 1))), (s20, .inr (2, [.int (sbits 2), .int (ssize 2), .ref s21])), (s21, .inl (cI, 40, .inl (snum 2))), (s30, .inr (2, [.int (sbits 3), .int (ssize 3), .ref s31])), (s31, .inl (cI, 40, .inl (snum 3)))] rfl rfl rfl (by decide +kernel) (ik_runV (st := []) (As := [.int (-1000001 : Int32)]) C hM mv_X6_tell wl_5_16 ⟨rfl, rfl, Nat.le_of_ble_eq_true rfl, Nat.le_of_ble_eq_true rfl⟩ [0, 1] rfl (by decide +kernel) 0 rfl rfl rfl rfl (Nat.le_of_ble_eq_true rfl) dX6_copy_106 ⟨Nat.zero_le _, Nat.zero_le _⟩) rfl ?_
                  obtain ⟨rfl, rfl, rfl⟩ := ik_e3 hf
                  exact ik_iretW C hr hlk dX6_copy_109
                · have hf := ik_neg hc hf
                  refine ik_aload C 0 rfl dX6_copy_91 ?_
                  refine ik_iload C 6 rfl dX6_copy_93 ?_
                  refine ik_iload C 7 rfl dX6_copy_95 ?_
                  obtain ⟨r6, hc6, hf⟩ := ik_b1s hf
                  have hM := (c_X2_hasRange l D cI cS s30 s31 (sbits 3) (ssize 3) (snum 3) x4 x5 r6 hc6)
                  refine ik_goR (ik_runV (st := []) (As := [.int x4, .int x5]) C hM mv_X2_hasRange wl_46_4 ⟨rfl, rfl, Nat.le_of_ble_eq_true rfl, Nat.le_of_ble_eq_true rfl⟩ [9, 10] rfl (by decide +kernel) 9 rfl rfl rfl rfl (Nat.le_of_ble_eq_true rfl) dX6_copy_97 ⟨Nat.zero_le _, Nat.zero_le _⟩) rfl ?_
                  refine ik_if_ne C 110 dX6_copy_100 (by decide) (fun hc => ?_) (fun hc => ?_)
                  · have hf := ik_neg hc hf
                    refine ik_aload C 1 rfl dX6_copy_110 ?_
                    refine ik_get C inlX2 9 rfl rfl 2 (by decide) wl_46_2 rfl (v := .ref s31) rfl dX6_copy_112 ?_
                    refine ik_iload_n C 4 rfl rfl dX6_copy_115 ?_
                    refine ik_aload C 0 rfl dX6_copy_116 ?_
                    refine ik_get C inlX2 9 rfl rfl 2 (by decide) wl_46_2 rfl (v := .ref s31) rfl dX6_copy_118 ?_
                    refine ik_iload C 6 rfl dX6_copy_121 ?_
                    refine ik_iload C 7 rfl dX6_copy_123 ?_
                    have hg := ik_gci hf
                    have hf := ik_gck hf
                    refine ik_copy C wl_46_3 wl_23_19 wl_23_20 wl_23_21 10 10 rfl rfl hg (Nat.le_of_ble_eq_true rfl) (Nat.le_of_ble_eq_true rfl) (wz_X6ofs cI cS o0 np0 kp0 tp0 r0 t0 sh0 f0 s00 s10 s20 s30 s01 s11 s21 s31 isk fnd sbits ssize (va_up snum 3 (va_cpy (snum 3) (snum 3) (x2).toNatClampNeg (x4).toNatClampNeg (x5).toNatClampNeg))) rfl dX6_copy_125 ?_
                    refine ik_iload C 7 rfl dX6_copy_128 ?_
                    obtain ⟨rfl, rfl, rfl⟩ := ik_e3 hf
                    exact ik_iretW C hr hlk dX6_copy_130
                  · have hf := ik_pos hc hf
                    refine ik_aload_n C 2 rfl rfl dX6_copy_103 ?_
                    refine ik_ldc C wl_5_3 dX6_copy_104 ?_
                    obtain ⟨r7, g8, hc8, hf⟩ := ik_b2s hf
                    have hM := (c_X6_tell l D cI cS o0 np0 kp0 tp0 r0 t0 sh0 f0 isk fnd (-1000001 : Int32) r7 g8 hc8)
                    refine ik_goW (v := (some (.int r7))) (wc := (wz_X6of cI cS o0 np0 kp0 tp0 r0 t0 sh0 f0 isk fnd)) (w1 := (wz_X6of cI cS o0 np0 kp0 tp0 r0 t0 sh0 f0 isk g8)) [0, 1] [2, 3, 4, 5, 6, 7, 8, 9, 10] 11 rfl rfl (wz_X6ofs cI cS o0 np0 kp0 tp0 r0 t0 sh0 f0 s00 s10 s20 s30 s01 s11 s21 s31 isk g8 sbits ssize snum) rfl [(sh0, .inl (cS, 4, .inr (.inr (.inr (.inr (ik_ref4 s00 s10 s20 s30)))))), (s00, .inr (2, [.int (sbits 0), .int (ssize 0), .ref s01])), (s01, .inl (cI, 40, .inl (snum 0))), (s10, .inr (2, [.int (sbits 1), .int (ssize 1), .ref s11])), (s11, .inl (cI, 40, .inl (snum 1))), (s20, .inr (2, [.int (sbits 2), .int (ssize 2), .ref s21])), (s21, .inl (cI, 40, .inl (snum 2))), (s30, .inr (2, [.int (sbits 3), .int (ssize 3), .ref s31])), (s31, .inl (cI, 40, .inl (snum 3)))] rfl rfl rfl (by decide +kernel) (ik_runV (st := []) (As := [.int (-1000001 : Int32)]) C hM mv_X6_tell wl_5_16 ⟨rfl, rfl, Nat.le_of_ble_eq_true rfl, Nat.le_of_ble_eq_true rfl⟩ [0, 1] rfl (by decide +kernel) 0 rfl rfl rfl rfl (Nat.le_of_ble_eq_true rfl) dX6_copy_106 ⟨Nat.zero_le _, Nat.zero_le _⟩) rfl ?_
                    obtain ⟨rfl, rfl, rfl⟩ := ik_e3 hf
                    exact ik_iretW C hr hlk dX6_copy_109
              · have hf := ik_neg hc hf
                refine ik_aload_n C 2 rfl rfl dX6_copy_73 ?_
                refine ik_ldc C wl_43_14 dX6_copy_74 ?_
                obtain ⟨r5, g6, hc6, hf⟩ := ik_b2s hf
                have hM := (c_X6_tell l D cI cS o0 np0 kp0 tp0 r0 t0 sh0 f0 isk fnd (-1000003 : Int32) r5 g6 hc6)
                refine ik_goW (v := (some (.int r5))) (wc := (wz_X6of cI cS o0 np0 kp0 tp0 r0 t0 sh0 f0 isk fnd)) (w1 := (wz_X6of cI cS o0 np0 kp0 tp0 r0 t0 sh0 f0 isk g6)) [0, 1] [2, 3, 4, 5, 6, 7, 8, 9, 10] 11 rfl rfl (wz_X6ofs cI cS o0 np0 kp0 tp0 r0 t0 sh0 f0 s00 s10 s20 s30 s01 s11 s21 s31 isk g6 sbits ssize snum) rfl [(sh0, .inl (cS, 4, .inr (.inr (.inr (.inr (ik_ref4 s00 s10 s20 s30)))))), (s00, .inr (2, [.int (sbits 0), .int (ssize 0), .ref s01])), (s01, .inl (cI, 40, .inl (snum 0))), (s10, .inr (2, [.int (sbits 1), .int (ssize 1), .ref s11])), (s11, .inl (cI, 40, .inl (snum 1))), (s20, .inr (2, [.int (sbits 2), .int (ssize 2), .ref s21])), (s21, .inl (cI, 40, .inl (snum 2))), (s30, .inr (2, [.int (sbits 3), .int (ssize 3), .ref s31])), (s31, .inl (cI, 40, .inl (snum 3)))] rfl rfl rfl (by decide +kernel) (ik_runV (st := []) (As := [.int (-1000003 : Int32)]) C hM mv_X6_tell wl_5_16 ⟨rfl, rfl, Nat.le_of_ble_eq_true rfl, Nat.le_of_ble_eq_true rfl⟩ [0, 1] rfl (by decide +kernel) 0 rfl rfl rfl rfl (Nat.le_of_ble_eq_true rfl) dX6_copy_76 ⟨Nat.zero_le _, Nat.zero_le _⟩) rfl ?_
                obtain ⟨rfl, rfl, rfl⟩ := ik_e3 hf
                exact ik_iretW C hr hlk dX6_copy_79
            · have hf := ik_neg hc hf
              refine ik_aload_n C 2 rfl rfl dX6_copy_53 ?_
              refine ik_ldc C wl_43_13 dX6_copy_54 ?_
              obtain ⟨r5, g6, hc6, hf⟩ := ik_b2s hf
              have hM := (c_X6_tell l D cI cS o0 np0 kp0 tp0 r0 t0 sh0 f0 isk fnd (-1000006 : Int32) r5 g6 hc6)
              refine ik_goW (v := (some (.int r5))) (wc := (wz_X6of cI cS o0 np0 kp0 tp0 r0 t0 sh0 f0 isk fnd)) (w1 := (wz_X6of cI cS o0 np0 kp0 tp0 r0 t0 sh0 f0 isk g6)) [0, 1] [2, 3, 4, 5, 6, 7, 8, 9, 10] 11 rfl rfl (wz_X6ofs cI cS o0 np0 kp0 tp0 r0 t0 sh0 f0 s00 s10 s20 s30 s01 s11 s21 s31 isk g6 sbits ssize snum) rfl [(sh0, .inl (cS, 4, .inr (.inr (.inr (.inr (ik_ref4 s00 s10 s20 s30)))))), (s00, .inr (2, [.int (sbits 0), .int (ssize 0), .ref s01])), (s01, .inl (cI, 40, .inl (snum 0))), (s10, .inr (2, [.int (sbits 1), .int (ssize 1), .ref s11])), (s11, .inl (cI, 40, .inl (snum 1))), (s20, .inr (2, [.int (sbits 2), .int (ssize 2), .ref s21])), (s21, .inl (cI, 40, .inl (snum 2))), (s30, .inr (2, [.int (sbits 3), .int (ssize 3), .ref s31])), (s31, .inl (cI, 40, .inl (snum 3)))] rfl rfl rfl (by decide +kernel) (ik_runV (st := []) (As := [.int (-1000006 : Int32)]) C hM mv_X6_tell wl_5_16 ⟨rfl, rfl, Nat.le_of_ble_eq_true rfl, Nat.le_of_ble_eq_true rfl⟩ [0, 1] rfl (by decide +kernel) 0 rfl rfl rfl rfl (Nat.le_of_ble_eq_true rfl) dX6_copy_56 ⟨Nat.zero_le _, Nat.zero_le _⟩) rfl ?_
              obtain ⟨rfl, rfl, rfl⟩ := ik_e3 hf
              exact ik_iretW C hr hlk dX6_copy_59
    · have hf := ik_pos hc hf
      refine ik_aload_n C 0 rfl rfl dX6_copy_14 ?_
      refine ik_ldc C wl_5_3 dX6_copy_15 ?_
      obtain ⟨r3, g4, hc4, hf⟩ := ik_b2s hf
      have hM := (c_X6_tell l D cI cS o0 np0 kp0 tp0 r0 t0 sh0 f0 isk fnd (-1000001 : Int32) r3 g4 hc4)
      refine ik_goW (v := (some (.int r3))) (wc := (wz_X6of cI cS o0 np0 kp0 tp0 r0 t0 sh0 f0 isk fnd)) (w1 := (wz_X6of cI cS o0 np0 kp0 tp0 r0 t0 sh0 f0 isk g4)) [0, 1] [2, 3, 4, 5, 6, 7, 8, 9, 10] 11 rfl rfl (wz_X6ofs cI cS o0 np0 kp0 tp0 r0 t0 sh0 f0 s00 s10 s20 s30 s01 s11 s21 s31 isk g4 sbits ssize snum) rfl [(sh0, .inl (cS, 4, .inr (.inr (.inr (.inr (ik_ref4 s00 s10 s20 s30)))))), (s00, .inr (2, [.int (sbits 0), .int (ssize 0), .ref s01])), (s01, .inl (cI, 40, .inl (snum 0))), (s10, .inr (2, [.int (sbits 1), .int (ssize 1), .ref s11])), (s11, .inl (cI, 40, .inl (snum 1))), (s20, .inr (2, [.int (sbits 2), .int (ssize 2), .ref s21])), (s21, .inl (cI, 40, .inl (snum 2))), (s30, .inr (2, [.int (sbits 3), .int (ssize 3), .ref s31])), (s31, .inl (cI, 40, .inl (snum 3)))] rfl rfl rfl (by decide +kernel) (ik_runV (st := []) (As := [.int (-1000001 : Int32)]) C hM mv_X6_tell wl_5_16 ⟨rfl, rfl, Nat.le_of_ble_eq_true rfl, Nat.le_of_ble_eq_true rfl⟩ [0, 1] rfl (by decide +kernel) 0 rfl rfl rfl rfl (Nat.le_of_ble_eq_true rfl) dX6_copy_17 ⟨Nat.zero_le _, Nat.zero_le _⟩) rfl ?_
      obtain ⟨rfl, rfl, rfl⟩ := ik_e3 hf
      exact ik_iretW C hr hlk dX6_copy_20
