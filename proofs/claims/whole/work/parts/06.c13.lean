theorem mv_X6_load : ik_V yX6_load RX6 cX6_load 5 (some .int) 1 := ⟨wl_46_13, wl_46_14, wl_1_2, wl_46_15, by decide +kernel⟩
set_option maxHeartbeats 4000000 in
set_option maxRecDepth 100000 in
theorem c_X6_load (l : Launch) (D : va_G) (cI cS : ClassId) (o0 np0 kp0 tp0 r0 t0 sh0 f0 nw0 nc0 np1 np2 np3 nw1 nw2 nw3 nw4 nc1 nc2 s00 s10 s20 s30 s01 s11 s21 s31 : Nat) (isk : Int32) (fnd : Nat → Int32) (nhour : Int32) (nair : Int32) (nrub : Int32) (nz : Int32) (nnb : Int32) (nkd : Nat → Int32) (ncl : Nat → Int32) (ngr : Nat → Int32) (noc : Nat → Int32) (nlit : Int32) (ncold : Int32) (nccell : Nat → Int32) (ncpow : Nat → Int32) (nsp : Nat → Int32) (nwm : Nat → Int32) (ndr : Nat → Int32) (sbits : Nat → Int32) (ssize : Nat → Int32) (snum : Nat → Nat → Int32) (x1 : Int32) (R : Int32) (fnd_r : Nat → Int32) (ngr_r : Nat → Int32) (hf : f_X6_load fnd nnb ncl ngr sbits ssize snum x1 = some (R, fnd_r, ngr_r)) : Met l yX6_load (ik_ws yX6_load cX6_load 5 (some .int)) ({ frames := 2, cells := 0, slots := 0, locals := 44 } : Room) (ik_P D cI cS [.ref o0, .int x1] (wz_X6ofns cI cS o0 np0 kp0 tp0 r0 t0 sh0 f0 nw0 nc0 np1 np2 np3 nw1 nw2 nw3 nw4 nc1 nc2 s00 s10 s20 s30 s01 s11 s21 s31 isk fnd nhour nair nrub nz nnb nkd ncl ngr noc nlit ncold nccell ncpow nsp nwm ndr sbits ssize snum)) (ik_Q (some (.int R)) D (wz_X6ofns cI cS o0 np0 kp0 tp0 r0 t0 sh0 f0 nw0 nc0 np1 np2 np3 nw1 nw2 nw3 nw4 nc1 nc2 s00 s10 s20 s30 s01 s11 s21 s31 isk fnd_r nhour nair nrub nz nnb nkd ncl ngr_r noc nlit ncold nccell ncpow nsp nwm ndr sbits ssize snum) (wz_X6ofns cI cS o0 np0 kp0 tp0 r0 t0 sh0 f0 nw0 nc0 np1 np2 np3 nw1 nw2 nw3 nw4 nc1 nc2 s00 s10 s20 s30 s01 s11 s21 s31 isk fnd nhour nair nrub nz nnb nkd ncl ngr noc nlit ncold nccell ncpow nsp nwm ndr sbits ssize snum)) 0 0 (ik_in (wz_X6ofns cI cS o0 np0 kp0 tp0 r0 t0 sh0 f0 nw0 nc0 np1 np2 np3 nw1 nw2 nw3 nw4 nc1 nc2 s00 s10 s20 s30 s01 s11 s21 s31 isk fnd nhour nair nrub nz nnb nkd ncl ngr noc nlit ncold nccell ncpow nsp nwm ndr sbits ssize snum)) := by
  refine ik_metW RX6 rfl (by decide) (Nat.le_of_ble_eq_true rfl) [(0, .ref o0), (1, .int x1)] rfl ?_
  intro p e s m below meth c C hr hlk
  unfold f_X6_load at hf
  refine ik_iload_n C 1 rfl rfl dX6_load_0 ?_
  obtain ⟨r1, hc1, hf⟩ := ik_b1s hf
  have hM := (c_X6_isSheet l D cI cS x1 r1 hc1)
  refine ik_goR (ik_runS (st := []) (As := [.int x1]) C hM ms_X6_isSheet wl_44_9 ⟨rfl, rfl, Nat.le_of_ble_eq_true rfl, Nat.le_of_ble_eq_true rfl⟩ [] rfl (by decide +kernel) rfl rfl (Nat.le_of_ble_eq_true rfl) dX6_load_1 ⟨Nat.zero_le _, Nat.zero_le _⟩) rfl ?_
  refine ik_if_ne C 14 dX6_load_4 (by decide) (fun hc => ?_) (fun hc => ?_)
  · have hf := ik_neg hc hf
    refine ik_aload_n C 0 rfl rfl dX6_load_14 ?_
    refine ik_get C inlX6 0 rfl rfl 6 (by decide) wl_2_1 rfl (v := .ref sh0) rfl dX6_load_15 ?_
    refine ik_iload_n C 1 rfl rfl dX6_load_18 ?_
    have hg := ik_gdi hf
    have hf := ik_gdk hf
    refine ik_aald4 C 14 rfl hg (a0 := s00) (a1 := s10) (a2 := s20) (a3 := s30) rfl rfl rfl rfl dX6_load_19 (fun hc => ?_) (fun hb0 hc => ?_) (fun hb0 hb1 hc => ?_) (fun hb0 hb1 hb2 hc => ?_)
    · have hf := ik_pos hc hf
      refine ik_astore_n C [(2, .ref s00), (0, .ref o0), (1, .int x1)] rfl (by decide) rfl dX6_load_20 ?_
      refine ik_aload_n C 0 rfl rfl dX6_load_21 ?_
      obtain ⟨r2, hc2, hf⟩ := ik_b1s hf
      have hM := (c_X2_isMissing l D cI cS s00 s01 (sbits 0) (ssize 0) (snum 0) r2 hc2)
      refine ik_goR (ik_runV (st := []) (As := []) C hM mv_X2_isMissing wl_45_9 ⟨rfl, rfl, Nat.le_of_ble_eq_true rfl, Nat.le_of_ble_eq_true rfl⟩ [15, 16] rfl (by decide +kernel) 15 rfl rfl rfl rfl (Nat.le_of_ble_eq_true rfl) dX6_load_22 ⟨Nat.zero_le _, Nat.zero_le _⟩) rfl ?_
      refine ik_if_eq C 35 dX6_load_25 (by decide) (fun hc => ?_) (fun hc => ?_)
      · have hf := ik_pos hc hf
        refine ik_aload_n C 0 rfl rfl dX6_load_35 ?_
        refine ik_get C inlX2 15 rfl rfl 1 (by decide) wl_45_8 rfl (v := .int (ssize 0)) rfl dX6_load_36 ?_
        refine ik_aload_n C 1 rfl rfl dX6_load_39 ?_
        refine ik_get C inlX6 0 rfl rfl 0 (by decide) wl_1_15 rfl (v := .ref np0) rfl dX6_load_40 ?_
        refine ik_get C inlX1 2 rfl rfl 0 (by decide) wl_5_4 rfl (v := .ref nw0) rfl dX6_load_43 ?_
        refine ik_get C inlX5 3 rfl rfl 0 (by decide) wl_28_15 rfl (v := .int nnb) rfl dX6_load_46 ?_
        refine ik_mmin C wl_46_16 wl_14_6 wl_13_23 wl_14_7 (Nat.le_of_ble_eq_true rfl) (Nat.le_of_ble_eq_true rfl) dX6_load_49 ?_
        refine ik_istore_n C [(3, .int (ik_min (ssize 0) nnb)), (2, .ref s00), (0, .ref o0), (1, .int x1)] rfl (by decide) rfl dX6_load_52 ?_
        refine ik_iconst (v := (0 : Int32)) C (by decide) dX6_load_53 ?_
        refine ik_istore C [(4, .int (0 : Int32)), (3, .int (ik_min (ssize 0) nnb)), (2, .ref s00), (0, .ref o0), (1, .int x1)] (by decide) rfl dX6_load_54 ?_
        have hL_56 : ∀ (n_56 : Nat) (ngr_56 : Nat → Int32) (x4_56 : Int32), ik_lp2 (b_X6_load_56 fnd nnb ncl ssize snum) n_56 ngr_56 x4_56 = some (R, fnd_r, ngr_r) → ik_G p l e ({ frames := 2, cells := 0, slots := 0, locals := 44 } : Room) s m ([.ref o0, .int x1] : List Value).toArray below meth c D (ik_in (wz_X6ofns cI cS o0 np0 kp0 tp0 r0 t0 sh0 f0 nw0 nc0 np1 np2 np3 nw1 nw2 nw3 nw4 nc1 nc2 s00 s10 s20 s30 s01 s11 s21 s31 isk fnd nhour nair nrub nz nnb nkd ncl ngr noc nlit ncold nccell ncpow nsp nwm ndr sbits ssize snum)) (ik_in (wz_X6ofns cI cS o0 np0 kp0 tp0 r0 t0 sh0 f0 nw0 nc0 np1 np2 np3 nw1 nw2 nw3 nw4 nc1 nc2 s00 s10 s20 s30 s01 s11 s21 s31 isk fnd nhour nair nrub nz nnb nkd ncl ngr noc nlit ncold nccell ncpow nsp nwm ndr sbits ssize snum)) 5 0 0 (MQ below (ik_Q (some (.int R)) D (wz_X6ofns cI cS o0 np0 kp0 tp0 r0 t0 sh0 f0 nw0 nc0 np1 np2 np3 nw1 nw2 nw3 nw4 nc1 nc2 s00 s10 s20 s30 s01 s11 s21 s31 isk fnd_r nhour nair nrub nz nnb nkd ncl ngr_r noc nlit ncold nccell ncpow nsp nwm ndr sbits ssize snum) (wz_X6ofns cI cS o0 np0 kp0 tp0 r0 t0 sh0 f0 nw0 nc0 np1 np2 np3 nw1 nw2 nw3 nw4 nc1 nc2 s00 s10 s20 s30 s01 s11 s21 s31 isk fnd nhour nair nrub nz nnb nkd ncl ngr noc nlit ncold nccell ncpow nsp nwm ndr sbits ssize snum)) ([.ref o0, .int x1] : List Value).toArray s 0 0 (ik_in (wz_X6ofns cI cS o0 np0 kp0 tp0 r0 t0 sh0 f0 nw0 nc0 np1 np2 np3 nw1 nw2 nw3 nw4 nc1 nc2 s00 s10 s20 s30 s01 s11 s21 s31 isk fnd nhour nair nrub nz nnb nkd ncl ngr noc nlit ncold nccell ncpow nsp nwm ndr sbits ssize snum))) 56 [(4, .int x4_56), (3, .int (ik_min (ssize 0) nnb)), (2, .ref s00), (0, .ref o0), (1, .int x1)] [] (wz_X6ofns cI cS o0 np0 kp0 tp0 r0 t0 sh0 f0 nw0 nc0 np1 np2 np3 nw1 nw2 nw3 nw4 nc1 nc2 s00 s10 s20 s30 s01 s11 s21 s31 isk fnd nhour nair nrub nz nnb nkd ncl ngr_56 noc nlit ncold nccell ncpow nsp nwm ndr sbits ssize snum) := by
          intro n_56
          induction n_56 with
          | zero => intro _ _ hf; exact nomatch hf
          | succ n_56 ih_56 =>
            intro ngr_56 x4_56 hf
            replace hf : b_X6_load_56 fnd nnb ncl ssize snum (ik_lp2 (b_X6_load_56 fnd nnb ncl ssize snum) n_56) ngr_56 x4_56 = some (R, fnd_r, ngr_r) := hf
            unfold b_X6_load_56 at hf
            refine ik_iload C 0 rfl dX6_load_56 ?_
            refine ik_iload_n C 1 rfl rfl dX6_load_58 ?_
            refine ik_icmp_ge C 119 dX6_load_59 (by decide) (fun hc => ?_) (fun hc => ?_)
            · have hf := ik_pos hc hf
              refine ik_iload C 0 rfl dX6_load_119 ?_
              obtain ⟨rfl, rfl, rfl⟩ := ik_e3 hf
              exact ik_iretW C hr hlk dX6_load_121
            · have hf := ik_neg hc hf
              refine ik_aload_n C 2 rfl rfl dX6_load_62 ?_
              refine ik_get C inlX2 15 rfl rfl 2 (by decide) wl_46_2 rfl (v := .ref s01) rfl dX6_load_63 ?_
              refine ik_iload C 0 rfl dX6_load_66 ?_
              have hg := ik_gdi hf
              have hf := ik_gdk hf
              refine ik_iald C 16 rfl hg dX6_load_68 ?_
              refine ik_iconst (v := (1 : Int32)) C (by decide) dX6_load_69 ?_
              refine ik_bipush (v := (99 : Int32)) C (by decide) dX6_load_70 ?_
              obtain ⟨r3, hc3, hf⟩ := ik_b1s hf
              have hM := (c_X6_isWithin l D cI cS ((snum 0) (x4_56).toNatClampNeg) (1 : Int32) (99 : Int32) r3 hc3)
              refine ik_goR (ik_runS (st := []) (As := [.int ((snum 0) (x4_56).toNatClampNeg), .int (1 : Int32), .int (99 : Int32)]) C hM ms_X6_isWithin wl_5_10 ⟨rfl, rfl, Nat.le_of_ble_eq_true rfl, Nat.le_of_ble_eq_true rfl⟩ [] rfl (by decide +kernel) rfl rfl (Nat.le_of_ble_eq_true rfl) dX6_load_72 ⟨Nat.zero_le _, Nat.zero_le _⟩) rfl ?_
              refine ik_if_eq C 119 dX6_load_75 (by decide) (fun hc => ?_) (fun hc => ?_)
              · have hf := ik_pos hc hf
                refine ik_iload C 0 rfl dX6_load_119 ?_
                obtain ⟨rfl, rfl, rfl⟩ := ik_e3 hf
                exact ik_iretW C hr hlk dX6_load_121
              · have hf := ik_neg hc hf
                refine ik_aload_n C 3 rfl rfl dX6_load_78 ?_
                refine ik_get C inlX6 0 rfl rfl 0 (by decide) wl_1_15 rfl (v := .ref np0) rfl dX6_load_79 ?_
                refine ik_get C inlX1 2 rfl rfl 0 (by decide) wl_5_4 rfl (v := .ref nw0) rfl dX6_load_82 ?_
                refine ik_iload C 0 rfl dX6_load_85 ?_
                obtain ⟨r4, hc4, hf⟩ := ik_b1s hf
                have hM := (c_X5_isGone l D cI cS nw0 nw1 nw2 nw3 nw4 nnb nkd ncl ngr_56 noc x4_56 r4 hc4)
                refine ik_goR (ik_runV (st := []) (As := [.int x4_56]) C hM mv_X5_isGone wl_8_11 ⟨rfl, rfl, Nat.le_of_ble_eq_true rfl, Nat.le_of_ble_eq_true rfl⟩ [3, 4, 5, 6, 7] rfl (by decide +kernel) 3 rfl rfl rfl rfl (Nat.le_of_ble_eq_true rfl) dX6_load_87 ⟨Nat.zero_le _, Nat.zero_le _⟩) rfl ?_
                refine ik_if_ne C 113 dX6_load_90 (by decide) (fun hc => ?_) (fun hc => ?_)
                · have hf := ik_neg hc hf
                  refine ik_iinc C [(4, .int (x4_56 + (1 : Int32))), (3, .int (ik_min (ssize 0) nnb)), (2, .ref s00), (0, .ref o0), (1, .int x1)] 0 rfl rfl (by decide) rfl dX6_load_113 ?_
                  refine ik_goto C 56 dX6_load_116 (by decide) ?_
                  exact ik_sub [0, 1, 2, 3, 4] [(4, .int (x4_56 + (1 : Int32))), (3, .int (ik_min (ssize 0) nnb)), (2, .ref s00), (0, .ref o0), (1, .int x1)] rfl (ih_56 ngr_56 (x4_56 + (1 : Int32)) hf)
                · have hf := ik_pos hc hf
                  refine ik_aload_n C 3 rfl rfl dX6_load_93 ?_
                  refine ik_get C inlX6 0 rfl rfl 0 (by decide) wl_1_15 rfl (v := .ref np0) rfl dX6_load_94 ?_
                  refine ik_get C inlX1 2 rfl rfl 0 (by decide) wl_5_4 rfl (v := .ref nw0) rfl dX6_load_97 ?_
                  refine ik_get C inlX5 3 rfl rfl 3 (by decide) wl_8_6 rfl (v := .ref nw3) rfl dX6_load_100 ?_
                  refine ik_iload C 0 rfl dX6_load_103 ?_
                  refine ik_aload_n C 2 rfl rfl dX6_load_105 ?_
                  refine ik_get C inlX2 15 rfl rfl 2 (by decide) wl_46_2 rfl (v := .ref s01) rfl dX6_load_106 ?_
                  refine ik_iload C 0 rfl dX6_load_109 ?_
                  have hg := ik_gdi hf
                  have hf := ik_gdk hf
                  refine ik_iald C 16 rfl hg dX6_load_111 ?_
                  have hg := ik_gdi hf
                  have hf := ik_gdk hf
                  refine ik_iast C 6 rfl hg (wz_X6ofns cI cS o0 np0 kp0 tp0 r0 t0 sh0 f0 nw0 nc0 np1 np2 np3 nw1 nw2 nw3 nw4 nc1 nc2 s00 s10 s20 s30 s01 s11 s21 s31 isk fnd nhour nair nrub nz nnb nkd ncl (upd ngr_56 (x4_56).toNatClampNeg ((snum 0) (x4_56).toNatClampNeg)) noc nlit ncold nccell ncpow nsp nwm ndr sbits ssize snum) rfl dX6_load_112 ?_
                  refine ik_iinc C [(4, .int (x4_56 + (1 : Int32))), (3, .int (ik_min (ssize 0) nnb)), (2, .ref s00), (0, .ref o0), (1, .int x1)] 0 rfl rfl (by decide) rfl dX6_load_113 ?_
                  refine ik_goto C 56 dX6_load_116 (by decide) ?_
                  exact ik_sub [0, 1, 2, 3, 4] [(4, .int (x4_56 + (1 : Int32))), (3, .int (ik_min (ssize 0) nnb)), (2, .ref s00), (0, .ref o0), (1, .int x1)] rfl (ih_56 (upd ngr_56 (x4_56).toNatClampNeg ((snum 0) (x4_56).toNatClampNeg)) (x4_56 + (1 : Int32)) hf)
        exact hL_56 ik_fu ngr (0 : Int32) hf
      · have hf := ik_neg hc hf
        refine ik_aload_n C 1 rfl rfl dX6_load_28 ?_
        refine ik_ldc C wl_43_13 dX6_load_29 ?_
        obtain ⟨r3, g4, hc4, hf⟩ := ik_b2s hf
        have hM := (c_X6_tell l D cI cS o0 np0 kp0 tp0 r0 t0 sh0 f0 isk fnd (-1000006 : Int32) r3 g4 hc4)
        refine ik_goW (v := (some (.int r3))) (wc := (wz_X6of cI cS o0 np0 kp0 tp0 r0 t0 sh0 f0 isk fnd)) (w1 := (wz_X6of cI cS o0 np0 kp0 tp0 r0 t0 sh0 f0 isk g4)) [0, 1] [2, 3, 4, 5, 6, 7, 8, 9, 10, 11, 12, 13, 14, 15, 16, 17, 18, 19, 20, 21, 22] 23 rfl rfl (wz_X6ofns cI cS o0 np0 kp0 tp0 r0 t0 sh0 f0 nw0 nc0 np1 np2 np3 nw1 nw2 nw3 nw4 nc1 nc2 s00 s10 s20 s30 s01 s11 s21 s31 isk g4 nhour nair nrub nz nnb nkd ncl ngr noc nlit ncold nccell ncpow nsp nwm ndr sbits ssize snum) rfl [(np0, .inr (1, [.ref nw0, .ref nc0, .ref np1, .int nhour, .int nair, .int nrub, .int nz, .ref np2, .ref np3])), (nw0, .inr (5, [.int nnb, .ref nw1, .ref nw2, .ref nw3, .ref nw4])), (nw1, .inl (cI, 16, .inl nkd)), (nw2, .inl (cI, 16, .inl ncl)), (nw3, .inl (cI, 16, .inl ngr)), (nw4, .inl (cI, 48, .inl noc)), (nc0, .inr (0, [.ref nc1, .ref nc2, .int nlit, .int ncold])), (nc1, .inl (cI, 6, .inl nccell)), (nc2, .inl (cI, 6, .inl ncpow)), (np1, .inl (cI, 10, .inl nsp)), (np2, .inl (cI, 16, .inl nwm)), (np3, .inl (cI, 8, .inl ndr)), (sh0, .inl (cS, 4, .inr (.inr (.inr (.inr (ik_ref4 s00 s10 s20 s30)))))), (s00, .inr (2, [.int (sbits 0), .int (ssize 0), .ref s01])), (s01, .inl (cI, 40, .inl (snum 0))), (s10, .inr (2, [.int (sbits 1), .int (ssize 1), .ref s11])), (s11, .inl (cI, 40, .inl (snum 1))), (s20, .inr (2, [.int (sbits 2), .int (ssize 2), .ref s21])), (s21, .inl (cI, 40, .inl (snum 2))), (s30, .inr (2, [.int (sbits 3), .int (ssize 3), .ref s31])), (s31, .inl (cI, 40, .inl (snum 3)))] rfl rfl rfl (by decide +kernel) (ik_runV (st := []) (As := [.int (-1000006 : Int32)]) C hM mv_X6_tell wl_5_16 ⟨rfl, rfl, Nat.le_of_ble_eq_true rfl, Nat.le_of_ble_eq_true rfl⟩ [0, 1] rfl (by decide +kernel) 0 rfl rfl rfl rfl (Nat.le_of_ble_eq_true rfl) dX6_load_31 ⟨Nat.zero_le _, Nat.zero_le _⟩) rfl ?_
        obtain ⟨rfl, rfl, rfl⟩ := ik_e3 hf
        exact ik_iretW C hr hlk dX6_load_34
    · have hf := ik_neg hb0 hf; have hf := ik_pos hc hf
      refine ik_astore_n C [(2, .ref s10), (0, .ref o0), (1, .int x1)] rfl (by decide) rfl dX6_load_20 ?_
      refine ik_aload_n C 0 rfl rfl dX6_load_21 ?_
      obtain ⟨r2, hc2, hf⟩ := ik_b1s hf
      have hM := (c_X2_isMissing l D cI cS s10 s11 (sbits 1) (ssize 1) (snum 1) r2 hc2)
      refine ik_goR (ik_runV (st := []) (As := []) C hM mv_X2_isMissing wl_45_9 ⟨rfl, rfl, Nat.le_of_ble_eq_true rfl, Nat.le_of_ble_eq_true rfl⟩ [17, 18] rfl (by decide +kernel) 17 rfl rfl rfl rfl (Nat.le_of_ble_eq_true rfl) dX6_load_22 ⟨Nat.zero_le _, Nat.zero_le _⟩) rfl ?_
      refine ik_if_eq C 35 dX6_load_25 (by decide) (fun hc => ?_) (fun hc => ?_)
      · have hf := ik_pos hc hf
        refine ik_aload_n C 0 rfl rfl dX6_load_35 ?_
        refine ik_get C inlX2 17 rfl rfl 1 (by decide) wl_45_8 rfl (v := .int (ssize 1)) rfl dX6_load_36 ?_
        refine ik_aload_n C 1 rfl rfl dX6_load_39 ?_
        refine ik_get C inlX6 0 rfl rfl 0 (by decide) wl_1_15 rfl (v := .ref np0) rfl dX6_load_40 ?_
        refine ik_get C inlX1 2 rfl rfl 0 (by decide) wl_5_4 rfl (v := .ref nw0) rfl dX6_load_43 ?_
        refine ik_get C inlX5 3 rfl rfl 0 (by decide) wl_28_15 rfl (v := .int nnb) rfl dX6_load_46 ?_
        refine ik_mmin C wl_46_16 wl_14_6 wl_13_23 wl_14_7 (Nat.le_of_ble_eq_true rfl) (Nat.le_of_ble_eq_true rfl) dX6_load_49 ?_
        refine ik_istore_n C [(3, .int (ik_min (ssize 1) nnb)), (2, .ref s10), (0, .ref o0), (1, .int x1)] rfl (by decide) rfl dX6_load_52 ?_
        refine ik_iconst (v := (0 : Int32)) C (by decide) dX6_load_53 ?_
        refine ik_istore C [(4, .int (0 : Int32)), (3, .int (ik_min (ssize 1) nnb)), (2, .ref s10), (0, .ref o0), (1, .int x1)] (by decide) rfl dX6_load_54 ?_
        have hL_56 : ∀ (n_56 : Nat) (ngr_56 : Nat → Int32) (x4_56 : Int32), ik_lp2 (b_X6_load_56s1 fnd nnb ncl ssize snum) n_56 ngr_56 x4_56 = some (R, fnd_r, ngr_r) → ik_G p l e ({ frames := 2, cells := 0, slots := 0, locals := 44 } : Room) s m ([.ref o0, .int x1] : List Value).toArray below meth c D (ik_in (wz_X6ofns cI cS o0 np0 kp0 tp0 r0 t0 sh0 f0 nw0 nc0 np1 np2 np3 nw1 nw2 nw3 nw4 nc1 nc2 s00 s10 s20 s30 s01 s11 s21 s31 isk fnd nhour nair nrub nz nnb nkd ncl ngr noc nlit ncold nccell ncpow nsp nwm ndr sbits ssize snum)) (ik_in (wz_X6ofns cI cS o0 np0 kp0 tp0 r0 t0 sh0 f0 nw0 nc0 np1 np2 np3 nw1 nw2 nw3 nw4 nc1 nc2 s00 s10 s20 s30 s01 s11 s21 s31 isk fnd nhour nair nrub nz nnb nkd ncl ngr noc nlit ncold nccell ncpow nsp nwm ndr sbits ssize snum)) 5 0 0 (MQ below (ik_Q (some (.int R)) D (wz_X6ofns cI cS o0 np0 kp0 tp0 r0 t0 sh0 f0 nw0 nc0 np1 np2 np3 nw1 nw2 nw3 nw4 nc1 nc2 s00 s10 s20 s30 s01 s11 s21 s31 isk fnd_r nhour nair nrub nz nnb nkd ncl ngr_r noc nlit ncold nccell ncpow nsp nwm ndr sbits ssize snum) (wz_X6ofns cI cS o0 np0 kp0 tp0 r0 t0 sh0 f0 nw0 nc0 np1 np2 np3 nw1 nw2 nw3 nw4 nc1 nc2 s00 s10 s20 s30 s01 s11 s21 s31 isk fnd nhour nair nrub nz nnb nkd ncl ngr noc nlit ncold nccell ncpow nsp nwm ndr sbits ssize snum)) ([.ref o0, .int x1] : List Value).toArray s 0 0 (ik_in (wz_X6ofns cI cS o0 np0 kp0 tp0 r0 t0 sh0 f0 nw0 nc0 np1 np2 np3 nw1 nw2 nw3 nw4 nc1 nc2 s00 s10 s20 s30 s01 s11 s21 s31 isk fnd nhour nair nrub nz nnb nkd ncl ngr noc nlit ncold nccell ncpow nsp nwm ndr sbits ssize snum))) 56 [(4, .int x4_56), (3, .int (ik_min (ssize 1) nnb)), (2, .ref s10), (0, .ref o0), (1, .int x1)] [] (wz_X6ofns cI cS o0 np0 kp0 tp0 r0 t0 sh0 f0 nw0 nc0 np1 np2 np3 nw1 nw2 nw3 nw4 nc1 nc2 s00 s10 s20 s30 s01 s11 s21 s31 isk fnd nhour nair nrub nz nnb nkd ncl ngr_56 noc nlit ncold nccell ncpow nsp nwm ndr sbits ssize snum) := by
          intro n_56
          induction n_56 with
          | zero => intro _ _ hf; exact nomatch hf
          | succ n_56 ih_56 =>
            intro ngr_56 x4_56 hf
            replace hf : b_X6_load_56s1 fnd nnb ncl ssize snum (ik_lp2 (b_X6_load_56s1 fnd nnb ncl ssize snum) n_56) ngr_56 x4_56 = some (R, fnd_r, ngr_r) := hf
            unfold b_X6_load_56s1 at hf
            refine ik_iload C 0 rfl dX6_load_56 ?_
            refine ik_iload_n C 1 rfl rfl dX6_load_58 ?_
            refine ik_icmp_ge C 119 dX6_load_59 (by decide) (fun hc => ?_) (fun hc => ?_)
            · have hf := ik_pos hc hf
              refine ik_iload C 0 rfl dX6_load_119 ?_
              obtain ⟨rfl, rfl, rfl⟩ := ik_e3 hf
              exact ik_iretW C hr hlk dX6_load_121
            · have hf := ik_neg hc hf
              refine ik_aload_n C 2 rfl rfl dX6_load_62 ?_
              refine ik_get C inlX2 17 rfl rfl 2 (by decide) wl_46_2 rfl (v := .ref s11) rfl dX6_load_63 ?_
              refine ik_iload C 0 rfl dX6_load_66 ?_
              have hg := ik_gdi hf
              have hf := ik_gdk hf
              refine ik_iald C 18 rfl hg dX6_load_68 ?_
              refine ik_iconst (v := (1 : Int32)) C (by decide) dX6_load_69 ?_
              refine ik_bipush (v := (99 : Int32)) C (by decide) dX6_load_70 ?_
              obtain ⟨r3, hc3, hf⟩ := ik_b1s hf
              have hM := (c_X6_isWithin l D cI cS ((snum 1) (x4_56).toNatClampNeg) (1 : Int32) (99 : Int32) r3 hc3)
              refine ik_goR (ik_runS (st := []) (As := [.int ((snum 1) (x4_56).toNatClampNeg), .int (1 : Int32), .int (99 : Int32)]) C hM ms_X6_isWithin wl_5_10 ⟨rfl, rfl, Nat.le_of_ble_eq_true rfl, Nat.le_of_ble_eq_true rfl⟩ [] rfl (by decide +kernel) rfl rfl (Nat.le_of_ble_eq_true rfl) dX6_load_72 ⟨Nat.zero_le _, Nat.zero_le _⟩) rfl ?_
              refine ik_if_eq C 119 dX6_load_75 (by decide) (fun hc => ?_) (fun hc => ?_)
              · have hf := ik_pos hc hf
                refine ik_iload C 0 rfl dX6_load_119 ?_
                obtain ⟨rfl, rfl, rfl⟩ := ik_e3 hf
                exact ik_iretW C hr hlk dX6_load_121
              · have hf := ik_neg hc hf
                refine ik_aload_n C 3 rfl rfl dX6_load_78 ?_
                refine ik_get C inlX6 0 rfl rfl 0 (by decide) wl_1_15 rfl (v := .ref np0) rfl dX6_load_79 ?_
                refine ik_get C inlX1 2 rfl rfl 0 (by decide) wl_5_4 rfl (v := .ref nw0) rfl dX6_load_82 ?_
                refine ik_iload C 0 rfl dX6_load_85 ?_
                obtain ⟨r4, hc4, hf⟩ := ik_b1s hf
                have hM := (c_X5_isGone l D cI cS nw0 nw1 nw2 nw3 nw4 nnb nkd ncl ngr_56 noc x4_56 r4 hc4)
                refine ik_goR (ik_runV (st := []) (As := [.int x4_56]) C hM mv_X5_isGone wl_8_11 ⟨rfl, rfl, Nat.le_of_ble_eq_true rfl, Nat.le_of_ble_eq_true rfl⟩ [3, 4, 5, 6, 7] rfl (by decide +kernel) 3 rfl rfl rfl rfl (Nat.le_of_ble_eq_true rfl) dX6_load_87 ⟨Nat.zero_le _, Nat.zero_le _⟩) rfl ?_
                refine ik_if_ne C 113 dX6_load_90 (by decide) (fun hc => ?_) (fun hc => ?_)
                · have hf := ik_neg hc hf
                  refine ik_iinc C [(4, .int (x4_56 + (1 : Int32))), (3, .int (ik_min (ssize 1) nnb)), (2, .ref s10), (0, .ref o0), (1, .int x1)] 0 rfl rfl (by decide) rfl dX6_load_113 ?_
                  refine ik_goto C 56 dX6_load_116 (by decide) ?_
                  exact ik_sub [0, 1, 2, 3, 4] [(4, .int (x4_56 + (1 : Int32))), (3, .int (ik_min (ssize 1) nnb)), (2, .ref s10), (0, .ref o0), (1, .int x1)] rfl (ih_56 ngr_56 (x4_56 + (1 : Int32)) hf)
                · have hf := ik_pos hc hf
                  refine ik_aload_n C 3 rfl rfl dX6_load_93 ?_
                  refine ik_get C inlX6 0 rfl rfl 0 (by decide) wl_1_15 rfl (v := .ref np0) rfl dX6_load_94 ?_
                  refine ik_get C inlX1 2 rfl rfl 0 (by decide) wl_5_4 rfl (v := .ref nw0) rfl dX6_load_97 ?_
                  refine ik_get C inlX5 3 rfl rfl 3 (by decide) wl_8_6 rfl (v := .ref nw3) rfl dX6_load_100 ?_
                  refine ik_iload C 0 rfl dX6_load_103 ?_
                  refine ik_aload_n C 2 rfl rfl dX6_load_105 ?_
                  refine ik_get C inlX2 17 rfl rfl 2 (by decide) wl_46_2 rfl (v := .ref s11) rfl dX6_load_106 ?_
                  refine ik_iload C 0 rfl dX6_load_109 ?_
                  have hg := ik_gdi hf
                  have hf := ik_gdk hf
                  refine ik_iald C 18 rfl hg dX6_load_111 ?_
                  have hg := ik_gdi hf
                  have hf := ik_gdk hf
                  refine ik_iast C 6 rfl hg (wz_X6ofns cI cS o0 np0 kp0 tp0 r0 t0 sh0 f0 nw0 nc0 np1 np2 np3 nw1 nw2 nw3 nw4 nc1 nc2 s00 s10 s20 s30 s01 s11 s21 s31 isk fnd nhour nair nrub nz nnb nkd ncl (upd ngr_56 (x4_56).toNatClampNeg ((snum 1) (x4_56).toNatClampNeg)) noc nlit ncold nccell ncpow nsp nwm ndr sbits ssize snum) rfl dX6_load_112 ?_
                  refine ik_iinc C [(4, .int (x4_56 + (1 : Int32))), (3, .int (ik_min (ssize 1) nnb)), (2, .ref s10), (0, .ref o0), (1, .int x1)] 0 rfl rfl (by decide) rfl dX6_load_113 ?_
                  refine ik_goto C 56 dX6_load_116 (by decide) ?_
                  exact ik_sub [0, 1, 2, 3, 4] [(4, .int (x4_56 + (1 : Int32))), (3, .int (ik_min (ssize 1) nnb)), (2, .ref s10), (0, .ref o0), (1, .int x1)] rfl (ih_56 (upd ngr_56 (x4_56).toNatClampNeg ((snum 1) (x4_56).toNatClampNeg)) (x4_56 + (1 : Int32)) hf)
        exact hL_56 ik_fu ngr (0 : Int32) hf
      · have hf := ik_neg hc hf
        refine ik_aload_n C 1 rfl rfl dX6_load_28 ?_
        refine ik_ldc C wl_43_13 dX6_load_29 ?_
        obtain ⟨r3, g4, hc4, hf⟩ := ik_b2s hf
        have hM := (c_X6_tell l D cI cS o0 np0 kp0 tp0 r0 t0 sh0 f0 isk fnd (-1000006 : Int32) r3 g4 hc4)
        refine ik_goW (v := (some (.int r3))) (wc := (wz_X6of cI cS o0 np0 kp0 tp0 r0 t0 sh0 f0 isk fnd)) (w1 := (wz_X6of cI cS o0 np0 kp0 tp0 r0 t0 sh0 f0 isk g4)) [0, 1] [2, 3, 4, 5, 6, 7, 8, 9, 10, 11, 12, 13, 14, 15, 16, 17, 18, 19, 20, 21, 22] 23 rfl rfl (wz_X6ofns cI cS o0 np0 kp0 tp0 r0 t0 sh0 f0 nw0 nc0 np1 np2 np3 nw1 nw2 nw3 nw4 nc1 nc2 s00 s10 s20 s30 s01 s11 s21 s31 isk g4 nhour nair nrub nz nnb nkd ncl ngr noc nlit ncold nccell ncpow nsp nwm ndr sbits ssize snum) rfl [(np0, .inr (1, [.ref nw0, .ref nc0, .ref np1, .int nhour, .int nair, .int nrub, .int nz, .ref np2, .ref np3])), (nw0, .inr (5, [.int nnb, .ref nw1, .ref nw2, .ref nw3, .ref nw4])), (nw1, .inl (cI, 16, .inl nkd)), (nw2, .inl (cI, 16, .inl ncl)), (nw3, .inl (cI, 16, .inl ngr)), (nw4, .inl (cI, 48, .inl noc)), (nc0, .inr (0, [.ref nc1, .ref nc2, .int nlit, .int ncold])), (nc1, .inl (cI, 6, .inl nccell)), (nc2, .inl (cI, 6, .inl ncpow)), (np1, .inl (cI, 10, .inl nsp)), (np2, .inl (cI, 16, .inl nwm)), (np3, .inl (cI, 8, .inl ndr)), (sh0, .inl (cS, 4, .inr (.inr (.inr (.inr (ik_ref4 s00 s10 s20 s30)))))), (s00, .inr (2, [.int (sbits 0), .int (ssize 0), .ref s01])), (s01, .inl (cI, 40, .inl (snum 0))), (s10, .inr (2, [.int (sbits 1), .int (ssize 1), .ref s11])), (s11, .inl (cI, 40, .inl (snum 1))), (s20, .inr (2, [.int (sbits 2), .int (ssize 2), .ref s21])), (s21, .inl (cI, 40, .inl (snum 2))), (s30, .inr (2, [.int (sbits 3), .int (ssize 3), .ref s31])), (s31, .inl (cI, 40, .inl (snum 3)))] rfl rfl rfl (by decide +kernel) (ik_runV (st := []) (As := [.int (-1000006 : Int32)]) C hM mv_X6_tell wl_5_16 ⟨rfl, rfl, Nat.le_of_ble_eq_true rfl, Nat.le_of_ble_eq_true rfl⟩ [0, 1] rfl (by decide +kernel) 0 rfl rfl rfl rfl (Nat.le_of_ble_eq_true rfl) dX6_load_31 ⟨Nat.zero_le _, Nat.zero_le _⟩) rfl ?_
        obtain ⟨rfl, rfl, rfl⟩ := ik_e3 hf
        exact ik_iretW C hr hlk dX6_load_34
    · have hf := ik_neg hb0 hf; have hf := ik_neg hb1 hf; have hf := ik_pos hc hf
      refine ik_astore_n C [(2, .ref s20), (0, .ref o0), (1, .int x1)] rfl (by decide) rfl dX6_load_20 ?_
      refine ik_aload_n C 0 rfl rfl dX6_load_21 ?_
      obtain ⟨r2, hc2, hf⟩ := ik_b1s hf
      have hM := (c_X2_isMissing l D cI cS s20 s21 (sbits 2) (ssize 2) (snum 2) r2 hc2)
      refine ik_goR (ik_runV (st := []) (As := []) C hM mv_X2_isMissing wl_45_9 ⟨rfl, rfl, Nat.le_of_ble_eq_true rfl, Nat.le_of_ble_eq_true rfl⟩ [19, 20] rfl (by decide +kernel) 19 rfl rfl rfl rfl (Nat.le_of_ble_eq_true rfl) dX6_load_22 ⟨Nat.zero_le _, Nat.zero_le _⟩) rfl ?_
      refine ik_if_eq C 35 dX6_load_25 (by decide) (fun hc => ?_) (fun hc => ?_)
      · have hf := ik_pos hc hf
        refine ik_aload_n C 0 rfl rfl dX6_load_35 ?_
        refine ik_get C inlX2 19 rfl rfl 1 (by decide) wl_45_8 rfl (v := .int (ssize 2)) rfl dX6_load_36 ?_
        refine ik_aload_n C 1 rfl rfl dX6_load_39 ?_
        refine ik_get C inlX6 0 rfl rfl 0 (by decide) wl_1_15 rfl (v := .ref np0) rfl dX6_load_40 ?_
        refine ik_get C inlX1 2 rfl rfl 0 (by decide) wl_5_4 rfl (v := .ref nw0) rfl dX6_load_43 ?_
        refine ik_get C inlX5 3 rfl rfl 0 (by decide) wl_28_15 rfl (v := .int nnb) rfl dX6_load_46 ?_
        refine ik_mmin C wl_46_16 wl_14_6 wl_13_23 wl_14_7 (Nat.le_of_ble_eq_true rfl) (Nat.le_of_ble_eq_true rfl) dX6_load_49 ?_
        refine ik_istore_n C [(3, .int (ik_min (ssize 2) nnb)), (2, .ref s20), (0, .ref o0), (1, .int x1)] rfl (by decide) rfl dX6_load_52 ?_
        refine ik_iconst (v := (0 : Int32)) C (by decide) dX6_load_53 ?_
        refine ik_istore C [(4, .int (0 : Int32)), (3, .int (ik_min (ssize 2) nnb)), (2, .ref s20), (0, .ref o0), (1, .int x1)] (by decide) rfl dX6_load_54 ?_
        have hL_56 : ∀ (n_56 : Nat) (ngr_56 : Nat → Int32) (x4_56 : Int32), ik_lp2 (b_X6_load_56s2 fnd nnb ncl ssize snum) n_56 ngr_56 x4_56 = some (R, fnd_r, ngr_r) → ik_G p l e ({ frames := 2, cells := 0, slots := 0, locals := 44 } : Room) s m ([.ref o0, .int x1] : List Value).toArray below meth c D (ik_in (wz_X6ofns cI cS o0 np0 kp0 tp0 r0 t0 sh0 f0 nw0 nc0 np1 np2 np3 nw1 nw2 nw3 nw4 nc1 nc2 s00 s10 s20 s30 s01 s11 s21 s31 isk fnd nhour nair nrub nz nnb nkd ncl ngr noc nlit ncold nccell ncpow nsp nwm ndr sbits ssize snum)) (ik_in (wz_X6ofns cI cS o0 np0 kp0 tp0 r0 t0 sh0 f0 nw0 nc0 np1 np2 np3 nw1 nw2 nw3 nw4 nc1 nc2 s00 s10 s20 s30 s01 s11 s21 s31 isk fnd nhour nair nrub nz nnb nkd ncl ngr noc nlit ncold nccell ncpow nsp nwm ndr sbits ssize snum)) 5 0 0 (MQ below (ik_Q (some (.int R)) D (wz_X6ofns cI cS o0 np0 kp0 tp0 r0 t0 sh0 f0 nw0 nc0 np1 np2 np3 nw1 nw2 nw3 nw4 nc1 nc2 s00 s10 s20 s30 s01 s11 s21 s31 isk fnd_r nhour nair nrub nz nnb nkd ncl ngr_r noc nlit ncold nccell ncpow nsp nwm ndr sbits ssize snum) (wz_X6ofns cI cS o0 np0 kp0 tp0 r0 t0 sh0 f0 nw0 nc0 np1 np2 np3 nw1 nw2 nw3 nw4 nc1 nc2 s00 s10 s20 s30 s01 s11 s21 s31 isk fnd nhour nair nrub nz nnb nkd ncl ngr noc nlit ncold nccell ncpow nsp nwm ndr sbits ssize snum)) ([.ref o0, .int x1] : List Value).toArray s 0 0 (ik_in (wz_X6ofns cI cS o0 np0 kp0 tp0 r0 t0 sh0 f0 nw0 nc0 np1 np2 np3 nw1 nw2 nw3 nw4 nc1 nc2 s00 s10 s20 s30 s01 s11 s21 s31 isk fnd nhour nair nrub nz nnb nkd ncl ngr noc nlit ncold nccell ncpow nsp nwm ndr sbits ssize snum))) 56 [(4, .int x4_56), (3, .int (ik_min (ssize 2) nnb)), (2, .ref s20), (0, .ref o0), (1, .int x1)] [] (wz_X6ofns cI cS o0 np0 kp0 tp0 r0 t0 sh0 f0 nw0 nc0 np1 np2 np3 nw1 nw2 nw3 nw4 nc1 nc2 s00 s10 s20 s30 s01 s11 s21 s31 isk fnd nhour nair nrub nz nnb nkd ncl ngr_56 noc nlit ncold nccell ncpow nsp nwm ndr sbits ssize snum) := by
          intro n_56
          induction n_56 with
          | zero => intro _ _ hf; exact nomatch hf
          | succ n_56 ih_56 =>
            intro ngr_56 x4_56 hf
            replace hf : b_X6_load_56s2 fnd nnb ncl ssize snum (ik_lp2 (b_X6_load_56s2 fnd nnb ncl ssize snum) n_56) ngr_56 x4_56 = some (R, fnd_r, ngr_r) := hf
            unfold b_X6_load_56s2 at hf
            refine ik_iload C 0 rfl dX6_load_56 ?_
            refine ik_iload_n C 1 rfl rfl dX6_load_58 ?_
            refine ik_icmp_ge C 119 dX6_load_59 (by decide) (fun hc => ?_) (fun hc => ?_)
            · have hf := ik_pos hc hf
              refine ik_iload C 0 rfl dX6_load_119 ?_
              obtain ⟨rfl, rfl, rfl⟩ := ik_e3 hf
              exact ik_iretW C hr hlk dX6_load_121
            · have hf := ik_neg hc hf
              refine ik_aload_n C 2 rfl rfl dX6_load_62 ?_
              refine ik_get C inlX2 19 rfl rfl 2 (by decide) wl_46_2 rfl (v := .ref s21) rfl dX6_load_63 ?_
              refine ik_iload C 0 rfl dX6_load_66 ?_
              have hg := ik_gdi hf
              have hf := ik_gdk hf
              refine ik_iald C 20 rfl hg dX6_load_68 ?_
              refine ik_iconst (v := (1 : Int32)) C (by decide) dX6_load_69 ?_
              refine ik_bipush (v := (99 : Int32)) C (by decide) dX6_load_70 ?_
              obtain ⟨r3, hc3, hf⟩ := ik_b1s hf
              have hM := (c_X6_isWithin l D cI cS ((snum 2) (x4_56).toNatClampNeg) (1 : Int32) (99 : Int32) r3 hc3)
              refine ik_goR (ik_runS (st := []) (As := [.int ((snum 2) (x4_56).toNatClampNeg), .int (1 : Int32), .int (99 : Int32)]) C hM ms_X6_isWithin wl_5_10 ⟨rfl, rfl, Nat.le_of_ble_eq_true rfl, Nat.le_of_ble_eq_true rfl⟩ [] rfl (by decide +kernel) rfl rfl (Nat.le_of_ble_eq_true rfl) dX6_load_72 ⟨Nat.zero_le _, Nat.zero_le _⟩) rfl ?_
              refine ik_if_eq C 119 dX6_load_75 (by decide) (fun hc => ?_) (fun hc => ?_)
              · have hf := ik_pos hc hf
                refine ik_iload C 0 rfl dX6_load_119 ?_
                obtain ⟨rfl, rfl, rfl⟩ := ik_e3 hf
                exact ik_iretW C hr hlk dX6_load_121
              · have hf := ik_neg hc hf
                refine ik_aload_n C 3 rfl rfl dX6_load_78 ?_
                refine ik_get C inlX6 0 rfl rfl 0 (by decide) wl_1_15 rfl (v := .ref np0) rfl dX6_load_79 ?_
                refine ik_get C inlX1 2 rfl rfl 0 (by decide) wl_5_4 rfl (v := .ref nw0) rfl dX6_load_82 ?_
                refine ik_iload C 0 rfl dX6_load_85 ?_
                obtain ⟨r4, hc4, hf⟩ := ik_b1s hf
                have hM := (c_X5_isGone l D cI cS nw0 nw1 nw2 nw3 nw4 nnb nkd ncl ngr_56 noc x4_56 r4 hc4)
                refine ik_goR (ik_runV (st := []) (As := [.int x4_56]) C hM mv_X5_isGone wl_8_11 ⟨rfl, rfl, Nat.le_of_ble_eq_true rfl, Nat.le_of_ble_eq_true rfl⟩ [3, 4, 5, 6, 7] rfl (by decide +kernel) 3 rfl rfl rfl rfl (Nat.le_of_ble_eq_true rfl) dX6_load_87 ⟨Nat.zero_le _, Nat.zero_le _⟩) rfl ?_
                refine ik_if_ne C 113 dX6_load_90 (by decide) (fun hc => ?_) (fun hc => ?_)
                · have hf := ik_neg hc hf
                  refine ik_iinc C [(4, .int (x4_56 + (1 : Int32))), (3, .int (ik_min (ssize 2) nnb)), (2, .ref s20), (0, .ref o0), (1, .int x1)] 0 rfl rfl (by decide) rfl dX6_load_113 ?_
                  refine ik_goto C 56 dX6_load_116 (by decide) ?_
                  exact ik_sub [0, 1, 2, 3, 4] [(4, .int (x4_56 + (1 : Int32))), (3, .int (ik_min (ssize 2) nnb)), (2, .ref s20), (0, .ref o0), (1, .int x1)] rfl (ih_56 ngr_56 (x4_56 + (1 : Int32)) hf)
                · have hf := ik_pos hc hf
                  refine ik_aload_n C 3 rfl rfl dX6_load_93 ?_
                  refine ik_get C inlX6 0 rfl rfl 0 (by decide) wl_1_15 rfl (v := .ref np0) rfl dX6_load_94 ?_
                  refine ik_get C inlX1 2 rfl rfl 0 (by decide) wl_5_4 rfl (v := .ref nw0) rfl dX6_load_97 ?_
                  refine ik_get C inlX5 3 rfl rfl 3 (by decide) wl_8_6 rfl (v := .ref nw3) rfl dX6_load_100 ?_
                  refine ik_iload C 0 rfl dX6_load_103 ?_
                  refine ik_aload_n C 2 rfl rfl dX6_load_105 ?_
                  refine ik_get C inlX2 19 rfl rfl 2 (by decide) wl_46_2 rfl (v := .ref s21) rfl dX6_load_106 ?_
                  refine ik_iload C 0 rfl dX6_load_109 ?_
                  have hg := ik_gdi hf
                  have hf := ik_gdk hf
                  refine ik_iald C 20 rfl hg dX6_load_111 ?_
                  have hg := ik_gdi hf
                  have hf := ik_gdk hf
                  refine ik_iast C 6 rfl hg (wz_X6ofns cI cS o0 np0 kp0 tp0 r0 t0 sh0 f0 nw0 nc0 np1 np2 np3 nw1 nw2 nw3 nw4 nc1 nc2 s00 s10 s20 s30 s01 s11 s21 s31 isk fnd nhour nair nrub nz nnb nkd ncl (upd ngr_56 (x4_56).toNatClampNeg ((snum 2) (x4_56).toNatClampNeg)) noc nlit ncold nccell ncpow nsp nwm ndr sbits ssize snum) rfl dX6_load_112 ?_
                  refine ik_iinc C [(4, .int (x4_56 + (1 : Int32))), (3, .int (ik_min (ssize 2) nnb)), (2, .ref s20), (0, .ref o0), (1, .int x1)] 0 rfl rfl (by decide) rfl dX6_load_113 ?_
                  refine ik_goto C 56 dX6_load_116 (by decide) ?_
                  exact ik_sub [0, 1, 2, 3, 4] [(4, .int (x4_56 + (1 : Int32))), (3, .int (ik_min (ssize 2) nnb)), (2, .ref s20), (0, .ref o0), (1, .int x1)] rfl (ih_56 (upd ngr_56 (x4_56).toNatClampNeg ((snum 2) (x4_56).toNatClampNeg)) (x4_56 + (1 : Int32)) hf)
        exact hL_56 ik_fu ngr (0 : Int32) hf
      · have hf := ik_neg hc hf
        refine ik_aload_n C 1 rfl rfl dX6_load_28 ?_
        refine ik_ldc C wl_43_13 dX6_load_29 ?_
        obtain ⟨r3, g4, hc4, hf⟩ := ik_b2s hf
        have hM := (c_X6_tell l D cI cS o0 np0 kp0 tp0 r0 t0 sh0 f0 isk fnd (-1000006 : Int32) r3 g4 hc4)
        refine ik_goW (v := (some (.int r3))) (wc := (wz_X6of cI cS o0 np0 kp0 tp0 r0 t0 sh0 f0 isk fnd)) (w1 := (wz_X6of cI cS o0 np0 kp0 tp0 r0 t0 sh0 f0 isk g4)) [0, 1] [2, 3, 4, 5, 6, 7, 8, 9, 10, 11, 12, 13, 14, 15, 16, 17, 18, 19, 20, 21, 22] 23 rfl rfl (wz_X6ofns cI cS o0 np0 kp0 tp0 r0 t0 sh0 f0 nw0 nc0 np1 np2 np3 nw1 nw2 nw3 nw4 nc1 nc2 s00 s10 s20 s30 s01 s11 s21 s31 isk g4 nhour nair nrub nz nnb nkd ncl ngr noc nlit ncold nccell ncpow nsp nwm ndr sbits ssize snum) rfl [(np0, .inr (1, [.ref nw0, .ref nc0, .ref np1, .int nhour, .int nair, .int nrub, .int nz, .ref np2, .ref np3])), (nw0, .inr (5, [.int nnb, .ref nw1, .ref nw2, .ref nw3, .ref nw4])), (nw1, .inl (cI, 16, .inl nkd)), (nw2, .inl (cI, 16, .inl ncl)), (nw3, .inl (cI, 16, .inl ngr)), (nw4, .inl (cI, 48, .inl noc)), (nc0, .inr (0, [.ref nc1, .ref nc2, .int nlit, .int ncold])), (nc1, .inl (cI, 6, .inl nccell)), (nc2, .inl (cI, 6, .inl ncpow)), (np1, .inl (cI, 10, .inl nsp)), (np2, .inl (cI, 16, .inl nwm)), (np3, .inl (cI, 8, .inl ndr)), (sh0, .inl (cS, 4, .inr (.inr (.inr (.inr (ik_ref4 s00 s10 s20 s30)))))), (s00, .inr (2, [.int (sbits 0), .int (ssize 0), .ref s01])), (s01, .inl (cI, 40, .inl (snum 0))), (s10, .inr (2, [.int (sbits 1), .int (ssize 1), .ref s11])), (s11, .inl (cI, 40, .inl (snum 1))), (s20, .inr (2, [.int (sbits 2), .int (ssize 2), .ref s21])), (s21, .inl (cI, 40, .inl (snum 2))), (s30, .inr (2, [.int (sbits 3), .int (ssize 3), .ref s31])), (s31, .inl (cI, 40, .inl (snum 3)))] rfl rfl rfl (by decide +kernel) (ik_runV (st := []) (As := [.int (-1000006 : Int32)]) C hM mv_X6_tell wl_5_16 ⟨rfl, rfl, Nat.le_of_ble_eq_true rfl, Nat.le_of_ble_eq_true rfl⟩ [0, 1] rfl (by decide +kernel) 0 rfl rfl rfl rfl (Nat.le_of_ble_eq_true rfl) dX6_load_31 ⟨Nat.zero_le _, Nat.zero_le _⟩) rfl ?_
        obtain ⟨rfl, rfl, rfl⟩ := ik_e3 hf
        exact ik_iretW C hr hlk dX6_load_34
    · have hf := ik_neg hb0 hf; have hf := ik_neg hb1 hf; have hf := ik_neg hb2 hf
      refine ik_astore_n C [(2, .ref s30), (0, .ref o0), (1, .int x1)] rfl (by decide) rfl dX6_load_20 ?_
      refine ik_aload_n C 0 rfl rfl dX6_load_21 ?_
      obtain ⟨r2, hc2, hf⟩ := ik_b1s hf
      have hM := (c_X2_isMissing l D cI cS s30 s31 (sbits 3) (ssize 3) (snum 3) r2 hc2)
      refine ik_goR (ik_runV (st := []) (As := []) C hM mv_X2_isMissing wl_45_9 ⟨rfl, rfl, Nat.le_of_ble_eq_true rfl, Nat.le_of_ble_eq_true rfl⟩ [21, 22] rfl (by decide +kernel) 21 rfl rfl rfl rfl (Nat.le_of_ble_eq_true rfl) dX6_load_22 ⟨Nat.zero_le _, Nat.zero_le _⟩) rfl ?_
      refine ik_if_eq C 35 dX6_load_25 (by decide) (fun hc => ?_) (fun hc => ?_)
      · have hf := ik_pos hc hf
        refine ik_aload_n C 0 rfl rfl dX6_load_35 ?_
        refine ik_get C inlX2 21 rfl rfl 1 (by decide) wl_45_8 rfl (v := .int (ssize 3)) rfl dX6_load_36 ?_
        refine ik_aload_n C 1 rfl rfl dX6_load_39 ?_
        refine ik_get C inlX6 0 rfl rfl 0 (by decide) wl_1_15 rfl (v := .ref np0) rfl dX6_load_40 ?_
        refine ik_get C inlX1 2 rfl rfl 0 (by decide) wl_5_4 rfl (v := .ref nw0) rfl dX6_load_43 ?_
        refine ik_get C inlX5 3 rfl rfl 0 (by decide) wl_28_15 rfl (v := .int nnb) rfl dX6_load_46 ?_
        refine ik_mmin C wl_46_16 wl_14_6 wl_13_23 wl_14_7 (Nat.le_of_ble_eq_true rfl) (Nat.le_of_ble_eq_true rfl) dX6_load_49 ?_
        refine ik_istore_n C [(3, .int (ik_min (ssize 3) nnb)), (2, .ref s30), (0, .ref o0), (1, .int x1)] rfl (by decide) rfl dX6_load_52 ?_
        refine ik_iconst (v := (0 : Int32)) C (by decide) dX6_load_53 ?_
        refine ik_istore C [(4, .int (0 : Int32)), (3, .int (ik_min (ssize 3) nnb)), (2, .ref s30), (0, .ref o0), (1, .int x1)] (by decide) rfl dX6_load_54 ?_
        have hL_56 : ∀ (n_56 : Nat) (ngr_56 : Nat → Int32) (x4_56 : Int32), ik_lp2 (b_X6_load_56s3 fnd nnb ncl ssize snum) n_56 ngr_56 x4_56 = some (R, fnd_r, ngr_r) → ik_G p l e ({ frames := 2, cells := 0, slots := 0, locals := 44 } : Room) s m ([.ref o0, .int x1] : List Value).toArray below meth c D (ik_in (wz_X6ofns cI cS o0 np0 kp0 tp0 r0 t0 sh0 f0 nw0 nc0 np1 np2 np3 nw1 nw2 nw3 nw4 nc1 nc2 s00 s10 s20 s30 s01 s11 s21 s31 isk fnd nhour nair nrub nz nnb nkd ncl ngr noc nlit ncold nccell ncpow nsp nwm ndr sbits ssize snum)) (ik_in (wz_X6ofns cI cS o0 np0 kp0 tp0 r0 t0 sh0 f0 nw0 nc0 np1 np2 np3 nw1 nw2 nw3 nw4 nc1 nc2 s00 s10 s20 s30 s01 s11 s21 s31 isk fnd nhour nair nrub nz nnb nkd ncl ngr noc nlit ncold nccell ncpow nsp nwm ndr sbits ssize snum)) 5 0 0 (MQ below (ik_Q (some (.int R)) D (wz_X6ofns cI cS o0 np0 kp0 tp0 r0 t0 sh0 f0 nw0 nc0 np1 np2 np3 nw1 nw2 nw3 nw4 nc1 nc2 s00 s10 s20 s30 s01 s11 s21 s31 isk fnd_r nhour nair nrub nz nnb nkd ncl ngr_r noc nlit ncold nccell ncpow nsp nwm ndr sbits ssize snum) (wz_X6ofns cI cS o0 np0 kp0 tp0 r0 t0 sh0 f0 nw0 nc0 np1 np2 np3 nw1 nw2 nw3 nw4 nc1 nc2 s00 s10 s20 s30 s01 s11 s21 s31 isk fnd nhour nair nrub nz nnb nkd ncl ngr noc nlit ncold nccell ncpow nsp nwm ndr sbits ssize snum)) ([.ref o0, .int x1] : List Value).toArray s 0 0 (ik_in (wz_X6ofns cI cS o0 np0 kp0 tp0 r0 t0 sh0 f0 nw0 nc0 np1 np2 np3 nw1 nw2 nw3 nw4 nc1 nc2 s00 s10 s20 s30 s01 s11 s21 s31 isk fnd nhour nair nrub nz nnb nkd ncl ngr noc nlit ncold nccell ncpow nsp nwm ndr sbits ssize snum))) 56 [(4, .int x4_56), (3, .int (ik_min (ssize 3) nnb)), (2, .ref s30), (0, .ref o0), (1, .int x1)] [] (wz_X6ofns cI cS o0 np0 kp0 tp0 r0 t0 sh0 f0 nw0 nc0 np1 np2 np3 nw1 nw2 nw3 nw4 nc1 nc2 s00 s10 s20 s30 s01 s11 s21 s31 isk fnd nhour nair nrub nz nnb nkd ncl ngr_56 noc nlit ncold nccell ncpow nsp nwm ndr sbits ssize snum) := by
          intro n_56
          induction n_56 with
          | zero => intro _ _ hf; exact nomatch hf
          | succ n_56 ih_56 =>
            intro ngr_56 x4_56 hf
            replace hf : b_X6_load_56s3 fnd nnb ncl ssize snum (ik_lp2 (b_X6_load_56s3 fnd nnb ncl ssize snum) n_56) ngr_56 x4_56 = some (R, fnd_r, ngr_r) := hf
            unfold b_X6_load_56s3 at hf
            refine ik_iload C 0 rfl dX6_load_56 ?_
            refine ik_iload_n C 1 rfl rfl dX6_load_58 ?_
            refine ik_icmp_ge C 119 dX6_load_59 (by decide) (fun hc => ?_) (fun hc => ?_)
            · have hf := ik_pos hc hf
              refine ik_iload C 0 rfl dX6_load_119 ?_
              obtain ⟨rfl, rfl, rfl⟩ := ik_e3 hf
              exact ik_iretW C hr hlk dX6_load_121
            · have hf := ik_neg hc hf
              refine ik_aload_n C 2 rfl rfl dX6_load_62 ?_
              refine ik_get C inlX2 21 rfl rfl 2 (by decide) wl_46_2 rfl (v := .ref s31) rfl dX6_load_63 ?_
              refine ik_iload C 0 rfl dX6_load_66 ?_
              have hg := ik_gdi hf
              have hf := ik_gdk hf
              refine ik_iald C 22 rfl hg dX6_load_68 ?_
              refine ik_iconst (v := (1 : Int32)) C (by decide) dX6_load_69 ?_
              refine ik_bipush (v := (99 : Int32)) C (by decide) dX6_load_70 ?_
              obtain ⟨r3, hc3, hf⟩ := ik_b1s hf
              have hM := (c_X6_isWithin l D cI cS ((snum 3) (x4_56).toNatClampNeg) (1 : Int32) (99 : Int32) r3 hc3)
              refine ik_goR (ik_runS (st := []) (As := [.int ((snum 3) (x4_56).toNatClampNeg), .int (1 : Int32), .int (99 : Int32)]) C hM ms_X6_isWithin wl_5_10 ⟨rfl, rfl, Nat.le_of_ble_eq_true rfl, Nat.le_of_ble_eq_true rfl⟩ [] rfl (by decide +kernel) rfl rfl (Nat.le_of_ble_eq_true rfl) dX6_load_72 ⟨Nat.zero_le _, Nat.zero_le _⟩) rfl ?_
              refine ik_if_eq C 119 dX6_load_75 (by decide) (fun hc => ?_) (fun hc => ?_)
              · have hf := ik_pos hc hf
                refine ik_iload C 0 rfl dX6_load_119 ?_
                obtain ⟨rfl, rfl, rfl⟩ := ik_e3 hf
                exact ik_iretW C hr hlk dX6_load_121
              · have hf := ik_neg hc hf
                refine ik_aload_n C 3 rfl rfl dX6_load_78 ?_
                refine ik_get C inlX6 0 rfl rfl 0 (by decide) wl_1_15 rfl (v := .ref np0) rfl dX6_load_79 ?_
                refine ik_get C inlX1 2 rfl rfl 0 (by decide) wl_5_4 rfl (v := .ref nw0) rfl dX6_load_82 ?_
                refine ik_iload C 0 rfl dX6_load_85 ?_
                obtain ⟨r4, hc4, hf⟩ := ik_b1s hf
                have hM := (c_X5_isGone l D cI cS nw0 nw1 nw2 nw3 nw4 nnb nkd ncl ngr_56 noc x4_56 r4 hc4)
                refine ik_goR (ik_runV (st := []) (As := [.int x4_56]) C hM mv_X5_isGone wl_8_11 ⟨rfl, rfl, Nat.le_of_ble_eq_true rfl, Nat.le_of_ble_eq_true rfl⟩ [3, 4, 5, 6, 7] rfl (by decide +kernel) 3 rfl rfl rfl rfl (Nat.le_of_ble_eq_true rfl) dX6_load_87 ⟨Nat.zero_le _, Nat.zero_le _⟩) rfl ?_
                refine ik_if_ne C 113 dX6_load_90 (by decide) (fun hc => ?_) (fun hc => ?_)
                · have hf := ik_neg hc hf
                  refine ik_iinc C [(4, .int (x4_56 + (1 : Int32))), (3, .int (ik_min (ssize 3) nnb)), (2, .ref s30), (0, .ref o0), (1, .int x1)] 0 rfl rfl (by decide) rfl dX6_load_113 ?_
                  refine ik_goto C 56 dX6_load_116 (by decide) ?_
                  exact ik_sub [0, 1, 2, 3, 4] [(4, .int (x4_56 + (1 : Int32))), (3, .int (ik_min (ssize 3) nnb)), (2, .ref s30), (0, .ref o0), (1, .int x1)] rfl (ih_56 ngr_56 (x4_56 + (1 : Int32)) hf)
                · have hf := ik_pos hc hf
                  refine ik_aload_n C 3 rfl rfl dX6_load_93 ?_
                  refine ik_get C inlX6 0 rfl rfl 0 (by decide) wl_1_15 rfl (v := .ref np0) rfl dX6_load_94 ?_
                  refine ik_get C inlX1 2 rfl rfl 0 (by decide) wl_5_4 rfl (v := .ref nw0) rfl dX6_load_97 ?_
                  refine ik_get C inlX5 3 rfl rfl 3 (by decide) wl_8_6 rfl (v := .ref nw3) rfl dX6_load_100 ?_
                  refine ik_iload C 0 rfl dX6_load_103 ?_
                  refine ik_aload_n C 2 rfl rfl dX6_load_105 ?_
                  refine ik_get C inlX2 21 rfl rfl 2 (by decide) wl_46_2 rfl (v := .ref s31) rfl dX6_load_106 ?_
                  refine ik_iload C 0 rfl dX6_load_109 ?_
                  have hg := ik_gdi hf
                  have hf := ik_gdk hf
                  refine ik_iald C 22 rfl hg dX6_load_111 ?_
                  have hg := ik_gdi hf
                  have hf := ik_gdk hf
                  refine ik_iast C 6 rfl hg (wz_X6ofns cI cS o0 np0 kp0 tp0 r0 t0 sh0 f0 nw0 nc0 np1 np2 np3 nw1 nw2 nw3 nw4 nc1 nc2 s00 s10 s20 s30 s01 s11 s21 s31 isk fnd nhour nair nrub nz nnb nkd ncl (upd ngr_56 (x4_56).toNatClampNeg ((snum 3) (x4_56).toNatClampNeg)) noc nlit ncold nccell ncpow nsp nwm ndr sbits ssize snum) rfl dX6_load_112 ?_
                  refine ik_iinc C [(4, .int (x4_56 + (1 : Int32))), (3, .int (ik_min (ssize 3) nnb)), (2, .ref s30), (0, .ref o0), (1, .int x1)] 0 rfl rfl (by decide) rfl dX6_load_113 ?_
                  refine ik_goto C 56 dX6_load_116 (by decide) ?_
                  exact ik_sub [0, 1, 2, 3, 4] [(4, .int (x4_56 + (1 : Int32))), (3, .int (ik_min (ssize 3) nnb)), (2, .ref s30), (0, .ref o0), (1, .int x1)] rfl (ih_56 (upd ngr_56 (x4_56).toNatClampNeg ((snum 3) (x4_56).toNatClampNeg)) (x4_56 + (1 : Int32)) hf)
        exact hL_56 ik_fu ngr (0 : Int32) hf
      · have hf := ik_neg hc hf
        refine ik_aload_n C 1 rfl rfl dX6_load_28 ?_
        refine ik_ldc C wl_43_13 dX6_load_29 ?_
        obtain ⟨r3, g4, hc4, hf⟩ := ik_b2s hf
        have hM := (c_X6_tell l D cI cS o0 np0 kp0 tp0 r0 t0 sh0 f0 isk fnd (-1000006 : Int32) r3 g4 hc4)
        refine ik_goW (v := (some (.int r3))) (wc := (wz_X6of cI cS o0 np0 kp0 tp0 r0 t0 sh0 f0 isk fnd)) (w1 := (wz_X6of cI cS o0 np0 kp0 tp0 r0 t0 sh0 f0 isk g4)) [0, 1] [2, 3, 4, 5, 6, 7, 8, 9, 10, 11, 12, 13, 14, 15, 16, 17, 18, 19, 20, 21, 22] 23 rfl rfl (wz_X6ofns cI cS o0 np0 kp0 tp0 r0 t0 sh0 f0 nw0 nc0 np1 np2 np3 nw1 nw2 nw3 nw4 nc1 nc2 s00 s10 s20 s30 s01 s11 s21 s31 isk g4 nhour nair nrub nz nnb nkd ncl ngr noc nlit ncold nccell ncpow nsp nwm ndr sbits ssize snum) rfl [(np0, .inr (1, [.ref nw0, .ref nc0, .ref np1, .int nhour, .int nair, .int nrub, .int nz, .ref np2, .ref np3])), (nw0, .inr (5, [.int nnb, .ref nw1, .ref nw2, .ref nw3, .ref nw4])), (nw1, .inl (cI, 16, .inl nkd)), (nw2, .inl (cI, 16, .inl ncl)), (nw3, .inl (cI, 16, .inl ngr)), (nw4, .inl (cI, 48, .inl noc)), (nc0, .inr (0, [.ref nc1, .ref nc2, .int nlit, .int ncold])), (nc1, .inl (cI, 6, .inl nccell)), (nc2, .inl (cI, 6, .inl ncpow)), (np1, .inl (cI, 10, .inl nsp)), (np2, .inl (cI, 16, .inl nwm)), (np3, .inl (cI, 8, .inl ndr)), (sh0, .inl (cS, 4, .inr (.inr (.inr (.inr (ik_ref4 s00 s10 s20 s30)))))), (s00, .inr (2, [.int (sbits 0), .int (ssize 0), .ref s01])), (s01, .inl (cI, 40, .inl (snum 0))), (s10, .inr (2, [.int (sbits 1), .int (ssize 1), .ref s11])), (s11, .inl (cI, 40, .inl (snum 1))), (s20, .inr (2, [.int (sbits 2), .int (ssize 2), .ref s21])), (s21, .inl (cI, 40, .inl (snum 2))), (s30, .inr (2, [.int (sbits 3), .int (ssize 3), .ref s31])), (s31, .inl (cI, 40, .inl (snum 3)))] rfl rfl rfl (by decide +kernel) (ik_runV (st := []) (As := [.int (-1000006 : Int32)]) C hM mv_X6_tell wl_5_16 ⟨rfl, rfl, Nat.le_of_ble_eq_true rfl, Nat.le_of_ble_eq_true rfl⟩ [0, 1] rfl (by decide +kernel) 0 rfl rfl rfl rfl (Nat.le_of_ble_eq_true rfl) dX6_load_31 ⟨Nat.zero_le _, Nat.zero_le _⟩) rfl ?_
        obtain ⟨rfl, rfl, rfl⟩ := ik_e3 hf
        exact ik_iretW C hr hlk dX6_load_34
  · have hf := ik_pos hc hf
    refine ik_aload_n C 0 rfl rfl dX6_load_7 ?_
    refine ik_ldc C wl_5_3 dX6_load_8 ?_
    obtain ⟨r2, g3, hc3, hf⟩ := ik_b2s hf
    have hM := (c_X6_tell l D cI cS o0 np0 kp0 tp0 r0 t0 sh0 f0 isk fnd (-1000001 : Int32) r2 g3 hc3)
    refine ik_goW (v := (some (.int r2))) (wc := (wz_X6of cI cS o0 np0 kp0 tp0 r0 t0 sh0 f0 isk fnd)) (w1 := (wz_X6of cI cS o0 np0 kp0 tp0 r0 t0 sh0 f0 isk g3)) [0, 1] [2, 3, 4, 5, 6, 7, 8, 9, 10, 11, 12, 13, 14, 15, 16, 17, 18, 19, 20, 21, 22] 23 rfl rfl (wz_X6ofns cI cS o0 np0 kp0 tp0 r0 t0 sh0 f0 nw0 nc0 np1 np2 np3 nw1 nw2 nw3 nw4 nc1 nc2 s00 s10 s20 s30 s01 s11 s21 s31 isk g3 nhour nair nrub nz nnb nkd ncl ngr noc nlit ncold nccell ncpow nsp nwm ndr sbits ssize snum) rfl [(np0, .inr (1, [.ref nw0, .ref nc0, .ref np1, .int nhour, .int nair, .int nrub, .int nz, .ref np2, .ref np3])), (nw0, .inr (5, [.int nnb, .ref nw1, .ref nw2, .ref nw3, .ref nw4])), (nw1, .inl (cI, 16, .inl nkd)), (nw2, .inl (cI, 16, .inl ncl)), (nw3, .inl (cI, 16, .inl ngr)), (nw4, .inl (cI, 48, .inl noc)), (nc0, .inr (0, [.ref nc1, .ref nc2, .int nlit, .int ncold])), (nc1, .inl (cI, 6, .inl nccell)), (nc2, .inl (cI, 6, .inl ncpow)), (np1, .inl (cI, 10, .inl nsp)), (np2, .inl (cI, 16, .inl nwm)), (np3, .inl (cI, 8, .inl ndr)), (sh0, .inl (cS, 4, .inr (.inr (.inr (.inr (ik_ref4 s00 s10 s20 s30)))))), (s00, .inr (2, [.int (sbits 0), .int (ssize 0), .ref s01])), (s01, .inl (cI, 40, .inl (snum 0))), (s10, .inr (2, [.int (sbits 1), .int (ssize 1), .ref s11])), (s11, .inl (cI, 40, .inl (snum 1))), (s20, .inr (2, [.int (sbits 2), .int (ssize 2), .ref s21])), (s21, .inl (cI, 40, .inl (snum 2))), (s30, .inr (2, [.int (sbits 3), .int (ssize 3), .ref s31])), (s31, .inl (cI, 40, .inl (snum 3)))] rfl rfl rfl (by decide +kernel) (ik_runV (st := []) (As := [.int (-1000001 : Int32)]) C hM mv_X6_tell wl_5_16 ⟨rfl, rfl, Nat.le_of_ble_eq_true rfl, Nat.le_of_ble_eq_true rfl⟩ [0, 1] rfl (by decide +kernel) 0 rfl rfl rfl rfl (Nat.le_of_ble_eq_true rfl) dX6_load_10 ⟨Nat.zero_le _, Nat.zero_le _⟩) rfl ?_
    obtain ⟨rfl, rfl, rfl⟩ := ik_e3 hf
    exact ik_iretW C hr hlk dX6_load_13
theorem mv_X6_judge : ik_V yX6_judge RX6 cX6_judge 8 (some .int) 1 := ⟨wl_46_22, wl_46_23, wl_1_2, wl_47_0, by decide +kernel⟩
set_option maxHeartbeats 4000000 in
set_option maxRecDepth 100000 in
theorem c_X6_judge (l : Launch) (D : va_G) (cI cS : ClassId) (o0 np0 kp0 tp0 r0 t0 sh0 f0 nw0 nc0 np1 np2 np3 nw1 nw2 nw3 nw4 nc1 nc2 s00 s10 s20 s30 s01 s11 s21 s31 : Nat) (isk : Int32) (fnd : Nat → Int32) (nhour : Int32) (nair : Int32) (nrub : Int32) (nz : Int32) (nnb : Int32) (nkd : Nat → Int32) (ncl : Nat → Int32) (ngr : Nat → Int32) (noc : Nat → Int32) (nlit : Int32) (ncold : Int32) (nccell : Nat → Int32) (ncpow : Nat → Int32) (nsp : Nat → Int32) (nwm : Nat → Int32) (ndr : Nat → Int32) (sbits : Nat → Int32) (ssize : Nat → Int32) (snum : Nat → Nat → Int32) (x1 : Int32) (R : Int32) (fnd_r : Nat → Int32) (hf : f_X6_judge fnd nnb nkd ncl sbits ssize snum x1 = some (R, fnd_r)) : Met l yX6_judge (ik_ws yX6_judge cX6_judge 8 (some .int)) ({ frames := 2, cells := 0, slots := 0, locals := 50 } : Room) (ik_P D cI cS [.ref o0, .int x1] (wz_X6ofns cI cS o0 np0 kp0 tp0 r0 t0 sh0 f0 nw0 nc0 np1 np2 np3 nw1 nw2 nw3 nw4 nc1 nc2 s00 s10 s20 s30 s01 s11 s21 s31 isk fnd nhour nair nrub nz nnb nkd ncl ngr noc nlit ncold nccell ncpow nsp nwm ndr sbits ssize snum)) (ik_Q (some (.int R)) D (wz_X6ofns cI cS o0 np0 kp0 tp0 r0 t0 sh0 f0 nw0 nc0 np1 np2 np3 nw1 nw2 nw3 nw4 nc1 nc2 s00 s10 s20 s30 s01 s11 s21 s31 isk fnd_r nhour nair nrub nz nnb nkd ncl ngr noc nlit ncold nccell ncpow nsp nwm ndr sbits ssize snum) (wz_X6ofns cI cS o0 np0 kp0 tp0 r0 t0 sh0 f0 nw0 nc0 np1 np2 np3 nw1 nw2 nw3 nw4 nc1 nc2 s00 s10 s20 s30 s01 s11 s21 s31 isk fnd nhour nair nrub nz nnb nkd ncl ngr noc nlit ncold nccell ncpow nsp nwm ndr sbits ssize snum)) 0 0 (ik_in (wz_X6ofns cI cS o0 np0 kp0 tp0 r0 t0 sh0 f0 nw0 nc0 np1 np2 np3 nw1 nw2 nw3 nw4 nc1 nc2 s00 s10 s20 s30 s01 s11 s21 s31 isk fnd nhour nair nrub nz nnb nkd ncl ngr noc nlit ncold nccell ncpow nsp nwm ndr sbits ssize snum)) := by
  refine ik_metW RX6 rfl (by decide) (Nat.le_of_ble_eq_true rfl) [(0, .ref o0), (1, .int x1)] rfl ?_
  intro p e s m below meth c C hr hlk
  unfold f_X6_judge at hf
  refine ik_iload_n C 1 rfl rfl dX6_judge_0 ?_
  obtain ⟨r1, hc1, hf⟩ := ik_b1s hf
  have hM := (c_X6_isSheet l D cI cS x1 r1 hc1)
  refine ik_goR (ik_runS (st := []) (As := [.int x1]) C hM ms_X6_isSheet wl_44_9 ⟨rfl, rfl, Nat.le_of_ble_eq_true rfl, Nat.le_of_ble_eq_true rfl⟩ [] rfl (by decide +kernel) rfl rfl (Nat.le_of_ble_eq_true rfl) dX6_judge_1 ⟨Nat.zero_le _, Nat.zero_le _⟩) rfl ?_
  refine ik_if_ne C 14 dX6_judge_4 (by decide) (fun hc => ?_) (fun hc => ?_)
  · have hf := ik_neg hc hf
    refine ik_aload_n C 0 rfl rfl dX6_judge_14 ?_
    refine ik_get C inlX6 0 rfl rfl 6 (by decide) wl_2_1 rfl (v := .ref sh0) rfl dX6_judge_15 ?_
    refine ik_iload_n C 1 rfl rfl dX6_judge_18 ?_
    have hg := ik_gdi hf
    have hf := ik_gdk hf
    refine ik_aald4 C 14 rfl hg (a0 := s00) (a1 := s10) (a2 := s20) (a3 := s30) rfl rfl rfl rfl dX6_judge_19 (fun hc => ?_) (fun hb0 hc => ?_) (fun hb0 hb1 hc => ?_) (fun hb0 hb1 hb2 hc => ?_)
    · have hf := ik_pos hc hf
      refine ik_astore_n C [(2, .ref s00), (0, .ref o0), (1, .int x1)] rfl (by decide) rfl dX6_judge_20 ?_
      refine ik_aload_n C 0 rfl rfl dX6_judge_21 ?_
      obtain ⟨r2, hc2, hf⟩ := ik_b1s hf
      have hM := (c_X2_isMissing l D cI cS s00 s01 (sbits 0) (ssize 0) (snum 0) r2 hc2)
      refine ik_goR (ik_runV (st := []) (As := []) C hM mv_X2_isMissing wl_45_9 ⟨rfl, rfl, Nat.le_of_ble_eq_true rfl, Nat.le_of_ble_eq_true rfl⟩ [15, 16] rfl (by decide +kernel) 15 rfl rfl rfl rfl (Nat.le_of_ble_eq_true rfl) dX6_judge_22 ⟨Nat.zero_le _, Nat.zero_le _⟩) rfl ?_
      refine ik_if_eq C 35 dX6_judge_25 (by decide) (fun hc => ?_) (fun hc => ?_)
      · have hf := ik_pos hc hf
        refine ik_aload_n C 1 rfl rfl dX6_judge_35 ?_
        refine ik_get C inlX6 0 rfl rfl 0 (by decide) wl_1_15 rfl (v := .ref np0) rfl dX6_judge_36 ?_
        refine ik_get C inlX1 2 rfl rfl 0 (by decide) wl_5_4 rfl (v := .ref nw0) rfl dX6_judge_39 ?_
        refine ik_astore_n C [(3, .ref nw0), (2, .ref s00), (0, .ref o0), (1, .int x1)] rfl (by decide) rfl dX6_judge_42 ?_
        refine ik_lconst (v := (0 : Int64)) C (by decide) dX6_judge_43 ?_
        refine ik_lstore C [(4, .long (0 : Int64)), (3, .ref nw0), (2, .ref s00), (0, .ref o0), (1, .int x1)] (by decide) rfl dX6_judge_44 ?_
        refine ik_iconst (v := (0 : Int32)) C (by decide) dX6_judge_46 ?_
        refine ik_istore C [(6, .int (0 : Int32)), (4, .long (0 : Int64)), (3, .ref nw0), (2, .ref s00), (0, .ref o0), (1, .int x1)] (by decide) rfl dX6_judge_47 ?_
        have hL_49 : ∀ (n_49 : Nat) (x4_49 : Int64) (x6_49 : Int32), ik_lp2 (b_X6_judge_49 fnd nnb nkd ncl ssize snum) n_49 x4_49 x6_49 = some (R, fnd_r) → ik_G p l e ({ frames := 2, cells := 0, slots := 0, locals := 50 } : Room) s m ([.ref o0, .int x1] : List Value).toArray below meth c D (ik_in (wz_X6ofns cI cS o0 np0 kp0 tp0 r0 t0 sh0 f0 nw0 nc0 np1 np2 np3 nw1 nw2 nw3 nw4 nc1 nc2 s00 s10 s20 s30 s01 s11 s21 s31 isk fnd nhour nair nrub nz nnb nkd ncl ngr noc nlit ncold nccell ncpow nsp nwm ndr sbits ssize snum)) (ik_in (wz_X6ofns cI cS o0 np0 kp0 tp0 r0 t0 sh0 f0 nw0 nc0 np1 np2 np3 nw1 nw2 nw3 nw4 nc1 nc2 s00 s10 s20 s30 s01 s11 s21 s31 isk fnd nhour nair nrub nz nnb nkd ncl ngr noc nlit ncold nccell ncpow nsp nwm ndr sbits ssize snum)) 8 0 0 (MQ below (ik_Q (some (.int R)) D (wz_X6ofns cI cS o0 np0 kp0 tp0 r0 t0 sh0 f0 nw0 nc0 np1 np2 np3 nw1 nw2 nw3 nw4 nc1 nc2 s00 s10 s20 s30 s01 s11 s21 s31 isk fnd_r nhour nair nrub nz nnb nkd ncl ngr noc nlit ncold nccell ncpow nsp nwm ndr sbits ssize snum) (wz_X6ofns cI cS o0 np0 kp0 tp0 r0 t0 sh0 f0 nw0 nc0 np1 np2 np3 nw1 nw2 nw3 nw4 nc1 nc2 s00 s10 s20 s30 s01 s11 s21 s31 isk fnd nhour nair nrub nz nnb nkd ncl ngr noc nlit ncold nccell ncpow nsp nwm ndr sbits ssize snum)) ([.ref o0, .int x1] : List Value).toArray s 0 0 (ik_in (wz_X6ofns cI cS o0 np0 kp0 tp0 r0 t0 sh0 f0 nw0 nc0 np1 np2 np3 nw1 nw2 nw3 nw4 nc1 nc2 s00 s10 s20 s30 s01 s11 s21 s31 isk fnd nhour nair nrub nz nnb nkd ncl ngr noc nlit ncold nccell ncpow nsp nwm ndr sbits ssize snum))) 49 [(6, .int x6_49), (4, .long x4_49), (3, .ref nw0), (2, .ref s00), (0, .ref o0), (1, .int x1)] [] (wz_X6ofns cI cS o0 np0 kp0 tp0 r0 t0 sh0 f0 nw0 nc0 np1 np2 np3 nw1 nw2 nw3 nw4 nc1 nc2 s00 s10 s20 s30 s01 s11 s21 s31 isk fnd nhour nair nrub nz nnb nkd ncl ngr noc nlit ncold nccell ncpow nsp nwm ndr sbits ssize snum) := by
          intro n_49
          induction n_49 with
          | zero => intro _ _ hf; exact nomatch hf
          | succ n_49 ih_49 =>
            intro x4_49 x6_49 hf
            replace hf : b_X6_judge_49 fnd nnb nkd ncl ssize snum (ik_lp2 (b_X6_judge_49 fnd nnb nkd ncl ssize snum) n_49) x4_49 x6_49 = some (R, fnd_r) := hf
            unfold b_X6_judge_49 at hf
            refine ik_iload C 0 rfl dX6_judge_49 ?_
            refine ik_aload_n C 3 rfl rfl dX6_judge_51 ?_
            refine ik_get C inlX2 15 rfl rfl 1 (by decide) wl_45_8 rfl (v := .int (ssize 0)) rfl dX6_judge_52 ?_
            refine ik_icmp_ge C 109 dX6_judge_55 (by decide) (fun hc => ?_) (fun hc => ?_)
            · have hf := ik_pos hc hf
              refine ik_lload C 1 rfl dX6_judge_109 ?_
              refine ik_aload_n C 2 rfl rfl dX6_judge_111 ?_
              obtain ⟨r3, hc3, hf⟩ := ik_b1s hf
              have hM := (c_X5_occupied l D cI cS nw0 nw1 nw2 nw3 nw4 nnb nkd ncl ngr noc r3 hc3)
              refine ik_goR (ik_runV (st := [.long x4_49]) (As := []) C hM mv_X5_occupied wl_29_22 ⟨rfl, rfl, Nat.le_of_ble_eq_true rfl, Nat.le_of_ble_eq_true rfl⟩ [3, 4, 5, 6, 7] rfl (by decide +kernel) 3 rfl rfl rfl rfl (Nat.le_of_ble_eq_true rfl) dX6_judge_112 ⟨Nat.zero_le _, Nat.zero_le _⟩) rfl ?_
              refine ik_lcmp C dX6_judge_115 ?_
              refine ik_if_ne C 123 dX6_judge_116 (by decide) (fun hc => ?_) (fun hc => ?_)
              · have hf := ik_neg hc hf
                refine ik_bipush (v := (41 : Int32)) C (by decide) dX6_judge_123 ?_
                obtain ⟨rfl, rfl⟩ := ik_e2 hf
                exact ik_iretW C hr hlk dX6_judge_125
              · have hf := ik_pos hc hf
                refine ik_iconst (v := (0 : Int32)) C (by decide) dX6_judge_119 ?_
                refine ik_goto C 125 dX6_judge_120 (by decide) ?_
                obtain ⟨rfl, rfl⟩ := ik_e2 hf
                exact ik_iretW C hr hlk dX6_judge_125
            · have hf := ik_neg hc hf
              refine ik_aload_n C 3 rfl rfl dX6_judge_58 ?_
              refine ik_get C inlX2 15 rfl rfl 2 (by decide) wl_46_2 rfl (v := .ref s01) rfl dX6_judge_59 ?_
              refine ik_iload C 0 rfl dX6_judge_62 ?_
              have hg := ik_gdi hf
              have hf := ik_gdk hf
              refine ik_iald C 16 rfl hg dX6_judge_64 ?_
              refine ik_istore C [(7, .int ((snum 0) (x6_49).toNatClampNeg)), (6, .int x6_49), (4, .long x4_49), (3, .ref nw0), (2, .ref s00), (0, .ref o0), (1, .int x1)] (by decide) rfl dX6_judge_65 ?_
              refine ik_aload_n C 3 rfl rfl dX6_judge_67 ?_
              refine ik_iload C 0 rfl dX6_judge_68 ?_
              obtain ⟨r3, hc3, hf⟩ := ik_b1s hf
              have hM := (c_X5_isBlock l D cI cS nw0 nw1 nw2 nw3 nw4 nnb nkd ncl ngr noc ((snum 0) (x6_49).toNatClampNeg) r3 hc3)
              refine ik_goR (ik_runV (st := []) (As := [.int ((snum 0) (x6_49).toNatClampNeg)]) C hM mv_X5_isBlock wl_8_7 ⟨rfl, rfl, Nat.le_of_ble_eq_true rfl, Nat.le_of_ble_eq_true rfl⟩ [3, 4, 5, 6, 7] rfl (by decide +kernel) 3 rfl rfl rfl rfl (Nat.le_of_ble_eq_true rfl) dX6_judge_70 ⟨Nat.zero_le _, Nat.zero_le _⟩) rfl ?_
              refine ik_if_eq C 87 dX6_judge_73 (by decide) (fun hc => ?_) (fun hc => ?_)
              · have hf := ik_pos hc hf
                refine ik_iconst (v := (1 : Int32)) C (by decide) dX6_judge_87 ?_
                refine ik_iload C 1 rfl dX6_judge_88 ?_
                refine ik_iadd C dX6_judge_90 ?_
                obtain ⟨rfl, rfl⟩ := ik_e2 hf
                exact ik_iretW C hr hlk dX6_judge_91
              · have hf := ik_neg hc hf
                refine ik_aload_n C 3 rfl rfl dX6_judge_76 ?_
                refine ik_iload C 0 rfl dX6_judge_77 ?_
                refine ik_lload C 2 rfl dX6_judge_79 ?_
                obtain ⟨r4, hc4, hf⟩ := ik_b1s hf
                have hM := (c_X5_isComer l D cI cS nw0 nw1 nw2 nw3 nw4 nnb nkd ncl ngr noc ((snum 0) (x6_49).toNatClampNeg) x4_49 r4 hc4)
                refine ik_goR (ik_runV (st := []) (As := [.int ((snum 0) (x6_49).toNatClampNeg), .long x4_49]) C hM mv_X5_isComer wl_47_1 ⟨rfl, rfl, Nat.le_of_ble_eq_true rfl, Nat.le_of_ble_eq_true rfl⟩ [3, 4, 5, 6, 7] rfl (by decide +kernel) 3 rfl rfl rfl rfl (Nat.le_of_ble_eq_true rfl) dX6_judge_81 ⟨Nat.zero_le _, Nat.zero_le _⟩) rfl ?_
                refine ik_if_ne C 92 dX6_judge_84 (by decide) (fun hc => ?_) (fun hc => ?_)
                · have hf := ik_neg hc hf
                  refine ik_lload C 2 rfl dX6_judge_92 ?_
                  refine ik_aload_n C 3 rfl rfl dX6_judge_94 ?_
                  refine ik_iload C 0 rfl dX6_judge_95 ?_
                  obtain ⟨r5, hc5, hf⟩ := ik_b1s hf
                  have hM := (c_X5_cellBit l D cI cS nw0 nw1 nw2 nw3 nw4 nnb nkd ncl ngr noc ((snum 0) (x6_49).toNatClampNeg) r5 hc5)
                  refine ik_goR (ik_runV (st := [.long x4_49]) (As := [.int ((snum 0) (x6_49).toNatClampNeg)]) C hM mv_X5_cellBit wl_9_3 ⟨rfl, rfl, Nat.le_of_ble_eq_true rfl, Nat.le_of_ble_eq_true rfl⟩ [3, 4, 5, 6, 7] rfl (by decide +kernel) 3 rfl rfl rfl rfl (Nat.le_of_ble_eq_true rfl) dX6_judge_97 ⟨Nat.zero_le _, Nat.zero_le _⟩) rfl ?_
                  refine ik_lor C dX6_judge_100 ?_
                  refine ik_lstore C [(4, .long (x4_49 ||| r5)), (7, .int ((snum 0) (x6_49).toNatClampNeg)), (6, .int x6_49), (3, .ref nw0), (2, .ref s00), (0, .ref o0), (1, .int x1)] (by decide) rfl dX6_judge_101 ?_
                  refine ik_iinc C [(6, .int (x6_49 + (1 : Int32))), (4, .long (x4_49 ||| r5)), (7, .int ((snum 0) (x6_49).toNatClampNeg)), (3, .ref nw0), (2, .ref s00), (0, .ref o0), (1, .int x1)] 2 rfl rfl (by decide) rfl dX6_judge_103 ?_
                  refine ik_goto C 49 dX6_judge_106 (by decide) ?_
                  exact ik_sub [0, 1, 3, 4, 5, 6] [(6, .int (x6_49 + (1 : Int32))), (4, .long (x4_49 ||| r5)), (3, .ref nw0), (2, .ref s00), (0, .ref o0), (1, .int x1)] rfl (ih_49 (x4_49 ||| r5) (x6_49 + (1 : Int32)) hf)
                · have hf := ik_pos hc hf
                  refine ik_iconst (v := (1 : Int32)) C (by decide) dX6_judge_87 ?_
                  refine ik_iload C 1 rfl dX6_judge_88 ?_
                  refine ik_iadd C dX6_judge_90 ?_
                  obtain ⟨rfl, rfl⟩ := ik_e2 hf
                  exact ik_iretW C hr hlk dX6_judge_91
        exact hL_49 ik_fu (0 : Int64) (0 : Int32) hf
      · have hf := ik_neg hc hf
        refine ik_aload_n C 1 rfl rfl dX6_judge_28 ?_
        refine ik_ldc C wl_43_13 dX6_judge_29 ?_
        obtain ⟨r3, g4, hc4, hf⟩ := ik_b2s hf
        have hM := (c_X6_tell l D cI cS o0 np0 kp0 tp0 r0 t0 sh0 f0 isk fnd (-1000006 : Int32) r3 g4 hc4)
        refine ik_goW (v := (some (.int r3))) (wc := (wz_X6of cI cS o0 np0 kp0 tp0 r0 t0 sh0 f0 isk fnd)) (w1 := (wz_X6of cI cS o0 np0 kp0 tp0 r0 t0 sh0 f0 isk g4)) [0, 1] [2, 3, 4, 5, 6, 7, 8, 9, 10, 11, 12, 13, 14, 15, 16, 17, 18, 19, 20, 21, 22] 23 rfl rfl (wz_X6ofns cI cS o0 np0 kp0 tp0 r0 t0 sh0 f0 nw0 nc0 np1 np2 np3 nw1 nw2 nw3 nw4 nc1 nc2 s00 s10 s20 s30 s01 s11 s21 s31 isk g4 nhour nair nrub nz nnb nkd ncl ngr noc nlit ncold nccell ncpow nsp nwm ndr sbits ssize snum) rfl [(np0, .inr (1, [.ref nw0, .ref nc0, .ref np1, .int nhour, .int nair, .int nrub, .int nz, .ref np2, .ref np3])), (nw0, .inr (5, [.int nnb, .ref nw1, .ref nw2, .ref nw3, .ref nw4])), (nw1, .inl (cI, 16, .inl nkd)), (nw2, .inl (cI, 16, .inl ncl)), (nw3, .inl (cI, 16, .inl ngr)), (nw4, .inl (cI, 48, .inl noc)), (nc0, .inr (0, [.ref nc1, .ref nc2, .int nlit, .int ncold])), (nc1, .inl (cI, 6, .inl nccell)), (nc2, .inl (cI, 6, .inl ncpow)), (np1, .inl (cI, 10, .inl nsp)), (np2, .inl (cI, 16, .inl nwm)), (np3, .inl (cI, 8, .inl ndr)), (sh0, .inl (cS, 4, .inr (.inr (.inr (.inr (ik_ref4 s00 s10 s20 s30)))))), (s00, .inr (2, [.int (sbits 0), .int (ssize 0), .ref s01])), (s01, .inl (cI, 40, .inl (snum 0))), (s10, .inr (2, [.int (sbits 1), .int (ssize 1), .ref s11])), (s11, .inl (cI, 40, .inl (snum 1))), (s20, .inr (2, [.int (sbits 2), .int (ssize 2), .ref s21])), (s21, .inl (cI, 40, .inl (snum 2))), (s30, .inr (2, [.int (sbits 3), .int (ssize 3), .ref s31])), (s31, .inl (cI, 40, .inl (snum 3)))] rfl rfl rfl (by decide +kernel) (ik_runV (st := []) (As := [.int (-1000006 : Int32)]) C hM mv_X6_tell wl_5_16 ⟨rfl, rfl, Nat.le_of_ble_eq_true rfl, Nat.le_of_ble_eq_true rfl⟩ [0, 1] rfl (by decide +kernel) 0 rfl rfl rfl rfl (Nat.le_of_ble_eq_true rfl) dX6_judge_31 ⟨Nat.zero_le _, Nat.zero_le _⟩) rfl ?_
        obtain ⟨rfl, rfl⟩ := ik_e2 hf
        exact ik_iretW C hr hlk dX6_judge_34
    · have hf := ik_neg hb0 hf; have hf := ik_pos hc hf
      refine ik_astore_n C [(2, .ref s10), (0, .ref o0), (1, .int x1)] rfl (by decide) rfl dX6_judge_20 ?_
      refine ik_aload_n C 0 rfl rfl dX6_judge_21 ?_
      obtain ⟨r2, hc2, hf⟩ := ik_b1s hf
      have hM := (c_X2_isMissing l D cI cS s10 s11 (sbits 1) (ssize 1) (snum 1) r2 hc2)
      refine ik_goR (ik_runV (st := []) (As := []) C hM mv_X2_isMissing wl_45_9 ⟨rfl, rfl, Nat.le_of_ble_eq_true rfl, Nat.le_of_ble_eq_true rfl⟩ [17, 18] rfl (by decide +kernel) 17 rfl rfl rfl rfl (Nat.le_of_ble_eq_true rfl) dX6_judge_22 ⟨Nat.zero_le _, Nat.zero_le _⟩) rfl ?_
      refine ik_if_eq C 35 dX6_judge_25 (by decide) (fun hc => ?_) (fun hc => ?_)
      · have hf := ik_pos hc hf
        refine ik_aload_n C 1 rfl rfl dX6_judge_35 ?_
        refine ik_get C inlX6 0 rfl rfl 0 (by decide) wl_1_15 rfl (v := .ref np0) rfl dX6_judge_36 ?_
        refine ik_get C inlX1 2 rfl rfl 0 (by decide) wl_5_4 rfl (v := .ref nw0) rfl dX6_judge_39 ?_
        refine ik_astore_n C [(3, .ref nw0), (2, .ref s10), (0, .ref o0), (1, .int x1)] rfl (by decide) rfl dX6_judge_42 ?_
        refine ik_lconst (v := (0 : Int64)) C (by decide) dX6_judge_43 ?_
        refine ik_lstore C [(4, .long (0 : Int64)), (3, .ref nw0), (2, .ref s10), (0, .ref o0), (1, .int x1)] (by decide) rfl dX6_judge_44 ?_
        refine ik_iconst (v := (0 : Int32)) C (by decide) dX6_judge_46 ?_
        refine ik_istore C [(6, .int (0 : Int32)), (4, .long (0 : Int64)), (3, .ref nw0), (2, .ref s10), (0, .ref o0), (1, .int x1)] (by decide) rfl dX6_judge_47 ?_
        have hL_49 : ∀ (n_49 : Nat) (x4_49 : Int64) (x6_49 : Int32), ik_lp2 (b_X6_judge_49s1 fnd nnb nkd ncl ssize snum) n_49 x4_49 x6_49 = some (R, fnd_r) → ik_G p l e ({ frames := 2, cells := 0, slots := 0, locals := 50 } : Room) s m ([.ref o0, .int x1] : List Value).toArray below meth c D (ik_in (wz_X6ofns cI cS o0 np0 kp0 tp0 r0 t0 sh0 f0 nw0 nc0 np1 np2 np3 nw1 nw2 nw3 nw4 nc1 nc2 s00 s10 s20 s30 s01 s11 s21 s31 isk fnd nhour nair nrub nz nnb nkd ncl ngr noc nlit ncold nccell ncpow nsp nwm ndr sbits ssize snum)) (ik_in (wz_X6ofns cI cS o0 np0 kp0 tp0 r0 t0 sh0 f0 nw0 nc0 np1 np2 np3 nw1 nw2 nw3 nw4 nc1 nc2 s00 s10 s20 s30 s01 s11 s21 s31 isk fnd nhour nair nrub nz nnb nkd ncl ngr noc nlit ncold nccell ncpow nsp nwm ndr sbits ssize snum)) 8 0 0 (MQ below (ik_Q (some (.int R)) D (wz_X6ofns cI cS o0 np0 kp0 tp0 r0 t0 sh0 f0 nw0 nc0 np1 np2 np3 nw1 nw2 nw3 nw4 nc1 nc2 s00 s10 s20 s30 s01 s11 s21 s31 isk fnd_r nhour nair nrub nz nnb nkd ncl ngr noc nlit ncold nccell ncpow nsp nwm ndr sbits ssize snum) (wz_X6ofns cI cS o0 np0 kp0 tp0 r0 t0 sh0 f0 nw0 nc0 np1 np2 np3 nw1 nw2 nw3 nw4 nc1 nc2 s00 s10 s20 s30 s01 s11 s21 s31 isk fnd nhour nair nrub nz nnb nkd ncl ngr noc nlit ncold nccell ncpow nsp nwm ndr sbits ssize snum)) ([.ref o0, .int x1] : List Value).toArray s 0 0 (ik_in (wz_X6ofns cI cS o0 np0 kp0 tp0 r0 t0 sh0 f0 nw0 nc0 np1 np2 np3 nw1 nw2 nw3 nw4 nc1 nc2 s00 s10 s20 s30 s01 s11 s21 s31 isk fnd nhour nair nrub nz nnb nkd ncl ngr noc nlit ncold nccell ncpow nsp nwm ndr sbits ssize snum))) 49 [(6, .int x6_49), (4, .long x4_49), (3, .ref nw0), (2, .ref s10), (0, .ref o0), (1, .int x1)] [] (wz_X6ofns cI cS o0 np0 kp0 tp0 r0 t0 sh0 f0 nw0 nc0 np1 np2 np3 nw1 nw2 nw3 nw4 nc1 nc2 s00 s10 s20 s30 s01 s11 s21 s31 isk fnd nhour nair nrub nz nnb nkd ncl ngr noc nlit ncold nccell ncpow nsp nwm ndr sbits ssize snum) := by
          intro n_49
          induction n_49 with
          | zero => intro _ _ hf; exact nomatch hf
          | succ n_49 ih_49 =>
            intro x4_49 x6_49 hf
            replace hf : b_X6_judge_49s1 fnd nnb nkd ncl ssize snum (ik_lp2 (b_X6_judge_49s1 fnd nnb nkd ncl ssize snum) n_49) x4_49 x6_49 = some (R, fnd_r) := hf
            unfold b_X6_judge_49s1 at hf
            refine ik_iload C 0 rfl dX6_judge_49 ?_
            refine ik_aload_n C 3 rfl rfl dX6_judge_51 ?_
            refine ik_get C inlX2 17 rfl rfl 1 (by decide) wl_45_8 rfl (v := .int (ssize 1)) rfl dX6_judge_52 ?_
            refine ik_icmp_ge C 109 dX6_judge_55 (by decide) (fun hc => ?_) (fun hc => ?_)
            · have hf := ik_pos hc hf
              refine ik_lload C 1 rfl dX6_judge_109 ?_
              refine ik_aload_n C 2 rfl rfl dX6_judge_111 ?_
              obtain ⟨r3, hc3, hf⟩ := ik_b1s hf
              have hM := (c_X5_occupied l D cI cS nw0 nw1 nw2 nw3 nw4 nnb nkd ncl ngr noc r3 hc3)
              refine ik_goR (ik_runV (st := [.long x4_49]) (As := []) C hM mv_X5_occupied wl_29_22 ⟨rfl, rfl, Nat.le_of_ble_eq_true rfl, Nat.le_of_ble_eq_true rfl⟩ [3, 4, 5, 6, 7] rfl (by decide +kernel) 3 rfl rfl rfl rfl (Nat.le_of_ble_eq_true rfl) dX6_judge_112 ⟨Nat.zero_le _, Nat.zero_le _⟩) rfl ?_
              refine ik_lcmp C dX6_judge_115 ?_
              refine ik_if_ne C 123 dX6_judge_116 (by decide) (fun hc => ?_) (fun hc => ?_)
              · have hf := ik_neg hc hf
                refine ik_bipush (v := (41 : Int32)) C (by decide) dX6_judge_123 ?_
                obtain ⟨rfl, rfl⟩ := ik_e2 hf
                exact ik_iretW C hr hlk dX6_judge_125
              · have hf := ik_pos hc hf
                refine ik_iconst (v := (0 : Int32)) C (by decide) dX6_judge_119 ?_
                refine ik_goto C 125 dX6_judge_120 (by decide) ?_
                obtain ⟨rfl, rfl⟩ := ik_e2 hf
                exact ik_iretW C hr hlk dX6_judge_125
            · have hf := ik_neg hc hf
              refine ik_aload_n C 3 rfl rfl dX6_judge_58 ?_
              refine ik_get C inlX2 17 rfl rfl 2 (by decide) wl_46_2 rfl (v := .ref s11) rfl dX6_judge_59 ?_
              refine ik_iload C 0 rfl dX6_judge_62 ?_
              have hg := ik_gdi hf
              have hf := ik_gdk hf
              refine ik_iald C 18 rfl hg dX6_judge_64 ?_
              refine ik_istore C [(7, .int ((snum 1) (x6_49).toNatClampNeg)), (6, .int x6_49), (4, .long x4_49), (3, .ref nw0), (2, .ref s10), (0, .ref o0), (1, .int x1)] (by decide) rfl dX6_judge_65 ?_
              refine ik_aload_n C 3 rfl rfl dX6_judge_67 ?_
              refine ik_iload C 0 rfl dX6_judge_68 ?_
              obtain ⟨r3, hc3, hf⟩ := ik_b1s hf
              have hM := (c_X5_isBlock l D cI cS nw0 nw1 nw2 nw3 nw4 nnb nkd ncl ngr noc ((snum 1) (x6_49).toNatClampNeg) r3 hc3)
              refine ik_goR (ik_runV (st := []) (As := [.int ((snum 1) (x6_49).toNatClampNeg)]) C hM mv_X5_isBlock wl_8_7 ⟨rfl, rfl, Nat.le_of_ble_eq_true rfl, Nat.le_of_ble_eq_true rfl⟩ [3, 4, 5, 6, 7] rfl (by decide +kernel) 3 rfl rfl rfl rfl (Nat.le_of_ble_eq_true rfl) dX6_judge_70 ⟨Nat.zero_le _, Nat.zero_le _⟩) rfl ?_
              refine ik_if_eq C 87 dX6_judge_73 (by decide) (fun hc => ?_) (fun hc => ?_)
              · have hf := ik_pos hc hf
                refine ik_iconst (v := (1 : Int32)) C (by decide) dX6_judge_87 ?_
                refine ik_iload C 1 rfl dX6_judge_88 ?_
                refine ik_iadd C dX6_judge_90 ?_
                obtain ⟨rfl, rfl⟩ := ik_e2 hf
                exact ik_iretW C hr hlk dX6_judge_91
              · have hf := ik_neg hc hf
                refine ik_aload_n C 3 rfl rfl dX6_judge_76 ?_
                refine ik_iload C 0 rfl dX6_judge_77 ?_
                refine ik_lload C 2 rfl dX6_judge_79 ?_
                obtain ⟨r4, hc4, hf⟩ := ik_b1s hf
                have hM := (c_X5_isComer l D cI cS nw0 nw1 nw2 nw3 nw4 nnb nkd ncl ngr noc ((snum 1) (x6_49).toNatClampNeg) x4_49 r4 hc4)
                refine ik_goR (ik_runV (st := []) (As := [.int ((snum 1) (x6_49).toNatClampNeg), .long x4_49]) C hM mv_X5_isComer wl_47_1 ⟨rfl, rfl, Nat.le_of_ble_eq_true rfl, Nat.le_of_ble_eq_true rfl⟩ [3, 4, 5, 6, 7] rfl (by decide +kernel) 3 rfl rfl rfl rfl (Nat.le_of_ble_eq_true rfl) dX6_judge_81 ⟨Nat.zero_le _, Nat.zero_le _⟩) rfl ?_
                refine ik_if_ne C 92 dX6_judge_84 (by decide) (fun hc => ?_) (fun hc => ?_)
                · have hf := ik_neg hc hf
                  refine ik_lload C 2 rfl dX6_judge_92 ?_
                  refine ik_aload_n C 3 rfl rfl dX6_judge_94 ?_
                  refine ik_iload C 0 rfl dX6_judge_95 ?_
                  obtain ⟨r5, hc5, hf⟩ := ik_b1s hf
                  have hM := (c_X5_cellBit l D cI cS nw0 nw1 nw2 nw3 nw4 nnb nkd ncl ngr noc ((snum 1) (x6_49).toNatClampNeg) r5 hc5)
                  refine ik_goR (ik_runV (st := [.long x4_49]) (As := [.int ((snum 1) (x6_49).toNatClampNeg)]) C hM mv_X5_cellBit wl_9_3 ⟨rfl, rfl, Nat.le_of_ble_eq_true rfl, Nat.le_of_ble_eq_true rfl⟩ [3, 4, 5, 6, 7] rfl (by decide +kernel) 3 rfl rfl rfl rfl (Nat.le_of_ble_eq_true rfl) dX6_judge_97 ⟨Nat.zero_le _, Nat.zero_le _⟩) rfl ?_
                  refine ik_lor C dX6_judge_100 ?_
                  refine ik_lstore C [(4, .long (x4_49 ||| r5)), (7, .int ((snum 1) (x6_49).toNatClampNeg)), (6, .int x6_49), (3, .ref nw0), (2, .ref s10), (0, .ref o0), (1, .int x1)] (by decide) rfl dX6_judge_101 ?_
                  refine ik_iinc C [(6, .int (x6_49 + (1 : Int32))), (4, .long (x4_49 ||| r5)), (7, .int ((snum 1) (x6_49).toNatClampNeg)), (3, .ref nw0), (2, .ref s10), (0, .ref o0), (1, .int x1)] 2 rfl rfl (by decide) rfl dX6_judge_103 ?_
                  refine ik_goto C 49 dX6_judge_106 (by decide) ?_
                  exact ik_sub [0, 1, 3, 4, 5, 6] [(6, .int (x6_49 + (1 : Int32))), (4, .long (x4_49 ||| r5)), (3, .ref nw0), (2, .ref s10), (0, .ref o0), (1, .int x1)] rfl (ih_49 (x4_49 ||| r5) (x6_49 + (1 : Int32)) hf)
                · have hf := ik_pos hc hf
                  refine ik_iconst (v := (1 : Int32)) C (by decide) dX6_judge_87 ?_
                  refine ik_iload C 1 rfl dX6_judge_88 ?_
                  refine ik_iadd C dX6_judge_90 ?_
                  obtain ⟨rfl, rfl⟩ := ik_e2 hf
                  exact ik_iretW C hr hlk dX6_judge_91
        exact hL_49 ik_fu (0 : Int64) (0 : Int32) hf
      · have hf := ik_neg hc hf
        refine ik_aload_n C 1 rfl rfl dX6_judge_28 ?_
        refine ik_ldc C wl_43_13 dX6_judge_29 ?_
        obtain ⟨r3, g4, hc4, hf⟩ := ik_b2s hf
        have hM := (c_X6_tell l D cI cS o0 np0 kp0 tp0 r0 t0 sh0 f0 isk fnd (-1000006 : Int32) r3 g4 hc4)
        refine ik_goW (v := (some (.int r3))) (wc := (wz_X6of cI cS o0 np0 kp0 tp0 r0 t0 sh0 f0 isk fnd)) (w1 := (wz_X6of cI cS o0 np0 kp0 tp0 r0 t0 sh0 f0 isk g4)) [0, 1] [2, 3, 4, 5, 6, 7, 8, 9, 10, 11, 12, 13, 14, 15, 16, 17, 18, 19, 20, 21, 22] 23 rfl rfl (wz_X6ofns cI cS o0 np0 kp0 tp0 r0 t0 sh0 f0 nw0 nc0 np1 np2 np3 nw1 nw2 nw3 nw4 nc1 nc2 s00 s10 s20 s30 s01 s11 s21 s31 isk g4 nhour nair nrub nz nnb nkd ncl ngr noc nlit ncold nccell ncpow nsp nwm ndr sbits ssize snum) rfl [(np0, .inr (1, [.ref nw0, .ref nc0, .ref np1, .int nhour, .int nair, .int nrub, .int nz, .ref np2, .ref np3])), (nw0, .inr (5, [.int nnb, .ref nw1, .ref nw2, .ref nw3, .ref nw4])), (nw1, .inl (cI, 16, .inl nkd)), (nw2, .inl (cI, 16, .inl ncl)), (nw3, .inl (cI, 16, .inl ngr)), (nw4, .inl (cI, 48, .inl noc)), (nc0, .inr (0, [.ref nc1, .ref nc2, .int nlit, .int ncold])), (nc1, .inl (cI, 6, .inl nccell)), (nc2, .inl (cI, 6, .inl ncpow)), (np1, .inl (cI, 10, .inl nsp)), (np2, .inl (cI, 16, .inl nwm)), (np3, .inl (cI, 8, .inl ndr)), (sh0, .inl (cS, 4, .inr (.inr (.inr (.inr (ik_ref4 s00 s10 s20 s30)))))), (s00, .inr (2, [.int (sbits 0), .int (ssize 0), .ref s01])), (s01, .inl (cI, 40, .inl (snum 0))), (s10, .inr (2, [.int (sbits 1), .int (ssize 1), .ref s11])), (s11, .inl (cI, 40, .inl (snum 1))), (s20, .inr (2, [.int (sbits 2), .int (ssize 2), .ref s21])), (s21, .inl (cI, 40, .inl (snum 2))), (s30, .inr (2, [.int (sbits 3), .int (ssize 3), .ref s31])), (s31, .inl (cI, 40, .inl (snum 3)))] rfl rfl rfl (by decide +kernel) (ik_runV (st := []) (As := [.int (-1000006 : Int32)]) C hM mv_X6_tell wl_5_16 ⟨rfl, rfl, Nat.le_of_ble_eq_true rfl, Nat.le_of_ble_eq_true rfl⟩ [0, 1] rfl (by decide +kernel) 0 rfl rfl rfl rfl (Nat.le_of_ble_eq_true rfl) dX6_judge_31 ⟨Nat.zero_le _, Nat.zero_le _⟩) rfl ?_
        obtain ⟨rfl, rfl⟩ := ik_e2 hf
        exact ik_iretW C hr hlk dX6_judge_34
    · have hf := ik_neg hb0 hf; have hf := ik_neg hb1 hf; have hf := ik_pos hc hf
      refine ik_astore_n C [(2, .ref s20), (0, .ref o0), (1, .int x1)] rfl (by decide) rfl dX6_judge_20 ?_
      refine ik_aload_n C 0 rfl rfl dX6_judge_21 ?_
      obtain ⟨r2, hc2, hf⟩ := ik_b1s hf
      have hM := (c_X2_isMissing l D cI cS s20 s21 (sbits 2) (ssize 2) (snum 2) r2 hc2)
      refine ik_goR (ik_runV (st := []) (As := []) C hM mv_X2_isMissing wl_45_9 ⟨rfl, rfl, Nat.le_of_ble_eq_true rfl, Nat.le_of_ble_eq_true rfl⟩ [19, 20] rfl (by decide +kernel) 19 rfl rfl rfl rfl (Nat.le_of_ble_eq_true rfl) dX6_judge_22 ⟨Nat.zero_le _, Nat.zero_le _⟩) rfl ?_
      refine ik_if_eq C 35 dX6_judge_25 (by decide) (fun hc => ?_) (fun hc => ?_)
      · have hf := ik_pos hc hf
        refine ik_aload_n C 1 rfl rfl dX6_judge_35 ?_
        refine ik_get C inlX6 0 rfl rfl 0 (by decide) wl_1_15 rfl (v := .ref np0) rfl dX6_judge_36 ?_
        refine ik_get C inlX1 2 rfl rfl 0 (by decide) wl_5_4 rfl (v := .ref nw0) rfl dX6_judge_39 ?_
        refine ik_astore_n C [(3, .ref nw0), (2, .ref s20), (0, .ref o0), (1, .int x1)] rfl (by decide) rfl dX6_judge_42 ?_
        refine ik_lconst (v := (0 : Int64)) C (by decide) dX6_judge_43 ?_
        refine ik_lstore C [(4, .long (0 : Int64)), (3, .ref nw0), (2, .ref s20), (0, .ref o0), (1, .int x1)] (by decide) rfl dX6_judge_44 ?_
        refine ik_iconst (v := (0 : Int32)) C (by decide) dX6_judge_46 ?_
        refine ik_istore C [(6, .int (0 : Int32)), (4, .long (0 : Int64)), (3, .ref nw0), (2, .ref s20), (0, .ref o0), (1, .int x1)] (by decide) rfl dX6_judge_47 ?_
        have hL_49 : ∀ (n_49 : Nat) (x4_49 : Int64) (x6_49 : Int32), ik_lp2 (b_X6_judge_49s2 fnd nnb nkd ncl ssize snum) n_49 x4_49 x6_49 = some (R, fnd_r) → ik_G p l e ({ frames := 2, cells := 0, slots := 0, locals := 50 } : Room) s m ([.ref o0, .int x1] : List Value).toArray below meth c D (ik_in (wz_X6ofns cI cS o0 np0 kp0 tp0 r0 t0 sh0 f0 nw0 nc0 np1 np2 np3 nw1 nw2 nw3 nw4 nc1 nc2 s00 s10 s20 s30 s01 s11 s21 s31 isk fnd nhour nair nrub nz nnb nkd ncl ngr noc nlit ncold nccell ncpow nsp nwm ndr sbits ssize snum)) (ik_in (wz_X6ofns cI cS o0 np0 kp0 tp0 r0 t0 sh0 f0 nw0 nc0 np1 np2 np3 nw1 nw2 nw3 nw4 nc1 nc2 s00 s10 s20 s30 s01 s11 s21 s31 isk fnd nhour nair nrub nz nnb nkd ncl ngr noc nlit ncold nccell ncpow nsp nwm ndr sbits ssize snum)) 8 0 0 (MQ below (ik_Q (some (.int R)) D (wz_X6ofns cI cS o0 np0 kp0 tp0 r0 t0 sh0 f0 nw0 nc0 np1 np2 np3 nw1 nw2 nw3 nw4 nc1 nc2 s00 s10 s20 s30 s01 s11 s21 s31 isk fnd_r nhour nair nrub nz nnb nkd ncl ngr noc nlit ncold nccell ncpow nsp nwm ndr sbits ssize snum) (wz_X6ofns cI cS o0 np0 kp0 tp0 r0 t0 sh0 f0 nw0 nc0 np1 np2 np3 nw1 nw2 nw3 nw4 nc1 nc2 s00 s10 s20 s30 s01 s11 s21 s31 isk fnd nhour nair nrub nz nnb nkd ncl ngr noc nlit ncold nccell ncpow nsp nwm ndr sbits ssize snum)) ([.ref o0, .int x1] : List Value).toArray s 0 0 (ik_in (wz_X6ofns cI cS o0 np0 kp0 tp0 r0 t0 sh0 f0 nw0 nc0 np1 np2 np3 nw1 nw2 nw3 nw4 nc1 nc2 s00 s10 s20 s30 s01 s11 s21 s31 isk fnd nhour nair nrub nz nnb nkd ncl ngr noc nlit ncold nccell ncpow nsp nwm ndr sbits ssize snum))) 49 [(6, .int x6_49), (4, .long x4_49), (3, .ref nw0), (2, .ref s20), (0, .ref o0), (1, .int x1)] [] (wz_X6ofns cI cS o0 np0 kp0 tp0 r0 t0 sh0 f0 nw0 nc0 np1 np2 np3 nw1 nw2 nw3 nw4 nc1 nc2 s00 s10 s20 s30 s01 s11 s21 s31 isk fnd nhour nair nrub nz nnb nkd ncl ngr noc nlit ncold nccell ncpow nsp nwm ndr sbits ssize snum) := by
          intro n_49
          induction n_49 with
          | zero => intro _ _ hf; exact nomatch hf
          | succ n_49 ih_49 =>
            intro x4_49 x6_49 hf
            replace hf : b_X6_judge_49s2 fnd nnb nkd ncl ssize snum (ik_lp2 (b_X6_judge_49s2 fnd nnb nkd ncl ssize snum) n_49) x4_49 x6_49 = some (R, fnd_r) := hf
            unfold b_X6_judge_49s2 at hf
            refine ik_iload C 0 rfl dX6_judge_49 ?_
            refine ik_aload_n C 3 rfl rfl dX6_judge_51 ?_
            refine ik_get C inlX2 19 rfl rfl 1 (by decide) wl_45_8 rfl (v := .int (ssize 2)) rfl dX6_judge_52 ?_
            refine ik_icmp_ge C 109 dX6_judge_55 (by decide) (fun hc => ?_) (fun hc => ?_)
            · have hf := ik_pos hc hf
              refine ik_lload C 1 rfl dX6_judge_109 ?_
              refine ik_aload_n C 2 rfl rfl dX6_judge_111 ?_
              obtain ⟨r3, hc3, hf⟩ := ik_b1s hf
              have hM := (c_X5_occupied l D cI cS nw0 nw1 nw2 nw3 nw4 nnb nkd ncl ngr noc r3 hc3)
              refine ik_goR (ik_runV (st := [.long x4_49]) (As := []) C hM mv_X5_occupied wl_29_22 ⟨rfl, rfl, Nat.le_of_ble_eq_true rfl, Nat.le_of_ble_eq_true rfl⟩ [3, 4, 5, 6, 7] rfl (by decide +kernel) 3 rfl rfl rfl rfl (Nat.le_of_ble_eq_true rfl) dX6_judge_112 ⟨Nat.zero_le _, Nat.zero_le _⟩) rfl ?_
              refine ik_lcmp C dX6_judge_115 ?_
              refine ik_if_ne C 123 dX6_judge_116 (by decide) (fun hc => ?_) (fun hc => ?_)
              · have hf := ik_neg hc hf
                refine ik_bipush (v := (41 : Int32)) C (by decide) dX6_judge_123 ?_
                obtain ⟨rfl, rfl⟩ := ik_e2 hf
                exact ik_iretW C hr hlk dX6_judge_125
              · have hf := ik_pos hc hf
                refine ik_iconst (v := (0 : Int32)) C (by decide) dX6_judge_119 ?_
                refine ik_goto C 125 dX6_judge_120 (by decide) ?_
                obtain ⟨rfl, rfl⟩ := ik_e2 hf
                exact ik_iretW C hr hlk dX6_judge_125
            · have hf := ik_neg hc hf
              refine ik_aload_n C 3 rfl rfl dX6_judge_58 ?_
              refine ik_get C inlX2 19 rfl rfl 2 (by decide) wl_46_2 rfl (v := .ref s21) rfl dX6_judge_59 ?_
              refine ik_iload C 0 rfl dX6_judge_62 ?_
              have hg := ik_gdi hf
              have hf := ik_gdk hf
              refine ik_iald C 20 rfl hg dX6_judge_64 ?_
              refine ik_istore C [(7, .int ((snum 2) (x6_49).toNatClampNeg)), (6, .int x6_49), (4, .long x4_49), (3, .ref nw0), (2, .ref s20), (0, .ref o0), (1, .int x1)] (by decide) rfl dX6_judge_65 ?_
              refine ik_aload_n C 3 rfl rfl dX6_judge_67 ?_
              refine ik_iload C 0 rfl dX6_judge_68 ?_
              obtain ⟨r3, hc3, hf⟩ := ik_b1s hf
              have hM := (c_X5_isBlock l D cI cS nw0 nw1 nw2 nw3 nw4 nnb nkd ncl ngr noc ((snum 2) (x6_49).toNatClampNeg) r3 hc3)
              refine ik_goR (ik_runV (st := []) (As := [.int ((snum 2) (x6_49).toNatClampNeg)]) C hM mv_X5_isBlock wl_8_7 ⟨rfl, rfl, Nat.le_of_ble_eq_true rfl, Nat.le_of_ble_eq_true rfl⟩ [3, 4, 5, 6, 7] rfl (by decide +kernel) 3 rfl rfl rfl rfl (Nat.le_of_ble_eq_true rfl) dX6_judge_70 ⟨Nat.zero_le _, Nat.zero_le _⟩) rfl ?_
              refine ik_if_eq C 87 dX6_judge_73 (by decide) (fun hc => ?_) (fun hc => ?_)
              · have hf := ik_pos hc hf
                refine ik_iconst (v := (1 : Int32)) C (by decide) dX6_judge_87 ?_
                refine ik_iload C 1 rfl dX6_judge_88 ?_
                refine ik_iadd C dX6_judge_90 ?_
                obtain ⟨rfl, rfl⟩ := ik_e2 hf
                exact ik_iretW C hr hlk dX6_judge_91
              · have hf := ik_neg hc hf
                refine ik_aload_n C 3 rfl rfl dX6_judge_76 ?_
                refine ik_iload C 0 rfl dX6_judge_77 ?_
                refine ik_lload C 2 rfl dX6_judge_79 ?_
                obtain ⟨r4, hc4, hf⟩ := ik_b1s hf
                have hM := (c_X5_isComer l D cI cS nw0 nw1 nw2 nw3 nw4 nnb nkd ncl ngr noc ((snum 2) (x6_49).toNatClampNeg) x4_49 r4 hc4)
                refine ik_goR (ik_runV (st := []) (As := [.int ((snum 2) (x6_49).toNatClampNeg), .long x4_49]) C hM mv_X5_isComer wl_47_1 ⟨rfl, rfl, Nat.le_of_ble_eq_true rfl, Nat.le_of_ble_eq_true rfl⟩ [3, 4, 5, 6, 7] rfl (by decide +kernel) 3 rfl rfl rfl rfl (Nat.le_of_ble_eq_true rfl) dX6_judge_81 ⟨Nat.zero_le _, Nat.zero_le _⟩) rfl ?_
                refine ik_if_ne C 92 dX6_judge_84 (by decide) (fun hc => ?_) (fun hc => ?_)
                · have hf := ik_neg hc hf
                  refine ik_lload C 2 rfl dX6_judge_92 ?_
                  refine ik_aload_n C 3 rfl rfl dX6_judge_94 ?_
                  refine ik_iload C 0 rfl dX6_judge_95 ?_
                  obtain ⟨r5, hc5, hf⟩ := ik_b1s hf
                  have hM := (c_X5_cellBit l D cI cS nw0 nw1 nw2 nw3 nw4 nnb nkd ncl ngr noc ((snum 2) (x6_49).toNatClampNeg) r5 hc5)
                  refine ik_goR (ik_runV (st := [.long x4_49]) (As := [.int ((snum 2) (x6_49).toNatClampNeg)]) C hM mv_X5_cellBit wl_9_3 ⟨rfl, rfl, Nat.le_of_ble_eq_true rfl, Nat.le_of_ble_eq_true rfl⟩ [3, 4, 5, 6, 7] rfl (by decide +kernel) 3 rfl rfl rfl rfl (Nat.le_of_ble_eq_true rfl) dX6_judge_97 ⟨Nat.zero_le _, Nat.zero_le _⟩) rfl ?_
                  refine ik_lor C dX6_judge_100 ?_
                  refine ik_lstore C [(4, .long (x4_49 ||| r5)), (7, .int ((snum 2) (x6_49).toNatClampNeg)), (6, .int x6_49), (3, .ref nw0), (2, .ref s20), (0, .ref o0), (1, .int x1)] (by decide) rfl dX6_judge_101 ?_
                  refine ik_iinc C [(6, .int (x6_49 + (1 : Int32))), (4, .long (x4_49 ||| r5)), (7, .int ((snum 2) (x6_49).toNatClampNeg)), (3, .ref nw0), (2, .ref s20), (0, .ref o0), (1, .int x1)] 2 rfl rfl (by decide) rfl dX6_judge_103 ?_
                  refine ik_goto C 49 dX6_judge_106 (by decide) ?_
                  exact ik_sub [0, 1, 3, 4, 5, 6] [(6, .int (x6_49 + (1 : Int32))), (4, .long (x4_49 ||| r5)), (3, .ref nw0), (2, .ref s20), (0, .ref o0), (1, .int x1)] rfl (ih_49 (x4_49 ||| r5) (x6_49 + (1 : Int32)) hf)
                · have hf := ik_pos hc hf
                  refine ik_iconst (v := (1 : Int32)) C (by decide) dX6_judge_87 ?_
                  refine ik_iload C 1 rfl dX6_judge_88 ?_
                  refine ik_iadd C dX6_judge_90 ?_
                  obtain ⟨rfl, rfl⟩ := ik_e2 hf
                  exact ik_iretW C hr hlk dX6_judge_91
        exact hL_49 ik_fu (0 : Int64) (0 : Int32) hf
      · have hf := ik_neg hc hf
        refine ik_aload_n C 1 rfl rfl dX6_judge_28 ?_
        refine ik_ldc C wl_43_13 dX6_judge_29 ?_
        obtain ⟨r3, g4, hc4, hf⟩ := ik_b2s hf
        have hM := (c_X6_tell l D cI cS o0 np0 kp0 tp0 r0 t0 sh0 f0 isk fnd (-1000006 : Int32) r3 g4 hc4)
        refine ik_goW (v := (some (.int r3))) (wc := (wz_X6of cI cS o0 np0 kp0 tp0 r0 t0 sh0 f0 isk fnd)) (w1 := (wz_X6of cI cS o0 np0 kp0 tp0 r0 t0 sh0 f0 isk g4)) [0, 1] [2, 3, 4, 5, 6, 7, 8, 9, 10, 11, 12, 13, 14, 15, 16, 17, 18, 19, 20, 21, 22] 23 rfl rfl (wz_X6ofns cI cS o0 np0 kp0 tp0 r0 t0 sh0 f0 nw0 nc0 np1 np2 np3 nw1 nw2 nw3 nw4 nc1 nc2 s00 s10 s20 s30 s01 s11 s21 s31 isk g4 nhour nair nrub nz nnb nkd ncl ngr noc nlit ncold nccell ncpow nsp nwm ndr sbits ssize snum) rfl [(np0, .inr (1, [.ref nw0, .ref nc0, .ref np1, .int nhour, .int nair, .int nrub, .int nz, .ref np2, .ref np3])), (nw0, .inr (5, [.int nnb, .ref nw1, .ref nw2, .ref nw3, .ref nw4])), (nw1, .inl (cI, 16, .inl nkd)), (nw2, .inl (cI, 16, .inl ncl)), (nw3, .inl (cI, 16, .inl ngr)), (nw4, .inl (cI, 48, .inl noc)), (nc0, .inr (0, [.ref nc1, .ref nc2, .int nlit, .int ncold])), (nc1, .inl (cI, 6, .inl nccell)), (nc2, .inl (cI, 6, .inl ncpow)), (np1, .inl (cI, 10, .inl nsp)), (np2, .inl (cI, 16, .inl nwm)), (np3, .inl (cI, 8, .inl ndr)), (sh0, .inl (cS, 4, .inr (.inr (.inr (.inr (ik_ref4 s00 s10 s20 s30)))))), (s00, .inr (2, [.int (sbits 0), .int (ssize 0), .ref s01])), (s01, .inl (cI, 40, .inl (snum 0))), (s10, .inr (2, [.int (sbits 1), .int (ssize 1), .ref s11])), (s11, .inl (cI, 40, .inl (snum 1))), (s20, .inr (2, [.int (sbits 2), .int (ssize 2), .ref s21])), (s21, .inl (cI, 40, .inl (snum 2))), (s30, .inr (2, [.int (sbits 3), .int (ssize 3), .ref s31])), (s31, .inl (cI, 40, .inl (snum 3)))] rfl rfl rfl (by decide +kernel) (ik_runV (st := []) (As := [.int (-1000006 : Int32)]) C hM mv_X6_tell wl_5_16 ⟨rfl, rfl, Nat.le_of_ble_eq_true rfl, Nat.le_of_ble_eq_true rfl⟩ [0, 1] rfl (by decide +kernel) 0 rfl rfl rfl rfl (Nat.le_of_ble_eq_true rfl) dX6_judge_31 ⟨Nat.zero_le _, Nat.zero_le _⟩) rfl ?_
        obtain ⟨rfl, rfl⟩ := ik_e2 hf
        exact ik_iretW C hr hlk dX6_judge_34
    · have hf := ik_neg hb0 hf; have hf := ik_neg hb1 hf; have hf := ik_neg hb2 hf
      refine ik_astore_n C [(2, .ref s30), (0, .ref o0), (1, .int x1)] rfl (by decide) rfl dX6_judge_20 ?_
      refine ik_aload_n C 0 rfl rfl dX6_judge_21 ?_
      obtain ⟨r2, hc2, hf⟩ := ik_b1s hf
      have hM := (c_X2_isMissing l D cI cS s30 s31 (sbits 3) (ssize 3) (snum 3) r2 hc2)
      refine ik_goR (ik_runV (st := []) (As := []) C hM mv_X2_isMissing wl_45_9 ⟨rfl, rfl, Nat.le_of_ble_eq_true rfl, Nat.le_of_ble_eq_true rfl⟩ [21, 22] rfl (by decide +kernel) 21 rfl rfl rfl rfl (Nat.le_of_ble_eq_true rfl) dX6_judge_22 ⟨Nat.zero_le _, Nat.zero_le _⟩) rfl ?_
      refine ik_if_eq C 35 dX6_judge_25 (by decide) (fun hc => ?_) (fun hc => ?_)
      · have hf := ik_pos hc hf
        refine ik_aload_n C 1 rfl rfl dX6_judge_35 ?_
        refine ik_get C inlX6 0 rfl rfl 0 (by decide) wl_1_15 rfl (v := .ref np0) rfl dX6_judge_36 ?_
        refine ik_get C inlX1 2 rfl rfl 0 (by decide) wl_5_4 rfl (v := .ref nw0) rfl dX6_judge_39 ?_
        refine ik_astore_n C [(3, .ref nw0), (2, .ref s30), (0, .ref o0), (1, .int x1)] rfl (by decide) rfl dX6_judge_42 ?_
        refine ik_lconst (v := (0 : Int64)) C (by decide) dX6_judge_43 ?_
        refine ik_lstore C [(4, .long (0 : Int64)), (3, .ref nw0), (2, .ref s30), (0, .ref o0), (1, .int x1)] (by decide) rfl dX6_judge_44 ?_
        refine ik_iconst (v := (0 : Int32)) C (by decide) dX6_judge_46 ?_
        refine ik_istore C [(6, .int (0 : Int32)), (4, .long (0 : Int64)), (3, .ref nw0), (2, .ref s30), (0, .ref o0), (1, .int x1)] (by decide) rfl dX6_judge_47 ?_
        have hL_49 : ∀ (n_49 : Nat) (x4_49 : Int64) (x6_49 : Int32), ik_lp2 (b_X6_judge_49s3 fnd nnb nkd ncl ssize snum) n_49 x4_49 x6_49 = some (R, fnd_r) → ik_G p l e ({ frames := 2, cells := 0, slots := 0, locals := 50 } : Room) s m ([.ref o0, .int x1] : List Value).toArray below meth c D (ik_in (wz_X6ofns cI cS o0 np0 kp0 tp0 r0 t0 sh0 f0 nw0 nc0 np1 np2 np3 nw1 nw2 nw3 nw4 nc1 nc2 s00 s10 s20 s30 s01 s11 s21 s31 isk fnd nhour nair nrub nz nnb nkd ncl ngr noc nlit ncold nccell ncpow nsp nwm ndr sbits ssize snum)) (ik_in (wz_X6ofns cI cS o0 np0 kp0 tp0 r0 t0 sh0 f0 nw0 nc0 np1 np2 np3 nw1 nw2 nw3 nw4 nc1 nc2 s00 s10 s20 s30 s01 s11 s21 s31 isk fnd nhour nair nrub nz nnb nkd ncl ngr noc nlit ncold nccell ncpow nsp nwm ndr sbits ssize snum)) 8 0 0 (MQ below (ik_Q (some (.int R)) D (wz_X6ofns cI cS o0 np0 kp0 tp0 r0 t0 sh0 f0 nw0 nc0 np1 np2 np3 nw1 nw2 nw3 nw4 nc1 nc2 s00 s10 s20 s30 s01 s11 s21 s31 isk fnd_r nhour nair nrub nz nnb nkd ncl ngr noc nlit ncold nccell ncpow nsp nwm ndr sbits ssize snum) (wz_X6ofns cI cS o0 np0 kp0 tp0 r0 t0 sh0 f0 nw0 nc0 np1 np2 np3 nw1 nw2 nw3 nw4 nc1 nc2 s00 s10 s20 s30 s01 s11 s21 s31 isk fnd nhour nair nrub nz nnb nkd ncl ngr noc nlit ncold nccell ncpow nsp nwm ndr sbits ssize snum)) ([.ref o0, .int x1] : List Value).toArray s 0 0 (ik_in (wz_X6ofns cI cS o0 np0 kp0 tp0 r0 t0 sh0 f0 nw0 nc0 np1 np2 np3 nw1 nw2 nw3 nw4 nc1 nc2 s00 s10 s20 s30 s01 s11 s21 s31 isk fnd nhour nair nrub nz nnb nkd ncl ngr noc nlit ncold nccell ncpow nsp nwm ndr sbits ssize snum))) 49 [(6, .int x6_49), (4, .long x4_49), (3, .ref nw0), (2, .ref s30), (0, .ref o0), (1, .int x1)] [] (wz_X6ofns cI cS o0 np0 kp0 tp0 r0 t0 sh0 f0 nw0 nc0 np1 np2 np3 nw1 nw2 nw3 nw4 nc1 nc2 s00 s10 s20 s30 s01 s11 s21 s31 isk fnd nhour nair nrub nz nnb nkd ncl ngr noc nlit ncold nccell ncpow nsp nwm ndr sbits ssize snum) := by
          intro n_49
          induction n_49 with
          | zero => intro _ _ hf; exact nomatch hf
          | succ n_49 ih_49 =>
            intro x4_49 x6_49 hf
            replace hf : b_X6_judge_49s3 fnd nnb nkd ncl ssize snum (ik_lp2 (b_X6_judge_49s3 fnd nnb nkd ncl ssize snum) n_49) x4_49 x6_49 = some (R, fnd_r) := hf
            unfold b_X6_judge_49s3 at hf
            refine ik_iload C 0 rfl dX6_judge_49 ?_
            refine ik_aload_n C 3 rfl rfl dX6_judge_51 ?_
            refine ik_get C inlX2 21 rfl rfl 1 (by decide) wl_45_8 rfl (v := .int (ssize 3)) rfl dX6_judge_52 ?_
            refine ik_icmp_ge C 109 dX6_judge_55 (by decide) (fun hc => ?_) (fun hc => ?_)
            · have hf := ik_pos hc hf
              refine ik_lload C 1 rfl dX6_judge_109 ?_
              refine ik_aload_n C 2 rfl rfl dX6_judge_111 ?_
              obtain ⟨r3, hc3, hf⟩ := ik_b1s hf
              have hM := (c_X5_occupied l D cI cS nw0 nw1 nw2 nw3 nw4 nnb nkd ncl ngr noc r3 hc3)
              refine ik_goR (ik_runV (st := [.long x4_49]) (As := []) C hM mv_X5_occupied wl_29_22 ⟨rfl, rfl, Nat.le_of_ble_eq_true rfl, Nat.le_of_ble_eq_true rfl⟩ [3, 4, 5, 6, 7] rfl (by decide +kernel) 3 rfl rfl rfl rfl (Nat.le_of_ble_eq_true rfl) dX6_judge_112 ⟨Nat.zero_le _, Nat.zero_le _⟩) rfl ?_
              refine ik_lcmp C dX6_judge_115 ?_
              refine ik_if_ne C 123 dX6_judge_116 (by decide) (fun hc => ?_) (fun hc => ?_)
              · have hf := ik_neg hc hf
                refine ik_bipush (v := (41 : Int32)) C (by decide) dX6_judge_123 ?_
                obtain ⟨rfl, rfl⟩ := ik_e2 hf
                exact ik_iretW C hr hlk dX6_judge_125
              · have hf := ik_pos hc hf
                refine ik_iconst (v := (0 : Int32)) C (by decide) dX6_judge_119 ?_
                refine ik_goto C 125 dX6_judge_120 (by decide) ?_
                obtain ⟨rfl, rfl⟩ := ik_e2 hf
                exact ik_iretW C hr hlk dX6_judge_125
            · have hf := ik_neg hc hf
              refine ik_aload_n C 3 rfl rfl dX6_judge_58 ?_
              refine ik_get C inlX2 21 rfl rfl 2 (by decide) wl_46_2 rfl (v := .ref s31) rfl dX6_judge_59 ?_
              refine ik_iload C 0 rfl dX6_judge_62 ?_
              have hg := ik_gdi hf
              have hf := ik_gdk hf
              refine ik_iald C 22 rfl hg dX6_judge_64 ?_
              refine ik_istore C [(7, .int ((snum 3) (x6_49).toNatClampNeg)), (6, .int x6_49), (4, .long x4_49), (3, .ref nw0), (2, .ref s30), (0, .ref o0), (1, .int x1)] (by decide) rfl dX6_judge_65 ?_
              refine ik_aload_n C 3 rfl rfl dX6_judge_67 ?_
              refine ik_iload C 0 rfl dX6_judge_68 ?_
              obtain ⟨r3, hc3, hf⟩ := ik_b1s hf
              have hM := (c_X5_isBlock l D cI cS nw0 nw1 nw2 nw3 nw4 nnb nkd ncl ngr noc ((snum 3) (x6_49).toNatClampNeg) r3 hc3)
              refine ik_goR (ik_runV (st := []) (As := [.int ((snum 3) (x6_49).toNatClampNeg)]) C hM mv_X5_isBlock wl_8_7 ⟨rfl, rfl, Nat.le_of_ble_eq_true rfl, Nat.le_of_ble_eq_true rfl⟩ [3, 4, 5, 6, 7] rfl (by decide +kernel) 3 rfl rfl rfl rfl (Nat.le_of_ble_eq_true rfl) dX6_judge_70 ⟨Nat.zero_le _, Nat.zero_le _⟩) rfl ?_
              refine ik_if_eq C 87 dX6_judge_73 (by decide) (fun hc => ?_) (fun hc => ?_)
              · have hf := ik_pos hc hf
                refine ik_iconst (v := (1 : Int32)) C (by decide) dX6_judge_87 ?_
                refine ik_iload C 1 rfl dX6_judge_88 ?_
                refine ik_iadd C dX6_judge_90 ?_
                obtain ⟨rfl, rfl⟩ := ik_e2 hf
                exact ik_iretW C hr hlk dX6_judge_91
              · have hf := ik_neg hc hf
                refine ik_aload_n C 3 rfl rfl dX6_judge_76 ?_
                refine ik_iload C 0 rfl dX6_judge_77 ?_
                refine ik_lload C 2 rfl dX6_judge_79 ?_
                obtain ⟨r4, hc4, hf⟩ := ik_b1s hf
                have hM := (c_X5_isComer l D cI cS nw0 nw1 nw2 nw3 nw4 nnb nkd ncl ngr noc ((snum 3) (x6_49).toNatClampNeg) x4_49 r4 hc4)
                refine ik_goR (ik_runV (st := []) (As := [.int ((snum 3) (x6_49).toNatClampNeg), .long x4_49]) C hM mv_X5_isComer wl_47_1 ⟨rfl, rfl, Nat.le_of_ble_eq_true rfl, Nat.le_of_ble_eq_true rfl⟩ [3, 4, 5, 6, 7] rfl (by decide +kernel) 3 rfl rfl rfl rfl (Nat.le_of_ble_eq_true rfl) dX6_judge_81 ⟨Nat.zero_le _, Nat.zero_le _⟩) rfl ?_
                refine ik_if_ne C 92 dX6_judge_84 (by decide) (fun hc => ?_) (fun hc => ?_)
                · have hf := ik_neg hc hf
                  refine ik_lload C 2 rfl dX6_judge_92 ?_
                  refine ik_aload_n C 3 rfl rfl dX6_judge_94 ?_
                  refine ik_iload C 0 rfl dX6_judge_95 ?_
                  obtain ⟨r5, hc5, hf⟩ := ik_b1s hf
                  have hM := (c_X5_cellBit l D cI cS nw0 nw1 nw2 nw3 nw4 nnb nkd ncl ngr noc ((snum 3) (x6_49).toNatClampNeg) r5 hc5)
                  refine ik_goR (ik_runV (st := [.long x4_49]) (As := [.int ((snum 3) (x6_49).toNatClampNeg)]) C hM mv_X5_cellBit wl_9_3 ⟨rfl, rfl, Nat.le_of_ble_eq_true rfl, Nat.le_of_ble_eq_true rfl⟩ [3, 4, 5, 6, 7] rfl (by decide +kernel) 3 rfl rfl rfl rfl (Nat.le_of_ble_eq_true rfl) dX6_judge_97 ⟨Nat.zero_le _, Nat.zero_le _⟩) rfl ?_
                  refine ik_lor C dX6_judge_100 ?_
                  refine ik_lstore C [(4, .long (x4_49 ||| r5)), (7, .int ((snum 3) (x6_49).toNatClampNeg)), (6, .int x6_49), (3, .ref nw0), (2, .ref s30), (0, .ref o0), (1, .int x1)] (by decide) rfl dX6_judge_101 ?_
                  refine ik_iinc C [(6, .int (x6_49 + (1 : Int32))), (4, .long (x4_49 ||| r5)), (7, .int ((snum 3) (x6_49).toNatClampNeg)), (3, .ref nw0), (2, .ref s30), (0, .ref o0), (1, .int x1)] 2 rfl rfl (by decide) rfl dX6_judge_103 ?_
                  refine ik_goto C 49 dX6_judge_106 (by decide) ?_
                  exact ik_sub [0, 1, 3, 4, 5, 6] [(6, .int (x6_49 + (1 : Int32))), (4, .long (x4_49 ||| r5)), (3, .ref nw0), (2, .ref s30), (0, .ref o0), (1, .int x1)] rfl (ih_49 (x4_49 ||| r5) (x6_49 + (1 : Int32)) hf)
                · have hf := ik_pos hc hf
                  refine ik_iconst (v := (1 : Int32)) C (by decide) dX6_judge_87 ?_
                  refine ik_iload C 1 rfl dX6_judge_88 ?_
                  refine ik_iadd C dX6_judge_90 ?_
                  obtain ⟨rfl, rfl⟩ := ik_e2 hf
                  exact ik_iretW C hr hlk dX6_judge_91
        exact hL_49 ik_fu (0 : Int64) (0 : Int32) hf
      · have hf := ik_neg hc hf
        refine ik_aload_n C 1 rfl rfl dX6_judge_28 ?_
        refine ik_ldc C wl_43_13 dX6_judge_29 ?_
        obtain ⟨r3, g4, hc4, hf⟩ := ik_b2s hf
        have hM := (c_X6_tell l D cI cS o0 np0 kp0 tp0 r0 t0 sh0 f0 isk fnd (-1000006 : Int32) r3 g4 hc4)
        refine ik_goW (v := (some (.int r3))) (wc := (wz_X6of cI cS o0 np0 kp0 tp0 r0 t0 sh0 f0 isk fnd)) (w1 := (wz_X6of cI cS o0 np0 kp0 tp0 r0 t0 sh0 f0 isk g4)) [0, 1] [2, 3, 4, 5, 6, 7, 8, 9, 10, 11, 12, 13, 14, 15, 16, 17, 18, 19, 20, 21, 22] 23 rfl rfl (wz_X6ofns cI cS o0 np0 kp0 tp0 r0 t0 sh0 f0 nw0 nc0 np1 np2 np3 nw1 nw2 nw3 nw4 nc1 nc2 s00 s10 s20 s30 s01 s11 s21 s31 isk g4 nhour nair nrub nz nnb nkd ncl ngr noc nlit ncold nccell ncpow nsp nwm ndr sbits ssize snum) rfl [(np0, .inr (1, [.ref nw0, .ref nc0, .ref np1, .int nhour, .int nair, .int nrub, .int nz, .ref np2, .ref np3])), (nw0, .inr (5, [.int nnb, .ref nw1, .ref nw2, .ref nw3, .ref nw4])), (nw1, .inl (cI, 16, .inl nkd)), (nw2, .inl (cI, 16, .inl ncl)), (nw3, .inl (cI, 16, .inl ngr)), (nw4, .inl (cI, 48, .inl noc)), (nc0, .inr (0, [.ref nc1, .ref nc2, .int nlit, .int ncold])), (nc1, .inl (cI, 6, .inl nccell)), (nc2, .inl (cI, 6, .inl ncpow)), (np1, .inl (cI, 10, .inl nsp)), (np2, .inl (cI, 16, .inl nwm)), (np3, .inl (cI, 8, .inl ndr)), (sh0, .inl (cS, 4, .inr (.inr (.inr (.inr (ik_ref4 s00 s10 s20 s30)))))), (s00, .inr (2, [.int (sbits 0), .int (ssize 0), .ref s01])), (s01, .inl (cI, 40, .inl (snum 0))), (s10, .inr (2, [.int (sbits 1), .int (ssize 1), .ref s11])), (s11, .inl (cI, 40, .inl (snum 1))), (s20, .inr (2, [.int (sbits 2), .int (ssize 2), .ref s21])), (s21, .inl (cI, 40, .inl (snum 2))), (s30, .inr (2, [.int (sbits 3), .int (ssize 3), .ref s31])), (s31, .inl (cI, 40, .inl (snum 3)))] rfl rfl rfl (by decide +kernel) (ik_runV (st := []) (As := [.int (-1000006 : Int32)]) C hM mv_X6_tell wl_5_16 ⟨rfl, rfl, Nat.le_of_ble_eq_true rfl, Nat.le_of_ble_eq_true rfl⟩ [0, 1] rfl (by decide +kernel) 0 rfl rfl rfl rfl (Nat.le_of_ble_eq_true rfl) dX6_judge_31 ⟨Nat.zero_le _, Nat.zero_le _⟩) rfl ?_
        obtain ⟨rfl, rfl⟩ := ik_e2 hf
        exact ik_iretW C hr hlk dX6_judge_34
  · have hf := ik_pos hc hf
    refine ik_aload_n C 0 rfl rfl dX6_judge_7 ?_
    refine ik_ldc C wl_5_3 dX6_judge_8 ?_
    obtain ⟨r2, g3, hc3, hf⟩ := ik_b2s hf
    have hM := (c_X6_tell l D cI cS o0 np0 kp0 tp0 r0 t0 sh0 f0 isk fnd (-1000001 : Int32) r2 g3 hc3)
    refine ik_goW (v := (some (.int r2))) (wc := (wz_X6of cI cS o0 np0 kp0 tp0 r0 t0 sh0 f0 isk fnd)) (w1 := (wz_X6of cI cS o0 np0 kp0 tp0 r0 t0 sh0 f0 isk g3)) [0, 1] [2, 3, 4, 5, 6, 7, 8, 9, 10, 11, 12, 13, 14, 15, 16, 17, 18, 19, 20, 21, 22] 23 rfl rfl (wz_X6ofns cI cS o0 np0 kp0 tp0 r0 t0 sh0 f0 nw0 nc0 np1 np2 np3 nw1 nw2 nw3 nw4 nc1 nc2 s00 s10 s20 s30 s01 s11 s21 s31 isk g3 nhour nair nrub nz nnb nkd ncl ngr noc nlit ncold nccell ncpow nsp nwm ndr sbits ssize snum) rfl [(np0, .inr (1, [.ref nw0, .ref nc0, .ref np1, .int nhour, .int nair, .int nrub, .int nz, .ref np2, .ref np3])), (nw0, .inr (5, [.int nnb, .ref nw1, .ref nw2, .ref nw3, .ref nw4])), (nw1, .inl (cI, 16, .inl nkd)), (nw2, .inl (cI, 16, .inl ncl)), (nw3, .inl (cI, 16, .inl ngr)), (nw4, .inl (cI, 48, .inl noc)), (nc0, .inr (0, [.ref nc1, .ref nc2, .int nlit, .int ncold])), (nc1, .inl (cI, 6, .inl nccell)), (nc2, .inl (cI, 6, .inl ncpow)), (np1, .inl (cI, 10, .inl nsp)), (np2, .inl (cI, 16, .inl nwm)), (np3, .inl (cI, 8, .inl ndr)), (sh0, .inl (cS, 4, .inr (.inr (.inr (.inr (ik_ref4 s00 s10 s20 s30)))))), (s00, .inr (2, [.int (sbits 0), .int (ssize 0), .ref s01])), (s01, .inl (cI, 40, .inl (snum 0))), (s10, .inr (2, [.int (sbits 1), .int (ssize 1), .ref s11])), (s11, .inl (cI, 40, .inl (snum 1))), (s20, .inr (2, [.int (sbits 2), .int (ssize 2), .ref s21])), (s21, .inl (cI, 40, .inl (snum 2))), (s30, .inr (2, [.int (sbits 3), .int (ssize 3), .ref s31])), (s31, .inl (cI, 40, .inl (snum 3)))] rfl rfl rfl (by decide +kernel) (ik_runV (st := []) (As := [.int (-1000001 : Int32)]) C hM mv_X6_tell wl_5_16 ⟨rfl, rfl, Nat.le_of_ble_eq_true rfl, Nat.le_of_ble_eq_true rfl⟩ [0, 1] rfl (by decide +kernel) 0 rfl rfl rfl rfl (Nat.le_of_ble_eq_true rfl) dX6_judge_10 ⟨Nat.zero_le _, Nat.zero_le _⟩) rfl ?_
    obtain ⟨rfl, rfl⟩ := ik_e2 hf
    exact ik_iretW C hr hlk dX6_judge_13
theorem mv_X6_undo : ik_V yX6_undo RX6 cX6_undo 1 (some .int) 0 := ⟨wl_47_17, wl_47_18, wl_1_2, wl_47_19, by decide +kernel⟩
set_option maxHeartbeats 4000000 in
set_option maxRecDepth 100000 in
theorem c_X6_undo (l : Launch) (D : va_G) (cI cS : ClassId) (o0 np0 kp0 tp0 r0 t0 sh0 f0 nw0 nc0 np1 np2 np3 nw1 nw2 nw3 nw4 nc1 nc2 kw0 kc0 kp1 kp2 kp3 kw1 kw2 kw3 kw4 kc1 kc2 : Nat) (isk : Int32) (fnd : Nat → Int32) (nhour : Int32) (nair : Int32) (nrub : Int32) (nz : Int32) (nnb : Int32) (nkd : Nat → Int32) (ncl : Nat → Int32) (ngr : Nat → Int32) (noc : Nat → Int32) (nlit : Int32) (ncold : Int32) (nccell : Nat → Int32) (ncpow : Nat → Int32) (nsp : Nat → Int32) (nwm : Nat → Int32) (ndr : Nat → Int32) (khour : Int32) (kair : Int32) (krub : Int32) (kz : Int32) (knb : Int32) (kkd : Nat → Int32) (kcl : Nat → Int32) (kgr : Nat → Int32) (koc : Nat → Int32) (klit : Int32) (kcold : Int32) (kccell : Nat → Int32) (kcpow : Nat → Int32) (ksp : Nat → Int32) (kwm : Nat → Int32) (kdr : Nat → Int32) (R : Int32) (fnd_r : Nat → Int32) (nhour_r : Int32) (nair_r : Int32) (nrub_r : Int32) (nz_r : Int32) (nnb_r : Int32) (nkd_r : Nat → Int32) (ncl_r : Nat → Int32) (ngr_r : Nat → Int32) (noc_r : Nat → Int32) (nlit_r : Int32) (ncold_r : Int32) (nccell_r : Nat → Int32) (ncpow_r : Nat → Int32) (nsp_r : Nat → Int32) (hf : f_X6_undo isk fnd nhour nair nrub nz nnb nkd ncl ngr noc nlit ncold nccell ncpow nsp khour kair krub kz knb kkd kcl kgr koc klit kcold kccell kcpow ksp = some (R, fnd_r, nhour_r, nair_r, nrub_r, nz_r, nnb_r, nkd_r, ncl_r, ngr_r, noc_r, nlit_r, ncold_r, nccell_r, ncpow_r, nsp_r)) : Met l yX6_undo (ik_ws yX6_undo cX6_undo 1 (some .int)) ({ frames := 3, cells := 0, slots := 0, locals := 102 } : Room) (ik_P D cI cS [.ref o0] (wz_X6ofnk cI cS o0 np0 kp0 tp0 r0 t0 sh0 f0 nw0 nc0 np1 np2 np3 nw1 nw2 nw3 nw4 nc1 nc2 kw0 kc0 kp1 kp2 kp3 kw1 kw2 kw3 kw4 kc1 kc2 isk fnd nhour nair nrub nz nnb nkd ncl ngr noc nlit ncold nccell ncpow nsp nwm ndr khour kair krub kz knb kkd kcl kgr koc klit kcold kccell kcpow ksp kwm kdr)) (ik_Q (some (.int R)) D (wz_X6ofnk cI cS o0 np0 kp0 tp0 r0 t0 sh0 f0 nw0 nc0 np1 np2 np3 nw1 nw2 nw3 nw4 nc1 nc2 kw0 kc0 kp1 kp2 kp3 kw1 kw2 kw3 kw4 kc1 kc2 isk fnd_r nhour_r nair_r nrub_r nz_r nnb_r nkd_r ncl_r ngr_r noc_r nlit_r ncold_r nccell_r ncpow_r nsp_r nwm ndr khour kair krub kz knb kkd kcl kgr koc klit kcold kccell kcpow ksp kwm kdr) (wz_X6ofnk cI cS o0 np0 kp0 tp0 r0 t0 sh0 f0 nw0 nc0 np1 np2 np3 nw1 nw2 nw3 nw4 nc1 nc2 kw0 kc0 kp1 kp2 kp3 kw1 kw2 kw3 kw4 kc1 kc2 isk fnd nhour nair nrub nz nnb nkd ncl ngr noc nlit ncold nccell ncpow nsp nwm ndr khour kair krub kz knb kkd kcl kgr koc klit kcold kccell kcpow ksp kwm kdr)) 0 0 (ik_in (wz_X6ofnk cI cS o0 np0 kp0 tp0 r0 t0 sh0 f0 nw0 nc0 np1 np2 np3 nw1 nw2 nw3 nw4 nc1 nc2 kw0 kc0 kp1 kp2 kp3 kw1 kw2 kw3 kw4 kc1 kc2 isk fnd nhour nair nrub nz nnb nkd ncl ngr noc nlit ncold nccell ncpow nsp nwm ndr khour kair krub kz knb kkd kcl kgr koc klit kcold kccell kcpow ksp kwm kdr)) := by
  refine ik_metW RX6 rfl (by decide) (Nat.le_of_ble_eq_true rfl) [(0, .ref o0)] rfl ?_
  intro p e s m below meth c C hr hlk
  unfold f_X6_undo at hf
  refine ik_aload_n C 0 rfl rfl dX6_undo_0 ?_
  refine ik_get C inlX6 0 rfl rfl 3 (by decide) wl_47_10 rfl (v := .int isk) rfl dX6_undo_1 ?_
  refine ik_if_ne C 14 dX6_undo_4 (by decide) (fun hc => ?_) (fun hc => ?_)
  · have hf := ik_neg hc hf
    refine ik_aload_n C 0 rfl rfl dX6_undo_14 ?_
    refine ik_get C inlX6 0 rfl rfl 0 (by decide) wl_1_15 rfl (v := .ref np0) rfl dX6_undo_15 ?_
    refine ik_aload_n C 0 rfl rfl dX6_undo_18 ?_
    refine ik_get C inlX6 0 rfl rfl 1 (by decide) wl_1_16 rfl (v := .ref kp0) rfl dX6_undo_19 ?_
    obtain ⟨g1, g2, g3, g4, g5, g6, g7, g8, g9, g10, g11, g12, g13, g14, hc14, hf⟩ := ik_b14s hf
    have hM := (c_X1_copyFrom l D cI cS np0 nw0 nc0 np1 np2 np3 nw1 nw2 nw3 nw4 nc1 nc2 kp0 kw0 kc0 kp1 kp2 kp3 kw1 kw2 kw3 kw4 kc1 kc2 nhour nair nrub nz nnb nkd ncl ngr noc nlit ncold nccell ncpow nsp nwm ndr khour kair krub kz knb kkd kcl kgr koc klit kcold kccell kcpow ksp kwm kdr g1 g2 g3 g4 g5 g6 g7 g8 g9 g10 g11 g12 g13 g14 hc14)
    refine ik_goW (v := none) (wc := (wz_X1d cI cS np0 nw0 nc0 np1 np2 np3 nw1 nw2 nw3 nw4 nc1 nc2 kp0 kw0 kc0 kp1 kp2 kp3 kw1 kw2 kw3 kw4 kc1 kc2 nhour nair nrub nz nnb nkd ncl ngr noc nlit ncold nccell ncpow nsp nwm ndr khour kair krub kz knb kkd kcl kgr koc klit kcold kccell kcpow ksp kwm kdr)) (w1 := (wz_X1d cI cS np0 nw0 nc0 np1 np2 np3 nw1 nw2 nw3 nw4 nc1 nc2 kp0 kw0 kc0 kp1 kp2 kp3 kw1 kw2 kw3 kw4 kc1 kc2 g1 g2 g3 g4 g5 g6 g7 g8 g9 g10 g11 g12 g13 g14 nwm ndr khour kair krub kz knb kkd kcl kgr koc klit kcold kccell kcpow ksp kwm kdr)) [2, 3, 4, 5, 6, 7, 8, 9, 10, 11, 12, 13, 14, 15, 16, 17, 18, 19, 20, 21, 22, 23, 24, 25] [0, 1] 26 rfl rfl (wz_X6ofnk cI cS o0 np0 kp0 tp0 r0 t0 sh0 f0 nw0 nc0 np1 np2 np3 nw1 nw2 nw3 nw4 nc1 nc2 kw0 kc0 kp1 kp2 kp3 kw1 kw2 kw3 kw4 kc1 kc2 isk fnd g1 g2 g3 g4 g5 g6 g7 g8 g9 g10 g11 g12 g13 g14 nwm ndr khour kair krub kz knb kkd kcl kgr koc klit kcold kccell kcpow ksp kwm kdr) rfl [(o0, .inr (6, [.ref np0, .ref kp0, .ref tp0, .int isk, .ref r0, .ref t0, .ref sh0, .ref f0])), (f0, .inl (cI, 7, .inl fnd))] rfl rfl rfl (by decide +kernel) (ik_runV (st := []) (As := [.ref kp0]) C hM mv_X1_copyFrom wl_23_14 ⟨rfl, rfl, Nat.le_of_ble_eq_true rfl, Nat.le_of_ble_eq_true rfl⟩ [2, 3, 4, 5, 6, 7, 8, 9, 10, 11, 12, 13, 14, 15, 16, 17, 18, 19, 20, 21, 22, 23, 24, 25] rfl (by decide +kernel) 2 rfl rfl rfl rfl (Nat.le_of_ble_eq_true rfl) dX6_undo_22 ⟨Nat.zero_le _, Nat.zero_le _⟩) rfl ?_
    refine ik_aload_n C 0 rfl rfl dX6_undo_25 ?_
    refine ik_get C inlX6 0 rfl rfl 0 (by decide) wl_1_15 rfl (v := .ref np0) rfl dX6_undo_26 ?_
    refine ik_get C inlX1 2 rfl rfl 3 (by decide) wl_18_2 rfl (v := .int g1) rfl dX6_undo_29 ?_
    obtain ⟨rfl, rfl, rfl, rfl, rfl, rfl, rfl, rfl, rfl, rfl, rfl, rfl, rfl, rfl, rfl, rfl⟩ := ik_e16 hf
    exact ik_iretW C hr hlk dX6_undo_32
  · have hf := ik_pos hc hf
    refine ik_aload_n C 0 rfl rfl dX6_undo_7 ?_
    refine ik_ldc C wl_25_9 dX6_undo_8 ?_
    obtain ⟨r1, g2, hc2, hf⟩ := ik_b2s hf
    have hM := (c_X6_tell l D cI cS o0 np0 kp0 tp0 r0 t0 sh0 f0 isk fnd (-1000004 : Int32) r1 g2 hc2)
    refine ik_goW (v := (some (.int r1))) (wc := (wz_X6of cI cS o0 np0 kp0 tp0 r0 t0 sh0 f0 isk fnd)) (w1 := (wz_X6of cI cS o0 np0 kp0 tp0 r0 t0 sh0 f0 isk g2)) [0, 1] [2, 3, 4, 5, 6, 7, 8, 9, 10, 11, 12, 13, 14, 15, 16, 17, 18, 19, 20, 21, 22, 23, 24, 25] 26 rfl rfl (wz_X6ofnk cI cS o0 np0 kp0 tp0 r0 t0 sh0 f0 nw0 nc0 np1 np2 np3 nw1 nw2 nw3 nw4 nc1 nc2 kw0 kc0 kp1 kp2 kp3 kw1 kw2 kw3 kw4 kc1 kc2 isk g2 nhour nair nrub nz nnb nkd ncl ngr noc nlit ncold nccell ncpow nsp nwm ndr khour kair krub kz knb kkd kcl kgr koc klit kcold kccell kcpow ksp kwm kdr) rfl [(np0, .inr (1, [.ref nw0, .ref nc0, .ref np1, .int nhour, .int nair, .int nrub, .int nz, .ref np2, .ref np3])), (nw0, .inr (5, [.int nnb, .ref nw1, .ref nw2, .ref nw3, .ref nw4])), (nw1, .inl (cI, 16, .inl nkd)), (nw2, .inl (cI, 16, .inl ncl)), (nw3, .inl (cI, 16, .inl ngr)), (nw4, .inl (cI, 48, .inl noc)), (nc0, .inr (0, [.ref nc1, .ref nc2, .int nlit, .int ncold])), (nc1, .inl (cI, 6, .inl nccell)), (nc2, .inl (cI, 6, .inl ncpow)), (np1, .inl (cI, 10, .inl nsp)), (np2, .inl (cI, 16, .inl nwm)), (np3, .inl (cI, 8, .inl ndr)), (kp0, .inr (1, [.ref kw0, .ref kc0, .ref kp1, .int khour, .int kair, .int krub, .int kz, .ref kp2, .ref kp3])), (kw0, .inr (5, [.int knb, .ref kw1, .ref kw2, .ref kw3, .ref kw4])), (kw1, .inl (cI, 16, .inl kkd)), (kw2, .inl (cI, 16, .inl kcl)), (kw3, .inl (cI, 16, .inl kgr)), (kw4, .inl (cI, 48, .inl koc)), (kc0, .inr (0, [.ref kc1, .ref kc2, .int klit, .int kcold])), (kc1, .inl (cI, 6, .inl kccell)), (kc2, .inl (cI, 6, .inl kcpow)), (kp1, .inl (cI, 10, .inl ksp)), (kp2, .inl (cI, 16, .inl kwm)), (kp3, .inl (cI, 8, .inl kdr))] rfl rfl rfl (by decide +kernel) (ik_runV (st := []) (As := [.int (-1000004 : Int32)]) C hM mv_X6_tell wl_5_16 ⟨rfl, rfl, Nat.le_of_ble_eq_true rfl, Nat.le_of_ble_eq_true rfl⟩ [0, 1] rfl (by decide +kernel) 0 rfl rfl rfl rfl (Nat.le_of_ble_eq_true rfl) dX6_undo_10 ⟨Nat.zero_le _, Nat.zero_le _⟩) rfl ?_
    obtain ⟨rfl, rfl, rfl, rfl, rfl, rfl, rfl, rfl, rfl, rfl, rfl, rfl, rfl, rfl, rfl, rfl⟩ := ik_e16 hf
    exact ik_iretW C hr hlk dX6_undo_13
theorem mv_X6_count : ik_V yX6_count RX6 cX6_count 2 (some .int) 1 := ⟨wl_48_9, wl_48_10, wl_1_2, wl_48_11, by decide +kernel⟩
set_option maxHeartbeats 4000000 in
set_option maxRecDepth 100000 in
theorem c_X6_count (l : Launch) (D : va_G) (cI cS : ClassId) (o0 np0 kp0 tp0 r0 t0 sh0 f0 nw0 nc0 np1 np2 np3 nw1 nw2 nw3 nw4 nc1 nc2 t1 : Nat) (isk : Int32) (fnd : Nat → Int32) (nhour : Int32) (nair : Int32) (nrub : Int32) (nz : Int32) (nnb : Int32) (nkd : Nat → Int32) (ncl : Nat → Int32) (ngr : Nat → Int32) (noc : Nat → Int32) (nlit : Int32) (ncold : Int32) (nccell : Nat → Int32) (ncpow : Nat → Int32) (nsp : Nat → Int32) (nwm : Nat → Int32) (ndr : Nat → Int32) (tok : Int32) (sta : Int32) (en : Int32) (val : Int32) (tsize : Int32) (tby : Nat → Int32) (x1 : Int32) (R : Int32) (fnd_r : Nat → Int32) (hf : f_X6_count fnd nhour nair nrub nz nnb ncl ngr tsize x1 = some (R, fnd_r)) : Met l yX6_count (ik_ws yX6_count cX6_count 2 (some .int)) ({ frames := 2, cells := 0, slots := 0, locals := 44 } : Room) (ik_P D cI cS [.ref o0, .int x1] (wz_X6ofnr cI cS o0 np0 kp0 tp0 r0 t0 sh0 f0 nw0 nc0 np1 np2 np3 nw1 nw2 nw3 nw4 nc1 nc2 t1 isk fnd nhour nair nrub nz nnb nkd ncl ngr noc nlit ncold nccell ncpow nsp nwm ndr tok sta en val tsize tby)) (ik_Q (some (.int R)) D (wz_X6ofnr cI cS o0 np0 kp0 tp0 r0 t0 sh0 f0 nw0 nc0 np1 np2 np3 nw1 nw2 nw3 nw4 nc1 nc2 t1 isk fnd_r nhour nair nrub nz nnb nkd ncl ngr noc nlit ncold nccell ncpow nsp nwm ndr tok sta en val tsize tby) (wz_X6ofnr cI cS o0 np0 kp0 tp0 r0 t0 sh0 f0 nw0 nc0 np1 np2 np3 nw1 nw2 nw3 nw4 nc1 nc2 t1 isk fnd nhour nair nrub nz nnb nkd ncl ngr noc nlit ncold nccell ncpow nsp nwm ndr tok sta en val tsize tby)) 0 0 (ik_in (wz_X6ofnr cI cS o0 np0 kp0 tp0 r0 t0 sh0 f0 nw0 nc0 np1 np2 np3 nw1 nw2 nw3 nw4 nc1 nc2 t1 isk fnd nhour nair nrub nz nnb nkd ncl ngr noc nlit ncold nccell ncpow nsp nwm ndr tok sta en val tsize tby)) := by
  refine ik_metW RX6 rfl (by decide) (Nat.le_of_ble_eq_true rfl) [(0, .ref o0), (1, .int x1)] rfl ?_
  intro p e s m below meth c C hr hlk
  unfold f_X6_count at hf
  refine ik_iload_n C 1 rfl rfl dX6_count_0 ?_
  by_cases hn0 : x1 = (0 : Int32)
  · have hf := ik_pos hn0 hf
    refine ik_tcase C (0 : Int32) hn0 48 dX6_count_1 (by decide) (by decide) rfl (by decide) ?_
    refine ik_aload_n C 0 rfl rfl dX6_count_48 ?_
    refine ik_get C inlX6 0 rfl rfl 0 (by decide) wl_1_15 rfl (v := .ref np0) rfl dX6_count_49 ?_
    refine ik_get C inlX1 2 rfl rfl 3 (by decide) wl_18_2 rfl (v := .int nhour) rfl dX6_count_52 ?_
    obtain ⟨rfl, rfl⟩ := ik_e2 hf
    exact ik_iretW C hr hlk dX6_count_55
  · have hf := ik_neg hn0 hf
    by_cases hn1 : x1 = (1 : Int32)
    · have hf := ik_pos hn1 hf
      refine ik_tcase C (1 : Int32) hn1 56 dX6_count_1 (by decide) (by decide) rfl (by decide) ?_
      refine ik_aload_n C 0 rfl rfl dX6_count_56 ?_
      refine ik_get C inlX6 0 rfl rfl 0 (by decide) wl_1_15 rfl (v := .ref np0) rfl dX6_count_57 ?_
      refine ik_get C inlX1 2 rfl rfl 0 (by decide) wl_5_4 rfl (v := .ref nw0) rfl dX6_count_60 ?_
      refine ik_get C inlX5 3 rfl rfl 0 (by decide) wl_28_15 rfl (v := .int nnb) rfl dX6_count_63 ?_
      obtain ⟨rfl, rfl⟩ := ik_e2 hf
      exact ik_iretW C hr hlk dX6_count_66
    · have hf := ik_neg hn1 hf
      by_cases hn2 : x1 = (2 : Int32)
      · have hf := ik_pos hn2 hf
        refine ik_tcase C (2 : Int32) hn2 67 dX6_count_1 (by decide) (by decide) rfl (by decide) ?_
        refine ik_aload_n C 0 rfl rfl dX6_count_67 ?_
        refine ik_get C inlX6 0 rfl rfl 0 (by decide) wl_1_15 rfl (v := .ref np0) rfl dX6_count_68 ?_
        refine ik_get C inlX1 2 rfl rfl 0 (by decide) wl_5_4 rfl (v := .ref nw0) rfl dX6_count_71 ?_
        obtain ⟨r1, hc1, hf⟩ := ik_b1s hf
        have hM := (c_X5_goneSet l D cI cS nw0 nw1 nw2 nw3 nw4 nnb nkd ncl ngr noc r1 hc1)
        refine ik_goR (ik_runV (st := []) (As := []) C hM mv_X5_goneSet wl_24_12 ⟨rfl, rfl, Nat.le_of_ble_eq_true rfl, Nat.le_of_ble_eq_true rfl⟩ [3, 4, 5, 6, 7] rfl (by decide +kernel) 3 rfl rfl rfl rfl (Nat.le_of_ble_eq_true rfl) dX6_count_74 ⟨Nat.zero_le _, Nat.zero_le _⟩) rfl ?_
        obtain ⟨r2, hc2, hf⟩ := ik_b1s hf
        have hM := (c_J6_bitCount_0f7a4 l D cI cS r1 r2 hc2)
        refine ik_goR (ik_runS (st := []) (As := [.int r1]) C hM ms_J6_bitCount_0f7a4 wl_48_12 ⟨rfl, rfl, Nat.le_of_ble_eq_true rfl, Nat.le_of_ble_eq_true rfl⟩ [] rfl (by decide +kernel) rfl rfl (Nat.le_of_ble_eq_true rfl) dX6_count_77 ⟨Nat.zero_le _, Nat.zero_le _⟩) rfl ?_
        obtain ⟨rfl, rfl⟩ := ik_e2 hf
        exact ik_iretW C hr hlk dX6_count_80
      · have hf := ik_neg hn2 hf
        by_cases hn3 : x1 = (3 : Int32)
        · have hf := ik_pos hn3 hf
          refine ik_tcase C (3 : Int32) hn3 81 dX6_count_1 (by decide) (by decide) rfl (by decide) ?_
          refine ik_aload_n C 0 rfl rfl dX6_count_81 ?_
          refine ik_get C inlX6 0 rfl rfl 0 (by decide) wl_1_15 rfl (v := .ref np0) rfl dX6_count_82 ?_
          refine ik_get C inlX1 2 rfl rfl 0 (by decide) wl_5_4 rfl (v := .ref nw0) rfl dX6_count_85 ?_
          obtain ⟨r1, hc1, hf⟩ := ik_b1s hf
          have hM := (c_X5_allGrains l D cI cS nw0 nw1 nw2 nw3 nw4 nnb nkd ncl ngr noc r1 hc1)
          refine ik_goR (ik_runV (st := []) (As := []) C hM mv_X5_allGrains wl_24_8 ⟨rfl, rfl, Nat.le_of_ble_eq_true rfl, Nat.le_of_ble_eq_true rfl⟩ [3, 4, 5, 6, 7] rfl (by decide +kernel) 3 rfl rfl rfl rfl (Nat.le_of_ble_eq_true rfl) dX6_count_88 ⟨Nat.zero_le _, Nat.zero_le _⟩) rfl ?_
          obtain ⟨rfl, rfl⟩ := ik_e2 hf
          exact ik_iretW C hr hlk dX6_count_91
        · have hf := ik_neg hn3 hf
          by_cases hn4 : x1 = (4 : Int32)
          · have hf := ik_pos hn4 hf
            refine ik_tcase C (4 : Int32) hn4 92 dX6_count_1 (by decide) (by decide) rfl (by decide) ?_
            refine ik_aload_n C 0 rfl rfl dX6_count_92 ?_
            refine ik_get C inlX6 0 rfl rfl 0 (by decide) wl_1_15 rfl (v := .ref np0) rfl dX6_count_93 ?_
            refine ik_get C inlX1 2 rfl rfl 4 (by decide) wl_23_8 rfl (v := .int nair) rfl dX6_count_96 ?_
            obtain ⟨rfl, rfl⟩ := ik_e2 hf
            exact ik_iretW C hr hlk dX6_count_99
          · have hf := ik_neg hn4 hf
            by_cases hn5 : x1 = (5 : Int32)
            · have hf := ik_pos hn5 hf
              refine ik_tcase C (5 : Int32) hn5 100 dX6_count_1 (by decide) (by decide) rfl (by decide) ?_
              refine ik_aload_n C 0 rfl rfl dX6_count_100 ?_
              refine ik_get C inlX6 0 rfl rfl 0 (by decide) wl_1_15 rfl (v := .ref np0) rfl dX6_count_101 ?_
              refine ik_get C inlX1 2 rfl rfl 5 (by decide) wl_23_9 rfl (v := .int nrub) rfl dX6_count_104 ?_
              obtain ⟨rfl, rfl⟩ := ik_e2 hf
              exact ik_iretW C hr hlk dX6_count_107
            · have hf := ik_neg hn5 hf
              by_cases hn6 : x1 = (6 : Int32)
              · have hf := ik_pos hn6 hf
                refine ik_tcase C (6 : Int32) hn6 108 dX6_count_1 (by decide) (by decide) rfl (by decide) ?_
                refine ik_aload_n C 0 rfl rfl dX6_count_108 ?_
                refine ik_get C inlX6 0 rfl rfl 5 (by decide) wl_1_23 rfl (v := .ref t0) rfl dX6_count_109 ?_
                refine ik_get C inlX3 15 rfl rfl 1 (by decide) wl_34_17 rfl (v := .int tsize) rfl dX6_count_112 ?_
                obtain ⟨rfl, rfl⟩ := ik_e2 hf
                exact ik_iretW C hr hlk dX6_count_115
              · have hf := ik_neg hn6 hf
                by_cases hn7 : x1 = (7 : Int32)
                · have hf := ik_pos hn7 hf
                  refine ik_tcase C (7 : Int32) hn7 116 dX6_count_1 (by decide) (by decide) rfl (by decide) ?_
                  refine ik_aload_n C 0 rfl rfl dX6_count_116 ?_
                  refine ik_get C inlX6 0 rfl rfl 0 (by decide) wl_1_15 rfl (v := .ref np0) rfl dX6_count_117 ?_
                  refine ik_get C inlX1 2 rfl rfl 6 (by decide) wl_34_8 rfl (v := .int nz) rfl dX6_count_120 ?_
                  obtain ⟨rfl, rfl⟩ := ik_e2 hf
                  exact ik_iretW C hr hlk dX6_count_123
                · have hf := ik_neg hn7 hf
                  refine ik_tout C 124 dX6_count_1 (by have ehn0 : (x1).toInt ≠ 0 := fun h => hn0 (Int32.toInt_inj.mp h); have ehn1 : (x1).toInt ≠ 1 := fun h => hn1 (Int32.toInt_inj.mp h); have ehn2 : (x1).toInt ≠ 2 := fun h => hn2 (Int32.toInt_inj.mp h); have ehn3 : (x1).toInt ≠ 3 := fun h => hn3 (Int32.toInt_inj.mp h); have ehn4 : (x1).toInt ≠ 4 := fun h => hn4 (Int32.toInt_inj.mp h); have ehn5 : (x1).toInt ≠ 5 := fun h => hn5 (Int32.toInt_inj.mp h); have ehn6 : (x1).toInt ≠ 6 := fun h => hn6 (Int32.toInt_inj.mp h); have ehn7 : (x1).toInt ≠ 7 := fun h => hn7 (Int32.toInt_inj.mp h); omega) (by decide) ?_
                  refine ik_aload_n C 0 rfl rfl dX6_count_124 ?_
                  refine ik_ldc C wl_5_3 dX6_count_125 ?_
                  obtain ⟨r1, g2, hc2, hf⟩ := ik_b2s hf
                  have hM := (c_X6_tell l D cI cS o0 np0 kp0 tp0 r0 t0 sh0 f0 isk fnd (-1000001 : Int32) r1 g2 hc2)
                  refine ik_goW (v := (some (.int r1))) (wc := (wz_X6of cI cS o0 np0 kp0 tp0 r0 t0 sh0 f0 isk fnd)) (w1 := (wz_X6of cI cS o0 np0 kp0 tp0 r0 t0 sh0 f0 isk g2)) [0, 1] [2, 3, 4, 5, 6, 7, 8, 9, 10, 11, 12, 13, 14, 15, 16] 17 rfl rfl (wz_X6ofnr cI cS o0 np0 kp0 tp0 r0 t0 sh0 f0 nw0 nc0 np1 np2 np3 nw1 nw2 nw3 nw4 nc1 nc2 t1 isk g2 nhour nair nrub nz nnb nkd ncl ngr noc nlit ncold nccell ncpow nsp nwm ndr tok sta en val tsize tby) rfl [(np0, .inr (1, [.ref nw0, .ref nc0, .ref np1, .int nhour, .int nair, .int nrub, .int nz, .ref np2, .ref np3])), (nw0, .inr (5, [.int nnb, .ref nw1, .ref nw2, .ref nw3, .ref nw4])), (nw1, .inl (cI, 16, .inl nkd)), (nw2, .inl (cI, 16, .inl ncl)), (nw3, .inl (cI, 16, .inl ngr)), (nw4, .inl (cI, 48, .inl noc)), (nc0, .inr (0, [.ref nc1, .ref nc2, .int nlit, .int ncold])), (nc1, .inl (cI, 6, .inl nccell)), (nc2, .inl (cI, 6, .inl ncpow)), (np1, .inl (cI, 10, .inl nsp)), (np2, .inl (cI, 16, .inl nwm)), (np3, .inl (cI, 8, .inl ndr)), (r0, .inr (4, [.ref t0, .int tok, .int sta, .int en, .int val])), (t0, .inr (3, [.ref t1, .int tsize])), (t1, .inl (cI, 120, .inl tby))] rfl rfl rfl (by decide +kernel) (ik_runV (st := []) (As := [.int (-1000001 : Int32)]) C hM mv_X6_tell wl_5_16 ⟨rfl, rfl, Nat.le_of_ble_eq_true rfl, Nat.le_of_ble_eq_true rfl⟩ [0, 1] rfl (by decide +kernel) 0 rfl rfl rfl rfl (Nat.le_of_ble_eq_true rfl) dX6_count_127 ⟨Nat.zero_le _, Nat.zero_le _⟩) rfl ?_
                  obtain ⟨rfl, rfl⟩ := ik_e2 hf
                  exact ik_iretW C hr hlk dX6_count_130
theorem mv_X6_status : ik_V yX6_status RX6 cX6_status 4 (some .int) 1 := ⟨wl_49_0, wl_49_1, wl_1_2, wl_49_2, by decide +kernel⟩
set_option maxHeartbeats 4000000 in
set_option maxRecDepth 100000 in
theorem c_X6_status (l : Launch) (D : va_G) (cI cS : ClassId) (o0 np0 kp0 tp0 r0 t0 sh0 f0 : Nat) (isk : Int32) (fnd : Nat → Int32) (x1 : Int32) (R : Int32) (fnd_r : Nat → Int32) (hf : f_X6_status fnd x1 = some (R, fnd_r)) : Met l yX6_status (ik_ws yX6_status cX6_status 4 (some .int)) ({ frames := 2, cells := 0, slots := 0, locals := 44 } : Room) (ik_P D cI cS [.ref o0, .int x1] (wz_X6of cI cS o0 np0 kp0 tp0 r0 t0 sh0 f0 isk fnd)) (ik_Q (some (.int R)) D (wz_X6of cI cS o0 np0 kp0 tp0 r0 t0 sh0 f0 isk fnd_r) (wz_X6of cI cS o0 np0 kp0 tp0 r0 t0 sh0 f0 isk fnd)) 0 0 (ik_in (wz_X6of cI cS o0 np0 kp0 tp0 r0 t0 sh0 f0 isk fnd)) := by
  refine ik_metW RX6 rfl (by decide) (Nat.le_of_ble_eq_true rfl) [(0, .ref o0), (1, .int x1)] rfl ?_
  intro p e s m below meth c C hr hlk
  unfold f_X6_status at hf
  refine ik_iload_n C 1 rfl rfl dX6_status_0 ?_
  refine ik_iconst (v := (-1 : Int32)) C (by decide) dX6_status_1 ?_
  refine ik_bipush (v := (6 : Int32)) C (by decide) dX6_status_2 ?_
  obtain ⟨r1, hc1, hf⟩ := ik_b1s hf
  have hM := (c_X6_isWithin l D cI cS x1 (-1 : Int32) (6 : Int32) r1 hc1)
  refine ik_goR (ik_runS (st := []) (As := [.int x1, .int (-1 : Int32), .int (6 : Int32)]) C hM ms_X6_isWithin wl_5_10 ⟨rfl, rfl, Nat.le_of_ble_eq_true rfl, Nat.le_of_ble_eq_true rfl⟩ [] rfl (by decide +kernel) rfl rfl (Nat.le_of_ble_eq_true rfl) dX6_status_4 ⟨Nat.zero_le _, Nat.zero_le _⟩) rfl ?_
  refine ik_if_ne C 17 dX6_status_7 (by decide) (fun hc => ?_) (fun hc => ?_)
  · have hf := ik_neg hc hf
    refine ik_iload_n C 1 rfl rfl dX6_status_17 ?_
    refine ik_if_lt C 28 dX6_status_18 (by decide) (fun hc => ?_) (fun hc => ?_)
    · have hf := ik_pos hc hf
      refine ik_iconst (v := (0 : Int32)) C (by decide) dX6_status_28 ?_
      refine ik_istore_n C [(2, .int (0 : Int32)), (0, .ref o0), (1, .int x1)] rfl (by decide) rfl dX6_status_29 ?_
      refine ik_iconst (v := (0 : Int32)) C (by decide) dX6_status_30 ?_
      refine ik_istore_n C [(3, .int (0 : Int32)), (2, .int (0 : Int32)), (0, .ref o0), (1, .int x1)] rfl (by decide) rfl dX6_status_31 ?_
      have hL_32 : ∀ (n_32 : Nat) (x2_32 : Int32) (x3_32 : Int32), ik_lp2 (b_X6_status_32 fnd) n_32 x2_32 x3_32 = some (R, fnd_r) → ik_G p l e ({ frames := 2, cells := 0, slots := 0, locals := 44 } : Room) s m ([.ref o0, .int x1] : List Value).toArray below meth c D (ik_in (wz_X6of cI cS o0 np0 kp0 tp0 r0 t0 sh0 f0 isk fnd)) (ik_in (wz_X6of cI cS o0 np0 kp0 tp0 r0 t0 sh0 f0 isk fnd)) 4 0 0 (MQ below (ik_Q (some (.int R)) D (wz_X6of cI cS o0 np0 kp0 tp0 r0 t0 sh0 f0 isk fnd_r) (wz_X6of cI cS o0 np0 kp0 tp0 r0 t0 sh0 f0 isk fnd)) ([.ref o0, .int x1] : List Value).toArray s 0 0 (ik_in (wz_X6of cI cS o0 np0 kp0 tp0 r0 t0 sh0 f0 isk fnd))) 32 [(3, .int x3_32), (2, .int x2_32), (0, .ref o0), (1, .int x1)] [] (wz_X6of cI cS o0 np0 kp0 tp0 r0 t0 sh0 f0 isk fnd) := by
        intro n_32
        induction n_32 with
        | zero => intro _ _ hf; exact nomatch hf
        | succ n_32 ih_32 =>
          intro x2_32 x3_32 hf
          replace hf : b_X6_status_32 fnd (ik_lp2 (b_X6_status_32 fnd) n_32) x2_32 x3_32 = some (R, fnd_r) := hf
          unfold b_X6_status_32 at hf
          refine ik_iload_n C 0 rfl rfl dX6_status_32 ?_
          refine ik_bipush (v := (7 : Int32)) C (by decide) dX6_status_33 ?_
          refine ik_icmp_ge C 53 dX6_status_35 (by decide) (fun hc => ?_) (fun hc => ?_)
          · have hf := ik_pos hc hf
            refine ik_iload_n C 1 rfl rfl dX6_status_53 ?_
            obtain ⟨rfl, rfl⟩ := ik_e2 hf
            exact ik_iretW C hr hlk dX6_status_54
          · have hf := ik_neg hc hf
            refine ik_iload_n C 1 rfl rfl dX6_status_38 ?_
            refine ik_aload_n C 2 rfl rfl dX6_status_39 ?_
            refine ik_get C inlX6 0 rfl rfl 7 (by decide) wl_2_3 rfl (v := .ref f0) rfl dX6_status_40 ?_
            refine ik_iload_n C 0 rfl rfl dX6_status_43 ?_
            have hg := ik_gdi hf
            have hf := ik_gdk hf
            refine ik_iald C 1 rfl hg dX6_status_44 ?_
            refine ik_iadd C dX6_status_45 ?_
            refine ik_istore_n C [(2, .int (x2_32 + (fnd (x3_32).toNatClampNeg))), (3, .int x3_32), (0, .ref o0), (1, .int x1)] rfl (by decide) rfl dX6_status_46 ?_
            refine ik_iinc C [(3, .int (x3_32 + (1 : Int32))), (2, .int (x2_32 + (fnd (x3_32).toNatClampNeg))), (0, .ref o0), (1, .int x1)] 1 rfl rfl (by decide) rfl dX6_status_47 ?_
            refine ik_goto C 32 dX6_status_50 (by decide) ?_
            exact ik_sub [0, 1, 2, 3] [(3, .int (x3_32 + (1 : Int32))), (2, .int (x2_32 + (fnd (x3_32).toNatClampNeg))), (0, .ref o0), (1, .int x1)] rfl (ih_32 (x2_32 + (fnd (x3_32).toNatClampNeg)) (x3_32 + (1 : Int32)) hf)
      exact hL_32 ik_fu (0 : Int32) (0 : Int32) hf
    · have hf := ik_neg hc hf
      refine ik_aload_n C 0 rfl rfl dX6_status_21 ?_
      refine ik_get C inlX6 0 rfl rfl 7 (by decide) wl_2_3 rfl (v := .ref f0) rfl dX6_status_22 ?_
      refine ik_iload_n C 1 rfl rfl dX6_status_25 ?_
      have hg := ik_gdi hf
      have hf := ik_gdk hf
      refine ik_iald C 1 rfl hg dX6_status_26 ?_
      obtain ⟨rfl, rfl⟩ := ik_e2 hf
      exact ik_iretW C hr hlk dX6_status_27
  · have hf := ik_pos hc hf
    refine ik_aload_n C 0 rfl rfl dX6_status_10 ?_
    refine ik_ldc C wl_5_3 dX6_status_11 ?_
    obtain ⟨r2, g3, hc3, hf⟩ := ik_b2s hf
    have hM := (c_X6_tell l D cI cS o0 np0 kp0 tp0 r0 t0 sh0 f0 isk fnd (-1000001 : Int32) r2 g3 hc3)
    refine ik_goW (v := (some (.int r2))) (wc := (wz_X6of cI cS o0 np0 kp0 tp0 r0 t0 sh0 f0 isk fnd)) (w1 := (wz_X6of cI cS o0 np0 kp0 tp0 r0 t0 sh0 f0 isk g3)) [0, 1] [] 2 rfl rfl (wz_X6of cI cS o0 np0 kp0 tp0 r0 t0 sh0 f0 isk g3) rfl [] rfl rfl rfl (by decide +kernel) (ik_runV (st := []) (As := [.int (-1000001 : Int32)]) C hM mv_X6_tell wl_5_16 ⟨rfl, rfl, Nat.le_of_ble_eq_true rfl, Nat.le_of_ble_eq_true rfl⟩ [0, 1] rfl (by decide +kernel) 0 rfl rfl rfl rfl (Nat.le_of_ble_eq_true rfl) dX6_status_13 ⟨Nat.zero_le _, Nat.zero_le _⟩) rfl ?_
    obtain ⟨rfl, rfl⟩ := ik_e2 hf
    exact ik_iretW C hr hlk dX6_status_16
