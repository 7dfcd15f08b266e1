theorem mv_X6_write : ik_V yX6_write RX6 cX6_write 5 (some .int) 3 := ⟨wl_45_5, wl_45_6, wl_1_2, wl_45_7, by decide +kernel⟩
set_option maxHeartbeats 4000000 in
set_option maxRecDepth 100000 in
theorem c_X6_write (l : Launch) (D : va_G) (cI cS : ClassId) (o0 np0 kp0 tp0 r0 t0 sh0 f0 s00 s10 s20 s30 s01 s11 s21 s31 : Nat) (isk : Int32) (fnd : Nat → Int32) (sbits : Nat → Int32) (ssize : Nat → Int32) (snum : Nat → Nat → Int32) (x1 : Int32) (x2 : Int32) (x3 : Int32) (R : Int32) (fnd_r : Nat → Int32) (snum_r : Nat → Nat → Int32) (hf : f_X6_write fnd sbits ssize snum x1 x2 x3 = some (R, fnd_r, snum_r)) : Met l yX6_write (ik_ws yX6_write cX6_write 5 (some .int)) ({ frames := 2, cells := 0, slots := 0, locals := 44 } : Room) (ik_P D cI cS [.ref o0, .int x1, .int x2, .int x3] (wz_X6ofs cI cS o0 np0 kp0 tp0 r0 t0 sh0 f0 s00 s10 s20 s30 s01 s11 s21 s31 isk fnd sbits ssize snum)) (ik_Q (some (.int R)) D (wz_X6ofs cI cS o0 np0 kp0 tp0 r0 t0 sh0 f0 s00 s10 s20 s30 s01 s11 s21 s31 isk fnd_r sbits ssize snum_r) (wz_X6ofs cI cS o0 np0 kp0 tp0 r0 t0 sh0 f0 s00 s10 s20 s30 s01 s11 s21 s31 isk fnd sbits ssize snum)) 0 0 (ik_in (wz_X6ofs cI cS o0 np0 kp0 tp0 r0 t0 sh0 f0 s00 s10 s20 s30 s01 s11 s21 s31 isk fnd sbits ssize snum)) := by
  refine ik_metW RX6 rfl (by decide) (Nat.le_of_ble_eq_true rfl) [(0, .ref o0), (1, .int x1), (2, .int x2), (3, .int x3)] rfl ?_
  intro p e s m below meth c C hr hlk
  unfold f_X6_write at hf
  refine ik_iload_n C 1 rfl rfl dX6_write_0 ?_
  obtain ⟨r1, hc1, hf⟩ := ik_b1s hf
  refine ik_goR (ik_runS C (c_X6_isSheet l D cI cS x1 r1 hc1) ms_X6_isSheet wl_44_9 ⟨rfl, rfl, Nat.le_of_ble_eq_true rfl, Nat.le_of_ble_eq_true rfl⟩ [] rfl (by decide) rfl rfl (Nat.le_of_ble_eq_true rfl) dX6_write_1) rfl ?_
  refine ik_if_ne C 14 dX6_write_4 (by decide) (fun hc => ?_) (fun hc => ?_)
  · have hf := ik_neg hc hf
    refine ik_aload_n C 0 rfl rfl dX6_write_14 ?_
    refine ik_get C inlX6 0 rfl rfl 6 (by decide) wl_2_1 rfl (v := .ref sh0) rfl dX6_write_15 ?_
    refine ik_iload_n C 1 rfl rfl dX6_write_18 ?_
    have hg := ik_gdi hf
    have hf := ik_gdk hf
    refine ik_aald4 C 2 rfl hg (a0 := s00) (a1 := s10) (a2 := s20) (a3 := s30) rfl rfl rfl rfl dX6_write_19 (fun hc => ?_) (fun hb0 hc => ?_) (fun hb0 hb1 hc => ?_) (fun hb0 hb1 hb2 hc => ?_)
    · have hf := ik_pos hc hf
      refine ik_astore C [(4, .ref s00), (0, .ref o0), (1, .int x1), (2, .int x2), (3, .int x3)] (by decide) rfl dX6_write_20 ?_
      refine ik_aload C 0 rfl dX6_write_22 ?_
      obtain ⟨r2, hc2, hf⟩ := ik_b1s hf
      refine ik_goR (ik_runV C (c_X2_isMissing l D cI cS s00 s01 (sbits 0) (ssize 0) (snum 0) r2 hc2) mv_X2_isMissing wl_45_9 ⟨rfl, rfl, Nat.le_of_ble_eq_true rfl, Nat.le_of_ble_eq_true rfl⟩ [3, 4] rfl (by decide) 3 rfl rfl rfl rfl (Nat.le_of_ble_eq_true rfl) dX6_write_24) rfl ?_
      refine ik_if_eq C 37 dX6_write_27 (by decide) (fun hc => ?_) (fun hc => ?_)
      · have hf := ik_pos hc hf
        refine ik_iload_n C 3 rfl rfl dX6_write_37 ?_
        refine ik_iconst (v := (0 : Int32)) C (by decide) dX6_write_38 ?_
        refine ik_aload C 0 rfl dX6_write_39 ?_
        refine ik_get C inlX2 3 rfl rfl 1 (by decide) wl_45_8 rfl (v := .int (ssize 0)) rfl dX6_write_41 ?_
        refine ik_iconst (v := (1 : Int32)) C (by decide) dX6_write_44 ?_
        refine ik_isub C dX6_write_45 ?_
        obtain ⟨r3, hc3, hf⟩ := ik_b1s hf
        refine ik_goR (ik_runS C (c_X6_isWithin l D cI cS x2 (0 : Int32) ((ssize 0) - (1 : Int32)) r3 hc3) ms_X6_isWithin wl_5_10 ⟨rfl, rfl, Nat.le_of_ble_eq_true rfl, Nat.le_of_ble_eq_true rfl⟩ [] rfl (by decide) rfl rfl (Nat.le_of_ble_eq_true rfl) dX6_write_46) rfl ?_
        refine ik_if_ne C 59 dX6_write_49 (by decide) (fun hc => ?_) (fun hc => ?_)
        · have hf := ik_neg hc hf
          refine ik_aload C 0 rfl dX6_write_59 ?_
          refine ik_iload_n C 3 rfl rfl dX6_write_61 ?_
          refine ik_iload_n C 4 rfl rfl dX6_write_62 ?_
          obtain ⟨g4, hc4, hf⟩ := ik_b1s hf
          refine ik_goW [3, 4] rfl rfl (wz_X6ofs cI cS o0 np0 kp0 tp0 r0 t0 sh0 f0 s00 s10 s20 s30 s01 s11 s21 s31 isk fnd sbits ssize (va_up snum 0 g4)) rfl (ik_runV C (c_X2_put l D cI cS s00 s01 (sbits 0) (ssize 0) (snum 0) x2 x3 g4 hc4) mv_X2_put wl_45_13 ⟨rfl, rfl, Nat.le_of_ble_eq_true rfl, Nat.le_of_ble_eq_true rfl⟩ [3, 4] rfl (by decide) 3 rfl rfl rfl rfl (Nat.le_of_ble_eq_true rfl) dX6_write_63) rfl ?_
          refine ik_iconst (v := (1 : Int32)) C (by decide) dX6_write_66 ?_
          cases hf
          exact ik_iretW C hr hlk dX6_write_67
        · have hf := ik_pos hc hf
          refine ik_aload_n C 1 rfl rfl dX6_write_52 ?_
          refine ik_ldc C wl_5_3 dX6_write_53 ?_
          obtain ⟨r4, g5, hc5, hf⟩ := ik_b2s hf
          refine ik_goW [0, 1] rfl rfl (wz_X6ofs cI cS o0 np0 kp0 tp0 r0 t0 sh0 f0 s00 s10 s20 s30 s01 s11 s21 s31 isk g5 sbits ssize snum) rfl (ik_runV C (c_X6_tell l D cI cS o0 np0 kp0 tp0 r0 t0 sh0 f0 isk fnd (-1000001 : Int32) r4 g5 hc5) mv_X6_tell wl_5_16 ⟨rfl, rfl, Nat.le_of_ble_eq_true rfl, Nat.le_of_ble_eq_true rfl⟩ [0, 1] rfl (by decide) 0 rfl rfl rfl rfl (Nat.le_of_ble_eq_true rfl) dX6_write_55) rfl ?_
          cases hf
          exact ik_iretW C hr hlk dX6_write_58
      · have hf := ik_neg hc hf
        refine ik_aload_n C 1 rfl rfl dX6_write_30 ?_
        refine ik_ldc C wl_43_13 dX6_write_31 ?_
        obtain ⟨r3, g4, hc4, hf⟩ := ik_b2s hf
        refine ik_goW [0, 1] rfl rfl (wz_X6ofs cI cS o0 np0 kp0 tp0 r0 t0 sh0 f0 s00 s10 s20 s30 s01 s11 s21 s31 isk g4 sbits ssize snum) rfl (ik_runV C (c_X6_tell l D cI cS o0 np0 kp0 tp0 r0 t0 sh0 f0 isk fnd (-1000006 : Int32) r3 g4 hc4) mv_X6_tell wl_5_16 ⟨rfl, rfl, Nat.le_of_ble_eq_true rfl, Nat.le_of_ble_eq_true rfl⟩ [0, 1] rfl (by decide) 0 rfl rfl rfl rfl (Nat.le_of_ble_eq_true rfl) dX6_write_33) rfl ?_
        cases hf
        exact ik_iretW C hr hlk dX6_write_36
    · have hf := ik_neg hb0 hf; have hf := ik_pos hc hf
      refine ik_astore C [(4, .ref s10), (0, .ref o0), (1, .int x1), (2, .int x2), (3, .int x3)] (by decide) rfl dX6_write_20 ?_
      refine ik_aload C 0 rfl dX6_write_22 ?_
      obtain ⟨r2, hc2, hf⟩ := ik_b1s hf
      refine ik_goR (ik_runV C (c_X2_isMissing l D cI cS s10 s11 (sbits 1) (ssize 1) (snum 1) r2 hc2) mv_X2_isMissing wl_45_9 ⟨rfl, rfl, Nat.le_of_ble_eq_true rfl, Nat.le_of_ble_eq_true rfl⟩ [5, 6] rfl (by decide) 5 rfl rfl rfl rfl (Nat.le_of_ble_eq_true rfl) dX6_write_24) rfl ?_
      refine ik_if_eq C 37 dX6_write_27 (by decide) (fun hc => ?_) (fun hc => ?_)
      · have hf := ik_pos hc hf
        refine ik_iload_n C 3 rfl rfl dX6_write_37 ?_
        refine ik_iconst (v := (0 : Int32)) C (by decide) dX6_write_38 ?_
        refine ik_aload C 0 rfl dX6_write_39 ?_
        refine ik_get C inlX2 5 rfl rfl 1 (by decide) wl_45_8 rfl (v := .int (ssize 1)) rfl dX6_write_41 ?_
        refine ik_iconst (v := (1 : Int32)) C (by decide) dX6_write_44 ?_
        refine ik_isub C dX6_write_45 ?_
        obtain ⟨r3, hc3, hf⟩ := ik_b1s hf
        refine ik_goR (ik_runS C (c_X6_isWithin l D cI cS x2 (0 : Int32) ((ssize 1) - (1 : Int32)) r3 hc3) ms_X6_isWithin wl_5_10 ⟨rfl, rfl, Nat.le_of_ble_eq_true rfl, Nat.le_of_ble_eq_true rfl⟩ [] rfl (by decide) rfl rfl (Nat.le_of_ble_eq_true rfl) dX6_write_46) rfl ?_
        refine ik_if_ne C 59 dX6_write_49 (by decide) (fun hc => ?_) (fun hc => ?_)
        · have hf := ik_neg hc hf
          refine ik_aload C 0 rfl dX6_write_59 ?_
          refine ik_iload_n C 3 rfl rfl dX6_write_61 ?_
          refine ik_iload_n C 4 rfl rfl dX6_write_62 ?_
          obtain ⟨g4, hc4, hf⟩ := ik_b1s hf
          refine ik_goW [5, 6] rfl rfl (wz_X6ofs cI cS o0 np0 kp0 tp0 r0 t0 sh0 f0 s00 s10 s20 s30 s01 s11 s21 s31 isk fnd sbits ssize (va_up snum 1 g4)) rfl (ik_runV C (c_X2_put l D cI cS s10 s11 (sbits 1) (ssize 1) (snum 1) x2 x3 g4 hc4) mv_X2_put wl_45_13 ⟨rfl, rfl, Nat.le_of_ble_eq_true rfl, Nat.le_of_ble_eq_true rfl⟩ [5, 6] rfl (by decide) 5 rfl rfl rfl rfl (Nat.le_of_ble_eq_true rfl) dX6_write_63) rfl ?_
          refine ik_iconst (v := (1 : Int32)) C (by decide) dX6_write_66 ?_
          cases hf
          exact ik_iretW C hr hlk dX6_write_67
        · have hf := ik_pos hc hf
          refine ik_aload_n C 1 rfl rfl dX6_write_52 ?_
          refine ik_ldc C wl_5_3 dX6_write_53 ?_
          obtain ⟨r4, g5, hc5, hf⟩ := ik_b2s hf
          refine ik_goW [0, 1] rfl rfl (wz_X6ofs cI cS o0 np0 kp0 tp0 r0 t0 sh0 f0 s00 s10 s20 s30 s01 s11 s21 s31 isk g5 sbits ssize snum) rfl (ik_runV C (c_X6_tell l D cI cS o0 np0 kp0 tp0 r0 t0 sh0 f0 isk fnd (-1000001 : Int32) r4 g5 hc5) mv_X6_tell wl_5_16 ⟨rfl, rfl, Nat.le_of_ble_eq_true rfl, Nat.le_of_ble_eq_true rfl⟩ [0, 1] rfl (by decide) 0 rfl rfl rfl rfl (Nat.le_of_ble_eq_true rfl) dX6_write_55) rfl ?_
          cases hf
          exact ik_iretW C hr hlk dX6_write_58
      · have hf := ik_neg hc hf
        refine ik_aload_n C 1 rfl rfl dX6_write_30 ?_
        refine ik_ldc C wl_43_13 dX6_write_31 ?_
        obtain ⟨r3, g4, hc4, hf⟩ := ik_b2s hf
        refine ik_goW [0, 1] rfl rfl (wz_X6ofs cI cS o0 np0 kp0 tp0 r0 t0 sh0 f0 s00 s10 s20 s30 s01 s11 s21 s31 isk g4 sbits ssize snum) rfl (ik_runV C (c_X6_tell l D cI cS o0 np0 kp0 tp0 r0 t0 sh0 f0 isk fnd (-1000006 : Int32) r3 g4 hc4) mv_X6_tell wl_5_16 ⟨rfl, rfl, Nat.le_of_ble_eq_true rfl, Nat.le_of_ble_eq_true rfl⟩ [0, 1] rfl (by decide) 0 rfl rfl rfl rfl (Nat.le_of_ble_eq_true rfl) dX6_write_33) rfl ?_
        cases hf
        exact ik_iretW C hr hlk dX6_write_36
    · have hf := ik_neg hb0 hf; have hf := ik_neg hb1 hf; have hf := ik_pos hc hf
      refine ik_astore C [(4, .ref s20), (0, .ref o0), (1, .int x1), (2, .int x2), (3, .int x3)] (by decide) rfl dX6_write_20 ?_
      refine ik_aload C 0 rfl dX6_write_22 ?_
      obtain ⟨r2, hc2, hf⟩ := ik_b1s hf
      refine ik_goR (ik_runV C (c_X2_isMissing l D cI cS s20 s21 (sbits 2) (ssize 2) (snum 2) r2 hc2) mv_X2_isMissing wl_45_9 ⟨rfl, rfl, Nat.le_of_ble_eq_true rfl, Nat.le_of_ble_eq_true rfl⟩ [7, 8] rfl (by decide) 7 rfl rfl rfl rfl (Nat.le_of_ble_eq_true rfl) dX6_write_24) rfl ?_
      refine ik_if_eq C 37 dX6_write_27 (by decide) (fun hc => ?_) (fun hc => ?_)
      · have hf := ik_pos hc hf
        refine ik_iload_n C 3 rfl rfl dX6_write_37 ?_
        refine ik_iconst (v := (0 : Int32)) C (by decide) dX6_write_38 ?_
        refine ik_aload C 0 rfl dX6_write_39 ?_
        refine ik_get C inlX2 7 rfl rfl 1 (by decide) wl_45_8 rfl (v := .int (ssize 2)) rfl dX6_write_41 ?_
        refine ik_iconst (v := (1 : Int32)) C (by decide) dX6_write_44 ?_
        refine ik_isub C dX6_write_45 ?_
        obtain ⟨r3, hc3, hf⟩ := ik_b1s hf
        refine ik_goR (ik_runS C (c_X6_isWithin l D cI cS x2 (0 : Int32) ((ssize 2) - (1 : Int32)) r3 hc3) ms_X6_isWithin wl_5_10 ⟨rfl, rfl, Nat.le_of_ble_eq_true rfl, Nat.le_of_ble_eq_true rfl⟩ [] rfl (by decide) rfl rfl (Nat.le_of_ble_eq_true rfl) dX6_write_46) rfl ?_
        refine ik_if_ne C 59 dX6_write_49 (by decide) (fun hc => ?_) (fun hc => ?_)
        · have hf := ik_neg hc hf
          refine ik_aload C 0 rfl dX6_write_59 ?_
          refine ik_iload_n C 3 rfl rfl dX6_write_61 ?_
          refine ik_iload_n C 4 rfl rfl dX6_write_62 ?_
          obtain ⟨g4, hc4, hf⟩ := ik_b1s hf
          refine ik_goW [7, 8] rfl rfl (wz_X6ofs cI cS o0 np0 kp0 tp0 r0 t0 sh0 f0 s00 s10 s20 s30 s01 s11 s21 s31 isk fnd sbits ssize (va_up snum 2 g4)) rfl (ik_runV C (c_X2_put l D cI cS s20 s21 (sbits 2) (ssize 2) (snum 2) x2 x3 g4 hc4) mv_X2_put wl_45_13 ⟨rfl, rfl, Nat.le_of_ble_eq_true rfl, Nat.le_of_ble_eq_true rfl⟩ [7, 8] rfl (by decide) 7 rfl rfl rfl rfl (Nat.le_of_ble_eq_true rfl) dX6_write_63) rfl ?_
          refine ik_iconst (v := (1 : Int32)) C (by decide) dX6_write_66 ?_
          cases hf
          exact ik_iretW C hr hlk dX6_write_67
        · have hf := ik_pos hc hf
          refine ik_aload_n C 1 rfl rfl dX6_write_52 ?_
          refine ik_ldc C wl_5_3 dX6_write_53 ?_
          obtain ⟨r4, g5, hc5, hf⟩ := ik_b2s hf
          refine ik_goW [0, 1] rfl rfl (wz_X6ofs cI cS o0 np0 kp0 tp0 r0 t0 sh0 f0 s00 s10 s20 s30 s01 s11 s21 s31 isk g5 sbits ssize snum) rfl (ik_runV C (c_X6_tell l D cI cS o0 np0 kp0 tp0 r0 t0 sh0 f0 isk fnd (-1000001 : Int32) r4 g5 hc5) mv_X6_tell wl_5_16 ⟨rfl, rfl, Nat.le_of_ble_eq_true rfl, Nat.le_of_ble_eq_true rfl⟩ [0, 1] rfl (by decide) 0 rfl rfl rfl rfl (Nat.le_of_ble_eq_true rfl) dX6_write_55) rfl ?_
          cases hf
          exact ik_iretW C hr hlk dX6_write_58
      · have hf := ik_neg hc hf
        refine ik_aload_n C 1 rfl rfl dX6_write_30 ?_
        refine ik_ldc C wl_43_13 dX6_write_31 ?_
        obtain ⟨r3, g4, hc4, hf⟩ := ik_b2s hf
        refine ik_goW [0, 1] rfl rfl (wz_X6ofs cI cS o0 np0 kp0 tp0 r0 t0 sh0 f0 s00 s10 s20 s30 s01 s11 s21 s31 isk g4 sbits ssize snum) rfl (ik_runV C (c_X6_tell l D cI cS o0 np0 kp0 tp0 r0 t0 sh0 f0 isk fnd (-1000006 : Int32) r3 g4 hc4) mv_X6_tell wl_5_16 ⟨rfl, rfl, Nat.le_of_ble_eq_true rfl, Nat.le_of_ble_eq_true rfl⟩ [0, 1] rfl (by decide) 0 rfl rfl rfl rfl (Nat.le_of_ble_eq_true rfl) dX6_write_33) rfl ?_
        cases hf
        exact ik_iretW C hr hlk dX6_write_36
    · have hf := ik_neg hb0 hf; have hf := ik_neg hb1 hf; have hf := ik_neg hb2 hf
      refine ik_astore C [(4, .ref s30), (0, .ref o0), (1, .int x1), (2, .int x2), (3, .int x3)] (by decide) rfl dX6_write_20 ?_
      refine ik_aload C 0 rfl dX6_write_22 ?_
      obtain ⟨r2, hc2, hf⟩ := ik_b1s hf
      refine ik_goR (ik_runV C (c_X2_isMissing l D cI cS s30 s31 (sbits 3) (ssize 3) (snum 3) r2 hc2) mv_X2_isMissing wl_45_9 ⟨rfl, rfl, Nat.le_of_ble_eq_true rfl, Nat.le_of_ble_eq_true rfl⟩ [9, 10] rfl (by decide) 9 rfl rfl rfl rfl (Nat.le_of_ble_eq_true rfl) dX6_write_24) rfl ?_
      refine ik_if_eq C 37 dX6_write_27 (by decide) (fun hc => ?_) (fun hc => ?_)
      · have hf := ik_pos hc hf
        refine ik_iload_n C 3 rfl rfl dX6_write_37 ?_
        refine ik_iconst (v := (0 : Int32)) C (by decide) dX6_write_38 ?_
        refine ik_aload C 0 rfl dX6_write_39 ?_
        refine ik_get C inlX2 9 rfl rfl 1 (by decide) wl_45_8 rfl (v := .int (ssize 3)) rfl dX6_write_41 ?_
        refine ik_iconst (v := (1 : Int32)) C (by decide) dX6_write_44 ?_
        refine ik_isub C dX6_write_45 ?_
        obtain ⟨r3, hc3, hf⟩ := ik_b1s hf
        refine ik_goR (ik_runS C (c_X6_isWithin l D cI cS x2 (0 : Int32) ((ssize 3) - (1 : Int32)) r3 hc3) ms_X6_isWithin wl_5_10 ⟨rfl, rfl, Nat.le_of_ble_eq_true rfl, Nat.le_of_ble_eq_true rfl⟩ [] rfl (by decide) rfl rfl (Nat.le_of_ble_eq_true rfl) dX6_write_46) rfl ?_
        refine ik_if_ne C 59 dX6_write_49 (by decide) (fun hc => ?_) (fun hc => ?_)
        · have hf := ik_neg hc hf
          refine ik_aload C 0 rfl dX6_write_59 ?_
          refine ik_iload_n C 3 rfl rfl dX6_write_61 ?_
          refine ik_iload_n C 4 rfl rfl dX6_write_62 ?_
          obtain ⟨g4, hc4, hf⟩ := ik_b1s hf
          refine ik_goW [9, 10] rfl rfl (wz_X6ofs cI cS o0 np0 kp0 tp0 r0 t0 sh0 f0 s00 s10 s20 s30 s01 s11 s21 s31 isk fnd sbits ssize (va_up snum 3 g4)) rfl (ik_runV C (c_X2_put l D cI cS s30 s31 (sbits 3) (ssize 3) (snum 3) x2 x3 g4 hc4) mv_X2_put wl_45_13 ⟨rfl, rfl, Nat.le_of_ble_eq_true rfl, Nat.le_of_ble_eq_true rfl⟩ [9, 10] rfl (by decide) 9 rfl rfl rfl rfl (Nat.le_of_ble_eq_true rfl) dX6_write_63) rfl ?_
          refine ik_iconst (v := (1 : Int32)) C (by decide) dX6_write_66 ?_
          cases hf
          exact ik_iretW C hr hlk dX6_write_67
        · have hf := ik_pos hc hf
          refine ik_aload_n C 1 rfl rfl dX6_write_52 ?_
          refine ik_ldc C wl_5_3 dX6_write_53 ?_
          obtain ⟨r4, g5, hc5, hf⟩ := ik_b2s hf
          refine ik_goW [0, 1] rfl rfl (wz_X6ofs cI cS o0 np0 kp0 tp0 r0 t0 sh0 f0 s00 s10 s20 s30 s01 s11 s21 s31 isk g5 sbits ssize snum) rfl (ik_runV C (c_X6_tell l D cI cS o0 np0 kp0 tp0 r0 t0 sh0 f0 isk fnd (-1000001 : Int32) r4 g5 hc5) mv_X6_tell wl_5_16 ⟨rfl, rfl, Nat.le_of_ble_eq_true rfl, Nat.le_of_ble_eq_true rfl⟩ [0, 1] rfl (by decide) 0 rfl rfl rfl rfl (Nat.le_of_ble_eq_true rfl) dX6_write_55) rfl ?_
          cases hf
          exact ik_iretW C hr hlk dX6_write_58
      · have hf := ik_neg hc hf
        refine ik_aload_n C 1 rfl rfl dX6_write_30 ?_
        refine ik_ldc C wl_43_13 dX6_write_31 ?_
        obtain ⟨r3, g4, hc4, hf⟩ := ik_b2s hf
        refine ik_goW [0, 1] rfl rfl (wz_X6ofs cI cS o0 np0 kp0 tp0 r0 t0 sh0 f0 s00 s10 s20 s30 s01 s11 s21 s31 isk g4 sbits ssize snum) rfl (ik_runV C (c_X6_tell l D cI cS o0 np0 kp0 tp0 r0 t0 sh0 f0 isk fnd (-1000006 : Int32) r3 g4 hc4) mv_X6_tell wl_5_16 ⟨rfl, rfl, Nat.le_of_ble_eq_true rfl, Nat.le_of_ble_eq_true rfl⟩ [0, 1] rfl (by decide) 0 rfl rfl rfl rfl (Nat.le_of_ble_eq_true rfl) dX6_write_33) rfl ?_
        cases hf
        exact ik_iretW C hr hlk dX6_write_36
  · have hf := ik_pos hc hf
    refine ik_aload_n C 0 rfl rfl dX6_write_7 ?_
    refine ik_ldc C wl_5_3 dX6_write_8 ?_
    obtain ⟨r2, g3, hc3, hf⟩ := ik_b2s hf
    refine ik_goW [0, 1] rfl rfl (wz_X6ofs cI cS o0 np0 kp0 tp0 r0 t0 sh0 f0 s00 s10 s20 s30 s01 s11 s21 s31 isk g3 sbits ssize snum) rfl (ik_runV C (c_X6_tell l D cI cS o0 np0 kp0 tp0 r0 t0 sh0 f0 isk fnd (-1000001 : Int32) r2 g3 hc3) mv_X6_tell wl_5_16 ⟨rfl, rfl, Nat.le_of_ble_eq_true rfl, Nat.le_of_ble_eq_true rfl⟩ [0, 1] rfl (by decide) 0 rfl rfl rfl rfl (Nat.le_of_ble_eq_true rfl) dX6_write_10) rfl ?_
    cases hf
    exact ik_iretW C hr hlk dX6_write_13
theorem mv_X6_copy : ik_V yX6_copy RX6 cX6_copy 8 (some .int) 5 := ⟨wl_45_22, wl_45_23, wl_1_2, wl_46_0, by decide +kernel⟩
set_option maxHeartbeats 4000000 in
set_option maxRecDepth 100000 in
theorem c_X6_copy (l : Launch) (D : va_G) (cI cS : ClassId) (o0 np0 kp0 tp0 r0 t0 sh0 f0 s00 s10 s20 s30 s01 s11 s21 s31 : Nat) (isk : Int32) (fnd : Nat → Int32) (sbits : Nat → Int32) (ssize : Nat → Int32) (snum : Nat → Nat → Int32) (x1 : Int32) (x2 : Int32) (x3 : Int32) (x4 : Int32) (x5 : Int32) (R : Int32) (fnd_r : Nat → Int32) (snum_r : Nat → Nat → Int32) (hf : f_X6_copy fnd sbits ssize snum x1 x2 x3 x4 x5 = some (R, fnd_r, snum_r)) : Met l yX6_copy (ik_ws yX6_copy cX6_copy 8 (some .int)) ({ frames := 2, cells := 0, slots := 0, locals := 60 } : Room) (ik_P D cI cS [.ref o0, .int x1, .int x2, .int x3, .int x4, .int x5] (wz_X6ofs cI cS o0 np0 kp0 tp0 r0 t0 sh0 f0 s00 s10 s20 s30 s01 s11 s21 s31 isk fnd sbits ssize snum)) (ik_Q (some (.int R)) D (wz_X6ofs cI cS o0 np0 kp0 tp0 r0 t0 sh0 f0 s00 s10 s20 s30 s01 s11 s21 s31 isk fnd_r sbits ssize snum_r) (wz_X6ofs cI cS o0 np0 kp0 tp0 r0 t0 sh0 f0 s00 s10 s20 s30 s01 s11 s21 s31 isk fnd sbits ssize snum)) 0 0 (ik_in (wz_X6ofs cI cS o0 np0 kp0 tp0 r0 t0 sh0 f0 s00 s10 s20 s30 s01 s11 s21 s31 isk fnd sbits ssize snum)) := by
  refine ik_metW RX6 rfl (by decide) (Nat.le_of_ble_eq_true rfl) [(0, .ref o0), (1, .int x1), (2, .int x2), (3, .int x3), (4, .int x4), (5, .int x5)] rfl ?_
  intro p e s m below meth c C hr hlk
  unfold f_X6_copy at hf
  refine ik_iload_n C 1 rfl rfl dX6_copy_0 ?_
  obtain ⟨r1, hc1, hf⟩ := ik_b1s hf
  refine ik_goR (ik_runS C (c_X6_isSheet l D cI cS x1 r1 hc1) ms_X6_isSheet wl_44_9 ⟨rfl, rfl, Nat.le_of_ble_eq_true rfl, Nat.le_of_ble_eq_true rfl⟩ [] rfl (by decide) rfl rfl (Nat.le_of_ble_eq_true rfl) dX6_copy_1) rfl ?_
  refine ik_if_eq C 14 dX6_copy_4 (by decide) (fun hc => ?_) (fun hc => ?_)
  · have hf := ik_pos hc hf
    refine ik_aload_n C 0 rfl rfl dX6_copy_14 ?_
    refine ik_ldc C wl_5_3 dX6_copy_15 ?_
    obtain ⟨r2, g3, hc3, hf⟩ := ik_b2s hf
    refine ik_goW [0, 1] rfl rfl (wz_X6ofs cI cS o0 np0 kp0 tp0 r0 t0 sh0 f0 s00 s10 s20 s30 s01 s11 s21 s31 isk g3 sbits ssize snum) rfl (ik_runV C (c_X6_tell l D cI cS o0 np0 kp0 tp0 r0 t0 sh0 f0 isk fnd (-1000001 : Int32) r2 g3 hc3) mv_X6_tell wl_5_16 ⟨rfl, rfl, Nat.le_of_ble_eq_true rfl, Nat.le_of_ble_eq_true rfl⟩ [0, 1] rfl (by decide) 0 rfl rfl rfl rfl (Nat.le_of_ble_eq_true rfl) dX6_copy_17) rfl ?_
    cases hf
    exact ik_iretW C hr hlk dX6_copy_20
  · have hf := ik_neg hc hf
    refine ik_iload_n C 3 rfl rfl dX6_copy_7 ?_
    obtain ⟨r2, hc2, hf⟩ := ik_b1s hf
    refine ik_goR (ik_runS C (c_X6_isSheet l D cI cS x3 r2 hc2) ms_X6_isSheet wl_44_9 ⟨rfl, rfl, Nat.le_of_ble_eq_true rfl, Nat.le_of_ble_eq_true rfl⟩ [] rfl (by decide) rfl rfl (Nat.le_of_ble_eq_true rfl) dX6_copy_8) rfl ?_
    refine ik_if_ne C 21 dX6_copy_11 (by decide) (fun hc => ?_) (fun hc => ?_)
    · have hf := ik_neg hc hf
      refine ik_aload_n C 0 rfl rfl dX6_copy_21 ?_
      refine ik_get C inlX6 0 rfl rfl 6 (by decide) wl_2_1 rfl (v := .ref sh0) rfl dX6_copy_22 ?_
      refine ik_iload_n C 1 rfl rfl dX6_copy_25 ?_
      have hg := ik_gdi hf
      have hf := ik_gdk hf
      refine ik_aald4 C 2 rfl hg (a0 := s00) (a1 := s10) (a2 := s20) (a3 := s30) rfl rfl rfl rfl dX6_copy_26 (fun hc => ?_) (fun hb0 hc => ?_) (fun hb0 hb1 hc => ?_) (fun hb0 hb1 hb2 hc => ?_)
      · have hf := ik_pos hc hf
        refine ik_astore C [(6, .ref s00), (0, .ref o0), (1, .int x1), (2, .int x2), (3, .int x3), (4, .int x4), (5, .int x5)] (by decide) rfl dX6_copy_27 ?_
        refine ik_aload_n C 1 rfl rfl dX6_copy_29 ?_
        refine ik_get C inlX6 0 rfl rfl 6 (by decide) wl_2_1 rfl (v := .ref sh0) rfl dX6_copy_30 ?_
        refine ik_iload_n C 4 rfl rfl dX6_copy_33 ?_
        have hg := ik_gdi hf
        have hf := ik_gdk hf
        refine ik_aald4 C 2 rfl hg (a0 := s00) (a1 := s10) (a2 := s20) (a3 := s30) rfl rfl rfl rfl dX6_copy_34 (fun hc => ?_) (fun hb0 hc => ?_) (fun hb0 hb1 hc => ?_) (fun hb0 hb1 hb2 hc => ?_)
        · have hf := ik_pos hc hf
          refine ik_astore C [(7, .ref s00), (6, .ref s00), (0, .ref o0), (1, .int x1), (2, .int x2), (3, .int x3), (4, .int x4), (5, .int x5)] (by decide) rfl dX6_copy_35 ?_
          refine ik_aload C 1 rfl dX6_copy_37 ?_
          obtain ⟨r3, hc3, hf⟩ := ik_b1s hf
          refine ik_goR (ik_runV C (c_X2_isMissing l D cI cS s00 s01 (sbits 0) (ssize 0) (snum 0) r3 hc3) mv_X2_isMissing wl_45_9 ⟨rfl, rfl, Nat.le_of_ble_eq_true rfl, Nat.le_of_ble_eq_true rfl⟩ [3, 4] rfl (by decide) 3 rfl rfl rfl rfl (Nat.le_of_ble_eq_true rfl) dX6_copy_39) rfl ?_
          refine ik_if_ne C 53 dX6_copy_42 (by decide) (fun hc => ?_) (fun hc => ?_)
          · have hf := ik_neg hc hf
            refine ik_aload_n C 2 rfl rfl dX6_copy_53 ?_
            refine ik_ldc C wl_43_13 dX6_copy_54 ?_
            obtain ⟨r4, g5, hc5, hf⟩ := ik_b2s hf
            refine ik_goW [0, 1] rfl rfl (wz_X6ofs cI cS o0 np0 kp0 tp0 r0 t0 sh0 f0 s00 s10 s20 s30 s01 s11 s21 s31 isk g5 sbits ssize snum) rfl (ik_runV C (c_X6_tell l D cI cS o0 np0 kp0 tp0 r0 t0 sh0 f0 isk fnd (-1000006 : Int32) r4 g5 hc5) mv_X6_tell wl_5_16 ⟨rfl, rfl, Nat.le_of_ble_eq_true rfl, Nat.le_of_ble_eq_true rfl⟩ [0, 1] rfl (by decide) 0 rfl rfl rfl rfl (Nat.le_of_ble_eq_true rfl) dX6_copy_56) rfl ?_
            cases hf
            exact ik_iretW C hr hlk dX6_copy_59
          · have hf := ik_pos hc hf
            refine ik_aload C 0 rfl dX6_copy_45 ?_
            obtain ⟨r4, hc4, hf⟩ := ik_b1s hf
            refine ik_goR (ik_runV C (c_X2_isMissing l D cI cS s00 s01 (sbits 0) (ssize 0) (snum 0) r4 hc4) mv_X2_isMissing wl_45_9 ⟨rfl, rfl, Nat.le_of_ble_eq_true rfl, Nat.le_of_ble_eq_true rfl⟩ [3, 4] rfl (by decide) 3 rfl rfl rfl rfl (Nat.le_of_ble_eq_true rfl) dX6_copy_47) rfl ?_
            refine ik_if_eq C 60 dX6_copy_50 (by decide) (fun hc => ?_) (fun hc => ?_)
            · have hf := ik_pos hc hf
              refine ik_aload C 1 rfl dX6_copy_60 ?_
              refine ik_get C inlX2 3 rfl rfl 0 (by decide) wl_46_1 rfl (v := .int (sbits 0)) rfl dX6_copy_62 ?_
              refine ik_aload C 0 rfl dX6_copy_65 ?_
              refine ik_get C inlX2 3 rfl rfl 0 (by decide) wl_46_1 rfl (v := .int (sbits 0)) rfl dX6_copy_67 ?_
              refine ik_icmp_eq C 80 dX6_copy_70 (by decide) (fun hc => ?_) (fun hc => ?_)
              · have hf := ik_pos hc hf
                refine ik_aload C 1 rfl dX6_copy_80 ?_
                refine ik_iload_n C 4 rfl rfl dX6_copy_82 ?_
                refine ik_iload C 7 rfl dX6_copy_83 ?_
                obtain ⟨r5, hc5, hf⟩ := ik_b1s hf
                refine ik_goR (ik_runV C (c_X2_hasRange l D cI cS s00 s01 (sbits 0) (ssize 0) (snum 0) x2 x5 r5 hc5) mv_X2_hasRange wl_46_4 ⟨rfl, rfl, Nat.le_of_ble_eq_true rfl, Nat.le_of_ble_eq_true rfl⟩ [3, 4] rfl (by decide) 3 rfl rfl rfl rfl (Nat.le_of_ble_eq_true rfl) dX6_copy_85) rfl ?_
                refine ik_if_eq C 103 dX6_copy_88 (by decide) (fun hc => ?_) (fun hc => ?_)
                · have hf := ik_pos hc hf
                  refine ik_aload_n C 2 rfl rfl dX6_copy_103 ?_
                  refine ik_ldc C wl_5_3 dX6_copy_104 ?_
                  obtain ⟨r6, g7, hc7, hf⟩ := ik_b2s hf
                  refine ik_goW [0, 1] rfl rfl (wz_X6ofs cI cS o0 np0 kp0 tp0 r0 t0 sh0 f0 s00 s10 s20 s30 s01 s11 s21 s31 isk g7 sbits ssize snum) rfl (ik_runV C (c_X6_tell l D cI cS o0 np0 kp0 tp0 r0 t0 sh0 f0 isk fnd (-1000001 : Int32) r6 g7 hc7) mv_X6_tell wl_5_16 ⟨rfl, rfl, Nat.le_of_ble_eq_true rfl, Nat.le_of_ble_eq_true rfl⟩ [0, 1] rfl (by decide) 0 rfl rfl rfl rfl (Nat.le_of_ble_eq_true rfl) dX6_copy_106) rfl ?_
                  cases hf
                  exact ik_iretW C hr hlk dX6_copy_109
                · have hf := ik_neg hc hf
                  refine ik_aload C 0 rfl dX6_copy_91 ?_
                  refine ik_iload C 6 rfl dX6_copy_93 ?_
                  refine ik_iload C 7 rfl dX6_copy_95 ?_
                  obtain ⟨r6, hc6, hf⟩ := ik_b1s hf
                  refine ik_goR (ik_runV C (c_X2_hasRange l D cI cS s00 s01 (sbits 0) (ssize 0) (snum 0) x4 x5 r6 hc6) mv_X2_hasRange wl_46_4 ⟨rfl, rfl, Nat.le_of_ble_eq_true rfl, Nat.le_of_ble_eq_true rfl⟩ [3, 4] rfl (by decide) 3 rfl rfl rfl rfl (Nat.le_of_ble_eq_true rfl) dX6_copy_97) rfl ?_
                  refine ik_if_ne C 110 dX6_copy_100 (by decide) (fun hc => ?_) (fun hc => ?_)
                  · have hf := ik_neg hc hf
                    refine ik_aload C 1 rfl dX6_copy_110 ?_
                    refine ik_get C inlX2 3 rfl rfl 2 (by decide) wl_46_2 rfl (v := .ref s01) rfl dX6_copy_112 ?_
                    refine ik_iload_n C 4 rfl rfl dX6_copy_115 ?_
                    refine ik_aload C 0 rfl dX6_copy_116 ?_
                    refine ik_get C inlX2 3 rfl rfl 2 (by decide) wl_46_2 rfl (v := .ref s01) rfl dX6_copy_118 ?_
                    refine ik_iload C 6 rfl dX6_copy_121 ?_
                    refine ik_iload C 7 rfl dX6_copy_123 ?_
                    have hg := ik_gci hf
                    have hf := ik_gck hf
                    refine ik_copy C wl_46_3 wl_23_19 wl_23_20 wl_23_21 4 4 rfl rfl hg (Nat.le_of_ble_eq_true rfl) (Nat.le_of_ble_eq_true rfl) (wz_X6ofs cI cS o0 np0 kp0 tp0 r0 t0 sh0 f0 s00 s10 s20 s30 s01 s11 s21 s31 isk fnd sbits ssize (va_up snum 0 (va_cpy (snum 0) (snum 0) (x2).toNatClampNeg (x4).toNatClampNeg (x5).toNatClampNeg))) rfl dX6_copy_125 ?_
                    refine ik_iload C 7 rfl dX6_copy_128 ?_
                    cases hf
                    exact ik_iretW C hr hlk dX6_copy_130
                  · have hf := ik_pos hc hf
                    refine ik_aload_n C 2 rfl rfl dX6_copy_103 ?_
                    refine ik_ldc C wl_5_3 dX6_copy_104 ?_
                    obtain ⟨r7, g8, hc8, hf⟩ := ik_b2s hf
                    refine ik_goW [0, 1] rfl rfl (wz_X6ofs cI cS o0 np0 kp0 tp0 r0 t0 sh0 f0 s00 s10 s20 s30 s01 s11 s21 s31 isk g8 sbits ssize snum) rfl (ik_runV C (c_X6_tell l D cI cS o0 np0 kp0 tp0 r0 t0 sh0 f0 isk fnd (-1000001 : Int32) r7 g8 hc8) mv_X6_tell wl_5_16 ⟨rfl, rfl, Nat.le_of_ble_eq_true rfl, Nat.le_of_ble_eq_true rfl⟩ [0, 1] rfl (by decide) 0 rfl rfl rfl rfl (Nat.le_of_ble_eq_true rfl) dX6_copy_106) rfl ?_
                    cases hf
                    exact ik_iretW C hr hlk dX6_copy_109
              · have hf := ik_neg hc hf
                refine ik_aload_n C 2 rfl rfl dX6_copy_73 ?_
                refine ik_ldc C wl_43_14 dX6_copy_74 ?_
                obtain ⟨r5, g6, hc6, hf⟩ := ik_b2s hf
                refine ik_goW [0, 1] rfl rfl (wz_X6ofs cI cS o0 np0 kp0 tp0 r0 t0 sh0 f0 s00 s10 s20 s30 s01 s11 s21 s31 isk g6 sbits ssize snum) rfl (ik_runV C (c_X6_tell l D cI cS o0 np0 kp0 tp0 r0 t0 sh0 f0 isk fnd (-1000003 : Int32) r5 g6 hc6) mv_X6_tell wl_5_16 ⟨rfl, rfl, Nat.le_of_ble_eq_true rfl, Nat.le_of_ble_eq_true rfl⟩ [0, 1] rfl (by decide) 0 rfl rfl rfl rfl (Nat.le_of_ble_eq_true rfl) dX6_copy_76) rfl ?_
                cases hf
                exact ik_iretW C hr hlk dX6_copy_79
            · have hf := ik_neg hc hf
              refine ik_aload_n C 2 rfl rfl dX6_copy_53 ?_
              refine ik_ldc C wl_43_13 dX6_copy_54 ?_
              obtain ⟨r5, g6, hc6, hf⟩ := ik_b2s hf
              refine ik_goW [0, 1] rfl rfl (wz_X6ofs cI cS o0 np0 kp0 tp0 r0 t0 sh0 f0 s00 s10 s20 s30 s01 s11 s21 s31 isk g6 sbits ssize snum) rfl (ik_runV C (c_X6_tell l D cI cS o0 np0 kp0 tp0 r0 t0 sh0 f0 isk fnd (-1000006 : Int32) r5 g6 hc6) mv_X6_tell wl_5_16 ⟨rfl, rfl, Nat.le_of_ble_eq_true rfl, Nat.le_of_ble_eq_true rfl⟩ [0, 1] rfl (by decide) 0 rfl rfl rfl rfl (Nat.le_of_ble_eq_true rfl) dX6_copy_56) rfl ?_
              cases hf
              exact ik_iretW C hr hlk dX6_copy_59
        · have hf := ik_neg hb0 hf; have hf := ik_pos hc hf
          refine ik_astore C [(7, .ref s10), (6, .ref s00), (0, .ref o0), (1, .int x1), (2, .int x2), (3, .int x3), (4, .int x4), (5, .int x5)] (by decide) rfl dX6_copy_35 ?_
          refine ik_aload C 1 rfl dX6_copy_37 ?_
          obtain ⟨r3, hc3, hf⟩ := ik_b1s hf
          refine ik_goR (ik_runV C (c_X2_isMissing l D cI cS s00 s01 (sbits 0) (ssize 0) (snum 0) r3 hc3) mv_X2_isMissing wl_45_9 ⟨rfl, rfl, Nat.le_of_ble_eq_true rfl, Nat.le_of_ble_eq_true rfl⟩ [3, 4] rfl (by decide) 3 rfl rfl rfl rfl (Nat.le_of_ble_eq_true rfl) dX6_copy_39) rfl ?_
          refine ik_if_ne C 53 dX6_copy_42 (by decide) (fun hc => ?_) (fun hc => ?_)
          · have hf := ik_neg hc hf
            refine ik_aload_n C 2 rfl rfl dX6_copy_53 ?_
            refine ik_ldc C wl_43_13 dX6_copy_54 ?_
            obtain ⟨r4, g5, hc5, hf⟩ := ik_b2s hf
            refine ik_goW [0, 1] rfl rfl (wz_X6ofs cI cS o0 np0 kp0 tp0 r0 t0 sh0 f0 s00 s10 s20 s30 s01 s11 s21 s31 isk g5 sbits ssize snum) rfl (ik_runV C (c_X6_tell l D cI cS o0 np0 kp0 tp0 r0 t0 sh0 f0 isk fnd (-1000006 : Int32) r4 g5 hc5) mv_X6_tell wl_5_16 ⟨rfl, rfl, Nat.le_of_ble_eq_true rfl, Nat.le_of_ble_eq_true rfl⟩ [0, 1] rfl (by decide) 0 rfl rfl rfl rfl (Nat.le_of_ble_eq_true rfl) dX6_copy_56) rfl ?_
            cases hf
            exact ik_iretW C hr hlk dX6_copy_59
          · have hf := ik_pos hc hf
            refine ik_aload C 0 rfl dX6_copy_45 ?_
            obtain ⟨r4, hc4, hf⟩ := ik_b1s hf
            refine ik_goR (ik_runV C (c_X2_isMissing l D cI cS s10 s11 (sbits 1) (ssize 1) (snum 1) r4 hc4) mv_X2_isMissing wl_45_9 ⟨rfl, rfl, Nat.le_of_ble_eq_true rfl, Nat.le_of_ble_eq_true rfl⟩ [5, 6] rfl (by decide) 5 rfl rfl rfl rfl (Nat.le_of_ble_eq_true rfl) dX6_copy_47) rfl ?_
            refine ik_if_eq C 60 dX6_copy_50 (by decide) (fun hc => ?_) (fun hc => ?_)
            · have hf := ik_pos hc hf
              refine ik_aload C 1 rfl dX6_copy_60 ?_
              refine ik_get C inlX2 3 rfl rfl 0 (by decide) wl_46_1 rfl (v := .int (sbits 0)) rfl dX6_copy_62 ?_
              refine ik_aload C 0 rfl dX6_copy_65 ?_
              refine ik_get C inlX2 5 rfl rfl 0 (by decide) wl_46_1 rfl (v := .int (sbits 1)) rfl dX6_copy_67 ?_
              refine ik_icmp_eq C 80 dX6_copy_70 (by decide) (fun hc => ?_) (fun hc => ?_)
              · have hf := ik_pos hc hf
                refine ik_aload C 1 rfl dX6_copy_80 ?_
                refine ik_iload_n C 4 rfl rfl dX6_copy_82 ?_
                refine ik_iload C 7 rfl dX6_copy_83 ?_
                obtain ⟨r5, hc5, hf⟩ := ik_b1s hf
                refine ik_goR (ik_runV C (c_X2_hasRange l D cI cS s00 s01 (sbits 0) (ssize 0) (snum 0) x2 x5 r5 hc5) mv_X2_hasRange wl_46_4 ⟨rfl, rfl, Nat.le_of_ble_eq_true rfl, Nat.le_of_ble_eq_true rfl⟩ [3, 4] rfl (by decide) 3 rfl rfl rfl rfl (Nat.le_of_ble_eq_true rfl) dX6_copy_85) rfl ?_
                refine ik_if_eq C 103 dX6_copy_88 (by decide) (fun hc => ?_) (fun hc => ?_)
                · have hf := ik_pos hc hf
                  refine ik_aload_n C 2 rfl rfl dX6_copy_103 ?_
                  refine ik_ldc C wl_5_3 dX6_copy_104 ?_
                  obtain ⟨r6, g7, hc7, hf⟩ := ik_b2s hf
                  refine ik_goW [0, 1] rfl rfl (wz_X6ofs cI cS o0 np0 kp0 tp0 r0 t0 sh0 f0 s00 s10 s20 s30 s01 s11 s21 s31 isk g7 sbits ssize snum) rfl (ik_runV C (c_X6_tell l D cI cS o0 np0 kp0 tp0 r0 t0 sh0 f0 isk fnd (-1000001 : Int32) r6 g7 hc7) mv_X6_tell wl_5_16 ⟨rfl, rfl, Nat.le_of_ble_eq_true rfl, Nat.le_of_ble_eq_true rfl⟩ [0, 1] rfl (by decide) 0 rfl rfl rfl rfl (Nat.le_of_ble_eq_true rfl) dX6_copy_106) rfl ?_
                  cases hf
                  exact ik_iretW C hr hlk dX6_copy_109
                · have hf := ik_neg hc hf
                  refine ik_aload C 0 rfl dX6_copy_91 ?_
                  refine ik_iload C 6 rfl dX6_copy_93 ?_
                  refine ik_iload C 7 rfl dX6_copy_95 ?_
                  obtain ⟨r6, hc6, hf⟩ := ik_b1s hf
                  refine ik_goR (ik_runV C (c_X2_hasRange l D cI cS s10 s11 (sbits 1) (ssize 1) (snum 1) x4 x5 r6 hc6) mv_X2_hasRange wl_46_4 ⟨rfl, rfl, Nat.le_of_ble_eq_true rfl, Nat.le_of_ble_eq_true rfl⟩ [5, 6] rfl (by decide) 5 rfl rfl rfl rfl (Nat.le_of_ble_eq_true rfl) dX6_copy_97) rfl ?_
                  refine ik_if_ne C 110 dX6_copy_100 (by decide) (fun hc => ?_) (fun hc => ?_)
                  · have hf := ik_neg hc hf
                    refine ik_aload C 1 rfl dX6_copy_110 ?_
                    refine ik_get C inlX2 3 rfl rfl 2 (by decide) wl_46_2 rfl (v := .ref s01) rfl dX6_copy_112 ?_
                    refine ik_iload_n C 4 rfl rfl dX6_copy_115 ?_
                    refine ik_aload C 0 rfl dX6_copy_116 ?_
                    refine ik_get C inlX2 5 rfl rfl 2 (by decide) wl_46_2 rfl (v := .ref s11) rfl dX6_copy_118 ?_
                    refine ik_iload C 6 rfl dX6_copy_121 ?_
                    refine ik_iload C 7 rfl dX6_copy_123 ?_
                    have hg := ik_gci hf
                    have hf := ik_gck hf
                    refine ik_copy C wl_46_3 wl_23_19 wl_23_20 wl_23_21 4 6 rfl rfl hg (Nat.le_of_ble_eq_true rfl) (Nat.le_of_ble_eq_true rfl) (wz_X6ofs cI cS o0 np0 kp0 tp0 r0 t0 sh0 f0 s00 s10 s20 s30 s01 s11 s21 s31 isk fnd sbits ssize (va_up snum 1 (va_cpy (snum 0) (snum 1) (x2).toNatClampNeg (x4).toNatClampNeg (x5).toNatClampNeg))) rfl dX6_copy_125 ?_
                    refine ik_iload C 7 rfl dX6_copy_128 ?_
                    cases hf
                    exact ik_iretW C hr hlk dX6_copy_130
                  · have hf := ik_pos hc hf
                    refine ik_aload_n C 2 rfl rfl dX6_copy_103 ?_
                    refine ik_ldc C wl_5_3 dX6_copy_104 ?_
                    obtain ⟨r7, g8, hc8, hf⟩ := ik_b2s hf
                    refine ik_goW [0, 1] rfl rfl (wz_X6ofs cI cS o0 np0 kp0 tp0 r0 t0 sh0 f0 s00 s10 s20 s30 s01 s11 s21 s31 isk g8 sbits ssize snum) rfl (ik_runV C (c_X6_tell l D cI cS o0 np0 kp0 tp0 r0 t0 sh0 f0 isk fnd (-1000001 : Int32) r7 g8 hc8) mv_X6_tell wl_5_16 ⟨rfl, rfl, Nat.le_of_ble_eq_true rfl, Nat.le_of_ble_eq_true rfl⟩ [0, 1] rfl (by decide) 0 rfl rfl rfl rfl (Nat.le_of_ble_eq_true rfl) dX6_copy_106) rfl ?_
                    cases hf
                    exact ik_iretW C hr hlk dX6_copy_109
              · have hf := ik_neg hc hf
                refine ik_aload_n C 2 rfl rfl dX6_copy_73 ?_
                refine ik_ldc C wl_43_14 dX6_copy_74 ?_
                obtain ⟨r5, g6, hc6, hf⟩ := ik_b2s hf
                refine ik_goW [0, 1] rfl rfl (wz_X6ofs cI cS o0 np0 kp0 tp0 r0 t0 sh0 f0 s00 s10 s20 s30 s01 s11 s21 s31 isk g6 sbits ssize snum) rfl (ik_runV C (c_X6_tell l D cI cS o0 np0 kp0 tp0 r0 t0 sh0 f0 isk fnd (-1000003 : Int32) r5 g6 hc6) mv_X6_tell wl_5_16 ⟨rfl, rfl, Nat.le_of_ble_eq_true rfl, Nat.le_of_ble_eq_true rfl⟩ [0, 1] rfl (by decide) 0 rfl rfl rfl rfl (Nat.le_of_ble_eq_true rfl) dX6_copy_76) rfl ?_
                cases hf
                exact ik_iretW C hr hlk dX6_copy_79
            · have hf := ik_neg hc hf
              refine ik_aload_n C 2 rfl rfl dX6_copy_53 ?_
              refine ik_ldc C wl_43_13 dX6_copy_54 ?_
              obtain ⟨r5, g6, hc6, hf⟩ := ik_b2s hf
              refine ik_goW [0, 1] rfl rfl (wz_X6ofs cI cS o0 np0 kp0 tp0 r0 t0 sh0 f0 s00 s10 s20 s30 s01 s11 s21 s31 isk g6 sbits ssize snum) rfl (ik_runV C (c_X6_tell l D cI cS o0 np0 kp0 tp0 r0 t0 sh0 f0 isk fnd (-1000006 : Int32) r5 g6 hc6) mv_X6_tell wl_5_16 ⟨rfl, rfl, Nat.le_of_ble_eq_true rfl, Nat.le_of_ble_eq_true rfl⟩ [0, 1] rfl (by decide) 0 rfl rfl rfl rfl (Nat.le_of_ble_eq_true rfl) dX6_copy_56) rfl ?_
              cases hf
              exact ik_iretW C hr hlk dX6_copy_59
        · have hf := ik_neg hb0 hf; have hf := ik_neg hb1 hf; have hf := ik_pos hc hf
          refine ik_astore C [(7, .ref s20), (6, .ref s00), (0, .ref o0), (1, .int x1), (2, .int x2), (3, .int x3), (4, .int x4), (5, .int x5)] (by decide) rfl dX6_copy_35 ?_
          refine ik_aload C 1 rfl dX6_copy_37 ?_
          obtain ⟨r3, hc3, hf⟩ := ik_b1s hf
          refine ik_goR (ik_runV C (c_X2_isMissing l D cI cS s00 s01 (sbits 0) (ssize 0) (snum 0) r3 hc3) mv_X2_isMissing wl_45_9 ⟨rfl, rfl, Nat.le_of_ble_eq_true rfl, Nat.le_of_ble_eq_true rfl⟩ [3, 4] rfl (by decide) 3 rfl rfl rfl rfl (Nat.le_of_ble_eq_true rfl) dX6_copy_39) rfl ?_
          refine ik_if_ne C 53 dX6_copy_42 (by decide) (fun hc => ?_) (fun hc => ?_)
          · have hf := ik_neg hc hf
            refine ik_aload_n C 2 rfl rfl dX6_copy_53 ?_
            refine ik_ldc C wl_43_13 dX6_copy_54 ?_
            obtain ⟨r4, g5, hc5, hf⟩ := ik_b2s hf
            refine ik_goW [0, 1] rfl rfl (wz_X6ofs cI cS o0 np0 kp0 tp0 r0 t0 sh0 f0 s00 s10 s20 s30 s01 s11 s21 s31 isk g5 sbits ssize snum) rfl (ik_runV C (c_X6_tell l D cI cS o0 np0 kp0 tp0 r0 t0 sh0 f0 isk fnd (-1000006 : Int32) r4 g5 hc5) mv_X6_tell wl_5_16 ⟨rfl, rfl, Nat.le_of_ble_eq_true rfl, Nat.le_of_ble_eq_true rfl⟩ [0, 1] rfl (by decide) 0 rfl rfl rfl rfl (Nat.le_of_ble_eq_true rfl) dX6_copy_56) rfl ?_
            cases hf
            exact ik_iretW C hr hlk dX6_copy_59
          · have hf := ik_pos hc hf
            refine ik_aload C 0 rfl dX6_copy_45 ?_
            obtain ⟨r4, hc4, hf⟩ := ik_b1s hf
            refine ik_goR (ik_runV C (c_X2_isMissing l D cI cS s20 s21 (sbits 2) (ssize 2) (snum 2) r4 hc4) mv_X2_isMissing wl_45_9 ⟨rfl, rfl, Nat.le_of_ble_eq_true rfl, Nat.le_of_ble_eq_true rfl⟩ [7, 8] rfl (by decide) 7 rfl rfl rfl rfl (Nat.le_of_ble_eq_true rfl) dX6_copy_47) rfl ?_
            refine ik_if_eq C 60 dX6_copy_50 (by decide) (fun hc => ?_) (fun hc => ?_)
            · have hf := ik_pos hc hf
              refine ik_aload C 1 rfl dX6_copy_60 ?_
              refine ik_get C inlX2 3 rfl rfl 0 (by decide) wl_46_1 rfl (v := .int (sbits 0)) rfl dX6_copy_62 ?_
              refine ik_aload C 0 rfl dX6_copy_65 ?_
              refine ik_get C inlX2 7 rfl rfl 0 (by decide) wl_46_1 rfl (v := .int (sbits 2)) rfl dX6_copy_67 ?_
              refine ik_icmp_eq C 80 dX6_copy_70 (by decide) (fun hc => ?_) (fun hc => ?_)
              · have hf := ik_pos hc hf
                refine ik_aload C 1 rfl dX6_copy_80 ?_
                refine ik_iload_n C 4 rfl rfl dX6_copy_82 ?_
                refine ik_iload C 7 rfl dX6_copy_83 ?_
                obtain ⟨r5, hc5, hf⟩ := ik_b1s hf
                refine ik_goR (ik_runV C (c_X2_hasRange l D cI cS s00 s01 (sbits 0) (ssize 0) (snum 0) x2 x5 r5 hc5) mv_X2_hasRange wl_46_4 ⟨rfl, rfl, Nat.le_of_ble_eq_true rfl, Nat.le_of_ble_eq_true rfl⟩ [3, 4] rfl (by decide) 3 rfl rfl rfl rfl (Nat.le_of_ble_eq_true rfl) dX6_copy_85) rfl ?_
                refine ik_if_eq C 103 dX6_copy_88 (by decide) (fun hc => ?_) (fun hc => ?_)
                · have hf := ik_pos hc hf
                  refine ik_aload_n C 2 rfl rfl dX6_copy_103 ?_
                  refine ik_ldc C wl_5_3 dX6_copy_104 ?_
                  obtain ⟨r6, g7, hc7, hf⟩ := ik_b2s hf
                  refine ik_goW [0, 1] rfl rfl (wz_X6ofs cI cS o0 np0 kp0 tp0 r0 t0 sh0 f0 s00 s10 s20 s30 s01 s11 s21 s31 isk g7 sbits ssize snum) rfl (ik_runV C (c_X6_tell l D cI cS o0 np0 kp0 tp0 r0 t0 sh0 f0 isk fnd (-1000001 : Int32) r6 g7 hc7) mv_X6_tell wl_5_16 ⟨rfl, rfl, Nat.le_of_ble_eq_true rfl, Nat.le_of_ble_eq_true rfl⟩ [0, 1] rfl (by decide) 0 rfl rfl rfl rfl (Nat.le_of_ble_eq_true rfl) dX6_copy_106) rfl ?_
                  cases hf
                  exact ik_iretW C hr hlk dX6_copy_109
                · have hf := ik_neg hc hf
                  refine ik_aload C 0 rfl dX6_copy_91 ?_
                  refine ik_iload C 6 rfl dX6_copy_93 ?_
                  refine ik_iload C 7 rfl dX6_copy_95 ?_
                  obtain ⟨r6, hc6, hf⟩ := ik_b1s hf
                  refine ik_goR (ik_runV C (c_X2_hasRange l D cI cS s20 s21 (sbits 2) (ssize 2) (snum 2) x4 x5 r6 hc6) mv_X2_hasRange wl_46_4 ⟨rfl, rfl, Nat.le_of_ble_eq_true rfl, Nat.le_of_ble_eq_true rfl⟩ [7, 8] rfl (by decide) 7 rfl rfl rfl rfl (Nat.le_of_ble_eq_true rfl) dX6_copy_97) rfl ?_
                  refine ik_if_ne C 110 dX6_copy_100 (by decide) (fun hc => ?_) (fun hc => ?_)
                  · have hf := ik_neg hc hf
                    refine ik_aload C 1 rfl dX6_copy_110 ?_
                    refine ik_get C inlX2 3 rfl rfl 2 (by decide) wl_46_2 rfl (v := .ref s01) rfl dX6_copy_112 ?_
                    refine ik_iload_n C 4 rfl rfl dX6_copy_115 ?_
                    refine ik_aload C 0 rfl dX6_copy_116 ?_
                    refine ik_get C inlX2 7 rfl rfl 2 (by decide) wl_46_2 rfl (v := .ref s21) rfl dX6_copy_118 ?_
                    refine ik_iload C 6 rfl dX6_copy_121 ?_
                    refine ik_iload C 7 rfl dX6_copy_123 ?_
                    have hg := ik_gci hf
                    have hf := ik_gck hf
                    refine ik_copy C wl_46_3 wl_23_19 wl_23_20 wl_23_21 4 8 rfl rfl hg (Nat.le_of_ble_eq_true rfl) (Nat.le_of_ble_eq_true rfl) (wz_X6ofs cI cS o0 np0 kp0 tp0 r0 t0 sh0 f0 s00 s10 s20 s30 s01 s11 s21 s31 isk fnd sbits ssize (va_up snum 2 (va_cpy (snum 0) (snum 2) (x2).toNatClampNeg (x4).toNatClampNeg (x5).toNatClampNeg))) rfl dX6_copy_125 ?_
                    refine ik_iload C 7 rfl dX6_copy_128 ?_
                    cases hf
                    exact ik_iretW C hr hlk dX6_copy_130
                  · have hf := ik_pos hc hf
                    refine ik_aload_n C 2 rfl rfl dX6_copy_103 ?_
                    refine ik_ldc C wl_5_3 dX6_copy_104 ?_
                    obtain ⟨r7, g8, hc8, hf⟩ := ik_b2s hf
                    refine ik_goW [0, 1] rfl rfl (wz_X6ofs cI cS o0 np0 kp0 tp0 r0 t0 sh0 f0 s00 s10 s20 s30 s01 s11 s21 s31 isk g8 sbits ssize snum) rfl (ik_runV C (c_X6_tell l D cI cS o0 np0 kp0 tp0 r0 t0 sh0 f0 isk fnd (-1000001 : Int32) r7 g8 hc8) mv_X6_tell wl_5_16 ⟨rfl, rfl, Nat.le_of_ble_eq_true rfl, Nat.le_of_ble_eq_true rfl⟩ [0, 1] rfl (by decide) 0 rfl rfl rfl rfl (Nat.le_of_ble_eq_true rfl) dX6_copy_106) rfl ?_
                    cases hf
                    exact ik_iretW C hr hlk dX6_copy_109
              · have hf := ik_neg hc hf
                refine ik_aload_n C 2 rfl rfl dX6_copy_73 ?_
                refine ik_ldc C wl_43_14 dX6_copy_74 ?_
                obtain ⟨r5, g6, hc6, hf⟩ := ik_b2s hf
                refine ik_goW [0, 1] rfl rfl (wz_X6ofs cI cS o0 np0 kp0 tp0 r0 t0 sh0 f0 s00 s10 s20 s30 s01 s11 s21 s31 isk g6 sbits ssize snum) rfl (ik_runV C (c_X6_tell l D cI cS o0 np0 kp0 tp0 r0 t0 sh0 f0 isk fnd (-1000003 : Int32) r5 g6 hc6) mv_X6_tell wl_5_16 ⟨rfl, rfl, Nat.le_of_ble_eq_true rfl, Nat.le_of_ble_eq_true rfl⟩ [0, 1] rfl (by decide) 0 rfl rfl rfl rfl (Nat.le_of_ble_eq_true rfl) dX6_copy_76) rfl ?_
                cases hf
                exact ik_iretW C hr hlk dX6_copy_79
            · have hf := ik_neg hc hf
              refine ik_aload_n C 2 rfl rfl dX6_copy_53 ?_
              refine ik_ldc C wl_43_13 dX6_copy_54 ?_
              obtain ⟨r5, g6, hc6, hf⟩ := ik_b2s hf
              refine ik_goW [0, 1] rfl rfl (wz_X6ofs cI cS o0 np0 kp0 tp0 r0 t0 sh0 f0 s00 s10 s20 s30 s01 s11 s21 s31 isk g6 sbits ssize snum) rfl (ik_runV C (c_X6_tell l D cI cS o0 np0 kp0 tp0 r0 t0 sh0 f0 isk fnd (-1000006 : Int32) r5 g6 hc6) mv_X6_tell wl_5_16 ⟨rfl, rfl, Nat.le_of_ble_eq_true rfl, Nat.le_of_ble_eq_true rfl⟩ [0, 1] rfl (by decide) 0 rfl rfl rfl rfl (Nat.le_of_ble_eq_true rfl) dX6_copy_56) rfl ?_
              cases hf
              exact ik_iretW C hr hlk dX6_copy_59
        · have hf := ik_neg hb0 hf; have hf := ik_neg hb1 hf; have hf := ik_neg hb2 hf
          refine ik_astore C [(7, .ref s30), (6, .ref s00), (0, .ref o0), (1, .int x1), (2, .int x2), (3, .int x3), (4, .int x4), (5, .int x5)] (by decide) rfl dX6_copy_35 ?_
          refine ik_aload C 1 rfl dX6_copy_37 ?_
          obtain ⟨r3, hc3, hf⟩ := ik_b1s hf
          refine ik_goR (ik_runV C (c_X2_isMissing l D cI cS s00 s01 (sbits 0) (ssize 0) (snum 0) r3 hc3) mv_X2_isMissing wl_45_9 ⟨rfl, rfl, Nat.le_of_ble_eq_true rfl, Nat.le_of_ble_eq_true rfl⟩ [3, 4] rfl (by decide) 3 rfl rfl rfl rfl (Nat.le_of_ble_eq_true rfl) dX6_copy_39) rfl ?_
          refine ik_if_ne C 53 dX6_copy_42 (by decide) (fun hc => ?_) (fun hc => ?_)
          · have hf := ik_neg hc hf
            refine ik_aload_n C 2 rfl rfl dX6_copy_53 ?_
            refine ik_ldc C wl_43_13 dX6_copy_54 ?_
            obtain ⟨r4, g5, hc5, hf⟩ := ik_b2s hf
            refine ik_goW [0, 1] rfl rfl (wz_X6ofs cI cS o0 np0 kp0 tp0 r0 t0 sh0 f0 s00 s10 s20 s30 s01 s11 s21 s31 isk g5 sbits ssize snum) rfl (ik_runV C (c_X6_tell l D cI cS o0 np0 kp0 tp0 r0 t0 sh0 f0 isk fnd (-1000006 : Int32) r4 g5 hc5) mv_X6_tell wl_5_16 ⟨rfl, rfl, Nat.le_of_ble_eq_true rfl, Nat.le_of_ble_eq_true rfl⟩ [0, 1] rfl (by decide) 0 rfl rfl rfl rfl (Nat.le_of_ble_eq_true rfl) dX6_copy_56) rfl ?_
            cases hf
            exact ik_iretW C hr hlk dX6_copy_59
          · have hf := ik_pos hc hf
            refine ik_aload C 0 rfl dX6_copy_45 ?_
            obtain ⟨r4, hc4, hf⟩ := ik_b1s hf
            refine ik_goR (ik_runV C (c_X2_isMissing l D cI cS s30 s31 (sbits 3) (ssize 3) (snum 3) r4 hc4) mv_X2_isMissing wl_45_9 ⟨rfl, rfl, Nat.le_of_ble_eq_true rfl, Nat.le_of_ble_eq_true rfl⟩ [9, 10] rfl (by decide) 9 rfl rfl rfl rfl (Nat.le_of_ble_eq_true rfl) dX6_copy_47) rfl ?_
            refine ik_if_eq C 60 dX6_copy_50 (by decide) (fun hc => ?_) (fun hc => ?_)
            · have hf := ik_pos hc hf
              refine ik_aload C 1 rfl dX6_copy_60 ?_
              refine ik_get C inlX2 3 rfl rfl 0 (by decide) wl_46_1 rfl (v := .int (sbits 0)) rfl dX6_copy_62 ?_
              refine ik_aload C 0 rfl dX6_copy_65 ?_
              refine ik_get C inlX2 9 rfl rfl 0 (by decide) wl_46_1 rfl (v := .int (sbits 3)) rfl dX6_copy_67 ?_
              refine ik_icmp_eq C 80 dX6_copy_70 (by decide) (fun hc => ?_) (fun hc => ?_)
              · have hf := ik_pos hc hf
                refine ik_aload C 1 rfl dX6_copy_80 ?_
                refine ik_iload_n C 4 rfl rfl dX6_copy_82 ?_
                refine ik_iload C 7 rfl dX6_copy_83 ?_
                obtain ⟨r5, hc5, hf⟩ := ik_b1s hf
                refine ik_goR (ik_runV C (c_X2_hasRange l D cI cS s00 s01 (sbits 0) (ssize 0) (snum 0) x2 x5 r5 hc5) mv_X2_hasRange wl_46_4 ⟨rfl, rfl, Nat.le_of_ble_eq_true rfl, Nat.le_of_ble_eq_true rfl⟩ [3, 4] rfl (by decide) 3 rfl rfl rfl rfl (Nat.le_of_ble_eq_true rfl) dX6_copy_85) rfl ?_
                refine ik_if_eq C 103 dX6_copy_88 (by decide) (fun hc => ?_) (fun hc => ?_)
                · have hf := ik_pos hc hf
                  refine ik_aload_n C 2 rfl rfl dX6_copy_103 ?_
                  refine ik_ldc C wl_5_3 dX6_copy_104 ?_
                  obtain ⟨r6, g7, hc7, hf⟩ := ik_b2s hf
                  refine ik_goW [0, 1] rfl rfl (wz_X6ofs cI cS o0 np0 kp0 tp0 r0 t0 sh0 f0 s00 s10 s20 s30 s01 s11 s21 s31 isk g7 sbits ssize snum) rfl (ik_runV C (c_X6_tell l D cI cS o0 np0 kp0 tp0 r0 t0 sh0 f0 isk fnd (-1000001 : Int32) r6 g7 hc7) mv_X6_tell wl_5_16 ⟨rfl, rfl, Nat.le_of_ble_eq_true rfl, Nat.le_of_ble_eq_true rfl⟩ [0, 1] rfl (by decide) 0 rfl rfl rfl rfl (Nat.le_of_ble_eq_true rfl) dX6_copy_106) rfl ?_
                  cases hf
                  exact ik_iretW C hr hlk dX6_copy_109
                · have hf := ik_neg hc hf
                  refine ik_aload C 0 rfl dX6_copy_91 ?_
                  refine ik_iload C 6 rfl dX6_copy_93 ?_
                  refine ik_iload C 7 rfl dX6_copy_95 ?_
                  obtain ⟨r6, hc6, hf⟩ := ik_b1s hf
                  refine ik_goR (ik_runV C (c_X2_hasRange l D cI cS s30 s31 (sbits 3) (ssize 3) (snum 3) x4 x5 r6 hc6) mv_X2_hasRange wl_46_4 ⟨rfl, rfl, Nat.le_of_ble_eq_true rfl, Nat.le_of_ble_eq_true rfl⟩ [9, 10] rfl (by decide) 9 rfl rfl rfl rfl (Nat.le_of_ble_eq_true rfl) dX6_copy_97) rfl ?_
                  refine ik_if_ne C 110 dX6_copy_100 (by decide) (fun hc => ?_) (fun hc => ?_)
                  · have hf := ik_neg hc hf
                    refine ik_aload C 1 rfl dX6_copy_110 ?_
                    refine ik_get C inlX2 3 rfl rfl 2 (by decide) wl_46_2 rfl (v := .ref s01) rfl dX6_copy_112 ?_
                    refine ik_iload_n C 4 rfl rfl dX6_copy_115 ?_
                    refine ik_aload C 0 rfl dX6_copy_116 ?_
                    refine ik_get C inlX2 9 rfl rfl 2 (by decide) wl_46_2 rfl (v := .ref s31) rfl dX6_copy_118 ?_
                    refine ik_iload C 6 rfl dX6_copy_121 ?_
                    refine ik_iload C 7 rfl dX6_copy_123 ?_
                    have hg := ik_gci hf
                    have hf := ik_gck hf
                    refine ik_copy C wl_46_3 wl_23_19 wl_23_20 wl_23_21 4 10 rfl rfl hg (Nat.le_of_ble_eq_true rfl) (Nat.le_of_ble_eq_true rfl) (wz_X6ofs cI cS o0 np0 kp0 tp0 r0 t0 sh0 f0 s00 s10 s20 s30 s01 s11 s21 s31 isk fnd sbits ssize (va_up snum 3 (va_cpy (snum 0) (snum 3) (x2).toNatClampNeg (x4).toNatClampNeg (x5).toNatClampNeg))) rfl dX6_copy_125 ?_
                    refine ik_iload C 7 rfl dX6_copy_128 ?_
                    cases hf
                    exact ik_iretW C hr hlk dX6_copy_130
                  · have hf := ik_pos hc hf
                    refine ik_aload_n C 2 rfl rfl dX6_copy_103 ?_
                    refine ik_ldc C wl_5_3 dX6_copy_104 ?_
                    obtain ⟨r7, g8, hc8, hf⟩ := ik_b2s hf
                    refine ik_goW [0, 1] rfl rfl (wz_X6ofs cI cS o0 np0 kp0 tp0 r0 t0 sh0 f0 s00 s10 s20 s30 s01 s11 s21 s31 isk g8 sbits ssize snum) rfl (ik_runV C (c_X6_tell l D cI cS o0 np0 kp0 tp0 r0 t0 sh0 f0 isk fnd (-1000001 : Int32) r7 g8 hc8) mv_X6_tell wl_5_16 ⟨rfl, rfl, Nat.le_of_ble_eq_true rfl, Nat.le_of_ble_eq_true rfl⟩ [0, 1] rfl (by decide) 0 rfl rfl rfl rfl (Nat.le_of_ble_eq_true rfl) dX6_copy_106) rfl ?_
                    cases hf
                    exact ik_iretW C hr hlk dX6_copy_109
              · have hf := ik_neg hc hf
                refine ik_aload_n C 2 rfl rfl dX6_copy_73 ?_
                refine ik_ldc C wl_43_14 dX6_copy_74 ?_
                obtain ⟨r5, g6, hc6, hf⟩ := ik_b2s hf
                refine ik_goW [0, 1] rfl rfl (wz_X6ofs cI cS o0 np0 kp0 tp0 r0 t0 sh0 f0 s00 s10 s20 s30 s01 s11 s21 s31 isk g6 sbits ssize snum) rfl (ik_runV C (c_X6_tell l D cI cS o0 np0 kp0 tp0 r0 t0 sh0 f0 isk fnd (-1000003 : Int32) r5 g6 hc6) mv_X6_tell wl_5_16 ⟨rfl, rfl, Nat.le_of_ble_eq_true rfl, Nat.le_of_ble_eq_true rfl⟩ [0, 1] rfl (by decide) 0 rfl rfl rfl rfl (Nat.le_of_ble_eq_true rfl) dX6_copy_76) rfl ?_
                cases hf
                exact ik_iretW C hr hlk dX6_copy_79
            · have hf := ik_neg hc hf
              refine ik_aload_n C 2 rfl rfl dX6_copy_53 ?_
              refine ik_ldc C wl_43_13 dX6_copy_54 ?_
              obtain ⟨r5, g6, hc6, hf⟩ := ik_b2s hf
              refine ik_goW [0, 1] rfl rfl (wz_X6ofs cI cS o0 np0 kp0 tp0 r0 t0 sh0 f0 s00 s10 s20 s30 s01 s11 s21 s31 isk g6 sbits ssize snum) rfl (ik_runV C (c_X6_tell l D cI cS o0 np0 kp0 tp0 r0 t0 sh0 f0 isk fnd (-1000006 : Int32) r5 g6 hc6) mv_X6_tell wl_5_16 ⟨rfl, rfl, Nat.le_of_ble_eq_true rfl, Nat.le_of_ble_eq_true rfl⟩ [0, 1] rfl (by decide) 0 rfl rfl rfl rfl (Nat.le_of_ble_eq_true rfl) dX6_copy_56) rfl ?_
              cases hf
              exact ik_iretW C hr hlk dX6_copy_59
      · have hf := ik_neg hb0 hf; have hf := ik_pos hc hf
        refine ik_astore C [(6, .ref s10), (0, .ref o0), (1, .int x1), (2, .int x2), (3, .int x3), (4, .int x4), (5, .int x5)] (by decide) rfl dX6_copy_27 ?_
        refine ik_aload_n C 1 rfl rfl dX6_copy_29 ?_
        refine ik_get C inlX6 0 rfl rfl 6 (by decide) wl_2_1 rfl (v := .ref sh0) rfl dX6_copy_30 ?_
        refine ik_iload_n C 4 rfl rfl dX6_copy_33 ?_
        have hg := ik_gdi hf
        have hf := ik_gdk hf
        refine ik_aald4 C 2 rfl hg (a0 := s00) (a1 := s10) (a2 := s20) (a3 := s30) rfl rfl rfl rfl dX6_copy_34 (fun hc => ?_) (fun hb0 hc => ?_) (fun hb0 hb1 hc => ?_) (fun hb0 hb1 hb2 hc => ?_)
        · have hf := ik_pos hc hf
          refine ik_astore C [(7, .ref s00), (6, .ref s10), (0, .ref o0), (1, .int x1), (2, .int x2), (3, .int x3), (4, .int x4), (5, .int x5)] (by decide) rfl dX6_copy_35 ?_
          refine ik_aload C 1 rfl dX6_copy_37 ?_
          obtain ⟨r3, hc3, hf⟩ := ik_b1s hf
          refine ik_goR (ik_runV C (c_X2_isMissing l D cI cS s10 s11 (sbits 1) (ssize 1) (snum 1) r3 hc3) mv_X2_isMissing wl_45_9 ⟨rfl, rfl, Nat.le_of_ble_eq_true rfl, Nat.le_of_ble_eq_true rfl⟩ [5, 6] rfl (by decide) 5 rfl rfl rfl rfl (Nat.le_of_ble_eq_true rfl) dX6_copy_39) rfl ?_
          refine ik_if_ne C 53 dX6_copy_42 (by decide) (fun hc => ?_) (fun hc => ?_)
          · have hf := ik_neg hc hf
            refine ik_aload_n C 2 rfl rfl dX6_copy_53 ?_
            refine ik_ldc C wl_43_13 dX6_copy_54 ?_
            obtain ⟨r4, g5, hc5, hf⟩ := ik_b2s hf
            refine ik_goW [0, 1] rfl rfl (wz_X6ofs cI cS o0 np0 kp0 tp0 r0 t0 sh0 f0 s00 s10 s20 s30 s01 s11 s21 s31 isk g5 sbits ssize snum) rfl (ik_runV C (c_X6_tell l D cI cS o0 np0 kp0 tp0 r0 t0 sh0 f0 isk fnd (-1000006 : Int32) r4 g5 hc5) mv_X6_tell wl_5_16 ⟨rfl, rfl, Nat.le_of_ble_eq_true rfl, Nat.le_of_ble_eq_true rfl⟩ [0, 1] rfl (by decide) 0 rfl rfl rfl rfl (Nat.le_of_ble_eq_true rfl) dX6_copy_56) rfl ?_
            cases hf
            exact ik_iretW C hr hlk dX6_copy_59
          · have hf := ik_pos hc hf
            refine ik_aload C 0 rfl dX6_copy_45 ?_
            obtain ⟨r4, hc4, hf⟩ := ik_b1s hf
            refine ik_goR (ik_runV C (c_X2_isMissing l D cI cS s00 s01 (sbits 0) (ssize 0) (snum 0) r4 hc4) mv_X2_isMissing wl_45_9 ⟨rfl, rfl, Nat.le_of_ble_eq_true rfl, Nat.le_of_ble_eq_true rfl⟩ [3, 4] rfl (by decide) 3 rfl rfl rfl rfl (Nat.le_of_ble_eq_true rfl) dX6_copy_47) rfl ?_
            refine ik_if_eq C 60 dX6_copy_50 (by decide) (fun hc => ?_) (fun hc => ?_)
            · have hf := ik_pos hc hf
              refine ik_aload C 1 rfl dX6_copy_60 ?_
              refine ik_get C inlX2 5 rfl rfl 0 (by decide) wl_46_1 rfl (v := .int (sbits 1)) rfl dX6_copy_62 ?_
              refine ik_aload C 0 rfl dX6_copy_65 ?_
              refine ik_get C inlX2 3 rfl rfl 0 (by decide) wl_46_1 rfl (v := .int (sbits 0)) rfl dX6_copy_67 ?_
              refine ik_icmp_eq C 80 dX6_copy_70 (by decide) (fun hc => ?_) (fun hc => ?_)
              · have hf := ik_pos hc hf
                refine ik_aload C 1 rfl dX6_copy_80 ?_
                refine ik_iload_n C 4 rfl rfl dX6_copy_82 ?_
                refine ik_iload C 7 rfl dX6_copy_83 ?_
                obtain ⟨r5, hc5, hf⟩ := ik_b1s hf
                refine ik_goR (ik_runV C (c_X2_hasRange l D cI cS s10 s11 (sbits 1) (ssize 1) (snum 1) x2 x5 r5 hc5) mv_X2_hasRange wl_46_4 ⟨rfl, rfl, Nat.le_of_ble_eq_true rfl, Nat.le_of_ble_eq_true rfl⟩ [5, 6] rfl (by decide) 5 rfl rfl rfl rfl (Nat.le_of_ble_eq_true rfl) dX6_copy_85) rfl ?_
                refine ik_if_eq C 103 dX6_copy_88 (by decide) (fun hc => ?_) (fun hc => ?_)
                · have hf := ik_pos hc hf
                  refine ik_aload_n C 2 rfl rfl dX6_copy_103 ?_
                  refine ik_ldc C wl_5_3 dX6_copy_104 ?_
                  obtain ⟨r6, g7, hc7, hf⟩ := ik_b2s hf
                  refine ik_goW [0, 1] rfl rfl (wz_X6ofs cI cS o0 np0 kp0 tp0 r0 t0 sh0 f0 s00 s10 s20 s30 s01 s11 s21 s31 isk g7 sbits ssize snum) rfl (ik_runV C (c_X6_tell l D cI cS o0 np0 kp0 tp0 r0 t0 sh0 f0 isk fnd (-1000001 : Int32) r6 g7 hc7) mv_X6_tell wl_5_16 ⟨rfl, rfl, Nat.le_of_ble_eq_true rfl, Nat.le_of_ble_eq_true rfl⟩ [0, 1] rfl (by decide) 0 rfl rfl rfl rfl (Nat.le_of_ble_eq_true rfl) dX6_copy_106) rfl ?_
                  cases hf
                  exact ik_iretW C hr hlk dX6_copy_109
                · have hf := ik_neg hc hf
                  refine ik_aload C 0 rfl dX6_copy_91 ?_
                  refine ik_iload C 6 rfl dX6_copy_93 ?_
                  refine ik_iload C 7 rfl dX6_copy_95 ?_
                  obtain ⟨r6, hc6, hf⟩ := ik_b1s hf
                  refine ik_goR (ik_runV C (c_X2_hasRange l D cI cS s00 s01 (sbits 0) (ssize 0) (snum 0) x4 x5 r6 hc6) mv_X2_hasRange wl_46_4 ⟨rfl, rfl, Nat.le_of_ble_eq_true rfl, Nat.le_of_ble_eq_true rfl⟩ [3, 4] rfl (by decide) 3 rfl rfl rfl rfl (Nat.le_of_ble_eq_true rfl) dX6_copy_97) rfl ?_
                  refine ik_if_ne C 110 dX6_copy_100 (by decide) (fun hc => ?_) (fun hc => ?_)
                  · have hf := ik_neg hc hf
                    refine ik_aload C 1 rfl dX6_copy_110 ?_
                    refine ik_get C inlX2 5 rfl rfl 2 (by decide) wl_46_2 rfl (v := .ref s11) rfl dX6_copy_112 ?_
                    refine ik_iload_n C 4 rfl rfl dX6_copy_115 ?_
                    refine ik_aload C 0 rfl dX6_copy_116 ?_
                    refine ik_get C inlX2 3 rfl rfl 2 (by decide) wl_46_2 rfl (v := .ref s01) rfl dX6_copy_118 ?_
                    refine ik_iload C 6 rfl dX6_copy_121 ?_
                    refine ik_iload C 7 rfl dX6_copy_123 ?_
                    have hg := ik_gci hf
                    have hf := ik_gck hf
                    refine ik_copy C wl_46_3 wl_23_19 wl_23_20 wl_23_21 6 4 rfl rfl hg (Nat.le_of_ble_eq_true rfl) (Nat.le_of_ble_eq_true rfl) (wz_X6ofs cI cS o0 np0 kp0 tp0 r0 t0 sh0 f0 s00 s10 s20 s30 s01 s11 s21 s31 isk fnd sbits ssize (va_up snum 0 (va_cpy (snum 1) (snum 0) (x2).toNatClampNeg (x4).toNatClampNeg (x5).toNatClampNeg))) rfl dX6_copy_125 ?_
                    refine ik_iload C 7 rfl dX6_copy_128 ?_
                    cases hf
                    exact ik_iretW C hr hlk dX6_copy_130
                  · have hf := ik_pos hc hf
                    refine ik_aload_n C 2 rfl rfl dX6_copy_103 ?_
                    refine ik_ldc C wl_5_3 dX6_copy_104 ?_
                    obtain ⟨r7, g8, hc8, hf⟩ := ik_b2s hf
                    refine ik_goW [0, 1] rfl rfl (wz_X6ofs cI cS o0 np0 kp0 tp0 r0 t0 sh0 f0 s00 s10 s20 s30 s01 s11 s21 s31 isk g8 sbits ssize snum) rfl (ik_runV C (c_X6_tell l D cI cS o0 np0 kp0 tp0 r0 t0 sh0 f0 isk fnd (-1000001 : Int32) r7 g8 hc8) mv_X6_tell wl_5_16 ⟨rfl, rfl, Nat.le_of_ble_eq_true rfl, Nat.le_of_ble_eq_true rfl⟩ [0, 1] rfl (by decide) 0 rfl rfl rfl rfl (Nat.le_of_ble_eq_true rfl) dX6_copy_106) rfl ?_
                    cases hf
                    exact ik_iretW C hr hlk dX6_copy_109
              · have hf := ik_neg hc hf
                refine ik_aload_n C 2 rfl rfl dX6_copy_73 ?_
                refine ik_ldc C wl_43_14 dX6_copy_74 ?_
                obtain ⟨r5, g6, hc6, hf⟩ := ik_b2s hf
                refine ik_goW [0, 1] rfl rfl (wz_X6ofs cI cS o0 np0 kp0 tp0 r0 t0 sh0 f0 s00 s10 s20 s30 s01 s11 s21 s31 isk g6 sbits ssize snum) rfl (ik_runV C (c_X6_tell l D cI cS o0 np0 kp0 tp0 r0 t0 sh0 f0 isk fnd (-1000003 : Int32) r5 g6 hc6) mv_X6_tell wl_5_16 ⟨rfl, rfl, Nat.le_of_ble_eq_true rfl, Nat.le_of_ble_eq_true rfl⟩ [0, 1] rfl (by decide) 0 rfl rfl rfl rfl (Nat.le_of_ble_eq_true rfl) dX6_copy_76) rfl ?_
                cases hf
                exact ik_iretW C hr hlk dX6_copy_79
            · have hf := ik_neg hc hf
              refine ik_aload_n C 2 rfl rfl dX6_copy_53 ?_
              refine ik_ldc C wl_43_13 dX6_copy_54 ?_
              obtain ⟨r5, g6, hc6, hf⟩ := ik_b2s hf
              refine ik_goW [0, 1] rfl rfl (wz_X6ofs cI cS o0 np0 kp0 tp0 r0 t0 sh0 f0 s00 s10 s20 s30 s01 s11 s21 s31 isk g6 sbits ssize snum) rfl (ik_runV C (c_X6_tell l D cI cS o0 np0 kp0 tp0 r0 t0 sh0 f0 isk fnd (-1000006 : Int32) r5 g6 hc6) mv_X6_tell wl_5_16 ⟨rfl, rfl, Nat.le_of_ble_eq_true rfl, Nat.le_of_ble_eq_true rfl⟩ [0, 1] rfl (by decide) 0 rfl rfl rfl rfl (Nat.le_of_ble_eq_true rfl) dX6_copy_56) rfl ?_
              cases hf
              exact ik_iretW C hr hlk dX6_copy_59
        · have hf := ik_neg hb0 hf; have hf := ik_pos hc hf
          refine ik_astore C [(7, .ref s10), (6, .ref s10), (0, .ref o0), (1, .int x1), (2, .int x2), (3, .int x3), (4, .int x4), (5, .int x5)] (by decide) rfl dX6_copy_35 ?_
          refine ik_aload C 1 rfl dX6_copy_37 ?_
          obtain ⟨r3, hc3, hf⟩ := ik_b1s hf
          refine ik_goR (ik_runV C (c_X2_isMissing l D cI cS s10 s11 (sbits 1) (ssize 1) (snum 1) r3 hc3) mv_X2_isMissing wl_45_9 ⟨rfl, rfl, Nat.le_of_ble_eq_true rfl, Nat.le_of_ble_eq_true rfl⟩ [5, 6] rfl (by decide) 5 rfl rfl rfl rfl (Nat.le_of_ble_eq_true rfl) dX6_copy_39) rfl ?_
          refine ik_if_ne C 53 dX6_copy_42 (by decide) (fun hc => ?_) (fun hc => ?_)
          · have hf := ik_neg hc hf
            refine ik_aload_n C 2 rfl rfl dX6_copy_53 ?_
            refine ik_ldc C wl_43_13 dX6_copy_54 ?_
            obtain ⟨r4, g5, hc5, hf⟩ := ik_b2s hf
            refine ik_goW [0, 1] rfl rfl (wz_X6ofs cI cS o0 np0 kp0 tp0 r0 t0 sh0 f0 s00 s10 s20 s30 s01 s11 s21 s31 isk g5 sbits ssize snum) rfl (ik_runV C (c_X6_tell l D cI cS o0 np0 kp0 tp0 r0 t0 sh0 f0 isk fnd (-1000006 : Int32) r4 g5 hc5) mv_X6_tell wl_5_16 ⟨rfl, rfl, Nat.le_of_ble_eq_true rfl, Nat.le_of_ble_eq_true rfl⟩ [0, 1] rfl (by decide) 0 rfl rfl rfl rfl (Nat.le_of_ble_eq_true rfl) dX6_copy_56) rfl ?_
            cases hf
            exact ik_iretW C hr hlk dX6_copy_59
          · have hf := ik_pos hc hf
            refine ik_aload C 0 rfl dX6_copy_45 ?_
            obtain ⟨r4, hc4, hf⟩ := ik_b1s hf
            refine ik_goR (ik_runV C (c_X2_isMissing l D cI cS s10 s11 (sbits 1) (ssize 1) (snum 1) r4 hc4) mv_X2_isMissing wl_45_9 ⟨rfl, rfl, Nat.le_of_ble_eq_true rfl, Nat.le_of_ble_eq_true rfl⟩ [5, 6] rfl (by decide) 5 rfl rfl rfl rfl (Nat.le_of_ble_eq_true rfl) dX6_copy_47) rfl ?_
            refine ik_if_eq C 60 dX6_copy_50 (by decide) (fun hc => ?_) (fun hc => ?_)
            · have hf := ik_pos hc hf
              refine ik_aload C 1 rfl dX6_copy_60 ?_
              refine ik_get C inlX2 5 rfl rfl 0 (by decide) wl_46_1 rfl (v := .int (sbits 1)) rfl dX6_copy_62 ?_
              refine ik_aload C 0 rfl dX6_copy_65 ?_
              refine ik_get C inlX2 5 rfl rfl 0 (by decide) wl_46_1 rfl (v := .int (sbits 1)) rfl dX6_copy_67 ?_
              refine ik_icmp_eq C 80 dX6_copy_70 (by decide) (fun hc => ?_) (fun hc => ?_)
              · have hf := ik_pos hc hf
                refine ik_aload C 1 rfl dX6_copy_80 ?_
                refine ik_iload_n C 4 rfl rfl dX6_copy_82 ?_
                refine ik_iload C 7 rfl dX6_copy_83 ?_
                obtain ⟨r5, hc5, hf⟩ := ik_b1s hf
                refine ik_goR (ik_runV C (c_X2_hasRange l D cI cS s10 s11 (sbits 1) (ssize 1) (snum 1) x2 x5 r5 hc5) mv_X2_hasRange wl_46_4 ⟨rfl, rfl, Nat.le_of_ble_eq_true rfl, Nat.le_of_ble_eq_true rfl⟩ [5, 6] rfl (by decide) 5 rfl rfl rfl rfl (Nat.le_of_ble_eq_true rfl) dX6_copy_85) rfl ?_
                refine ik_if_eq C 103 dX6_copy_88 (by decide) (fun hc => ?_) (fun hc => ?_)
                · have hf := ik_pos hc hf
                  refine ik_aload_n C 2 rfl rfl dX6_copy_103 ?_
                  refine ik_ldc C wl_5_3 dX6_copy_104 ?_
                  obtain ⟨r6, g7, hc7, hf⟩ := ik_b2s hf
                  refine ik_goW [0, 1] rfl rfl (wz_X6ofs cI cS o0 np0 kp0 tp0 r0 t0 sh0 f0 s00 s10 s20 s30 s01 s11 s21 s31 isk g7 sbits ssize snum) rfl (ik_runV C (c_X6_tell l D cI cS o0 np0 kp0 tp0 r0 t0 sh0 f0 isk fnd (-1000001 : Int32) r6 g7 hc7) mv_X6_tell wl_5_16 ⟨rfl, rfl, Nat.le_of_ble_eq_true rfl, Nat.le_of_ble_eq_true rfl⟩ [0, 1] rfl (by decide) 0 rfl rfl rfl rfl (Nat.le_of_ble_eq_true rfl) dX6_copy_106) rfl ?_
                  cases hf
                  exact ik_iretW C hr hlk dX6_copy_109
                · have hf := ik_neg hc hf
                  refine ik_aload C 0 rfl dX6_copy_91 ?_
                  refine ik_iload C 6 rfl dX6_copy_93 ?_
                  refine ik_iload C 7 rfl dX6_copy_95 ?_
                  obtain ⟨r6, hc6, hf⟩ := ik_b1s hf
                  refine ik_goR (ik_runV C (c_X2_hasRange l D cI cS s10 s11 (sbits 1) (ssize 1) (snum 1) x4 x5 r6 hc6) mv_X2_hasRange wl_46_4 ⟨rfl, rfl, Nat.le_of_ble_eq_true rfl, Nat.le_of_ble_eq_true rfl⟩ [5, 6] rfl (by decide) 5 rfl rfl rfl rfl (Nat.le_of_ble_eq_true rfl) dX6_copy_97) rfl ?_
                  refine ik_if_ne C 110 dX6_copy_100 (by decide) (fun hc => ?_) (fun hc => ?_)
                  · have hf := ik_neg hc hf
                    refine ik_aload C 1 rfl dX6_copy_110 ?_
                    refine ik_get C inlX2 5 rfl rfl 2 (by decide) wl_46_2 rfl (v := .ref s11) rfl dX6_copy_112 ?_
                    refine ik_iload_n C 4 rfl rfl dX6_copy_115 ?_
                    refine ik_aload C 0 rfl dX6_copy_116 ?_
                    refine ik_get C inlX2 5 rfl rfl 2 (by decide) wl_46_2 rfl (v := .ref s11) rfl dX6_copy_118 ?_
                    refine ik_iload C 6 rfl dX6_copy_121 ?_
                    refine ik_iload C 7 rfl dX6_copy_123 ?_
                    have hg := ik_gci hf
                    have hf := ik_gck hf
                    refine ik_copy C wl_46_3 wl_23_19 wl_23_20 wl_23_21 6 6 rfl rfl hg (Nat.le_of_ble_eq_true rfl) (Nat.le_of_ble_eq_true rfl) (wz_X6ofs cI cS o0 np0 kp0 tp0 r0 t0 sh0 f0 s00 s10 s20 s30 s01 s11 s21 s31 isk fnd sbits ssize (va_up snum 1 (va_cpy (snum 1) (snum 1) (x2).toNatClampNeg (x4).toNatClampNeg (x5).toNatClampNeg))) rfl dX6_copy_125 ?_
                    refine ik_iload C 7 rfl dX6_copy_128 ?_
                    cases hf
                    exact ik_iretW C hr hlk dX6_copy_130
                  · have hf := ik_pos hc hf
                    refine ik_aload_n C 2 rfl rfl dX6_copy_103 ?_
                    refine ik_ldc C wl_5_3 dX6_copy_104 ?_
                    obtain ⟨r7, g8, hc8, hf⟩ := ik_b2s hf
                    refine ik_goW [0, 1] rfl rfl (wz_X6ofs cI cS o0 np0 kp0 tp0 r0 t0 sh0 f0 s00 s10 s20 s30 s01 s11 s21 s31 isk g8 sbits ssize snum) rfl (ik_runV C (c_X6_tell l D cI cS o0 np0 kp0 tp0 r0 t0 sh0 f0 isk fnd (-1000001 : Int32) r7 g8 hc8) mv_X6_tell wl_5_16 ⟨rfl, rfl, Nat.le_of_ble_eq_true rfl, Nat.le_of_ble_eq_true rfl⟩ [0, 1] rfl (by decide) 0 rfl rfl rfl rfl (Nat.le_of_ble_eq_true rfl) dX6_copy_106) rfl ?_
                    cases hf
                    exact ik_iretW C hr hlk dX6_copy_109
              · have hf := ik_neg hc hf
                refine ik_aload_n C 2 rfl rfl dX6_copy_73 ?_
                refine ik_ldc C wl_43_14 dX6_copy_74 ?_
                obtain ⟨r5, g6, hc6, hf⟩ := ik_b2s hf
                refine ik_goW [0, 1] rfl rfl (wz_X6ofs cI cS o0 np0 kp0 tp0 r0 t0 sh0 f0 s00 s10 s20 s30 s01 s11 s21 s31 isk g6 sbits ssize snum) rfl (ik_runV C (c_X6_tell l D cI cS o0 np0 kp0 tp0 r0 t0 sh0 f0 isk fnd (-1000003 : Int32) r5 g6 hc6) mv_X6_tell wl_5_16 ⟨rfl, rfl, Nat.le_of_ble_eq_true rfl, Nat.le_of_ble_eq_true rfl⟩ [0, 1] rfl (by decide) 0 rfl rfl rfl rfl (Nat.le_of_ble_eq_true rfl) dX6_copy_76) rfl ?_
                cases hf
                exact ik_iretW C hr hlk dX6_copy_79
            · have hf := ik_neg hc hf
              refine ik_aload_n C 2 rfl rfl dX6_copy_53 ?_
              refine ik_ldc C wl_43_13 dX6_copy_54 ?_
              obtain ⟨r5, g6, hc6, hf⟩ := ik_b2s hf
              refine ik_goW [0, 1] rfl rfl (wz_X6ofs cI cS o0 np0 kp0 tp0 r0 t0 sh0 f0 s00 s10 s20 s30 s01 s11 s21 s31 isk g6 sbits ssize snum) rfl (ik_runV C (c_X6_tell l D cI cS o0 np0 kp0 tp0 r0 t0 sh0 f0 isk fnd (-1000006 : Int32) r5 g6 hc6) mv_X6_tell wl_5_16 ⟨rfl, rfl, Nat.le_of_ble_eq_true rfl, Nat.le_of_ble_eq_true rfl⟩ [0, 1] rfl (by decide) 0 rfl rfl rfl rfl (Nat.le_of_ble_eq_true rfl) dX6_copy_56) rfl ?_
              cases hf
              exact ik_iretW C hr hlk dX6_copy_59
        · have hf := ik_neg hb0 hf; have hf := ik_neg hb1 hf; have hf := ik_pos hc hf
          refine ik_astore C [(7, .ref s20), (6, .ref s10), (0, .ref o0), (1, .int x1), (2, .int x2), (3, .int x3), (4, .int x4), (5, .int x5)] (by decide) rfl dX6_copy_35 ?_
          refine ik_aload C 1 rfl dX6_copy_37 ?_
          obtain ⟨r3, hc3, hf⟩ := ik_b1s hf
          refine ik_goR (ik_runV C (c_X2_isMissing l D cI cS s10 s11 (sbits 1) (ssize 1) (snum 1) r3 hc3) mv_X2_isMissing wl_45_9 ⟨rfl, rfl, Nat.le_of_ble_eq_true rfl, Nat.le_of_ble_eq_true rfl⟩ [5, 6] rfl (by decide) 5 rfl rfl rfl rfl (Nat.le_of_ble_eq_true rfl) dX6_copy_39) rfl ?_
          refine ik_if_ne C 53 dX6_copy_42 (by decide) (fun hc => ?_) (fun hc => ?_)
          · have hf := ik_neg hc hf
            refine ik_aload_n C 2 rfl rfl dX6_copy_53 ?_
            refine ik_ldc C wl_43_13 dX6_copy_54 ?_
            obtain ⟨r4, g5, hc5, hf⟩ := ik_b2s hf
            refine ik_goW [0, 1] rfl rfl (wz_X6ofs cI cS o0 np0 kp0 tp0 r0 t0 sh0 f0 s00 s10 s20 s30 s01 s11 s21 s31 isk g5 sbits ssize snum) rfl (ik_runV C (c_X6_tell l D cI cS o0 np0 kp0 tp0 r0 t0 sh0 f0 isk fnd (-1000006 : Int32) r4 g5 hc5) mv_X6_tell wl_5_16 ⟨rfl, rfl, Nat.le_of_ble_eq_true rfl, Nat.le_of_ble_eq_true rfl⟩ [0, 1] rfl (by decide) 0 rfl rfl rfl rfl (Nat.le_of_ble_eq_true rfl) dX6_copy_56) rfl ?_
            cases hf
            exact ik_iretW C hr hlk dX6_copy_59
          · have hf := ik_pos hc hf
            refine ik_aload C 0 rfl dX6_copy_45 ?_
            obtain ⟨r4, hc4, hf⟩ := ik_b1s hf
            refine ik_goR (ik_runV C (c_X2_isMissing l D cI cS s20 s21 (sbits 2) (ssize 2) (snum 2) r4 hc4) mv_X2_isMissing wl_45_9 ⟨rfl, rfl, Nat.le_of_ble_eq_true rfl, Nat.le_of_ble_eq_true rfl⟩ [7, 8] rfl (by decide) 7 rfl rfl rfl rfl (Nat.le_of_ble_eq_true rfl) dX6_copy_47) rfl ?_
            refine ik_if_eq C 60 dX6_copy_50 (by decide) (fun hc => ?_) (fun hc => ?_)
            · have hf := ik_pos hc hf
              refine ik_aload C 1 rfl dX6_copy_60 ?_
              refine ik_get C inlX2 5 rfl rfl 0 (by decide) wl_46_1 rfl (v := .int (sbits 1)) rfl dX6_copy_62 ?_
              refine ik_aload C 0 rfl dX6_copy_65 ?_
              refine ik_get C inlX2 7 rfl rfl 0 (by decide) wl_46_1 rfl (v := .int (sbits 2)) rfl dX6_copy_67 ?_
              refine ik_icmp_eq C 80 dX6_copy_70 (by decide) (fun hc => ?_) (fun hc => ?_)
              · have hf := ik_pos hc hf
                refine ik_aload C 1 rfl dX6_copy_80 ?_
                refine ik_iload_n C 4 rfl rfl dX6_copy_82 ?_
                refine ik_iload C 7 rfl dX6_copy_83 ?_
                obtain ⟨r5, hc5, hf⟩ := ik_b1s hf
                refine ik_goR (ik_runV C (c_X2_hasRange l D cI cS s10 s11 (sbits 1) (ssize 1) (snum 1) x2 x5 r5 hc5) mv_X2_hasRange wl_46_4 ⟨rfl, rfl, Nat.le_of_ble_eq_true rfl, Nat.le_of_ble_eq_true rfl⟩ [5, 6] rfl (by decide) 5 rfl rfl rfl rfl (Nat.le_of_ble_eq_true rfl) dX6_copy_85) rfl ?_
                refine ik_if_eq C 103 dX6_copy_88 (by decide) (fun hc => ?_) (fun hc => ?_)
                · have hf := ik_pos hc hf
                  refine ik_aload_n C 2 rfl rfl dX6_copy_103 ?_
                  refine ik_ldc C wl_5_3 dX6_copy_104 ?_
                  obtain ⟨r6, g7, hc7, hf⟩ := ik_b2s hf
                  refine ik_goW [0, 1] rfl rfl (wz_X6ofs cI cS o0 np0 kp0 tp0 r0 t0 sh0 f0 s00 s10 s20 s30 s01 s11 s21 s31 isk g7 sbits ssize snum) rfl (ik_runV C (c_X6_tell l D cI cS o0 np0 kp0 tp0 r0 t0 sh0 f0 isk fnd (-1000001 : Int32) r6 g7 hc7) mv_X6_tell wl_5_16 ⟨rfl, rfl, Nat.le_of_ble_eq_true rfl, Nat.le_of_ble_eq_true rfl⟩ [0, 1] rfl (by decide) 0 rfl rfl rfl rfl (Nat.le_of_ble_eq_true rfl) dX6_copy_106) rfl ?_
                  cases hf
                  exact ik_iretW C hr hlk dX6_copy_109
                · have hf := ik_neg hc hf
                  refine ik_aload C 0 rfl dX6_copy_91 ?_
                  refine ik_iload C 6 rfl dX6_copy_93 ?_
                  refine ik_iload C 7 rfl dX6_copy_95 ?_
                  obtain ⟨r6, hc6, hf⟩ := ik_b1s hf
                  refine ik_goR (ik_runV C (c_X2_hasRange l D cI cS s20 s21 (sbits 2) (ssize 2) (snum 2) x4 x5 r6 hc6) mv_X2_hasRange wl_46_4 ⟨rfl, rfl, Nat.le_of_ble_eq_true rfl, Nat.le_of_ble_eq_true rfl⟩ [7, 8] rfl (by decide) 7 rfl rfl rfl rfl (Nat.le_of_ble_eq_true rfl) dX6_copy_97) rfl ?_
                  refine ik_if_ne C 110 dX6_copy_100 (by decide) (fun hc => ?_) (fun hc => ?_)
                  · have hf := ik_neg hc hf
                    refine ik_aload C 1 rfl dX6_copy_110 ?_
                    refine ik_get C inlX2 5 rfl rfl 2 (by decide) wl_46_2 rfl (v := .ref s11) rfl dX6_copy_112 ?_
                    refine ik_iload_n C 4 rfl rfl dX6_copy_115 ?_
                    refine ik_aload C 0 rfl dX6_copy_116 ?_
                    refine ik_get C inlX2 7 rfl rfl 2 (by decide) wl_46_2 rfl (v := .ref s21) rfl dX6_copy_118 ?_
                    refine ik_iload C 6 rfl dX6_copy_121 ?_
                    refine ik_iload C 7 rfl dX6_copy_123 ?_
                    have hg := ik_gci hf
                    have hf := ik_gck hf
                    refine ik_copy C wl_46_3 wl_23_19 wl_23_20 wl_23_21 6 8 rfl rfl hg (Nat.le_of_ble_eq_true rfl) (Nat.le_of_ble_eq_true rfl) (wz_X6ofs cI cS o0 np0 kp0 tp0 r0 t0 sh0 f0 s00 s10 s20 s30 s01 s11 s21 s31 isk fnd sbits ssize (va_up snum 2 (va_cpy (snum 1) (snum 2) (x2).toNatClampNeg (x4).toNatClampNeg (x5).toNatClampNeg))) rfl dX6_copy_125 ?_
                    refine ik_iload C 7 rfl dX6_copy_128 ?_
                    cases hf
                    exact ik_iretW C hr hlk dX6_copy_130
                  · have hf := ik_pos hc hf
                    refine ik_aload_n C 2 rfl rfl dX6_copy_103 ?_
                    refine ik_ldc C wl_5_3 dX6_copy_104 ?_
                    obtain ⟨r7, g8, hc8, hf⟩ := ik_b2s hf
                    refine ik_goW [0, 1] rfl rfl (wz_X6ofs cI cS o0 np0 kp0 tp0 r0 t0 sh0 f0 s00 s10 s20 s30 s01 s11 s21 s31 isk g8 sbits ssize snum) rfl (ik_runV C (c_X6_tell l D cI cS o0 np0 kp0 tp0 r0 t0 sh0 f0 isk fnd (-1000001 : Int32) r7 g8 hc8) mv_X6_tell wl_5_16 ⟨rfl, rfl, Nat.le_of_ble_eq_true rfl, Nat.le_of_ble_eq_true rfl⟩ [0, 1] rfl (by decide) 0 rfl rfl rfl rfl (Nat.le_of_ble_eq_true rfl) dX6_copy_106) rfl ?_
                    cases hf
                    exact ik_iretW C hr hlk dX6_copy_109
              · have hf := ik_neg hc hf
                refine ik_aload_n C 2 rfl rfl dX6_copy_73 ?_
                refine ik_ldc C wl_43_14 dX6_copy_74 ?_
                obtain ⟨r5, g6, hc6, hf⟩ := ik_b2s hf
                refine ik_goW [0, 1] rfl rfl (wz_X6ofs cI cS o0 np0 kp0 tp0 r0 t0 sh0 f0 s00 s10 s20 s30 s01 s11 s21 s31 isk g6 sbits ssize snum) rfl (ik_runV C (c_X6_tell l D cI cS o0 np0 kp0 tp0 r0 t0 sh0 f0 isk fnd (-1000003 : Int32) r5 g6 hc6) mv_X6_tell wl_5_16 ⟨rfl, rfl, Nat.le_of_ble_eq_true rfl, Nat.le_of_ble_eq_true rfl⟩ [0, 1] rfl (by decide) 0 rfl rfl rfl rfl (Nat.le_of_ble_eq_true rfl) dX6_copy_76) rfl ?_
                cases hf
                exact ik_iretW C hr hlk dX6_copy_79
            · have hf := ik_neg hc hf
              refine ik_aload_n C 2 rfl rfl dX6_copy_53 ?_
              refine ik_ldc C wl_43_13 dX6_copy_54 ?_
              obtain ⟨r5, g6, hc6, hf⟩ := ik_b2s hf
              refine ik_goW [0, 1] rfl rfl (wz_X6ofs cI cS o0 np0 kp0 tp0 r0 t0 sh0 f0 s00 s10 s20 s30 s01 s11 s21 s31 isk g6 sbits ssize snum) rfl (ik_runV C (c_X6_tell l D cI cS o0 np0 kp0 tp0 r0 t0 sh0 f0 isk fnd (-1000006 : Int32) r5 g6 hc6) mv_X6_tell wl_5_16 ⟨rfl, rfl, Nat.le_of_ble_eq_true rfl, Nat.le_of_ble_eq_true rfl⟩ [0, 1] rfl (by decide) 0 rfl rfl rfl rfl (Nat.le_of_ble_eq_true rfl) dX6_copy_56) rfl ?_
              cases hf
              exact ik_iretW C hr hlk dX6_copy_59
        · have hf := ik_neg hb0 hf; have hf := ik_neg hb1 hf; have hf := ik_neg hb2 hf
          refine ik_astore C [(7, .ref s30), (6, .ref s10), (0, .ref o0), (1, .int x1), (2, .int x2), (3, .int x3), (4, .int x4), (5, .int x5)] (by decide) rfl dX6_copy_35 ?_
          refine ik_aload C 1 rfl dX6_copy_37 ?_
          obtain ⟨r3, hc3, hf⟩ := ik_b1s hf
          refine ik_goR (ik_runV C (c_X2_isMissing l D cI cS s10 s11 (sbits 1) (ssize 1) (snum 1) r3 hc3) mv_X2_isMissing wl_45_9 ⟨rfl, rfl, Nat.le_of_ble_eq_true rfl, Nat.le_of_ble_eq_true rfl⟩ [5, 6] rfl (by decide) 5 rfl rfl rfl rfl (Nat.le_of_ble_eq_true rfl) dX6_copy_39) rfl ?_
          refine ik_if_ne C 53 dX6_copy_42 (by decide) (fun hc => ?_) (fun hc => ?_)
          · have hf := ik_neg hc hf
            refine ik_aload_n C 2 rfl rfl dX6_copy_53 ?_
            refine ik_ldc C wl_43_13 dX6_copy_54 ?_
            obtain ⟨r4, g5, hc5, hf⟩ := ik_b2s hf
            refine ik_goW [0, 1] rfl rfl (wz_X6ofs cI cS o0 np0 kp0 tp0 r0 t0 sh0 f0 s00 s10 s20 s30 s01 s11 s21 s31 isk g5 sbits ssize snum) rfl (ik_runV C (c_X6_tell l D cI cS o0 np0 kp0 tp0 r0 t0 sh0 f0 isk fnd (-1000006 : Int32) r4 g5 hc5) mv_X6_tell wl_5_16 ⟨rfl, rfl, Nat.le_of_ble_eq_true rfl, Nat.le_of_ble_eq_true rfl⟩ [0, 1] rfl (by decide) 0 rfl rfl rfl rfl (Nat.le_of_ble_eq_true rfl) dX6_copy_56) rfl ?_
            cases hf
            exact ik_iretW C hr hlk dX6_copy_59
          · have hf := ik_pos hc hf
            refine ik_aload C 0 rfl dX6_copy_45 ?_
            obtain ⟨r4, hc4, hf⟩ := ik_b1s hf
            refine ik_goR (ik_runV C (c_X2_isMissing l D cI cS s30 s31 (sbits 3) (ssize 3) (snum 3) r4 hc4) mv_X2_isMissing wl_45_9 ⟨rfl, rfl, Nat.le_of_ble_eq_true rfl, Nat.le_of_ble_eq_true rfl⟩ [9, 10] rfl (by decide) 9 rfl rfl rfl rfl (Nat.le_of_ble_eq_true rfl) dX6_copy_47) rfl ?_
            refine ik_if_eq C 60 dX6_copy_50 (by decide) (fun hc => ?_) (fun hc => ?_)
            · have hf := ik_pos hc hf
              refine ik_aload C 1 rfl dX6_copy_60 ?_
              refine ik_get C inlX2 5 rfl rfl 0 (by decide) wl_46_1 rfl (v := .int (sbits 1)) rfl dX6_copy_62 ?_
              refine ik_aload C 0 rfl dX6_copy_65 ?_
              refine ik_get C inlX2 9 rfl rfl 0 (by decide) wl_46_1 rfl (v := .int (sbits 3)) rfl dX6_copy_67 ?_
              refine ik_icmp_eq C 80 dX6_copy_70 (by decide) (fun hc => ?_) (fun hc => ?_)
              · have hf := ik_pos hc hf
                refine ik_aload C 1 rfl dX6_copy_80 ?_
                refine ik_iload_n C 4 rfl rfl dX6_copy_82 ?_
                refine ik_iload C 7 rfl dX6_copy_83 ?_
                obtain ⟨r5, hc5, hf⟩ := ik_b1s hf
                refine ik_goR (ik_runV C (c_X2_hasRange l D cI cS s10 s11 (sbits 1) (ssize 1) (snum 1) x2 x5 r5 hc5) mv_X2_hasRange wl_46_4 ⟨rfl, rfl, Nat.le_of_ble_eq_true rfl, Nat.le_of_ble_eq_true rfl⟩ [5, 6] rfl (by decide) 5 rfl rfl rfl rfl (Nat.le_of_ble_eq_true rfl) dX6_copy_85) rfl ?_
                refine ik_if_eq C 103 dX6_copy_88 (by decide) (fun hc => ?_) (fun hc => ?_)
                · have hf := ik_pos hc hf
                  refine ik_aload_n C 2 rfl rfl dX6_copy_103 ?_
                  refine ik_ldc C wl_5_3 dX6_copy_104 ?_
                  obtain ⟨r6, g7, hc7, hf⟩ := ik_b2s hf
                  refine ik_goW [0, 1] rfl rfl (wz_X6ofs cI cS o0 np0 kp0 tp0 r0 t0 sh0 f0 s00 s10 s20 s30 s01 s11 s21 s31 isk g7 sbits ssize snum) rfl (ik_runV C (c_X6_tell l D cI cS o0 np0 kp0 tp0 r0 t0 sh0 f0 isk fnd (-1000001 : Int32) r6 g7 hc7) mv_X6_tell wl_5_16 ⟨rfl, rfl, Nat.le_of_ble_eq_true rfl, Nat.le_of_ble_eq_true rfl⟩ [0, 1] rfl (by decide) 0 rfl rfl rfl rfl (Nat.le_of_ble_eq_true rfl) dX6_copy_106) rfl ?_
                  cases hf
                  exact ik_iretW C hr hlk dX6_copy_109
                · have hf := ik_neg hc hf
                  refine ik_aload C 0 rfl dX6_copy_91 ?_
                  refine ik_iload C 6 rfl dX6_copy_93 ?_
                  refine ik_iload C 7 rfl dX6_copy_95 ?_
                  obtain ⟨r6, hc6, hf⟩ := ik_b1s hf
                  refine ik_goR (ik_runV C (c_X2_hasRange l D cI cS s30 s31 (sbits 3) (ssize 3) (snum 3) x4 x5 r6 hc6) mv_X2_hasRange wl_46_4 ⟨rfl, rfl, Nat.le_of_ble_eq_true rfl, Nat.le_of_ble_eq_true rfl⟩ [9, 10] rfl (by decide) 9 rfl rfl rfl rfl (Nat.le_of_ble_eq_true rfl) dX6_copy_97) rfl ?_
                  refine ik_if_ne C 110 dX6_copy_100 (by decide) (fun hc => ?_) (fun hc => ?_)
                  · have hf := ik_neg hc hf
                    refine ik_aload C 1 rfl dX6_copy_110 ?_
                    refine ik_get C inlX2 5 rfl rfl 2 (by decide) wl_46_2 rfl (v := .ref s11) rfl dX6_copy_112 ?_
                    refine ik_iload_n C 4 rfl rfl dX6_copy_115 ?_
                    refine ik_aload C 0 rfl dX6_copy_116 ?_
                    refine ik_get C inlX2 9 rfl rfl 2 (by decide) wl_46_2 rfl (v := .ref s31) rfl dX6_copy_118 ?_
                    refine ik_iload C 6 rfl dX6_copy_121 ?_
                    refine ik_iload C 7 rfl dX6_copy_123 ?_
                    have hg := ik_gci hf
                    have hf := ik_gck hf
                    refine ik_copy C wl_46_3 wl_23_19 wl_23_20 wl_23_21 6 10 rfl rfl hg (Nat.le_of_ble_eq_true rfl) (Nat.le_of_ble_eq_true rfl) (wz_X6ofs cI cS o0 np0 kp0 tp0 r0 t0 sh0 f0 s00 s10 s20 s30 s01 s11 s21 s31 isk fnd sbits ssize (va_up snum 3 (va_cpy (snum 1) (snum 3) (x2).toNatClampNeg (x4).toNatClampNeg (x5).toNatClampNeg))) rfl dX6_copy_125 ?_
                    refine ik_iload C 7 rfl dX6_copy_128 ?_
                    cases hf
                    exact ik_iretW C hr hlk dX6_copy_130
                  · have hf := ik_pos hc hf
                    refine ik_aload_n C 2 rfl rfl dX6_copy_103 ?_
                    refine ik_ldc C wl_5_3 dX6_copy_104 ?_
                    obtain ⟨r7, g8, hc8, hf⟩ := ik_b2s hf
                    refine ik_goW [0, 1] rfl rfl (wz_X6ofs cI cS o0 np0 kp0 tp0 r0 t0 sh0 f0 s00 s10 s20 s30 s01 s11 s21 s31 isk g8 sbits ssize snum) rfl (ik_runV C (c_X6_tell l D cI cS o0 np0 kp0 tp0 r0 t0 sh0 f0 isk fnd (-1000001 : Int32) r7 g8 hc8) mv_X6_tell wl_5_16 ⟨rfl, rfl, Nat.le_of_ble_eq_true rfl, Nat.le_of_ble_eq_true rfl⟩ [0, 1] rfl (by decide) 0 rfl rfl rfl rfl (Nat.le_of_ble_eq_true rfl) dX6_copy_106) rfl ?_
                    cases hf
                    exact ik_iretW C hr hlk dX6_copy_109
              · have hf := ik_neg hc hf
                refine ik_aload_n C 2 rfl rfl dX6_copy_73 ?_
                refine ik_ldc C wl_43_14 dX6_copy_74 ?_
                obtain ⟨r5, g6, hc6, hf⟩ := ik_b2s hf
                refine ik_goW [0, 1] rfl rfl (wz_X6ofs cI cS o0 np0 kp0 tp0 r0 t0 sh0 f0 s00 s10 s20 s30 s01 s11 s21 s31 isk g6 sbits ssize snum) rfl (ik_runV C (c_X6_tell l D cI cS o0 np0 kp0 tp0 r0 t0 sh0 f0 isk fnd (-1000003 : Int32) r5 g6 hc6) mv_X6_tell wl_5_16 ⟨rfl, rfl, Nat.le_of_ble_eq_true rfl, Nat.le_of_ble_eq_true rfl⟩ [0, 1] rfl (by decide) 0 rfl rfl rfl rfl (Nat.le_of_ble_eq_true rfl) dX6_copy_76) rfl ?_
                cases hf
                exact ik_iretW C hr hlk dX6_copy_79
            · have hf := ik_neg hc hf
              refine ik_aload_n C 2 rfl rfl dX6_copy_53 ?_
              refine ik_ldc C wl_43_13 dX6_copy_54 ?_
              obtain ⟨r5, g6, hc6, hf⟩ := ik_b2s hf
              refine ik_goW [0, 1] rfl rfl (wz_X6ofs cI cS o0 np0 kp0 tp0 r0 t0 sh0 f0 s00 s10 s20 s30 s01 s11 s21 s31 isk g6 sbits ssize snum) rfl (ik_runV C (c_X6_tell l D cI cS o0 np0 kp0 tp0 r0 t0 sh0 f0 isk fnd (-1000006 : Int32) r5 g6 hc6) mv_X6_tell wl_5_16 ⟨rfl, rfl, Nat.le_of_ble_eq_true rfl, Nat.le_of_ble_eq_true rfl⟩ [0, 1] rfl (by decide) 0 rfl rfl rfl rfl (Nat.le_of_ble_eq_true rfl) dX6_copy_56) rfl ?_
              cases hf
              exact ik_iretW C hr hlk dX6_copy_59
      · have hf := ik_neg hb0 hf; have hf := ik_neg hb1 hf; have hf := ik_pos hc hf
        refine ik_astore C [(6, .ref s20), (0, .ref o0), (1, .int x1), (2, .int x2), (3, .int x3), (4, .int x4), (5, .int x5)] (by decide) rfl dX6_copy_27 ?_
        refine ik_aload_n C 1 rfl rfl dX6_copy_29 ?_
        refine ik_get C inlX6 0 rfl rfl 6 (by decide) wl_2_1 rfl (v := .ref sh0) rfl dX6_copy_30 ?_
        refine ik_iload_n C 4 rfl rfl dX6_copy_33 ?_
        have hg := ik_gdi hf
        have hf := ik_gdk hf
        refine ik_aald4 C 2 rfl hg (a0 := s00) (a1 := s10) (a2 := s20) (a3 := s30) rfl rfl rfl rfl dX6_copy_34 (fun hc => ?_) (fun hb0 hc => ?_) (fun hb0 hb1 hc => ?_) (fun hb0 hb1 hb2 hc => ?_)
        · have hf := ik_pos hc hf
          refine ik_astore C [(7, .ref s00), (6, .ref s20), (0, .ref o0), (1, .int x1), (2, .int x2), (3, .int x3), (4, .int x4), (5, .int x5)] (by decide) rfl dX6_copy_35 ?_
          refine ik_aload C 1 rfl dX6_copy_37 ?_
          obtain ⟨r3, hc3, hf⟩ := ik_b1s hf
          refine ik_goR (ik_runV C (c_X2_isMissing l D cI cS s20 s21 (sbits 2) (ssize 2) (snum 2) r3 hc3) mv_X2_isMissing wl_45_9 ⟨rfl, rfl, Nat.le_of_ble_eq_true rfl, Nat.le_of_ble_eq_true rfl⟩ [7, 8] rfl (by decide) 7 rfl rfl rfl rfl (Nat.le_of_ble_eq_true rfl) dX6_copy_39) rfl ?_
          refine ik_if_ne C 53 dX6_copy_42 (by decide) (fun hc => ?_) (fun hc => ?_)
          · have hf := ik_neg hc hf
            refine ik_aload_n C 2 rfl rfl dX6_copy_53 ?_
            refine ik_ldc C wl_43_13 dX6_copy_54 ?_
            obtain ⟨r4, g5, hc5, hf⟩ := ik_b2s hf
            refine ik_goW [0, 1] rfl rfl (wz_X6ofs cI cS o0 np0 kp0 tp0 r0 t0 sh0 f0 s00 s10 s20 s30 s01 s11 s21 s31 isk g5 sbits ssize snum) rfl (ik_runV C (c_X6_tell l D cI cS o0 np0 kp0 tp0 r0 t0 sh0 f0 isk fnd (-1000006 : Int32) r4 g5 hc5) mv_X6_tell wl_5_16 ⟨rfl, rfl, Nat.le_of_ble_eq_true rfl, Nat.le_of_ble_eq_true rfl⟩ [0, 1] rfl (by decide) 0 rfl rfl rfl rfl (Nat.le_of_ble_eq_true rfl) dX6_copy_56) rfl ?_
            cases hf
            exact ik_iretW C hr hlk dX6_copy_59
          · have hf := ik_pos hc hf
            refine ik_aload C 0 rfl dX6_copy_45 ?_
            obtain ⟨r4, hc4, hf⟩ := ik_b1s hf
            refine ik_goR (ik_runV C (c_X2_isMissing l D cI cS s00 s01 (sbits 0) (ssize 0) (snum 0) r4 hc4) mv_X2_isMissing wl_45_9 ⟨rfl, rfl, Nat.le_of_ble_eq_true rfl, Nat.le_of_ble_eq_true rfl⟩ [3, 4] rfl (by decide) 3 rfl rfl rfl rfl (Nat.le_of_ble_eq_true rfl) dX6_copy_47) rfl ?_
            refine ik_if_eq C 60 dX6_copy_50 (by decide) (fun hc => ?_) (fun hc => ?_)
            · have hf := ik_pos hc hf
              refine ik_aload C 1 rfl dX6_copy_60 ?_
              refine ik_get C inlX2 7 rfl rfl 0 (by decide) wl_46_1 rfl (v := .int (sbits 2)) rfl dX6_copy_62 ?_
              refine ik_aload C 0 rfl dX6_copy_65 ?_
              refine ik_get C inlX2 3 rfl rfl 0 (by decide) wl_46_1 rfl (v := .int (sbits 0)) rfl dX6_copy_67 ?_
              refine ik_icmp_eq C 80 dX6_copy_70 (by decide) (fun hc => ?_) (fun hc => ?_)
              · have hf := ik_pos hc hf
                refine ik_aload C 1 rfl dX6_copy_80 ?_
                refine ik_iload_n C 4 rfl rfl dX6_copy_82 ?_
                refine ik_iload C 7 rfl dX6_copy_83 ?_
                obtain ⟨r5, hc5, hf⟩ := ik_b1s hf
                refine ik_goR (ik_runV C (c_X2_hasRange l D cI cS s20 s21 (sbits 2) (ssize 2) (snum 2) x2 x5 r5 hc5) mv_X2_hasRange wl_46_4 ⟨rfl, rfl, Nat.le_of_ble_eq_true rfl, Nat.le_of_ble_eq_true rfl⟩ [7, 8] rfl (by decide) 7 rfl rfl rfl rfl (Nat.le_of_ble_eq_true rfl) dX6_copy_85) rfl ?_
                refine ik_if_eq C 103 dX6_copy_88 (by decide) (fun hc => ?_) (fun hc => ?_)
                · have hf := ik_pos hc hf
                  refine ik_aload_n C 2 rfl rfl dX6_copy_103 ?_
                  refine ik_ldc C wl_5_3 dX6_copy_104 ?_
                  obtain ⟨r6, g7, hc7, hf⟩ := ik_b2s hf
                  refine ik_goW [0, 1] rfl rfl (wz_X6ofs cI cS o0 np0 kp0 tp0 r0 t0 sh0 f0 s00 s10 s20 s30 s01 s11 s21 s31 isk g7 sbits ssize snum) rfl (ik_runV C (c_X6_tell l D cI cS o0 np0 kp0 tp0 r0 t0 sh0 f0 isk fnd (-1000001 : Int32) r6 g7 hc7) mv_X6_tell wl_5_16 ⟨rfl, rfl, Nat.le_of_ble_eq_true rfl, Nat.le_of_ble_eq_true rfl⟩ [0, 1] rfl (by decide) 0 rfl rfl rfl rfl (Nat.le_of_ble_eq_true rfl) dX6_copy_106) rfl ?_
                  cases hf
                  exact ik_iretW C hr hlk dX6_copy_109
                · have hf := ik_neg hc hf
                  refine ik_aload C 0 rfl dX6_copy_91 ?_
                  refine ik_iload C 6 rfl dX6_copy_93 ?_
                  refine ik_iload C 7 rfl dX6_copy_95 ?_
                  obtain ⟨r6, hc6, hf⟩ := ik_b1s hf
                  refine ik_goR (ik_runV C (c_X2_hasRange l D cI cS s00 s01 (sbits 0) (ssize 0) (snum 0) x4 x5 r6 hc6) mv_X2_hasRange wl_46_4 ⟨rfl, rfl, Nat.le_of_ble_eq_true rfl, Nat.le_of_ble_eq_true rfl⟩ [3, 4] rfl (by decide) 3 rfl rfl rfl rfl (Nat.le_of_ble_eq_true rfl) dX6_copy_97) rfl ?_
                  refine ik_if_ne C 110 dX6_copy_100 (by decide) (fun hc => ?_) (fun hc => ?_)
                  · have hf := ik_neg hc hf
                    refine ik_aload C 1 rfl dX6_copy_110 ?_
                    refine ik_get C inlX2 7 rfl rfl 2 (by decide) wl_46_2 rfl (v := .ref s21) rfl dX6_copy_112 ?_
                    refine ik_iload_n C 4 rfl rfl dX6_copy_115 ?_
                    refine ik_aload C 0 rfl dX6_copy_116 ?_
                    refine ik_get C inlX2 3 rfl rfl 2 (by decide) wl_46_2 rfl (v := .ref s01) rfl dX6_copy_118 ?_
                    refine ik_iload C 6 rfl dX6_copy_121 ?_
                    refine ik_iload C 7 rfl dX6_copy_123 ?_
                    have hg := ik_gci hf
                    have hf := ik_gck hf
                    refine ik_copy C wl_46_3 wl_23_19 wl_23_20 wl_23_21 8 4 rfl rfl hg (Nat.le_of_ble_eq_true rfl) (Nat.le_of_ble_eq_true rfl) (wz_X6ofs cI cS o0 np0 kp0 tp0 r0 t0 sh0 f0 s00 s10 s20 s30 s01 s11 s21 s31 isk fnd sbits ssize (va_up snum 0 (va_cpy (snum 2) (snum 0) (x2).toNatClampNeg (x4).toNatClampNeg (x5).toNatClampNeg))) rfl dX6_copy_125 ?_
                    refine ik_iload C 7 rfl dX6_copy_128 ?_
                    cases hf
                    exact ik_iretW C hr hlk dX6_copy_130
                  · have hf := ik_pos hc hf
                    refine ik_aload_n C 2 rfl rfl dX6_copy_103 ?_
                    refine ik_ldc C wl_5_3 dX6_copy_104 ?_
                    obtain ⟨r7, g8, hc8, hf⟩ := ik_b2s hf
                    refine ik_goW [0, 1] rfl rfl (wz_X6ofs cI cS o0 np0 kp0 tp0 r0 t0 sh0 f0 s00 s10 s20 s30 s01 s11 s21 s31 isk g8 sbits ssize snum) rfl (ik_runV C (c_X6_tell l D cI cS o0 np0 kp0 tp0 r0 t0 sh0 f0 isk fnd (-1000001 : Int32) r7 g8 hc8) mv_X6_tell wl_5_16 ⟨rfl, rfl, Nat.le_of_ble_eq_true rfl, Nat.le_of_ble_eq_true rfl⟩ [0, 1] rfl (by decide) 0 rfl rfl rfl rfl (Nat.le_of_ble_eq_true rfl) dX6_copy_106) rfl ?_
                    cases hf
                    exact ik_iretW C hr hlk dX6_copy_109
              · have hf := ik_neg hc hf
                refine ik_aload_n C 2 rfl rfl dX6_copy_73 ?_
                refine ik_ldc C wl_43_14 dX6_copy_74 ?_
                obtain ⟨r5, g6, hc6, hf⟩ := ik_b2s hf
                refine ik_goW [0, 1] rfl rfl (wz_X6ofs cI cS o0 np0 kp0 tp0 r0 t0 sh0 f0 s00 s10 s20 s30 s01 s11 s21 s31 isk g6 sbits ssize snum) rfl (ik_runV C (c_X6_tell l D cI cS o0 np0 kp0 tp0 r0 t0 sh0 f0 isk fnd (-1000003 : Int32) r5 g6 hc6) mv_X6_tell wl_5_16 ⟨rfl, rfl, Nat.le_of_ble_eq_true rfl, Nat.le_of_ble_eq_true rfl⟩ [0, 1] rfl (by decide) 0 rfl rfl rfl rfl (Nat.le_of_ble_eq_true rfl) dX6_copy_76) rfl ?_
                cases hf
                exact ik_iretW C hr hlk dX6_copy_79
            · have hf := ik_neg hc hf
              refine ik_aload_n C 2 rfl rfl dX6_copy_53 ?_
              refine ik_ldc C wl_43_13 dX6_copy_54 ?_
              obtain ⟨r5, g6, hc6, hf⟩ := ik_b2s hf
              refine ik_goW [0, 1] rfl rfl (wz_X6ofs cI cS o0 np0 kp0 tp0 r0 t0 sh0 f0 s00 s10 s20 s30 s01 s11 s21 s31 isk g6 sbits ssize snum) rfl (ik_runV C (c_X6_tell l D cI cS o0 np0 kp0 tp0 r0 t0 sh0 f0 isk fnd (-1000006 : Int32) r5 g6 hc6) mv_X6_tell wl_5_16 ⟨rfl, rfl, Nat.le_of_ble_eq_true rfl, Nat.le_of_ble_eq_true rfl⟩ [0, 1] rfl (by decide) 0 rfl rfl rfl rfl (Nat.le_of_ble_eq_true rfl) dX6_copy_56) rfl ?_
              cases hf
              exact ik_iretW C hr hlk dX6_copy_59
        · have hf := ik_neg hb0 hf; have hf := ik_pos hc hf
          refine ik_astore C [(7, .ref s10), (6, .ref s20), (0, .ref o0), (1, .int x1), (2, .int x2), (3, .int x3), (4, .int x4), (5, .int x5)] (by decide) rfl dX6_copy_35 ?_
          refine ik_aload C 1 rfl dX6_copy_37 ?_
          obtain ⟨r3, hc3, hf⟩ := ik_b1s hf
          refine ik_goR (ik_runV C (c_X2_isMissing l D cI cS s20 s21 (sbits 2) (ssize 2) (snum 2) r3 hc3) mv_X2_isMissing wl_45_9 ⟨rfl, rfl, Nat.le_of_ble_eq_true rfl, Nat.le_of_ble_eq_true rfl⟩ [7, 8] rfl (by decide) 7 rfl rfl rfl rfl (Nat.le_of_ble_eq_true rfl) dX6_copy_39) rfl ?_
          refine ik_if_ne C 53 dX6_copy_42 (by decide) (fun hc => ?_) (fun hc => ?_)
          · have hf := ik_neg hc hf
            refine ik_aload_n C 2 rfl rfl dX6_copy_53 ?_
            refine ik_ldc C wl_43_13 dX6_copy_54 ?_
            obtain ⟨r4, g5, hc5, hf⟩ := ik_b2s hf
            refine ik_goW [0, 1] rfl rfl (wz_X6ofs cI cS o0 np0 kp0 tp0 r0 t0 sh0 f0 s00 s10 s20 s30 s01 s11 s21 s31 isk g5 sbits ssize snum) rfl (ik_runV C (c_X6_tell l D cI cS o0 np0 kp0 tp0 r0 t0 sh0 f0 isk fnd (-1000006 : Int32) r4 g5 hc5) mv_X6_tell wl_5_16 ⟨rfl, rfl, Nat.le_of_ble_eq_true rfl, Nat.le_of_ble_eq_true rfl⟩ [0, 1] rfl (by decide) 0 rfl rfl rfl rfl (Nat.le_of_ble_eq_true rfl) dX6_copy_56) rfl ?_
            cases hf
            exact ik_iretW C hr hlk dX6_copy_59
          · have hf := ik_pos hc hf
            refine ik_aload C 0 rfl dX6_copy_45 ?_
            obtain ⟨r4, hc4, hf⟩ := ik_b1s hf
            refine ik_goR (ik_runV C (c_X2_isMissing l D cI cS s10 s11 (sbits 1) (ssize 1) (snum 1) r4 hc4) mv_X2_isMissing wl_45_9 ⟨rfl, rfl, Nat.le_of_ble_eq_true rfl, Nat.le_of_ble_eq_true rfl⟩ [5, 6] rfl (by decide) 5 rfl rfl rfl rfl (Nat.le_of_ble_eq_true rfl) dX6_copy_47) rfl ?_
            refine ik_if_eq C 60 dX6_copy_50 (by decide) (fun hc => ?_) (fun hc => ?_)
            · have hf := ik_pos hc hf
              refine ik_aload C 1 rfl dX6_copy_60 ?_
              refine ik_get C inlX2 7 rfl rfl 0 (by decide) wl_46_1 rfl (v := .int (sbits 2)) rfl dX6_copy_62 ?_
              refine ik_aload C 0 rfl dX6_copy_65 ?_
              refine ik_get C inlX2 5 rfl rfl 0 (by decide) wl_46_1 rfl (v := .int (sbits 1)) rfl dX6_copy_67 ?_
              refine ik_icmp_eq C 80 dX6_copy_70 (by decide) (fun hc => ?_) (fun hc => ?_)
              · have hf := ik_pos hc hf
                refine ik_aload C 1 rfl dX6_copy_80 ?_
                refine ik_iload_n C 4 rfl rfl dX6_copy_82 ?_
                refine ik_iload C 7 rfl dX6_copy_83 ?_
                obtain ⟨r5, hc5, hf⟩ := ik_b1s hf
                refine ik_goR (ik_runV C (c_X2_hasRange l D cI cS s20 s21 (sbits 2) (ssize 2) (snum 2) x2 x5 r5 hc5) mv_X2_hasRange wl_46_4 ⟨rfl, rfl, Nat.le_of_ble_eq_true rfl, Nat.le_of_ble_eq_true rfl⟩ [7, 8] rfl (by decide) 7 rfl rfl rfl rfl (Nat.le_of_ble_eq_true rfl) dX6_copy_85) rfl ?_
                refine ik_if_eq C 103 dX6_copy_88 (by decide) (fun hc => ?_) (fun hc => ?_)
                · have hf := ik_pos hc hf
                  refine ik_aload_n C 2 rfl rfl dX6_copy_103 ?_
                  refine ik_ldc C wl_5_3 dX6_copy_104 ?_
                  obtain ⟨r6, g7, hc7, hf⟩ := ik_b2s hf
                  refine ik_goW [0, 1] rfl rfl (wz_X6ofs cI cS o0 np0 kp0 tp0 r0 t0 sh0 f0 s00 s10 s20 s30 s01 s11 s21 s31 isk g7 sbits ssize snum) rfl (ik_runV C (c_X6_tell l D cI cS o0 np0 kp0 tp0 r0 t0 sh0 f0 isk fnd (-1000001 : Int32) r6 g7 hc7) mv_X6_tell wl_5_16 ⟨rfl, rfl, Nat.le_of_ble_eq_true rfl, Nat.le_of_ble_eq_true rfl⟩ [0, 1] rfl (by decide) 0 rfl rfl rfl rfl (Nat.le_of_ble_eq_true rfl) dX6_copy_106) rfl ?_
                  cases hf
                  exact ik_iretW C hr hlk dX6_copy_109
                · have hf := ik_neg hc hf
                  refine ik_aload C 0 rfl dX6_copy_91 ?_
                  refine ik_iload C 6 rfl dX6_copy_93 ?_
                  refine ik_iload C 7 rfl dX6_copy_95 ?_
                  obtain ⟨r6, hc6, hf⟩ := ik_b1s hf
                  refine ik_goR (ik_runV C (c_X2_hasRange l D cI cS s10 s11 (sbits 1) (ssize 1) (snum 1) x4 x5 r6 hc6) mv_X2_hasRange wl_46_4 ⟨rfl, rfl, Nat.le_of_ble_eq_true rfl, Nat.le_of_ble_eq_true rfl⟩ [5, 6] rfl (by decide) 5 rfl rfl rfl rfl (Nat.le_of_ble_eq_true rfl) dX6_copy_97) rfl ?_
                  refine ik_if_ne C 110 dX6_copy_100 (by decide) (fun hc => ?_) (fun hc => ?_)
                  · have hf := ik_neg hc hf
                    refine ik_aload C 1 rfl dX6_copy_110 ?_
                    refine ik_get C inlX2 7 rfl rfl 2 (by decide) wl_46_2 rfl (v := .ref s21) rfl dX6_copy_112 ?_
                    refine ik_iload_n C 4 rfl rfl dX6_copy_115 ?_
                    refine ik_aload C 0 rfl dX6_copy_116 ?_
                    refine ik_get C inlX2 5 rfl rfl 2 (by decide) wl_46_2 rfl (v := .ref s11) rfl dX6_copy_118 ?_
                    refine ik_iload C 6 rfl dX6_copy_121 ?_
                    refine ik_iload C 7 rfl dX6_copy_123 ?_
                    have hg := ik_gci hf
                    have hf := ik_gck hf
                    refine ik_copy C wl_46_3 wl_23_19 wl_23_20 wl_23_21 8 6 rfl rfl hg (Nat.le_of_ble_eq_true rfl) (Nat.le_of_ble_eq_true rfl) (wz_X6ofs cI cS o0 np0 kp0 tp0 r0 t0 sh0 f0 s00 s10 s20 s30 s01 s11 s21 s31 isk fnd sbits ssize (va_up snum 1 (va_cpy (snum 2) (snum 1) (x2).toNatClampNeg (x4).toNatClampNeg (x5).toNatClampNeg))) rfl dX6_copy_125 ?_
                    refine ik_iload C 7 rfl dX6_copy_128 ?_
                    cases hf
                    exact ik_iretW C hr hlk dX6_copy_130
                  · have hf := ik_pos hc hf
                    refine ik_aload_n C 2 rfl rfl dX6_copy_103 ?_
                    refine ik_ldc C wl_5_3 dX6_copy_104 ?_
                    obtain ⟨r7, g8, hc8, hf⟩ := ik_b2s hf
                    refine ik_goW [0, 1] rfl rfl (wz_X6ofs cI cS o0 np0 kp0 tp0 r0 t0 sh0 f0 s00 s10 s20 s30 s01 s11 s21 s31 isk g8 sbits ssize snum) rfl (ik_runV C (c_X6_tell l D cI cS o0 np0 kp0 tp0 r0 t0 sh0 f0 isk fnd (-1000001 : Int32) r7 g8 hc8) mv_X6_tell wl_5_16 ⟨rfl, rfl, Nat.le_of_ble_eq_true rfl, Nat.le_of_ble_eq_true rfl⟩ [0, 1] rfl (by decide) 0 rfl rfl rfl rfl (Nat.le_of_ble_eq_true rfl) dX6_copy_106) rfl ?_
                    cases hf
                    exact ik_iretW C hr hlk dX6_copy_109
              · have hf := ik_neg hc hf
                refine ik_aload_n C 2 rfl rfl dX6_copy_73 ?_
                refine ik_ldc C wl_43_14 dX6_copy_74 ?_
                obtain ⟨r5, g6, hc6, hf⟩ := ik_b2s hf
                refine ik_goW [0, 1] rfl rfl (wz_X6ofs cI cS o0 np0 kp0 tp0 r0 t0 sh0 f0 s00 s10 s20 s30 s01 s11 s21 s31 isk g6 sbits ssize snum) rfl (ik_runV C (c_X6_tell l D cI cS o0 np0 kp0 tp0 r0 t0 sh0 f0 isk fnd (-1000003 : Int32) r5 g6 hc6) mv_X6_tell wl_5_16 ⟨rfl, rfl, Nat.le_of_ble_eq_true rfl, Nat.le_of_ble_eq_true rfl⟩ [0, 1] rfl (by decide) 0 rfl rfl rfl rfl (Nat.le_of_ble_eq_true rfl) dX6_copy_76) rfl ?_
                cases hf
                exact ik_iretW C hr hlk dX6_copy_79
            · have hf := ik_neg hc hf
              refine ik_aload_n C 2 rfl rfl dX6_copy_53 ?_
              refine ik_ldc C wl_43_13 dX6_copy_54 ?_
              obtain ⟨r5, g6, hc6, hf⟩ := ik_b2s hf
              refine ik_goW [0, 1] rfl rfl (wz_X6ofs cI cS o0 np0 kp0 tp0 r0 t0 sh0 f0 s00 s10 s20 s30 s01 s11 s21 s31 isk g6 sbits ssize snum) rfl (ik_runV C (c_X6_tell l D cI cS o0 np0 kp0 tp0 r0 t0 sh0 f0 isk fnd (-1000006 : Int32) r5 g6 hc6) mv_X6_tell wl_5_16 ⟨rfl, rfl, Nat.le_of_ble_eq_true rfl, Nat.le_of_ble_eq_true rfl⟩ [0, 1] rfl (by decide) 0 rfl rfl rfl rfl (Nat.le_of_ble_eq_true rfl) dX6_copy_56) rfl ?_
              cases hf
              exact ik_iretW C hr hlk dX6_copy_59
        · have hf := ik_neg hb0 hf; have hf := ik_neg hb1 hf; have hf := ik_pos hc hf
          refine ik_astore C [(7, .ref s20), (6, .ref s20), (0, .ref o0), (1, .int x1), (2, .int x2), (3, .int x3), (4, .int x4), (5, .int x5)] (by decide) rfl dX6_copy_35 ?_
          refine ik_aload C 1 rfl dX6_copy_37 ?_
          obtain ⟨r3, hc3, hf⟩ := ik_b1s hf
          refine ik_goR (ik_runV C (c_X2_isMissing l D cI cS s20 s21 (sbits 2) (ssize 2) (snum 2) r3 hc3) mv_X2_isMissing wl_45_9 ⟨rfl, rfl, Nat.le_of_ble_eq_true rfl, Nat.le_of_ble_eq_true rfl⟩ [7, 8] rfl (by decide) 7 rfl rfl rfl rfl (Nat.le_of_ble_eq_true rfl) dX6_copy_39) rfl ?_
          refine ik_if_ne C 53 dX6_copy_42 (by decide) (fun hc => ?_) (fun hc => ?_)
          · have hf := ik_neg hc hf
            refine ik_aload_n C 2 rfl rfl dX6_copy_53 ?_
            refine ik_ldc C wl_43_13 dX6_copy_54 ?_
            obtain ⟨r4, g5, hc5, hf⟩ := ik_b2s hf
            refine ik_goW [0, 1] rfl rfl (wz_X6ofs cI cS o0 np0 kp0 tp0 r0 t0 sh0 f0 s00 s10 s20 s30 s01 s11 s21 s31 isk g5 sbits ssize snum) rfl (ik_runV C (c_X6_tell l D cI cS o0 np0 kp0 tp0 r0 t0 sh0 f0 isk fnd (-1000006 : Int32) r4 g5 hc5) mv_X6_tell wl_5_16 ⟨rfl, rfl, Nat.le_of_ble_eq_true rfl, Nat.le_of_ble_eq_true rfl⟩ [0, 1] rfl (by decide) 0 rfl rfl rfl rfl (Nat.le_of_ble_eq_true rfl) dX6_copy_56) rfl ?_
            cases hf
            exact ik_iretW C hr hlk dX6_copy_59
          · have hf := ik_pos hc hf
            refine ik_aload C 0 rfl dX6_copy_45 ?_
            obtain ⟨r4, hc4, hf⟩ := ik_b1s hf
            refine ik_goR (ik_runV C (c_X2_isMissing l D cI cS s20 s21 (sbits 2) (ssize 2) (snum 2) r4 hc4) mv_X2_isMissing wl_45_9 ⟨rfl, rfl, Nat.le_of_ble_eq_true rfl, Nat.le_of_ble_eq_true rfl⟩ [7, 8] rfl (by decide) 7 rfl rfl rfl rfl (Nat.le_of_ble_eq_true rfl) dX6_copy_47) rfl ?_
            refine ik_if_eq C 60 dX6_copy_50 (by decide) (fun hc => ?_) (fun hc => ?_)
            · have hf := ik_pos hc hf
              refine ik_aload C 1 rfl dX6_copy_60 ?_
              refine ik_get C inlX2 7 rfl rfl 0 (by decide) wl_46_1 rfl (v := .int (sbits 2)) rfl dX6_copy_62 ?_
              refine ik_aload C 0 rfl dX6_copy_65 ?_
              refine ik_get C inlX2 7 rfl rfl 0 (by decide) wl_46_1 rfl (v := .int (sbits 2)) rfl dX6_copy_67 ?_
              refine ik_icmp_eq C 80 dX6_copy_70 (by decide) (fun hc => ?_) (fun hc => ?_)
              · have hf := ik_pos hc hf
                refine ik_aload C 1 rfl dX6_copy_80 ?_
                refine ik_iload_n C 4 rfl rfl dX6_copy_82 ?_
                refine ik_iload C 7 rfl dX6_copy_83 ?_
                obtain ⟨r5, hc5, hf⟩ := ik_b1s hf
                refine ik_goR (ik_runV C (c_X2_hasRange l D cI cS s20 s21 (sbits 2) (ssize 2) (snum 2) x2 x5 r5 hc5) mv_X2_hasRange wl_46_4 ⟨rfl, rfl, Nat.le_of_ble_eq_true rfl, Nat.le_of_ble_eq_true rfl⟩ [7, 8] rfl (by decide) 7 rfl rfl rfl rfl (Nat.le_of_ble_eq_true rfl) dX6_copy_85) rfl ?_
                refine ik_if_eq C 103 dX6_copy_88 (by decide) (fun hc => ?_) (fun hc => ?_)
                · have hf := ik_pos hc hf
                  refine ik_aload_n C 2 rfl rfl dX6_copy_103 ?_
                  refine ik_ldc C wl_5_3 dX6_copy_104 ?_
                  obtain ⟨r6, g7, hc7, hf⟩ := ik_b2s hf
                  refine ik_goW [0, 1] rfl rfl (wz_X6ofs cI cS o0 np0 kp0 tp0 r0 t0 sh0 f0 s00 s10 s20 s30 s01 s11 s21 s31 isk g7 sbits ssize snum) rfl (ik_runV C (c_X6_tell l D cI cS o0 np0 kp0 tp0 r0 t0 sh0 f0 isk fnd (-1000001 : Int32) r6 g7 hc7) mv_X6_tell wl_5_16 ⟨rfl, rfl, Nat.le_of_ble_eq_true rfl, Nat.le_of_ble_eq_true rfl⟩ [0, 1] rfl (by decide) 0 rfl rfl rfl rfl (Nat.le_of_ble_eq_true rfl) dX6_copy_106) rfl ?_
                  cases hf
                  exact ik_iretW C hr hlk dX6_copy_109
                · have hf := ik_neg hc hf
                  refine ik_aload C 0 rfl dX6_copy_91 ?_
                  refine ik_iload C 6 rfl dX6_copy_93 ?_
                  refine ik_iload C 7 rfl dX6_copy_95 ?_
                  obtain ⟨r6, hc6, hf⟩ := ik_b1s hf
                  refine ik_goR (ik_runV C (c_X2_hasRange l D cI cS s20 s21 (sbits 2) (ssize 2) (snum 2) x4 x5 r6 hc6) mv_X2_hasRange wl_46_4 ⟨rfl, rfl, Nat.le_of_ble_eq_true rfl, Nat.le_of_ble_eq_true rfl⟩ [7, 8] rfl (by decide) 7 rfl rfl rfl rfl (Nat.le_of_ble_eq_true rfl) dX6_copy_97) rfl ?_
                  refine ik_if_ne C 110 dX6_copy_100 (by decide) (fun hc => ?_) (fun hc => ?_)
                  · have hf := ik_neg hc hf
                    refine ik_aload C 1 rfl dX6_copy_110 ?_
                    refine ik_get C inlX2 7 rfl rfl 2 (by decide) wl_46_2 rfl (v := .ref s21) rfl dX6_copy_112 ?_
                    refine ik_iload_n C 4 rfl rfl dX6_copy_115 ?_
                    refine ik_aload C 0 rfl dX6_copy_116 ?_
                    refine ik_get C inlX2 7 rfl rfl 2 (by decide) wl_46_2 rfl (v := .ref s21) rfl dX6_copy_118 ?_
                    refine ik_iload C 6 rfl dX6_copy_121 ?_
                    refine ik_iload C 7 rfl dX6_copy_123 ?_
                    have hg := ik_gci hf
                    have hf := ik_gck hf
                    refine ik_copy C wl_46_3 wl_23_19 wl_23_20 wl_23_21 8 8 rfl rfl hg (Nat.le_of_ble_eq_true rfl) (Nat.le_of_ble_eq_true rfl) (wz_X6ofs cI cS o0 np0 kp0 tp0 r0 t0 sh0 f0 s00 s10 s20 s30 s01 s11 s21 s31 isk fnd sbits ssize (va_up snum 2 (va_cpy (snum 2) (snum 2) (x2).toNatClampNeg (x4).toNatClampNeg (x5).toNatClampNeg))) rfl dX6_copy_125 ?_
                    refine ik_iload C 7 rfl dX6_copy_128 ?_
                    cases hf
                    exact ik_iretW C hr hlk dX6_copy_130
                  · have hf := ik_pos hc hf
                    refine ik_aload_n C 2 rfl rfl dX6_copy_103 ?_
                    refine ik_ldc C wl_5_3 dX6_copy_104 ?_
                    obtain ⟨r7, g8, hc8, hf⟩ := ik_b2s hf
                    refine ik_goW [0, 1] rfl rfl (wz_X6ofs cI cS o0 np0 kp0 tp0 r0 t0 sh0 f0 s00 s10 s20 s30 s01 s11 s21 s31 isk g8 sbits ssize snum) rfl (ik_runV C (c_X6_tell l D cI cS o0 np0 kp0 tp0 r0 t0 sh0 f0 isk fnd (-1000001 : Int32) r7 g8 hc8) mv_X6_tell wl_5_16 ⟨rfl, rfl, Nat.le_of_ble_eq_true rfl, Nat.le_of_ble_eq_true rfl⟩ [0, 1] rfl (by decide) 0 rfl rfl rfl rfl (Nat.le_of_ble_eq_true rfl) dX6_copy_106) rfl ?_
                    cases hf
                    exact ik_iretW C hr hlk dX6_copy_109
              · have hf := ik_neg hc hf
                refine ik_aload_n C 2 rfl rfl dX6_copy_73 ?_
                refine ik_ldc C wl_43_14 dX6_copy_74 ?_
                obtain ⟨r5, g6, hc6, hf⟩ := ik_b2s hf
                refine ik_goW [0, 1] rfl rfl (wz_X6ofs cI cS o0 np0 kp0 tp0 r0 t0 sh0 f0 s00 s10 s20 s30 s01 s11 s21 s31 isk g6 sbits ssize snum) rfl (ik_runV C (c_X6_tell l D cI cS o0 np0 kp0 tp0 r0 t0 sh0 f0 isk fnd (-1000003 : Int32) r5 g6 hc6) mv_X6_tell wl_5_16 ⟨rfl, rfl, Nat.le_of_ble_eq_true rfl, Nat.le_of_ble_eq_true rfl⟩ [0, 1] rfl (by decide) 0 rfl rfl rfl rfl (Nat.le_of_ble_eq_true rfl) dX6_copy_76) rfl ?_
                cases hf
                exact ik_iretW C hr hlk dX6_copy_79
            · have hf := ik_neg hc hf
              refine ik_aload_n C 2 rfl rfl dX6_copy_53 ?_
              refine ik_ldc C wl_43_13 dX6_copy_54 ?_
              obtain ⟨r5, g6, hc6, hf⟩ := ik_b2s hf
              refine ik_goW [0, 1] rfl rfl (wz_X6ofs cI cS o0 np0 kp0 tp0 r0 t0 sh0 f0 s00 s10 s20 s30 s01 s11 s21 s31 isk g6 sbits ssize snum) rfl (ik_runV C (c_X6_tell l D cI cS o0 np0 kp0 tp0 r0 t0 sh0 f0 isk fnd (-1000006 : Int32) r5 g6 hc6) mv_X6_tell wl_5_16 ⟨rfl, rfl, Nat.le_of_ble_eq_true rfl, Nat.le_of_ble_eq_true rfl⟩ [0, 1] rfl (by decide) 0 rfl rfl rfl rfl (Nat.le_of_ble_eq_true rfl) dX6_copy_56) rfl ?_
              cases hf
              exact ik_iretW C hr hlk dX6_copy_59
        · have hf := ik_neg hb0 hf; have hf := ik_neg hb1 hf; have hf := ik_neg hb2 hf
          refine ik_astore C [(7, .ref s30), (6, .ref s20), (0, .ref o0), (1, .int x1), (2, .int x2), (3, .int x3), (4, .int x4), (5, .int x5)] (by decide) rfl dX6_copy_35 ?_
          refine ik_aload C 1 rfl dX6_copy_37 ?_
          obtain ⟨r3, hc3, hf⟩ := ik_b1s hf
          refine ik_goR (ik_runV C (c_X2_isMissing l D cI cS s20 s21 (sbits 2) (ssize 2) (snum 2) r3 hc3) mv_X2_isMissing wl_45_9 ⟨rfl, rfl, Nat.le_of_ble_eq_true rfl, Nat.le_of_ble_eq_true rfl⟩ [7, 8] rfl (by decide) 7 rfl rfl rfl rfl (Nat.le_of_ble_eq_true rfl) dX6_copy_39) rfl ?_
          refine ik_if_ne C 53 dX6_copy_42 (by decide) (fun hc => ?_) (fun hc => ?_)
          · have hf := ik_neg hc hf
            refine ik_aload_n C 2 rfl rfl dX6_copy_53 ?_
            refine ik_ldc C wl_43_13 dX6_copy_54 ?_
            obtain ⟨r4, g5, hc5, hf⟩ := ik_b2s hf
            refine ik_goW [0, 1] rfl rfl (wz_X6ofs cI cS o0 np0 kp0 tp0 r0 t0 sh0 f0 s00 s10 s20 s30 s01 s11 s21 s31 isk g5 sbits ssize snum) rfl (ik_runV C (c_X6_tell l D cI cS o0 np0 kp0 tp0 r0 t0 sh0 f0 isk fnd (-1000006 : Int32) r4 g5 hc5) mv_X6_tell wl_5_16 ⟨rfl, rfl, Nat.le_of_ble_eq_true rfl, Nat.le_of_ble_eq_true rfl⟩ [0, 1] rfl (by decide) 0 rfl rfl rfl rfl (Nat.le_of_ble_eq_true rfl) dX6_copy_56) rfl ?_
            cases hf
            exact ik_iretW C hr hlk dX6_copy_59
          · have hf := ik_pos hc hf
            refine ik_aload C 0 rfl dX6_copy_45 ?_
            obtain ⟨r4, hc4, hf⟩ := ik_b1s hf
            refine ik_goR (ik_runV C (c_X2_isMissing l D cI cS s30 s31 (sbits 3) (ssize 3) (snum 3) r4 hc4) mv_X2_isMissing wl_45_9 ⟨rfl, rfl, Nat.le_of_ble_eq_true rfl, Nat.le_of_ble_eq_true rfl⟩ [9, 10] rfl (by decide) 9 rfl rfl rfl rfl (Nat.le_of_ble_eq_true rfl) dX6_copy_47) rfl ?_
            refine ik_if_eq C 60 dX6_copy_50 (by decide) (fun hc => ?_) (fun hc => ?_)
            · have hf := ik_pos hc hf
              refine ik_aload C 1 rfl dX6_copy_60 ?_
              refine ik_get C inlX2 7 rfl rfl 0 (by decide) wl_46_1 rfl (v := .int (sbits 2)) rfl dX6_copy_62 ?_
              refine ik_aload C 0 rfl dX6_copy_65 ?_
              refine ik_get C inlX2 9 rfl rfl 0 (by decide) wl_46_1 rfl (v := .int (sbits 3)) rfl dX6_copy_67 ?_
              refine ik_icmp_eq C 80 dX6_copy_70 (by decide) (fun hc => ?_) (fun hc => ?_)
              · have hf := ik_pos hc hf
                refine ik_aload C 1 rfl dX6_copy_80 ?_
                refine ik_iload_n C 4 rfl rfl dX6_copy_82 ?_
                refine ik_iload C 7 rfl dX6_copy_83 ?_
                obtain ⟨r5, hc5, hf⟩ := ik_b1s hf
                refine ik_goR (ik_runV C (c_X2_hasRange l D cI cS s20 s21 (sbits 2) (ssize 2) (snum 2) x2 x5 r5 hc5) mv_X2_hasRange wl_46_4 ⟨rfl, rfl, Nat.le_of_ble_eq_true rfl, Nat.le_of_ble_eq_true rfl⟩ [7, 8] rfl (by decide) 7 rfl rfl rfl rfl (Nat.le_of_ble_eq_true rfl) dX6_copy_85) rfl ?_
                refine ik_if_eq C 103 dX6_copy_88 (by decide) (fun hc => ?_) (fun hc => ?_)
                · have hf := ik_pos hc hf
                  refine ik_aload_n C 2 rfl rfl dX6_copy_103 ?_
                  refine ik_ldc C wl_5_3 dX6_copy_104 ?_
                  obtain ⟨r6, g7, hc7, hf⟩ := ik_b2s hf
                  refine ik_goW [0, 1] rfl rfl (wz_X6ofs cI cS o0 np0 kp0 tp0 r0 t0 sh0 f0 s00 s10 s20 s30 s01 s11 s21 s31 isk g7 sbits ssize snum) rfl (ik_runV C (c_X6_tell l D cI cS o0 np0 kp0 tp0 r0 t0 sh0 f0 isk fnd (-1000001 : Int32) r6 g7 hc7) mv_X6_tell wl_5_16 ⟨rfl, rfl, Nat.le_of_ble_eq_true rfl, Nat.le_of_ble_eq_true rfl⟩ [0, 1] rfl (by decide) 0 rfl rfl rfl rfl (Nat.le_of_ble_eq_true rfl) dX6_copy_106) rfl ?_
                  cases hf
                  exact ik_iretW C hr hlk dX6_copy_109
                · have hf := ik_neg hc hf
                  refine ik_aload C 0 rfl dX6_copy_91 ?_
                  refine ik_iload C 6 rfl dX6_copy_93 ?_
                  refine ik_iload C 7 rfl dX6_copy_95 ?_
                  obtain ⟨r6, hc6, hf⟩ := ik_b1s hf
                  refine ik_goR (ik_runV C (c_X2_hasRange l D cI cS s30 s31 (sbits 3) (ssize 3) (snum 3) x4 x5 r6 hc6) mv_X2_hasRange wl_46_4 ⟨rfl, rfl, Nat.le_of_ble_eq_true rfl, Nat.le_of_ble_eq_true rfl⟩ [9, 10] rfl (by decide) 9 rfl rfl rfl rfl (Nat.le_of_ble_eq_true rfl) dX6_copy_97) rfl ?_
                  refine ik_if_ne C 110 dX6_copy_100 (by decide) (fun hc => ?_) (fun hc => ?_)
                  · have hf := ik_neg hc hf
                    refine ik_aload C 1 rfl dX6_copy_110 ?_
                    refine ik_get C inlX2 7 rfl rfl 2 (by decide) wl_46_2 rfl (v := .ref s21) rfl dX6_copy_112 ?_
                    refine ik_iload_n C 4 rfl rfl dX6_copy_115 ?_
                    refine ik_aload C 0 rfl dX6_copy_116 ?_
                    refine ik_get C inlX2 9 rfl rfl 2 (by decide) wl_46_2 rfl (v := .ref s31) rfl dX6_copy_118 ?_
                    refine ik_iload C 6 rfl dX6_copy_121 ?_
                    refine ik_iload C 7 rfl dX6_copy_123 ?_
                    have hg := ik_gci hf
                    have hf := ik_gck hf
                    refine ik_copy C wl_46_3 wl_23_19 wl_23_20 wl_23_21 8 10 rfl rfl hg (Nat.le_of_ble_eq_true rfl) (Nat.le_of_ble_eq_true rfl) (wz_X6ofs cI cS o0 np0 kp0 tp0 r0 t0 sh0 f0 s00 s10 s20 s30 s01 s11 s21 s31 isk fnd sbits ssize (va_up snum 3 (va_cpy (snum 2) (snum 3) (x2).toNatClampNeg (x4).toNatClampNeg (x5).toNatClampNeg))) rfl dX6_copy_125 ?_
                    refine ik_iload C 7 rfl dX6_copy_128 ?_
                    cases hf
                    exact ik_iretW C hr hlk dX6_copy_130
                  · have hf := ik_pos hc hf
                    refine ik_aload_n C 2 rfl rfl dX6_copy_103 ?_
                    refine ik_ldc C wl_5_3 dX6_copy_104 ?_
                    obtain ⟨r7, g8, hc8, hf⟩ := ik_b2s hf
                    refine ik_goW [0, 1] rfl rfl (wz_X6ofs cI cS o0 np0 kp0 tp0 r0 t0 sh0 f0 s00 s10 s20 s30 s01 s11 s21 s31 isk g8 sbits ssize snum) rfl (ik_runV C (c_X6_tell l D cI cS o0 np0 kp0 tp0 r0 t0 sh0 f0 isk fnd (-1000001 : Int32) r7 g8 hc8) mv_X6_tell wl_5_16 ⟨rfl, rfl, Nat.le_of_ble_eq_true rfl, Nat.le_of_ble_eq_true rfl⟩ [0, 1] rfl (by decide) 0 rfl rfl rfl rfl (Nat.le_of_ble_eq_true rfl) dX6_copy_106) rfl ?_
                    cases hf
                    exact ik_iretW C hr hlk dX6_copy_109
              · have hf := ik_neg hc hf
                refine ik_aload_n C 2 rfl rfl dX6_copy_73 ?_
                refine ik_ldc C wl_43_14 dX6_copy_74 ?_
                obtain ⟨r5, g6, hc6, hf⟩ := ik_b2s hf
                refine ik_goW [0, 1] rfl rfl (wz_X6ofs cI cS o0 np0 kp0 tp0 r0 t0 sh0 f0 s00 s10 s20 s30 s01 s11 s21 s31 isk g6 sbits ssize snum) rfl (ik_runV C (c_X6_tell l D cI cS o0 np0 kp0 tp0 r0 t0 sh0 f0 isk fnd (-1000003 : Int32) r5 g6 hc6) mv_X6_tell wl_5_16 ⟨rfl, rfl, Nat.le_of_ble_eq_true rfl, Nat.le_of_ble_eq_true rfl⟩ [0, 1] rfl (by decide) 0 rfl rfl rfl rfl (Nat.le_of_ble_eq_true rfl) dX6_copy_76) rfl ?_
                cases hf
                exact ik_iretW C hr hlk dX6_copy_79
            · have hf := ik_neg hc hf
              refine ik_aload_n C 2 rfl rfl dX6_copy_53 ?_
              refine ik_ldc C wl_43_13 dX6_copy_54 ?_
              obtain ⟨r5, g6, hc6, hf⟩ := ik_b2s hf
              refine ik_goW [0, 1] rfl rfl (wz_X6ofs cI cS o0 np0 kp0 tp0 r0 t0 sh0 f0 s00 s10 s20 s30 s01 s11 s21 s31 isk g6 sbits ssize snum) rfl (ik_runV C (c_X6_tell l D cI cS o0 np0 kp0 tp0 r0 t0 sh0 f0 isk fnd (-1000006 : Int32) r5 g6 hc6) mv_X6_tell wl_5_16 ⟨rfl, rfl, Nat.le_of_ble_eq_true rfl, Nat.le_of_ble_eq_true rfl⟩ [0, 1] rfl (by decide) 0 rfl rfl rfl rfl (Nat.le_of_ble_eq_true rfl) dX6_copy_56) rfl ?_
              cases hf
              exact ik_iretW C hr hlk dX6_copy_59
      · have hf := ik_neg hb0 hf; have hf := ik_neg hb1 hf; have hf := ik_neg hb2 hf
        refine ik_astore C [(6, .ref s30), (0, .ref o0), (1, .int x1), (2, .int x2), (3, .int x3), (4, .int x4), (5, .int x5)] (by decide) rfl dX6_copy_27 ?_
        refine ik_aload_n C 1 rfl rfl dX6_copy_29 ?_
        refine ik_get C inlX6 0 rfl rfl 6 (by decide) wl_2_1 rfl (v := .ref sh0) rfl dX6_copy_30 ?_
        refine ik_iload_n C 4 rfl rfl dX6_copy_33 ?_
        have hg := ik_gdi hf
        have hf := ik_gdk hf
        refine ik_aald4 C 2 rfl hg (a0 := s00) (a1 := s10) (a2 := s20) (a3 := s30) rfl rfl rfl rfl dX6_copy_34 (fun hc => ?_) (fun hb0 hc => ?_) (fun hb0 hb1 hc => ?_) (fun hb0 hb1 hb2 hc => ?_)
        · have hf := ik_pos hc hf
          refine ik_astore C [(7, .ref s00), (6, .ref s30), (0, .ref o0), (1, .int x1), (2, .int x2), (3, .int x3), (4, .int x4), (5, .int x5)] (by decide) rfl dX6_copy_35 ?_
          refine ik_aload C 1 rfl dX6_copy_37 ?_
          obtain ⟨r3, hc3, hf⟩ := ik_b1s hf
          refine ik_goR (ik_runV C (c_X2_isMissing l D cI cS s30 s31 (sbits 3) (ssize 3) (snum 3) r3 hc3) mv_X2_isMissing wl_45_9 ⟨rfl, rfl, Nat.le_of_ble_eq_true rfl, Nat.le_of_ble_eq_true rfl⟩ [9, 10] rfl (by decide) 9 rfl rfl rfl rfl (Nat.le_of_ble_eq_true rfl) dX6_copy_39) rfl ?_
          refine ik_if_ne C 53 dX6_copy_42 (by decide) (fun hc => ?_) (fun hc => ?_)
          · have hf := ik_neg hc hf
            refine ik_aload_n C 2 rfl rfl dX6_copy_53 ?_
            refine ik_ldc C wl_43_13 dX6_copy_54 ?_
            obtain ⟨r4, g5, hc5, hf⟩ := ik_b2s hf
            refine ik_goW [0, 1] rfl rfl (wz_X6ofs cI cS o0 np0 kp0 tp0 r0 t0 sh0 f0 s00 s10 s20 s30 s01 s11 s21 s31 isk g5 sbits ssize snum) rfl (ik_runV C (c_X6_tell l D cI cS o0 np0 kp0 tp0 r0 t0 sh0 f0 isk fnd (-1000006 : Int32) r4 g5 hc5) mv_X6_tell wl_5_16 ⟨rfl, rfl, Nat.le_of_ble_eq_true rfl, Nat.le_of_ble_eq_true rfl⟩ [0, 1] rfl (by decide) 0 rfl rfl rfl rfl (Nat.le_of_ble_eq_true rfl) dX6_copy_56) rfl ?_
            cases hf
            exact ik_iretW C hr hlk dX6_copy_59
          · have hf := ik_pos hc hf
            refine ik_aload C 0 rfl dX6_copy_45 ?_
            obtain ⟨r4, hc4, hf⟩ := ik_b1s hf
            refine ik_goR (ik_runV C (c_X2_isMissing l D cI cS s00 s01 (sbits 0) (ssize 0) (snum 0) r4 hc4) mv_X2_isMissing wl_45_9 ⟨rfl, rfl, Nat.le_of_ble_eq_true rfl, Nat.le_of_ble_eq_true rfl⟩ [3, 4] rfl (by decide) 3 rfl rfl rfl rfl (Nat.le_of_ble_eq_true rfl) dX6_copy_47) rfl ?_
            refine ik_if_eq C 60 dX6_copy_50 (by decide) (fun hc => ?_) (fun hc => ?_)
            · have hf := ik_pos hc hf
              refine ik_aload C 1 rfl dX6_copy_60 ?_
              refine ik_get C inlX2 9 rfl rfl 0 (by decide) wl_46_1 rfl (v := .int (sbits 3)) rfl dX6_copy_62 ?_
              refine ik_aload C 0 rfl dX6_copy_65 ?_
              refine ik_get C inlX2 3 rfl rfl 0 (by decide) wl_46_1 rfl (v := .int (sbits 0)) rfl dX6_copy_67 ?_
              refine ik_icmp_eq C 80 dX6_copy_70 (by decide) (fun hc => ?_) (fun hc => ?_)
              · have hf := ik_pos hc hf
                refine ik_aload C 1 rfl dX6_copy_80 ?_
                refine ik_iload_n C 4 rfl rfl dX6_copy_82 ?_
                refine ik_iload C 7 rfl dX6_copy_83 ?_
                obtain ⟨r5, hc5, hf⟩ := ik_b1s hf
                refine ik_goR (ik_runV C (c_X2_hasRange l D cI cS s30 s31 (sbits 3) (ssize 3) (snum 3) x2 x5 r5 hc5) mv_X2_hasRange wl_46_4 ⟨rfl, rfl, Nat.le_of_ble_eq_true rfl, Nat.le_of_ble_eq_true rfl⟩ [9, 10] rfl (by decide) 9 rfl rfl rfl rfl (Nat.le_of_ble_eq_true rfl) dX6_copy_85) rfl ?_
                refine ik_if_eq C 103 dX6_copy_88 (by decide) (fun hc => ?_) (fun hc => ?_)
                · have hf := ik_pos hc hf
                  refine ik_aload_n C 2 rfl rfl dX6_copy_103 ?_
                  refine ik_ldc C wl_5_3 dX6_copy_104 ?_
                  obtain ⟨r6, g7, hc7, hf⟩ := ik_b2s hf
                  refine ik_goW [0, 1] rfl rfl (wz_X6ofs cI cS o0 np0 kp0 tp0 r0 t0 sh0 f0 s00 s10 s20 s30 s01 s11 s21 s31 isk g7 sbits ssize snum) rfl (ik_runV C (c_X6_tell l D cI cS o0 np0 kp0 tp0 r0 t0 sh0 f0 isk fnd (-1000001 : Int32) r6 g7 hc7) mv_X6_tell wl_5_16 ⟨rfl, rfl, Nat.le_of_ble_eq_true rfl, Nat.le_of_ble_eq_true rfl⟩ [0, 1] rfl (by decide) 0 rfl rfl rfl rfl (Nat.le_of_ble_eq_true rfl) dX6_copy_106) rfl ?_
                  cases hf
                  exact ik_iretW C hr hlk dX6_copy_109
                · have hf := ik_neg hc hf
                  refine ik_aload C 0 rfl dX6_copy_91 ?_
                  refine ik_iload C 6 rfl dX6_copy_93 ?_
                  refine ik_iload C 7 rfl dX6_copy_95 ?_
                  obtain ⟨r6, hc6, hf⟩ := ik_b1s hf
                  refine ik_goR (ik_runV C (c_X2_hasRange l D cI cS s00 s01 (sbits 0) (ssize 0) (snum 0) x4 x5 r6 hc6) mv_X2_hasRange wl_46_4 ⟨rfl, rfl, Nat.le_of_ble_eq_true rfl, Nat.le_of_ble_eq_true rfl⟩ [3, 4] rfl (by decide) 3 rfl rfl rfl rfl (Nat.le_of_ble_eq_true rfl) dX6_copy_97) rfl ?_
                  refine ik_if_ne C 110 dX6_copy_100 (by decide) (fun hc => ?_) (fun hc => ?_)
                  · have hf := ik_neg hc hf
                    refine ik_aload C 1 rfl dX6_copy_110 ?_
                    refine ik_get C inlX2 9 rfl rfl 2 (by decide) wl_46_2 rfl (v := .ref s31) rfl dX6_copy_112 ?_
                    refine ik_iload_n C 4 rfl rfl dX6_copy_115 ?_
                    refine ik_aload C 0 rfl dX6_copy_116 ?_
                    refine ik_get C inlX2 3 rfl rfl 2 (by decide) wl_46_2 rfl (v := .ref s01) rfl dX6_copy_118 ?_
                    refine ik_iload C 6 rfl dX6_copy_121 ?_
                    refine ik_iload C 7 rfl dX6_copy_123 ?_
                    have hg := ik_gci hf
                    have hf := ik_gck hf
                    refine ik_copy C wl_46_3 wl_23_19 wl_23_20 wl_23_21 10 4 rfl rfl hg (Nat.le_of_ble_eq_true rfl) (Nat.le_of_ble_eq_true rfl) (wz_X6ofs cI cS o0 np0 kp0 tp0 r0 t0 sh0 f0 s00 s10 s20 s30 s01 s11 s21 s31 isk fnd sbits ssize (va_up snum 0 (va_cpy (snum 3) (snum 0) (x2).toNatClampNeg (x4).toNatClampNeg (x5).toNatClampNeg))) rfl dX6_copy_125 ?_
                    refine ik_iload C 7 rfl dX6_copy_128 ?_
                    cases hf
                    exact ik_iretW C hr hlk dX6_copy_130
                  · have hf := ik_pos hc hf
                    refine ik_aload_n C 2 rfl rfl dX6_copy_103 ?_
                    refine ik_ldc C wl_5_3 dX6_copy_104 ?_
                    obtain ⟨r7, g8, hc8, hf⟩ := ik_b2s hf
                    refine ik_goW [0, 1] rfl rfl (wz_X6ofs cI cS o0 np0 kp0 tp0 r0 t0 sh0 f0 s00 s10 s20 s30 s01 s11 s21 s31 isk g8 sbits ssize snum) rfl (ik_runV C (c_X6_tell l D cI cS o0 np0 kp0 tp0 r0 t0 sh0 f0 isk fnd (-1000001 : Int32) r7 g8 hc8) mv_X6_tell wl_5_16 ⟨rfl, rfl, Nat.le_of_ble_eq_true rfl, Nat.le_of_ble_eq_true rfl⟩ [0, 1] rfl (by decide) 0 rfl rfl rfl rfl (Nat.le_of_ble_eq_true rfl) dX6_copy_106) rfl ?_
                    cases hf
                    exact ik_iretW C hr hlk dX6_copy_109
              · have hf := ik_neg hc hf
                refine ik_aload_n C 2 rfl rfl dX6_copy_73 ?_
                refine ik_ldc C wl_43_14 dX6_copy_74 ?_
                obtain ⟨r5, g6, hc6, hf⟩ := ik_b2s hf
                refine ik_goW [0, 1] rfl rfl (wz_X6ofs cI cS o0 np0 kp0 tp0 r0 t0 sh0 f0 s00 s10 s20 s30 s01 s11 s21 s31 isk g6 sbits ssize snum) rfl (ik_runV C (c_X6_tell l D cI cS o0 np0 kp0 tp0 r0 t0 sh0 f0 isk fnd (-1000003 : Int32) r5 g6 hc6) mv_X6_tell wl_5_16 ⟨rfl, rfl, Nat.le_of_ble_eq_true rfl, Nat.le_of_ble_eq_true rfl⟩ [0, 1] rfl (by decide) 0 rfl rfl rfl rfl (Nat.le_of_ble_eq_true rfl) dX6_copy_76) rfl ?_
                cases hf
                exact ik_iretW C hr hlk dX6_copy_79
            · have hf := ik_neg hc hf
              refine ik_aload_n C 2 rfl rfl dX6_copy_53 ?_
              refine ik_ldc C wl_43_13 dX6_copy_54 ?_
              obtain ⟨r5, g6, hc6, hf⟩ := ik_b2s hf
              refine ik_goW [0, 1] rfl rfl (wz_X6ofs cI cS o0 np0 kp0 tp0 r0 t0 sh0 f0 s00 s10 s20 s30 s01 s11 s21 s31 isk g6 sbits ssize snum) rfl (ik_runV C (c_X6_tell l D cI cS o0 np0 kp0 tp0 r0 t0 sh0 f0 isk fnd (-1000006 : Int32) r5 g6 hc6) mv_X6_tell wl_5_16 ⟨rfl, rfl, Nat.le_of_ble_eq_true rfl, Nat.le_of_ble_eq_true rfl⟩ [0, 1] rfl (by decide) 0 rfl rfl rfl rfl (Nat.le_of_ble_eq_true rfl) dX6_copy_56) rfl ?_
              cases hf
              exact ik_iretW C hr hlk dX6_copy_59
        · have hf := ik_neg hb0 hf; have hf := ik_pos hc hf
          refine ik_astore C [(7, .ref s10), (6, .ref s30), (0, .ref o0), (1, .int x1), (2, .int x2), (3, .int x3), (4, .int x4), (5, .int x5)] (by decide) rfl dX6_copy_35 ?_
          refine ik_aload C 1 rfl dX6_copy_37 ?_
          obtain ⟨r3, hc3, hf⟩ := ik_b1s hf
          refine ik_goR (ik_runV C (c_X2_isMissing l D cI cS s30 s31 (sbits 3) (ssize 3) (snum 3) r3 hc3) mv_X2_isMissing wl_45_9 ⟨rfl, rfl, Nat.le_of_ble_eq_true rfl, Nat.le_of_ble_eq_true rfl⟩ [9, 10] rfl (by decide) 9 rfl rfl rfl rfl (Nat.le_of_ble_eq_true rfl) dX6_copy_39) rfl ?_
          refine ik_if_ne C 53 dX6_copy_42 (by decide) (fun hc => ?_) (fun hc => ?_)
          · have hf := ik_neg hc hf
            refine ik_aload_n C 2 rfl rfl dX6_copy_53 ?_
            refine ik_ldc C wl_43_13 dX6_copy_54 ?_
            obtain ⟨r4, g5, hc5, hf⟩ := ik_b2s hf
            refine ik_goW [0, 1] rfl rfl (wz_X6ofs cI cS o0 np0 kp0 tp0 r0 t0 sh0 f0 s00 s10 s20 s30 s01 s11 s21 s31 isk g5 sbits ssize snum) rfl (ik_runV C (c_X6_tell l D cI cS o0 np0 kp0 tp0 r0 t0 sh0 f0 isk fnd (-1000006 : Int32) r4 g5 hc5) mv_X6_tell wl_5_16 ⟨rfl, rfl, Nat.le_of_ble_eq_true rfl, Nat.le_of_ble_eq_true rfl⟩ [0, 1] rfl (by decide) 0 rfl rfl rfl rfl (Nat.le_of_ble_eq_true rfl) dX6_copy_56) rfl ?_
            cases hf
            exact ik_iretW C hr hlk dX6_copy_59
          · have hf := ik_pos hc hf
            refine ik_aload C 0 rfl dX6_copy_45 ?_
            obtain ⟨r4, hc4, hf⟩ := ik_b1s hf
            refine ik_goR (ik_runV C (c_X2_isMissing l D cI cS s10 s11 (sbits 1) (ssize 1) (snum 1) r4 hc4) mv_X2_isMissing wl_45_9 ⟨rfl, rfl, Nat.le_of_ble_eq_true rfl, Nat.le_of_ble_eq_true rfl⟩ [5, 6] rfl (by decide) 5 rfl rfl rfl rfl (Nat.le_of_ble_eq_true rfl) dX6_copy_47) rfl ?_
            refine ik_if_eq C 60 dX6_copy_50 (by decide) (fun hc => ?_) (fun hc => ?_)
            · have hf := ik_pos hc hf
              refine ik_aload C 1 rfl dX6_copy_60 ?_
              refine ik_get C inlX2 9 rfl rfl 0 (by decide) wl_46_1 rfl (v := .int (sbits 3)) rfl dX6_copy_62 ?_
              refine ik_aload C 0 rfl dX6_copy_65 ?_
              refine ik_get C inlX2 5 rfl rfl 0 (by decide) wl_46_1 rfl (v := .int (sbits 1)) rfl dX6_copy_67 ?_
              refine ik_icmp_eq C 80 dX6_copy_70 (by decide) (fun hc => ?_) (fun hc => ?_)
              · have hf := ik_pos hc hf
                refine ik_aload C 1 rfl dX6_copy_80 ?_
                refine ik_iload_n C 4 rfl rfl dX6_copy_82 ?_
                refine ik_iload C 7 rfl dX6_copy_83 ?_
                obtain ⟨r5, hc5, hf⟩ := ik_b1s hf
                refine ik_goR (ik_runV C (c_X2_hasRange l D cI cS s30 s31 (sbits 3) (ssize 3) (snum 3) x2 x5 r5 hc5) mv_X2_hasRange wl_46_4 ⟨rfl, rfl, Nat.le_of_ble_eq_true rfl, Nat.le_of_ble_eq_true rfl⟩ [9, 10] rfl (by decide) 9 rfl rfl rfl rfl (Nat.le_of_ble_eq_true rfl) dX6_copy_85) rfl ?_
                refine ik_if_eq C 103 dX6_copy_88 (by decide) (fun hc => ?_) (fun hc => ?_)
                · have hf := ik_pos hc hf
                  refine ik_aload_n C 2 rfl rfl dX6_copy_103 ?_
                  refine ik_ldc C wl_5_3 dX6_copy_104 ?_
                  obtain ⟨r6, g7, hc7, hf⟩ := ik_b2s hf
                  refine ik_goW [0, 1] rfl rfl (wz_X6ofs cI cS o0 np0 kp0 tp0 r0 t0 sh0 f0 s00 s10 s20 s30 s01 s11 s21 s31 isk g7 sbits ssize snum) rfl (ik_runV C (c_X6_tell l D cI cS o0 np0 kp0 tp0 r0 t0 sh0 f0 isk fnd (-1000001 : Int32) r6 g7 hc7) mv_X6_tell wl_5_16 ⟨rfl, rfl, Nat.le_of_ble_eq_true rfl, Nat.le_of_ble_eq_true rfl⟩ [0, 1] rfl (by decide) 0 rfl rfl rfl rfl (Nat.le_of_ble_eq_true rfl) dX6_copy_106) rfl ?_
                  cases hf
                  exact ik_iretW C hr hlk dX6_copy_109
                · have hf := ik_neg hc hf
                  refine ik_aload C 0 rfl dX6_copy_91 ?_
                  refine ik_iload C 6 rfl dX6_copy_93 ?_
                  refine ik_iload C 7 rfl dX6_copy_95 ?_
                  obtain ⟨r6, hc6, hf⟩ := ik_b1s hf
                  refine ik_goR (ik_runV C (c_X2_hasRange l D cI cS s10 s11 (sbits 1) (ssize 1) (snum 1) x4 x5 r6 hc6) mv_X2_hasRange wl_46_4 ⟨rfl, rfl, Nat.le_of_ble_eq_true rfl, Nat.le_of_ble_eq_true rfl⟩ [5, 6] rfl (by decide) 5 rfl rfl rfl rfl (Nat.le_of_ble_eq_true rfl) dX6_copy_97) rfl ?_
                  refine ik_if_ne C 110 dX6_copy_100 (by decide) (fun hc => ?_) (fun hc => ?_)
                  · have hf := ik_neg hc hf
                    refine ik_aload C 1 rfl dX6_copy_110 ?_
                    refine ik_get C inlX2 9 rfl rfl 2 (by decide) wl_46_2 rfl (v := .ref s31) rfl dX6_copy_112 ?_
                    refine ik_iload_n C 4 rfl rfl dX6_copy_115 ?_
                    refine ik_aload C 0 rfl dX6_copy_116 ?_
                    refine ik_get C inlX2 5 rfl rfl 2 (by decide) wl_46_2 rfl (v := .ref s11) rfl dX6_copy_118 ?_
                    refine ik_iload C 6 rfl dX6_copy_121 ?_
                    refine ik_iload C 7 rfl dX6_copy_123 ?_
                    have hg := ik_gci hf
                    have hf := ik_gck hf
                    refine ik_copy C wl_46_3 wl_23_19 wl_23_20 wl_23_21 10 6 rfl rfl hg (Nat.le_of_ble_eq_true rfl) (Nat.le_of_ble_eq_true rfl) (wz_X6ofs cI cS o0 np0 kp0 tp0 r0 t0 sh0 f0 s00 s10 s20 s30 s01 s11 s21 s31 isk fnd sbits ssize (va_up snum 1 (va_cpy (snum 3) (snum 1) (x2).toNatClampNeg (x4).toNatClampNeg (x5).toNatClampNeg))) rfl dX6_copy_125 ?_
                    refine ik_iload C 7 rfl dX6_copy_128 ?_
                    cases hf
                    exact ik_iretW C hr hlk dX6_copy_130
                  · have hf := ik_pos hc hf
                    refine ik_aload_n C 2 rfl rfl dX6_copy_103 ?_
                    refine ik_ldc C wl_5_3 dX6_copy_104 ?_
                    obtain ⟨r7, g8, hc8, hf⟩ := ik_b2s hf
                    refine ik_goW [0, 1] rfl rfl (wz_X6ofs cI cS o0 np0 kp0 tp0 r0 t0 sh0 f0 s00 s10 s20 s30 s01 s11 s21 s31 isk g8 sbits ssize snum) rfl (ik_runV C (c_X6_tell l D cI cS o0 np0 kp0 tp0 r0 t0 sh0 f0 isk fnd (-1000001 : Int32) r7 g8 hc8) mv_X6_tell wl_5_16 ⟨rfl, rfl, Nat.le_of_ble_eq_true rfl, Nat.le_of_ble_eq_true rfl⟩ [0, 1] rfl (by decide) 0 rfl rfl rfl rfl (Nat.le_of_ble_eq_true rfl) dX6_copy_106) rfl ?_
                    cases hf
                    exact ik_iretW C hr hlk dX6_copy_109
              · have hf := ik_neg hc hf
                refine ik_aload_n C 2 rfl rfl dX6_copy_73 ?_
                refine ik_ldc C wl_43_14 dX6_copy_74 ?_
                obtain ⟨r5, g6, hc6, hf⟩ := ik_b2s hf
                refine ik_goW [0, 1] rfl rfl (wz_X6ofs cI cS o0 np0 kp0 tp0 r0 t0 sh0 f0 s00 s10 s20 s30 s01 s11 s21 s31 isk g6 sbits ssize snum) rfl (ik_runV C (c_X6_tell l D cI cS o0 np0 kp0 tp0 r0 t0 sh0 f0 isk fnd (-1000003 : Int32) r5 g6 hc6) mv_X6_tell wl_5_16 ⟨rfl, rfl, Nat.le_of_ble_eq_true rfl, Nat.le_of_ble_eq_true rfl⟩ [0, 1] rfl (by decide) 0 rfl rfl rfl rfl (Nat.le_of_ble_eq_true rfl) dX6_copy_76) rfl ?_
                cases hf
                exact ik_iretW C hr hlk dX6_copy_79
            · have hf := ik_neg hc hf
              refine ik_aload_n C 2 rfl rfl dX6_copy_53 ?_
              refine ik_ldc C wl_43_13 dX6_copy_54 ?_
              obtain ⟨r5, g6, hc6, hf⟩ := ik_b2s hf
              refine ik_goW [0, 1] rfl rfl (wz_X6ofs cI cS o0 np0 kp0 tp0 r0 t0 sh0 f0 s00 s10 s20 s30 s01 s11 s21 s31 isk g6 sbits ssize snum) rfl (ik_runV C (c_X6_tell l D cI cS o0 np0 kp0 tp0 r0 t0 sh0 f0 isk fnd (-1000006 : Int32) r5 g6 hc6) mv_X6_tell wl_5_16 ⟨rfl, rfl, Nat.le_of_ble_eq_true rfl, Nat.le_of_ble_eq_true rfl⟩ [0, 1] rfl (by decide) 0 rfl rfl rfl rfl (Nat.le_of_ble_eq_true rfl) dX6_copy_56) rfl ?_
              cases hf
              exact ik_iretW C hr hlk dX6_copy_59
        · have hf := ik_neg hb0 hf; have hf := ik_neg hb1 hf; have hf := ik_pos hc hf
          refine ik_astore C [(7, .ref s20), (6, .ref s30), (0, .ref o0), (1, .int x1), (2, .int x2), (3, .int x3), (4, .int x4), (5, .int x5)] (by decide) rfl dX6_copy_35 ?_
          refine ik_aload C 1 rfl dX6_copy_37 ?_
          obtain ⟨r3, hc3, hf⟩ := ik_b1s hf
          refine ik_goR (ik_runV C (c_X2_isMissing l D cI cS s30 s31 (sbits 3) (ssize 3) (snum 3) r3 hc3) mv_X2_isMissing wl_45_9 ⟨rfl, rfl, Nat.le_of_ble_eq_true rfl, Nat.le_of_ble_eq_true rfl⟩ [9, 10] rfl (by decide) 9 rfl rfl rfl rfl (Nat.le_of_ble_eq_true rfl) dX6_copy_39) rfl ?_
          refine ik_if_ne C 53 dX6_copy_42 (by decide) (fun hc => ?_) (fun hc => ?_)
          · have hf := ik_neg hc hf
            refine ik_aload_n C 2 rfl rfl dX6_copy_53 ?_
            refine ik_ldc C wl_43_13 dX6_copy_54 ?_
            obtain ⟨r4, g5, hc5, hf⟩ := ik_b2s hf
            refine ik_goW [0, 1] rfl rfl (wz_X6ofs cI cS o0 np0 kp0 tp0 r0 t0 sh0 f0 s00 s10 s20 s30 s01 s11 s21 s31 isk g5 sbits ssize snum) rfl (ik_runV C (c_X6_tell l D cI cS o0 np0 kp0 tp0 r0 t0 sh0 f0 isk fnd (-1000006 : Int32) r4 g5 hc5) mv_X6_tell wl_5_16 ⟨rfl, rfl, Nat.le_of_ble_eq_true rfl, Nat.le_of_ble_eq_true rfl⟩ [0, 1] rfl (by decide) 0 rfl rfl rfl rfl (Nat.le_of_ble_eq_true rfl) dX6_copy_56) rfl ?_
            cases hf
            exact ik_iretW C hr hlk dX6_copy_59
          · have hf := ik_pos hc hf
            refine ik_aload C 0 rfl dX6_copy_45 ?_
            obtain ⟨r4, hc4, hf⟩ := ik_b1s hf
            refine ik_goR (ik_runV C (c_X2_isMissing l D cI cS s20 s21 (sbits 2) (ssize 2) (snum 2) r4 hc4) mv_X2_isMissing wl_45_9 ⟨rfl, rfl, Nat.le_of_ble_eq_true rfl, Nat.le_of_ble_eq_true rfl⟩ [7, 8] rfl (by decide) 7 rfl rfl rfl rfl (Nat.le_of_ble_eq_true rfl) dX6_copy_47) rfl ?_
            refine ik_if_eq C 60 dX6_copy_50 (by decide) (fun hc => ?_) (fun hc => ?_)
            · have hf := ik_pos hc hf
              refine ik_aload C 1 rfl dX6_copy_60 ?_
              refine ik_get C inlX2 9 rfl rfl 0 (by decide) wl_46_1 rfl (v := .int (sbits 3)) rfl dX6_copy_62 ?_
              refine ik_aload C 0 rfl dX6_copy_65 ?_
              refine ik_get C inlX2 7 rfl rfl 0 (by decide) wl_46_1 rfl (v := .int (sbits 2)) rfl dX6_copy_67 ?_
              refine ik_icmp_eq C 80 dX6_copy_70 (by decide) (fun hc => ?_) (fun hc => ?_)
              · have hf := ik_pos hc hf
                refine ik_aload C 1 rfl dX6_copy_80 ?_
                refine ik_iload_n C 4 rfl rfl dX6_copy_82 ?_
                refine ik_iload C 7 rfl dX6_copy_83 ?_
                obtain ⟨r5, hc5, hf⟩ := ik_b1s hf
                refine ik_goR (ik_runV C (c_X2_hasRange l D cI cS s30 s31 (sbits 3) (ssize 3) (snum 3) x2 x5 r5 hc5) mv_X2_hasRange wl_46_4 ⟨rfl, rfl, Nat.le_of_ble_eq_true rfl, Nat.le_of_ble_eq_true rfl⟩ [9, 10] rfl (by decide) 9 rfl rfl rfl rfl (Nat.le_of_ble_eq_true rfl) dX6_copy_85) rfl ?_
                refine ik_if_eq C 103 dX6_copy_88 (by decide) (fun hc => ?_) (fun hc => ?_)
                · have hf := ik_pos hc hf
                  refine ik_aload_n C 2 rfl rfl dX6_copy_103 ?_
                  refine ik_ldc C wl_5_3 dX6_copy_104 ?_
                  obtain ⟨r6, g7, hc7, hf⟩ := ik_b2s hf
                  refine ik_goW [0, 1] rfl rfl (wz_X6ofs cI cS o0 np0 kp0 tp0 r0 t0 sh0 f0 s00 s10 s20 s30 s01 s11 s21 s31 isk g7 sbits ssize snum) rfl (ik_runV C (c_X6_tell l D cI cS o0 np0 kp0 tp0 r0 t0 sh0 f0 isk fnd (-1000001 : Int32) r6 g7 hc7) mv_X6_tell wl_5_16 ⟨rfl, rfl, Nat.le_of_ble_eq_true rfl, Nat.le_of_ble_eq_true rfl⟩ [0, 1] rfl (by decide) 0 rfl rfl rfl rfl (Nat.le_of_ble_eq_true rfl) dX6_copy_106) rfl ?_
                  cases hf
                  exact ik_iretW C hr hlk dX6_copy_109
                · have hf := ik_neg hc hf
                  refine ik_aload C 0 rfl dX6_copy_91 ?_
                  refine ik_iload C 6 rfl dX6_copy_93 ?_
                  refine ik_iload C 7 rfl dX6_copy_95 ?_
                  obtain ⟨r6, hc6, hf⟩ := ik_b1s hf
                  refine ik_goR (ik_runV C (c_X2_hasRange l D cI cS s20 s21 (sbits 2) (ssize 2) (snum 2) x4 x5 r6 hc6) mv_X2_hasRange wl_46_4 ⟨rfl, rfl, Nat.le_of_ble_eq_true rfl, Nat.le_of_ble_eq_true rfl⟩ [7, 8] rfl (by decide) 7 rfl rfl rfl rfl (Nat.le_of_ble_eq_true rfl) dX6_copy_97) rfl ?_
                  refine ik_if_ne C 110 dX6_copy_100 (by decide) (fun hc => ?_) (fun hc => ?_)
                  · have hf := ik_neg hc hf
                    refine ik_aload C 1 rfl dX6_copy_110 ?_
                    refine ik_get C inlX2 9 rfl rfl 2 (by decide) wl_46_2 rfl (v := .ref s31) rfl dX6_copy_112 ?_
                    refine ik_iload_n C 4 rfl rfl dX6_copy_115 ?_
                    refine ik_aload C 0 rfl dX6_copy_116 ?_
                    refine ik_get C inlX2 7 rfl rfl 2 (by decide) wl_46_2 rfl (v := .ref s21) rfl dX6_copy_118 ?_
                    refine ik_iload C 6 rfl dX6_copy_121 ?_
                    refine ik_iload C 7 rfl dX6_copy_123 ?_
                    have hg := ik_gci hf
                    have hf := ik_gck hf
                    refine ik_copy C wl_46_3 wl_23_19 wl_23_20 wl_23_21 10 8 rfl rfl hg (Nat.le_of_ble_eq_true rfl) (Nat.le_of_ble_eq_true rfl) (wz_X6ofs cI cS o0 np0 kp0 tp0 r0 t0 sh0 f0 s00 s10 s20 s30 s01 s11 s21 s31 isk fnd sbits ssize (va_up snum 2 (va_cpy (snum 3) (snum 2) (x2).toNatClampNeg (x4).toNatClampNeg (x5).toNatClampNeg))) rfl dX6_copy_125 ?_
                    refine ik_iload C 7 rfl dX6_copy_128 ?_
                    cases hf
                    exact ik_iretW C hr hlk dX6_copy_130
                  · have hf := ik_pos hc hf
                    refine ik_aload_n C 2 rfl rfl dX6_copy_103 ?_
                    refine ik_ldc C wl_5_3 dX6_copy_104 ?_
                    obtain ⟨r7, g8, hc8, hf⟩ := ik_b2s hf
                    refine ik_goW [0, 1] rfl rfl (wz_X6ofs cI cS o0 np0 kp0 tp0 r0 t0 sh0 f0 s00 s10 s20 s30 s01 s11 s21 s31 isk g8 sbits ssize snum) rfl (ik_runV C (c_X6_tell l D cI cS o0 np0 kp0 tp0 r0 t0 sh0 f0 isk fnd (-1000001 : Int32) r7 g8 hc8) mv_X6_tell wl_5_16 ⟨rfl, rfl, Nat.le_of_ble_eq_true rfl, Nat.le_of_ble_eq_true rfl⟩ [0, 1] rfl (by decide) 0 rfl rfl rfl rfl (Nat.le_of_ble_eq_true rfl) dX6_copy_106) rfl ?_
                    cases hf
                    exact ik_iretW C hr hlk dX6_copy_109
              · have hf := ik_neg hc hf
                refine ik_aload_n C 2 rfl rfl dX6_copy_73 ?_
                refine ik_ldc C wl_43_14 dX6_copy_74 ?_
                obtain ⟨r5, g6, hc6, hf⟩ := ik_b2s hf
                refine ik_goW [0, 1] rfl rfl (wz_X6ofs cI cS o0 np0 kp0 tp0 r0 t0 sh0 f0 s00 s10 s20 s30 s01 s11 s21 s31 isk g6 sbits ssize snum) rfl (ik_runV C (c_X6_tell l D cI cS o0 np0 kp0 tp0 r0 t0 sh0 f0 isk fnd (-1000003 : Int32) r5 g6 hc6) mv_X6_tell wl_5_16 ⟨rfl, rfl, Nat.le_of_ble_eq_true rfl, Nat.le_of_ble_eq_true rfl⟩ [0, 1] rfl (by decide) 0 rfl rfl rfl rfl (Nat.le_of_ble_eq_true rfl) dX6_copy_76) rfl ?_
                cases hf
                exact ik_iretW C hr hlk dX6_copy_79
            · have hf := ik_neg hc hf
              refine ik_aload_n C 2 rfl rfl dX6_copy_53 ?_
              refine ik_ldc C wl_43_13 dX6_copy_54 ?_
              obtain ⟨r5, g6, hc6, hf⟩ := ik_b2s hf
              refine ik_goW [0, 1] rfl rfl (wz_X6ofs cI cS o0 np0 kp0 tp0 r0 t0 sh0 f0 s00 s10 s20 s30 s01 s11 s21 s31 isk g6 sbits ssize snum) rfl (ik_runV C (c_X6_tell l D cI cS o0 np0 kp0 tp0 r0 t0 sh0 f0 isk fnd (-1000006 : Int32) r5 g6 hc6) mv_X6_tell wl_5_16 ⟨rfl, rfl, Nat.le_of_ble_eq_true rfl, Nat.le_of_ble_eq_true rfl⟩ [0, 1] rfl (by decide) 0 rfl rfl rfl rfl (Nat.le_of_ble_eq_true rfl) dX6_copy_56) rfl ?_
              cases hf
              exact ik_iretW C hr hlk dX6_copy_59
        · have hf := ik_neg hb0 hf; have hf := ik_neg hb1 hf; have hf := ik_neg hb2 hf
          refine ik_astore C [(7, .ref s30), (6, .ref s30), (0, .ref o0), (1, .int x1), (2, .int x2), (3, .int x3), (4, .int x4), (5, .int x5)] (by decide) rfl dX6_copy_35 ?_
          refine ik_aload C 1 rfl dX6_copy_37 ?_
          obtain ⟨r3, hc3, hf⟩ := ik_b1s hf
          refine ik_goR (ik_runV C (c_X2_isMissing l D cI cS s30 s31 (sbits 3) (ssize 3) (snum 3) r3 hc3) mv_X2_isMissing wl_45_9 ⟨rfl, rfl, Nat.le_of_ble_eq_true rfl, Nat.le_of_ble_eq_true rfl⟩ [9, 10] rfl (by decide) 9 rfl rfl rfl rfl (Nat.le_of_ble_eq_true rfl) dX6_copy_39) rfl ?_
          refine ik_if_ne C 53 dX6_copy_42 (by decide) (fun hc => ?_) (fun hc => ?_)
          · have hf := ik_neg hc hf
            refine ik_aload_n C 2 rfl rfl dX6_copy_53 ?_
            refine ik_ldc C wl_43_13 dX6_copy_54 ?_
            obtain ⟨r4, g5, hc5, hf⟩ := ik_b2s hf
            refine ik_goW [0, 1] rfl rfl (wz_X6ofs cI cS o0 np0 kp0 tp0 r0 t0 sh0 f0 s00 s10 s20 s30 s01 s11 s21 s31 isk g5 sbits ssize snum) rfl (ik_runV C (c_X6_tell l D cI cS o0 np0 kp0 tp0 r0 t0 sh0 f0 isk fnd (-1000006 : Int32) r4 g5 hc5) mv_X6_tell wl_5_16 ⟨rfl, rfl, Nat.le_of_ble_eq_true rfl, Nat.le_of_ble_eq_true rfl⟩ [0, 1] rfl (by decide) 0 rfl rfl rfl rfl (Nat.le_of_ble_eq_true rfl) dX6_copy_56) rfl ?_
            cases hf
            exact ik_iretW C hr hlk dX6_copy_59
          · have hf := ik_pos hc hf
            refine ik_aload C 0 rfl dX6_copy_45 ?_
            obtain ⟨r4, hc4, hf⟩ := ik_b1s hf
            refine ik_goR (ik_runV C (c_X2_isMissing l D cI cS s30 s31 (sbits 3) (ssize 3) (snum 3) r4 hc4) mv_X2_isMissing wl_45_9 ⟨rfl, rfl, Nat.le_of_ble_eq_true rfl, Nat.le_of_ble_eq_true rfl⟩ [9, 10] rfl (by decide) 9 rfl rfl rfl rfl (Nat.le_of_ble_eq_true rfl) dX6_copy_47) rfl ?_
            refine ik_if_eq C 60 dX6_copy_50 (by decide) (fun hc => ?_) (fun hc => ?_)
            · have hf := ik_pos hc hf
              refine ik_aload C 1 rfl dX6_copy_60 ?_
              refine ik_get C inlX2 9 rfl rfl 0 (by decide) wl_46_1 rfl (v := .int (sbits 3)) rfl dX6_copy_62 ?_
              refine ik_aload C 0 rfl dX6_copy_65 ?_
              refine ik_get C inlX2 9 rfl rfl 0 (by decide) wl_46_1 rfl (v := .int (sbits 3)) rfl dX6_copy_67 ?_
              refine ik_icmp_eq C 80 dX6_copy_70 (by decide) (fun hc => ?_) (fun hc => ?_)
              · have hf := ik_pos hc hf
                refine ik_aload C 1 rfl dX6_copy_80 ?_
                refine ik_iload_n C 4 rfl rfl dX6_copy_82 ?_
                refine ik_iload C 7 rfl dX6_copy_83 ?_
                obtain ⟨r5, hc5, hf⟩ := ik_b1s hf
                refine ik_goR (ik_runV C (c_X2_hasRange l D cI cS s30 s31 (sbits 3) (ssize 3) (snum 3) x2 x5 r5 hc5) mv_X2_hasRange wl_46_4 ⟨rfl, rfl, Nat.le_of_ble_eq_true rfl, Nat.le_of_ble_eq_true rfl⟩ [9, 10] rfl (by decide) 9 rfl rfl rfl rfl (Nat.le_of_ble_eq_true rfl) dX6_copy_85) rfl ?_
                refine ik_if_eq C 103 dX6_copy_88 (by decide) (fun hc => ?_) (fun hc => ?_)
                · have hf := ik_pos hc hf
                  refine ik_aload_n C 2 rfl rfl dX6_copy_103 ?_
                  refine ik_ldc C wl_5_3 dX6_copy_104 ?_
                  obtain ⟨r6, g7, hc7, hf⟩ := ik_b2s hf
                  refine ik_goW [0, 1] rfl rfl (wz_X6ofs cI cS o0 np0 kp0 tp0 r0 t0 sh0 f0 s00 s10 s20 s30 s01 s11 s21 s31 isk g7 sbits ssize snum) rfl (ik_runV C (c_X6_tell l D cI cS o0 np0 kp0 tp0 r0 t0 sh0 f0 isk fnd (-1000001 : Int32) r6 g7 hc7) mv_X6_tell wl_5_16 ⟨rfl, rfl, Nat.le_of_ble_eq_true rfl, Nat.le_of_ble_eq_true rfl⟩ [0, 1] rfl (by decide) 0 rfl rfl rfl rfl (Nat.le_of_ble_eq_true rfl) dX6_copy_106) rfl ?_
                  cases hf
                  exact ik_iretW C hr hlk dX6_copy_109
                · have hf := ik_neg hc hf
                  refine ik_aload C 0 rfl dX6_copy_91 ?_
                  refine ik_iload C 6 rfl dX6_copy_93 ?_
                  refine ik_iload C 7 rfl dX6_copy_95 ?_
                  obtain ⟨r6, hc6, hf⟩ := ik_b1s hf
                  refine ik_goR (ik_runV C (c_X2_hasRange l D cI cS s30 s31 (sbits 3) (ssize 3) (snum 3) x4 x5 r6 hc6) mv_X2_hasRange wl_46_4 ⟨rfl, rfl, Nat.le_of_ble_eq_true rfl, Nat.le_of_ble_eq_true rfl⟩ [9, 10] rfl (by decide) 9 rfl rfl rfl rfl (Nat.le_of_ble_eq_true rfl) dX6_copy_97) rfl ?_
                  refine ik_if_ne C 110 dX6_copy_100 (by decide) (fun hc => ?_) (fun hc => ?_)
                  · have hf := ik_neg hc hf
                    refine ik_aload C 1 rfl dX6_copy_110 ?_
                    refine ik_get C inlX2 9 rfl rfl 2 (by decide) wl_46_2 rfl (v := .ref s31) rfl dX6_copy_112 ?_
                    refine ik_iload_n C 4 rfl rfl dX6_copy_115 ?_
                    refine ik_aload C 0 rfl dX6_copy_116 ?_
                    refine ik_get C inlX2 9 rfl rfl 2 (by decide) wl_46_2 rfl (v := .ref s31) rfl dX6_copy_118 ?_
                    refine ik_iload C 6 rfl dX6_copy_121 ?_
                    refine ik_iload C 7 rfl dX6_copy_123 ?_
                    have hg := ik_gci hf
                    have hf := ik_gck hf
                    refine ik_copy C wl_46_3 wl_23_19 wl_23_20 wl_23_21 10 10 rfl rfl hg (Nat.le_of_ble_eq_true rfl) (Nat.le_of_ble_eq_true rfl) (wz_X6ofs cI cS o0 np0 kp0 tp0 r0 t0 sh0 f0 s00 s10 s20 s30 s01 s11 s21 s31 isk fnd sbits ssize (va_up snum 3 (va_cpy (snum 3) (snum 3) (x2).toNatClampNeg (x4).toNatClampNeg (x5).toNatClampNeg))) rfl dX6_copy_125 ?_
                    refine ik_iload C 7 rfl dX6_copy_128 ?_
                    cases hf
                    exact ik_iretW C hr hlk dX6_copy_130
                  · have hf := ik_pos hc hf
                    refine ik_aload_n C 2 rfl rfl dX6_copy_103 ?_
                    refine ik_ldc C wl_5_3 dX6_copy_104 ?_
                    obtain ⟨r7, g8, hc8, hf⟩ := ik_b2s hf
                    refine ik_goW [0, 1] rfl rfl (wz_X6ofs cI cS o0 np0 kp0 tp0 r0 t0 sh0 f0 s00 s10 s20 s30 s01 s11 s21 s31 isk g8 sbits ssize snum) rfl (ik_runV C (c_X6_tell l D cI cS o0 np0 kp0 tp0 r0 t0 sh0 f0 isk fnd (-1000001 : Int32) r7 g8 hc8) mv_X6_tell wl_5_16 ⟨rfl, rfl, Nat.le_of_ble_eq_true rfl, Nat.le_of_ble_eq_true rfl⟩ [0, 1] rfl (by decide) 0 rfl rfl rfl rfl (Nat.le_of_ble_eq_true rfl) dX6_copy_106) rfl ?_
                    cases hf
                    exact ik_iretW C hr hlk dX6_copy_109
              · have hf := ik_neg hc hf
                refine ik_aload_n C 2 rfl rfl dX6_copy_73 ?_
                refine ik_ldc C wl_43_14 dX6_copy_74 ?_
                obtain ⟨r5, g6, hc6, hf⟩ := ik_b2s hf
                refine ik_goW [0, 1] rfl rfl (wz_X6ofs cI cS o0 np0 kp0 tp0 r0 t0 sh0 f0 s00 s10 s20 s30 s01 s11 s21 s31 isk g6 sbits ssize snum) rfl (ik_runV C (c_X6_tell l D cI cS o0 np0 kp0 tp0 r0 t0 sh0 f0 isk fnd (-1000003 : Int32) r5 g6 hc6) mv_X6_tell wl_5_16 ⟨rfl, rfl, Nat.le_of_ble_eq_true rfl, Nat.le_of_ble_eq_true rfl⟩ [0, 1] rfl (by decide) 0 rfl rfl rfl rfl (Nat.le_of_ble_eq_true rfl) dX6_copy_76) rfl ?_
                cases hf
                exact ik_iretW C hr hlk dX6_copy_79
            · have hf := ik_neg hc hf
              refine ik_aload_n C 2 rfl rfl dX6_copy_53 ?_
              refine ik_ldc C wl_43_13 dX6_copy_54 ?_
              obtain ⟨r5, g6, hc6, hf⟩ := ik_b2s hf
              refine ik_goW [0, 1] rfl rfl (wz_X6ofs cI cS o0 np0 kp0 tp0 r0 t0 sh0 f0 s00 s10 s20 s30 s01 s11 s21 s31 isk g6 sbits ssize snum) rfl (ik_runV C (c_X6_tell l D cI cS o0 np0 kp0 tp0 r0 t0 sh0 f0 isk fnd (-1000006 : Int32) r5 g6 hc6) mv_X6_tell wl_5_16 ⟨rfl, rfl, Nat.le_of_ble_eq_true rfl, Nat.le_of_ble_eq_true rfl⟩ [0, 1] rfl (by decide) 0 rfl rfl rfl rfl (Nat.le_of_ble_eq_true rfl) dX6_copy_56) rfl ?_
              cases hf
              exact ik_iretW C hr hlk dX6_copy_59
    · have hf := ik_pos hc hf
      refine ik_aload_n C 0 rfl rfl dX6_copy_14 ?_
      refine ik_ldc C wl_5_3 dX6_copy_15 ?_
      obtain ⟨r3, g4, hc4, hf⟩ := ik_b2s hf
      refine ik_goW [0, 1] rfl rfl (wz_X6ofs cI cS o0 np0 kp0 tp0 r0 t0 sh0 f0 s00 s10 s20 s30 s01 s11 s21 s31 isk g4 sbits ssize snum) rfl (ik_runV C (c_X6_tell l D cI cS o0 np0 kp0 tp0 r0 t0 sh0 f0 isk fnd (-1000001 : Int32) r3 g4 hc4) mv_X6_tell wl_5_16 ⟨rfl, rfl, Nat.le_of_ble_eq_true rfl, Nat.le_of_ble_eq_true rfl⟩ [0, 1] rfl (by decide) 0 rfl rfl rfl rfl (Nat.le_of_ble_eq_true rfl) dX6_copy_17) rfl ?_
      cases hf
      exact ik_iretW C hr hlk dX6_copy_20
theorem mv_X6_load : ik_V yX6_load RX6 cX6_load 5 (some .int) 1 := ⟨wl_46_13, wl_46_14, wl_1_2, wl_46_15, by decide +kernel⟩
set_option maxHeartbeats 4000000 in
set_option maxRecDepth 100000 in
theorem c_X6_load (l : Launch) (D : va_G) (cI cS : ClassId) (o0 np0 kp0 tp0 r0 t0 sh0 f0 nw0 nc0 np1 np2 np3 nw1 nw2 nw3 nw4 nc1 nc2 s00 s10 s20 s30 s01 s11 s21 s31 : Nat) (isk : Int32) (fnd : Nat → Int32) (nhour : Int32) (nair : Int32) (nrub : Int32) (nz : Int32) (nnb : Int32) (nkd : Nat → Int32) (ncl : Nat → Int32) (ngr : Nat → Int32) (noc : Nat → Int32) (nlit : Int32) (ncold : Int32) (nccell : Nat → Int32) (ncpow : Nat → Int32) (nsp : Nat → Int32) (nwm : Nat → Int32) (ndr : Nat → Int32) (sbits : Nat → Int32) (ssize : Nat → Int32) (snum : Nat → Nat → Int32) (x1 : Int32) (R : Int32) (fnd_r : Nat → Int32) (ngr_r : Nat → Int32) (hf : f_X6_load fnd nnb ncl ngr sbits ssize snum x1 = some (R, fnd_r, ngr_r)) : Met l yX6_load (ik_ws yX6_load cX6_load 5 (some .int)) ({ frames := 2, cells := 0, slots := 0, locals := 44 } : Room) (ik_P D cI cS [.ref o0, .int x1] (wz_X6ofns cI cS o0 np0 kp0 tp0 r0 t0 sh0 f0 nw0 nc0 np1 np2 np3 nw1 nw2 nw3 nw4 nc1 nc2 s00 s10 s20 s30 s01 s11 s21 s31 isk fnd nhour nair nrub nz nnb nkd ncl ngr noc nlit ncold nccell ncpow nsp nwm ndr sbits ssize snum)) (ik_Q (some (.int R)) D (wz_X6ofns cI cS o0 np0 kp0 tp0 r0 t0 sh0 f0 nw0 nc0 np1 np2 np3 nw1 nw2 nw3 nw4 nc1 nc2 s00 s10 s20 s30 s01 s11 s21 s31 isk fnd_r nhour nair nrub nz nnb nkd ncl ngr_r noc nlit ncold nccell ncpow nsp nwm ndr sbits ssize snum) (wz_X6ofns cI cS o0 np0 kp0 tp0 r0 t0 sh0 f0 nw0 nc0 np1 np2 np3 nw1 nw2 nw3 nw4 nc1 nc2 s00 s10 s20 s30 s01 s11 s21 s31 isk fnd nhour nair nrub nz nnb nkd ncl ngr noc nlit ncold nccell ncpow nsp nwm ndr sbits ssize snum)) 0 0 (ik_in (wz_X6ofns cI cS o0 np0 kp0 tp0 r0 t0 sh0 f0 nw0 nc0 np1 np2 np3 nw1 nw2 nw3 nw4 nc1 nc2 s00 s10 s20 s30 s01 s11 s21 s31 isk fnd nhour nair nrub nz nnb nkd ncl ngr noc nlit ncold nccell ncpow nsp nwm ndr sbits ssize snum)) := by
  refine ik_metW RX6 rfl (by decide) (Nat.le_of_ble_eq_true rfl) [(0, .ref o0), (1, .int x1)] rfl ?_
  intro p e s m below meth c C hr hlk
  unfold f_X6_load at hf
  refine ik_iload_n C 1 rfl rfl dX6_load_0 ?_
  obtain ⟨r1, hc1, hf⟩ := ik_b1s hf
  refine ik_goR (ik_runS C (c_X6_isSheet l D cI cS x1 r1 hc1) ms_X6_isSheet wl_44_9 ⟨rfl, rfl, Nat.le_of_ble_eq_true rfl, Nat.le_of_ble_eq_true rfl⟩ [] rfl (by decide) rfl rfl (Nat.le_of_ble_eq_true rfl) dX6_load_1) rfl ?_
  refine ik_if_ne C 14 dX6_load_4 (by decide) (fun hc => ?_) (fun hc => ?_)
  · have hf := ik_neg hc hf
    refine ik_aload_n C 0 rfl rfl dX6_load_14 ?_
    refine ik_get C inlX6 0 rfl rfl 6 (by decide) wl_2_1 rfl (v := .ref sh0) rfl dX6_load_15 ?_
    refine ik_iload_n C 1 rfl rfl dX6_load_18 ?_
    have hg := ik_gdi hf
    have hf := ik_gdk hf
    refine ik_aald4 C 14 rfl hg (a0 := s00) (a1 := s10) (a2 := s20) (a3 := s30) rfl rfl rfl rfl dX6_load_19 (fun hc => ?_) (fun hb0 hc => ?_) (fun hb0 hb1 hc => ?_) (fun hb0 hb1 hb2 hc => ?_)
    · have hf := ik_pos hc hf
      refine ik_astore_n C [(2, .ref s00), (0, .ref o0), (1, .int x1)] rfl (by decide) rfl dX6_load_20 ?_
      refine ik_aload_n C 0 rfl rfl dX6_load_21 ?_
      obtain ⟨r2, hc2, hf⟩ := ik_b1s hf
      refine ik_goR (ik_runV C (c_X2_isMissing l D cI cS s00 s01 (sbits 0) (ssize 0) (snum 0) r2 hc2) mv_X2_isMissing wl_45_9 ⟨rfl, rfl, Nat.le_of_ble_eq_true rfl, Nat.le_of_ble_eq_true rfl⟩ [15, 16] rfl (by decide) 15 rfl rfl rfl rfl (Nat.le_of_ble_eq_true rfl) dX6_load_22) rfl ?_
      refine ik_if_eq C 35 dX6_load_25 (by decide) (fun hc => ?_) (fun hc => ?_)
      · have hf := ik_pos hc hf
        refine ik_aload_n C 0 rfl rfl dX6_load_35 ?_
        refine ik_get C inlX2 15 rfl rfl 1 (by decide) wl_45_8 rfl (v := .int (ssize 0)) rfl dX6_load_36 ?_
        refine ik_aload_n C 1 rfl rfl dX6_load_39 ?_
        refine ik_get C inlX6 0 rfl rfl 0 (by decide) wl_1_15 rfl (v := .ref np0) rfl dX6_load_40 ?_
        refine ik_get C inlX1 2 rfl rfl 0 (by decide) wl_5_4 rfl (v := .ref nw0) rfl dX6_load_43 ?_
        refine ik_get C inlX5 3 rfl rfl 0 (by decide) wl_28_15 rfl (v := .int nnb) rfl dX6_load_46 ?_
        refine ik_mmin C wl_46_16 wl_14_6 wl_13_23 wl_14_7 (Nat.le_of_ble_eq_true rfl) (Nat.le_of_ble_eq_true rfl) dX6_load_49 ?_
        refine ik_istore_n C [(3, .int (ik_min (ssize 0) nnb)), (2, .ref s00), (0, .ref o0), (1, .int x1)] rfl (by decide) rfl dX6_load_52 ?_
        refine ik_iconst (v := (0 : Int32)) C (by decide) dX6_load_53 ?_
        refine ik_istore C [(4, .int (0 : Int32)), (3, .int (ik_min (ssize 0) nnb)), (2, .ref s00), (0, .ref o0), (1, .int x1)] (by decide) rfl dX6_load_54 ?_
        have hL_56 : ∀ (n_56 : Nat) (ngr_56 : Nat → Int32) (x4_56 : Int32), ik_lp2 (b_X6_load_56 fnd nnb ncl ssize snum) n_56 ngr_56 x4_56 = some (R, fnd_r, ngr_r) → ik_G p l e ({ frames := 2, cells := 0, slots := 0, locals := 44 } : Room) s m ([.ref o0, .int x1] : List Value).toArray below meth c D (ik_in (wz_X6ofns cI cS o0 np0 kp0 tp0 r0 t0 sh0 f0 nw0 nc0 np1 np2 np3 nw1 nw2 nw3 nw4 nc1 nc2 s00 s10 s20 s30 s01 s11 s21 s31 isk fnd nhour nair nrub nz nnb nkd ncl ngr noc nlit ncold nccell ncpow nsp nwm ndr sbits ssize snum)) (ik_in (wz_X6ofns cI cS o0 np0 kp0 tp0 r0 t0 sh0 f0 nw0 nc0 np1 np2 np3 nw1 nw2 nw3 nw4 nc1 nc2 s00 s10 s20 s30 s01 s11 s21 s31 isk fnd nhour nair nrub nz nnb nkd ncl ngr noc nlit ncold nccell ncpow nsp nwm ndr sbits ssize snum)) 5 (MQ below (ik_Q (some (.int R)) D (wz_X6ofns cI cS o0 np0 kp0 tp0 r0 t0 sh0 f0 nw0 nc0 np1 np2 np3 nw1 nw2 nw3 nw4 nc1 nc2 s00 s10 s20 s30 s01 s11 s21 s31 isk fnd_r nhour nair nrub nz nnb nkd ncl ngr_r noc nlit ncold nccell ncpow nsp nwm ndr sbits ssize snum) (wz_X6ofns cI cS o0 np0 kp0 tp0 r0 t0 sh0 f0 nw0 nc0 np1 np2 np3 nw1 nw2 nw3 nw4 nc1 nc2 s00 s10 s20 s30 s01 s11 s21 s31 isk fnd nhour nair nrub nz nnb nkd ncl ngr noc nlit ncold nccell ncpow nsp nwm ndr sbits ssize snum)) ([.ref o0, .int x1] : List Value).toArray s 0 0 (ik_in (wz_X6ofns cI cS o0 np0 kp0 tp0 r0 t0 sh0 f0 nw0 nc0 np1 np2 np3 nw1 nw2 nw3 nw4 nc1 nc2 s00 s10 s20 s30 s01 s11 s21 s31 isk fnd nhour nair nrub nz nnb nkd ncl ngr noc nlit ncold nccell ncpow nsp nwm ndr sbits ssize snum))) 56 [(4, .int x4_56), (3, .int (ik_min (ssize 0) nnb)), (2, .ref s00), (0, .ref o0), (1, .int x1)] [] (wz_X6ofns cI cS o0 np0 kp0 tp0 r0 t0 sh0 f0 nw0 nc0 np1 np2 np3 nw1 nw2 nw3 nw4 nc1 nc2 s00 s10 s20 s30 s01 s11 s21 s31 isk fnd nhour nair nrub nz nnb nkd ncl ngr_56 noc nlit ncold nccell ncpow nsp nwm ndr sbits ssize snum) := by
          intro n_56
          induction n_56 with
          | zero => intro _ _ hf; exact nomatch hf
          | succ n_56 ih_56 =>
            intro ngr_56 x4_56 hf
            replace hf : b_X6_load_56 fnd nnb ncl ssize snum (ik_lp2 (b_X6_load_56 fnd nnb ncl ssize snum) n_56) ngr_56 x4_56 = some (R, fnd_r, ngr_r) := hf
            unfold b_X6_load_56 at hf
            refine ik_iload C 0 rfl dX6_load_56 ?_
            refine ik_iload_n C 1 rfl rfl dX6_load_58 ?_
            refine ik_icmp_ge C 119 dX6_load_59 (by decide) (fun hc => ?_) (fun hc => ?_)
            · have hf := ik_pos hc hf
              refine ik_iload C 0 rfl dX6_load_119 ?_
              cases hf
              exact ik_iretW C hr hlk dX6_load_121
            · have hf := ik_neg hc hf
              refine ik_aload_n C 2 rfl rfl dX6_load_62 ?_
              refine ik_get C inlX2 15 rfl rfl 2 (by decide) wl_46_2 rfl (v := .ref s01) rfl dX6_load_63 ?_
              refine ik_iload C 0 rfl dX6_load_66 ?_
              have hg := ik_gdi hf
              have hf := ik_gdk hf
              refine ik_iald C 16 rfl hg dX6_load_68 ?_
              refine ik_iconst (v := (1 : Int32)) C (by decide) dX6_load_69 ?_
              refine ik_bipush (v := (99 : Int32)) C (by decide) dX6_load_70 ?_
              obtain ⟨r3, hc3, hf⟩ := ik_b1s hf
              refine ik_goR (ik_runS C (c_X6_isWithin l D cI cS ((snum 0) (x4_56).toNatClampNeg) (1 : Int32) (99 : Int32) r3 hc3) ms_X6_isWithin wl_5_10 ⟨rfl, rfl, Nat.le_of_ble_eq_true rfl, Nat.le_of_ble_eq_true rfl⟩ [] rfl (by decide) rfl rfl (Nat.le_of_ble_eq_true rfl) dX6_load_72) rfl ?_
              refine ik_if_eq C 119 dX6_load_75 (by decide) (fun hc => ?_) (fun hc => ?_)
              · have hf := ik_pos hc hf
                refine ik_iload C 0 rfl dX6_load_119 ?_
                cases hf
                exact ik_iretW C hr hlk dX6_load_121
              · have hf := ik_neg hc hf
                refine ik_aload_n C 3 rfl rfl dX6_load_78 ?_
                refine ik_get C inlX6 0 rfl rfl 0 (by decide) wl_1_15 rfl (v := .ref np0) rfl dX6_load_79 ?_
                refine ik_get C inlX1 2 rfl rfl 0 (by decide) wl_5_4 rfl (v := .ref nw0) rfl dX6_load_82 ?_
                refine ik_iload C 0 rfl dX6_load_85 ?_
                obtain ⟨r4, hc4, hf⟩ := ik_b1s hf
                refine ik_goR (ik_runV C (c_X5_isGone l D cI cS nw0 nw1 nw2 nw3 nw4 nnb nkd ncl ngr_56 noc x4_56 r4 hc4) mv_X5_isGone wl_8_11 ⟨rfl, rfl, Nat.le_of_ble_eq_true rfl, Nat.le_of_ble_eq_true rfl⟩ [3, 4, 5, 6, 7] rfl (by decide) 3 rfl rfl rfl rfl (Nat.le_of_ble_eq_true rfl) dX6_load_87) rfl ?_
                refine ik_if_ne C 113 dX6_load_90 (by decide) (fun hc => ?_) (fun hc => ?_)
                · have hf := ik_neg hc hf
                  refine ik_iinc C [(4, .int (x4_56 + (1 : Int32))), (3, .int (ik_min (ssize 0) nnb)), (2, .ref s00), (0, .ref o0), (1, .int x1)] 0 rfl rfl (by decide) rfl dX6_load_113 ?_
                  refine ik_goto C 56 dX6_load_116 (by decide) ?_
                  exact ik_sub [0, 1, 2, 3, 4] [(4, .int (x4_56 + (1 : Int32))), (3, .int (ik_min (ssize 0) nnb)), (2, .ref s00), (0, .ref o0), (1, .int x1)] rfl (ih_56 ngr_56 (x4_56 + (1 : Int32)) hf)
                · have hf := ik_pos hc hf
                  refine ik_aload_n C 3 rfl rfl dX6_load_93 ?_
                  refine ik_get C inlX6 0 rfl rfl 0 (by decide) wl_1_15 rfl (v := .ref np0) rfl dX6_load_94 ?_
                  refine ik_get C inlX1 2 rfl rfl 0 (by decide) wl_5_4 rfl (v := .ref nw0) rfl dX6_load_97 ?_
                  refine ik_get C inlX5 3 rfl rfl 3 (by decide) wl_8_6 rfl (v := .ref nw3) rfl dX6_load_100 ?_
                  refine ik_iload C 0 rfl dX6_load_103 ?_
                  refine ik_aload_n C 2 rfl rfl dX6_load_105 ?_
                  refine ik_get C inlX2 15 rfl rfl 2 (by decide) wl_46_2 rfl (v := .ref s01) rfl dX6_load_106 ?_
                  refine ik_iload C 0 rfl dX6_load_109 ?_
                  have hg := ik_gdi hf
                  have hf := ik_gdk hf
                  refine ik_iald C 16 rfl hg dX6_load_111 ?_
                  have hg := ik_gdi hf
                  have hf := ik_gdk hf
                  refine ik_iast C 6 rfl hg (wz_X6ofns cI cS o0 np0 kp0 tp0 r0 t0 sh0 f0 nw0 nc0 np1 np2 np3 nw1 nw2 nw3 nw4 nc1 nc2 s00 s10 s20 s30 s01 s11 s21 s31 isk fnd nhour nair nrub nz nnb nkd ncl (upd ngr_56 (x4_56).toNatClampNeg ((snum 0) (x4_56).toNatClampNeg)) noc nlit ncold nccell ncpow nsp nwm ndr sbits ssize snum) rfl dX6_load_112 ?_
                  refine ik_iinc C [(4, .int (x4_56 + (1 : Int32))), (3, .int (ik_min (ssize 0) nnb)), (2, .ref s00), (0, .ref o0), (1, .int x1)] 0 rfl rfl (by decide) rfl dX6_load_113 ?_
                  refine ik_goto C 56 dX6_load_116 (by decide) ?_
                  exact ik_sub [0, 1, 2, 3, 4] [(4, .int (x4_56 + (1 : Int32))), (3, .int (ik_min (ssize 0) nnb)), (2, .ref s00), (0, .ref o0), (1, .int x1)] rfl (ih_56 (upd ngr_56 (x4_56).toNatClampNeg ((snum 0) (x4_56).toNatClampNeg)) (x4_56 + (1 : Int32)) hf)
        exact hL_56 ik_fu ngr (0 : Int32) hf
      · have hf := ik_neg hc hf
        refine ik_aload_n C 1 rfl rfl dX6_load_28 ?_
        refine ik_ldc C wl_43_13 dX6_load_29 ?_
        obtain ⟨r3, g4, hc4, hf⟩ := ik_b2s hf
        refine ik_goW [0, 1] rfl rfl (wz_X6ofns cI cS o0 np0 kp0 tp0 r0 t0 sh0 f0 nw0 nc0 np1 np2 np3 nw1 nw2 nw3 nw4 nc1 nc2 s00 s10 s20 s30 s01 s11 s21 s31 isk g4 nhour nair nrub nz nnb nkd ncl ngr noc nlit ncold nccell ncpow nsp nwm ndr sbits ssize snum) rfl (ik_runV C (c_X6_tell l D cI cS o0 np0 kp0 tp0 r0 t0 sh0 f0 isk fnd (-1000006 : Int32) r3 g4 hc4) mv_X6_tell wl_5_16 ⟨rfl, rfl, Nat.le_of_ble_eq_true rfl, Nat.le_of_ble_eq_true rfl⟩ [0, 1] rfl (by decide) 0 rfl rfl rfl rfl (Nat.le_of_ble_eq_true rfl) dX6_load_31) rfl ?_
        cases hf
        exact ik_iretW C hr hlk dX6_load_34
    · have hf := ik_neg hb0 hf; have hf := ik_pos hc hf
      refine ik_astore_n C [(2, .ref s10), (0, .ref o0), (1, .int x1)] rfl (by decide) rfl dX6_load_20 ?_
      refine ik_aload_n C 0 rfl rfl dX6_load_21 ?_
      obtain ⟨r2, hc2, hf⟩ := ik_b1s hf
      refine ik_goR (ik_runV C (c_X2_isMissing l D cI cS s10 s11 (sbits 1) (ssize 1) (snum 1) r2 hc2) mv_X2_isMissing wl_45_9 ⟨rfl, rfl, Nat.le_of_ble_eq_true rfl, Nat.le_of_ble_eq_true rfl⟩ [17, 18] rfl (by decide) 17 rfl rfl rfl rfl (Nat.le_of_ble_eq_true rfl) dX6_load_22) rfl ?_
      refine ik_if_eq C 35 dX6_load_25 (by decide) (fun hc => ?_) (fun hc => ?_)
      · have hf := ik_pos hc hf
        refine ik_aload_n C 0 rfl rfl dX6_load_35 ?_
        refine ik_get C inlX2 17 rfl rfl 1 (by decide) wl_45_8 rfl (v := .int (ssize 1)) rfl dX6_load_36 ?_
        refine ik_aload_n C 1 rfl rfl dX6_load_39 ?_
        refine ik_get C inlX6 0 rfl rfl 0 (by decide) wl_1_15 rfl (v := .ref np0) rfl dX6_load_40 ?_
        refine ik_get C inlX1 2 rfl rfl 0 (by decide) wl_5_4 rfl (v := .ref nw0) rfl dX6_load_43 ?_
        refine ik_get C inlX5 3 rfl rfl 0 (by decide) wl_28_15 rfl (v := .int nnb) rfl dX6_load_46 ?_
        refine ik_mmin C wl_46_16 wl_14_6 wl_13_23 wl_14_7 (Nat.le_of_ble_eq_true rfl) (Nat.le_of_ble_eq_true rfl) dX6_load_49 ?_
        refine ik_istore_n C [(3, .int (ik_min (ssize 1) nnb)), (2, .ref s10), (0, .ref o0), (1, .int x1)] rfl (by decide) rfl dX6_load_52 ?_
        refine ik_iconst (v := (0 : Int32)) C (by decide) dX6_load_53 ?_
        refine ik_istore C [(4, .int (0 : Int32)), (3, .int (ik_min (ssize 1) nnb)), (2, .ref s10), (0, .ref o0), (1, .int x1)] (by decide) rfl dX6_load_54 ?_
        have hL_56 : ∀ (n_56 : Nat) (ngr_56 : Nat → Int32) (x4_56 : Int32), ik_lp2 (b_X6_load_56s1 fnd nnb ncl ssize snum) n_56 ngr_56 x4_56 = some (R, fnd_r, ngr_r) → ik_G p l e ({ frames := 2, cells := 0, slots := 0, locals := 44 } : Room) s m ([.ref o0, .int x1] : List Value).toArray below meth c D (ik_in (wz_X6ofns cI cS o0 np0 kp0 tp0 r0 t0 sh0 f0 nw0 nc0 np1 np2 np3 nw1 nw2 nw3 nw4 nc1 nc2 s00 s10 s20 s30 s01 s11 s21 s31 isk fnd nhour nair nrub nz nnb nkd ncl ngr noc nlit ncold nccell ncpow nsp nwm ndr sbits ssize snum)) (ik_in (wz_X6ofns cI cS o0 np0 kp0 tp0 r0 t0 sh0 f0 nw0 nc0 np1 np2 np3 nw1 nw2 nw3 nw4 nc1 nc2 s00 s10 s20 s30 s01 s11 s21 s31 isk fnd nhour nair nrub nz nnb nkd ncl ngr noc nlit ncold nccell ncpow nsp nwm ndr sbits ssize snum)) 5 (MQ below (ik_Q (some (.int R)) D (wz_X6ofns cI cS o0 np0 kp0 tp0 r0 t0 sh0 f0 nw0 nc0 np1 np2 np3 nw1 nw2 nw3 nw4 nc1 nc2 s00 s10 s20 s30 s01 s11 s21 s31 isk fnd_r nhour nair nrub nz nnb nkd ncl ngr_r noc nlit ncold nccell ncpow nsp nwm ndr sbits ssize snum) (wz_X6ofns cI cS o0 np0 kp0 tp0 r0 t0 sh0 f0 nw0 nc0 np1 np2 np3 nw1 nw2 nw3 nw4 nc1 nc2 s00 s10 s20 s30 s01 s11 s21 s31 isk fnd nhour nair nrub nz nnb nkd ncl ngr noc nlit ncold nccell ncpow nsp nwm ndr sbits ssize snum)) ([.ref o0, .int x1] : List Value).toArray s 0 0 (ik_in (wz_X6ofns cI cS o0 np0 kp0 tp0 r0 t0 sh0 f0 nw0 nc0 np1 np2 np3 nw1 nw2 nw3 nw4 nc1 nc2 s00 s10 s20 s30 s01 s11 s21 s31 isk fnd nhour nair nrub nz nnb nkd ncl ngr noc nlit ncold nccell ncpow nsp nwm ndr sbits ssize snum))) 56 [(4, .int x4_56), (3, .int (ik_min (ssize 1) nnb)), (2, .ref s10), (0, .ref o0), (1, .int x1)] [] (wz_X6ofns cI cS o0 np0 kp0 tp0 r0 t0 sh0 f0 nw0 nc0 np1 np2 np3 nw1 nw2 nw3 nw4 nc1 nc2 s00 s10 s20 s30 s01 s11 s21 s31 isk fnd nhour nair nrub nz nnb nkd ncl ngr_56 noc nlit ncold nccell ncpow nsp nwm ndr sbits ssize snum) := by
          intro n_56
          induction n_56 with
          | zero => intro _ _ hf; exact nomatch hf
          | succ n_56 ih_56 =>
            intro ngr_56 x4_56 hf
            replace hf : b_X6_load_56s1 fnd nnb ncl ssize snum (ik_lp2 (b_X6_load_56s1 fnd nnb ncl ssize snum) n_56) ngr_56 x4_56 = some (R, fnd_r, ngr_r) := hf
            unfold b_X6_load_56s1 at hf
            refine ik_iload C 0 rfl dX6_load_56 ?_
            refine ik_iload_n C 1 rfl rfl dX6_load_58 ?_
            refine ik_icmp_ge C 119 dX6_load_59 (by decide) (fun hc => ?_) (fun hc => ?_)
            · have hf := ik_pos hc hf
              refine ik_iload C 0 rfl dX6_load_119 ?_
              cases hf
              exact ik_iretW C hr hlk dX6_load_121
            · have hf := ik_neg hc hf
              refine ik_aload_n C 2 rfl rfl dX6_load_62 ?_
              refine ik_get C inlX2 17 rfl rfl 2 (by decide) wl_46_2 rfl (v := .ref s11) rfl dX6_load_63 ?_
              refine ik_iload C 0 rfl dX6_load_66 ?_
              have hg := ik_gdi hf
              have hf := ik_gdk hf
              refine ik_iald C 18 rfl hg dX6_load_68 ?_
              refine ik_iconst (v := (1 : Int32)) C (by decide) dX6_load_69 ?_
              refine ik_bipush (v := (99 : Int32)) C (by decide) dX6_load_70 ?_
              obtain ⟨r3, hc3, hf⟩ := ik_b1s hf
              refine ik_goR (ik_runS C (c_X6_isWithin l D cI cS ((snum 1) (x4_56).toNatClampNeg) (1 : Int32) (99 : Int32) r3 hc3) ms_X6_isWithin wl_5_10 ⟨rfl, rfl, Nat.le_of_ble_eq_true rfl, Nat.le_of_ble_eq_true rfl⟩ [] rfl (by decide) rfl rfl (Nat.le_of_ble_eq_true rfl) dX6_load_72) rfl ?_
              refine ik_if_eq C 119 dX6_load_75 (by decide) (fun hc => ?_) (fun hc => ?_)
              · have hf := ik_pos hc hf
                refine ik_iload C 0 rfl dX6_load_119 ?_
                cases hf
                exact ik_iretW C hr hlk dX6_load_121
              · have hf := ik_neg hc hf
                refine ik_aload_n C 3 rfl rfl dX6_load_78 ?_
                refine ik_get C inlX6 0 rfl rfl 0 (by decide) wl_1_15 rfl (v := .ref np0) rfl dX6_load_79 ?_
                refine ik_get C inlX1 2 rfl rfl 0 (by decide) wl_5_4 rfl (v := .ref nw0) rfl dX6_load_82 ?_
                refine ik_iload C 0 rfl dX6_load_85 ?_
                obtain ⟨r4, hc4, hf⟩ := ik_b1s hf
                refine ik_goR (ik_runV C (c_X5_isGone l D cI cS nw0 nw1 nw2 nw3 nw4 nnb nkd ncl ngr_56 noc x4_56 r4 hc4) mv_X5_isGone wl_8_11 ⟨rfl, rfl, Nat.le_of_ble_eq_true rfl, Nat.le_of_ble_eq_true rfl⟩ [3, 4, 5, 6, 7] rfl (by decide) 3 rfl rfl rfl rfl (Nat.le_of_ble_eq_true rfl) dX6_load_87) rfl ?_
                refine ik_if_ne C 113 dX6_load_90 (by decide) (fun hc => ?_) (fun hc => ?_)
                · have hf := ik_neg hc hf
                  refine ik_iinc C [(4, .int (x4_56 + (1 : Int32))), (3, .int (ik_min (ssize 1) nnb)), (2, .ref s10), (0, .ref o0), (1, .int x1)] 0 rfl rfl (by decide) rfl dX6_load_113 ?_
                  refine ik_goto C 56 dX6_load_116 (by decide) ?_
                  exact ik_sub [0, 1, 2, 3, 4] [(4, .int (x4_56 + (1 : Int32))), (3, .int (ik_min (ssize 1) nnb)), (2, .ref s10), (0, .ref o0), (1, .int x1)] rfl (ih_56 ngr_56 (x4_56 + (1 : Int32)) hf)
                · have hf := ik_pos hc hf
                  refine ik_aload_n C 3 rfl rfl dX6_load_93 ?_
                  refine ik_get C inlX6 0 rfl rfl 0 (by decide) wl_1_15 rfl (v := .ref np0) rfl dX6_load_94 ?_
                  refine ik_get C inlX1 2 rfl rfl 0 (by decide) wl_5_4 rfl (v := .ref nw0) rfl dX6_load_97 ?_
                  refine ik_get C inlX5 3 rfl rfl 3 (by decide) wl_8_6 rfl (v := .ref nw3) rfl dX6_load_100 ?_
                  refine ik_iload C 0 rfl dX6_load_103 ?_
                  refine ik_aload_n C 2 rfl rfl dX6_load_105 ?_
                  refine ik_get C inlX2 17 rfl rfl 2 (by decide) wl_46_2 rfl (v := .ref s11) rfl dX6_load_106 ?_
                  refine ik_iload C 0 rfl dX6_load_109 ?_
                  have hg := ik_gdi hf
                  have hf := ik_gdk hf
                  refine ik_iald C 18 rfl hg dX6_load_111 ?_
                  have hg := ik_gdi hf
                  have hf := ik_gdk hf
                  refine ik_iast C 6 rfl hg (wz_X6ofns cI cS o0 np0 kp0 tp0 r0 t0 sh0 f0 nw0 nc0 np1 np2 np3 nw1 nw2 nw3 nw4 nc1 nc2 s00 s10 s20 s30 s01 s11 s21 s31 isk fnd nhour nair nrub nz nnb nkd ncl (upd ngr_56 (x4_56).toNatClampNeg ((snum 1) (x4_56).toNatClampNeg)) noc nlit ncold nccell ncpow nsp nwm ndr sbits ssize snum) rfl dX6_load_112 ?_
                  refine ik_iinc C [(4, .int (x4_56 + (1 : Int32))), (3, .int (ik_min (ssize 1) nnb)), (2, .ref s10), (0, .ref o0), (1, .int x1)] 0 rfl rfl (by decide) rfl dX6_load_113 ?_
                  refine ik_goto C 56 dX6_load_116 (by decide) ?_
                  exact ik_sub [0, 1, 2, 3, 4] [(4, .int (x4_56 + (1 : Int32))), (3, .int (ik_min (ssize 1) nnb)), (2, .ref s10), (0, .ref o0), (1, .int x1)] rfl (ih_56 (upd ngr_56 (x4_56).toNatClampNeg ((snum 1) (x4_56).toNatClampNeg)) (x4_56 + (1 : Int32)) hf)
        exact hL_56 ik_fu ngr (0 : Int32) hf
      · have hf := ik_neg hc hf
        refine ik_aload_n C 1 rfl rfl dX6_load_28 ?_
        refine ik_ldc C wl_43_13 dX6_load_29 ?_
        obtain ⟨r3, g4, hc4, hf⟩ := ik_b2s hf
        refine ik_goW [0, 1] rfl rfl (wz_X6ofns cI cS o0 np0 kp0 tp0 r0 t0 sh0 f0 nw0 nc0 np1 np2 np3 nw1 nw2 nw3 nw4 nc1 nc2 s00 s10 s20 s30 s01 s11 s21 s31 isk g4 nhour nair nrub nz nnb nkd ncl ngr noc nlit ncold nccell ncpow nsp nwm ndr sbits ssize snum) rfl (ik_runV C (c_X6_tell l D cI cS o0 np0 kp0 tp0 r0 t0 sh0 f0 isk fnd (-1000006 : Int32) r3 g4 hc4) mv_X6_tell wl_5_16 ⟨rfl, rfl, Nat.le_of_ble_eq_true rfl, Nat.le_of_ble_eq_true rfl⟩ [0, 1] rfl (by decide) 0 rfl rfl rfl rfl (Nat.le_of_ble_eq_true rfl) dX6_load_31) rfl ?_
        cases hf
        exact ik_iretW C hr hlk dX6_load_34
    · have hf := ik_neg hb0 hf; have hf := ik_neg hb1 hf; have hf := ik_pos hc hf
      refine ik_astore_n C [(2, .ref s20), (0, .ref o0), (1, .int x1)] rfl (by decide) rfl dX6_load_20 ?_
      refine ik_aload_n C 0 rfl rfl dX6_load_21 ?_
      obtain ⟨r2, hc2, hf⟩ := ik_b1s hf
      refine ik_goR (ik_runV C (c_X2_isMissing l D cI cS s20 s21 (sbits 2) (ssize 2) (snum 2) r2 hc2) mv_X2_isMissing wl_45_9 ⟨rfl, rfl, Nat.le_of_ble_eq_true rfl, Nat.le_of_ble_eq_true rfl⟩ [19, 20] rfl (by decide) 19 rfl rfl rfl rfl (Nat.le_of_ble_eq_true rfl) dX6_load_22) rfl ?_
      refine ik_if_eq C 35 dX6_load_25 (by decide) (fun hc => ?_) (fun hc => ?_)
      · have hf := ik_pos hc hf
        refine ik_aload_n C 0 rfl rfl dX6_load_35 ?_
        refine ik_get C inlX2 19 rfl rfl 1 (by decide) wl_45_8 rfl (v := .int (ssize 2)) rfl dX6_load_36 ?_
        refine ik_aload_n C 1 rfl rfl dX6_load_39 ?_
        refine ik_get C inlX6 0 rfl rfl 0 (by decide) wl_1_15 rfl (v := .ref np0) rfl dX6_load_40 ?_
        refine ik_get C inlX1 2 rfl rfl 0 (by decide) wl_5_4 rfl (v := .ref nw0) rfl dX6_load_43 ?_
        refine ik_get C inlX5 3 rfl rfl 0 (by decide) wl_28_15 rfl (v := .int nnb) rfl dX6_load_46 ?_
        refine ik_mmin C wl_46_16 wl_14_6 wl_13_23 wl_14_7 (Nat.le_of_ble_eq_true rfl) (Nat.le_of_ble_eq_true rfl) dX6_load_49 ?_
        refine ik_istore_n C [(3, .int (ik_min (ssize 2) nnb)), (2, .ref s20), (0, .ref o0), (1, .int x1)] rfl (by decide) rfl dX6_load_52 ?_
        refine ik_iconst (v := (0 : Int32)) C (by decide) dX6_load_53 ?_
        refine ik_istore C [(4, .int (0 : Int32)), (3, .int (ik_min (ssize 2) nnb)), (2, .ref s20), (0, .ref o0), (1, .int x1)] (by decide) rfl dX6_load_54 ?_
        have hL_56 : ∀ (n_56 : Nat) (ngr_56 : Nat → Int32) (x4_56 : Int32), ik_lp2 (b_X6_load_56s2 fnd nnb ncl ssize snum) n_56 ngr_56 x4_56 = some (R, fnd_r, ngr_r) → ik_G p l e ({ frames := 2, cells := 0, slots := 0, locals := 44 } : Room) s m ([.ref o0, .int x1] : List Value).toArray below meth c D (ik_in (wz_X6ofns cI cS o0 np0 kp0 tp0 r0 t0 sh0 f0 nw0 nc0 np1 np2 np3 nw1 nw2 nw3 nw4 nc1 nc2 s00 s10 s20 s30 s01 s11 s21 s31 isk fnd nhour nair nrub nz nnb nkd ncl ngr noc nlit ncold nccell ncpow nsp nwm ndr sbits ssize snum)) (ik_in (wz_X6ofns cI cS o0 np0 kp0 tp0 r0 t0 sh0 f0 nw0 nc0 np1 np2 np3 nw1 nw2 nw3 nw4 nc1 nc2 s00 s10 s20 s30 s01 s11 s21 s31 isk fnd nhour nair nrub nz nnb nkd ncl ngr noc nlit ncold nccell ncpow nsp nwm ndr sbits ssize snum)) 5 (MQ below (ik_Q (some (.int R)) D (wz_X6ofns cI cS o0 np0 kp0 tp0 r0 t0 sh0 f0 nw0 nc0 np1 np2 np3 nw1 nw2 nw3 nw4 nc1 nc2 s00 s10 s20 s30 s01 s11 s21 s31 isk fnd_r nhour nair nrub nz nnb nkd ncl ngr_r noc nlit ncold nccell ncpow nsp nwm ndr sbits ssize snum) (wz_X6ofns cI cS o0 np0 kp0 tp0 r0 t0 sh0 f0 nw0 nc0 np1 np2 np3 nw1 nw2 nw3 nw4 nc1 nc2 s00 s10 s20 s30 s01 s11 s21 s31 isk fnd nhour nair nrub nz nnb nkd ncl ngr noc nlit ncold nccell ncpow nsp nwm ndr sbits ssize snum)) ([.ref o0, .int x1] : List Value).toArray s 0 0 (ik_in (wz_X6ofns cI cS o0 np0 kp0 tp0 r0 t0 sh0 f0 nw0 nc0 np1 np2 np3 nw1 nw2 nw3 nw4 nc1 nc2 s00 s10 s20 s30 s01 s11 s21 s31 isk fnd nhour nair nrub nz nnb nkd ncl ngr noc nlit ncold nccell ncpow nsp nwm ndr sbits ssize snum))) 56 [(4, .int x4_56), (3, .int (ik_min (ssize 2) nnb)), (2, .ref s20), (0, .ref o0), (1, .int x1)] [] (wz_X6ofns cI cS o0 np0 kp0 tp0 r0 t0 sh0 f0 nw0 nc0 np1 np2 np3 nw1 nw2 nw3 nw4 nc1 nc2 s00 s10 s20 s30 s01 s11 s21 s31 isk fnd nhour nair nrub nz nnb nkd ncl ngr_56 noc nlit ncold nccell ncpow nsp nwm ndr sbits ssize snum) := by
          intro n_56
          induction n_56 with
          | zero => intro _ _ hf; exact nomatch hf
          | succ n_56 ih_56 =>
            intro ngr_56 x4_56 hf
            replace hf : b_X6_load_56s2 fnd nnb ncl ssize snum (ik_lp2 (b_X6_load_56s2 fnd nnb ncl ssize snum) n_56) ngr_56 x4_56 = some (R, fnd_r, ngr_r) := hf
            unfold b_X6_load_56s2 at hf
            refine ik_iload C 0 rfl dX6_load_56 ?_
            refine ik_iload_n C 1 rfl rfl dX6_load_58 ?_
            refine ik_icmp_ge C 119 dX6_load_59 (by decide) (fun hc => ?_) (fun hc => ?_)
            · have hf := ik_pos hc hf
              refine ik_iload C 0 rfl dX6_load_119 ?_
              cases hf
              exact ik_iretW C hr hlk dX6_load_121
            · have hf := ik_neg hc hf
              refine ik_aload_n C 2 rfl rfl dX6_load_62 ?_
              refine ik_get C inlX2 19 rfl rfl 2 (by decide) wl_46_2 rfl (v := .ref s21) rfl dX6_load_63 ?_
              refine ik_iload C 0 rfl dX6_load_66 ?_
              have hg := ik_gdi hf
              have hf := ik_gdk hf
              refine ik_iald C 20 rfl hg dX6_load_68 ?_
              refine ik_iconst (v := (1 : Int32)) C (by decide) dX6_load_69 ?_
              refine ik_bipush (v := (99 : Int32)) C (by decide) dX6_load_70 ?_
              obtain ⟨r3, hc3, hf⟩ := ik_b1s hf
              refine ik_goR (ik_runS C (c_X6_isWithin l D cI cS ((snum 2) (x4_56).toNatClampNeg) (1 : Int32) (99 : Int32) r3 hc3) ms_X6_isWithin wl_5_10 ⟨rfl, rfl, Nat.le_of_ble_eq_true rfl, Nat.le_of_ble_eq_true rfl⟩ [] rfl (by decide) rfl rfl (Nat.le_of_ble_eq_true rfl) dX6_load_72) rfl ?_
              refine ik_if_eq C 119 dX6_load_75 (by decide) (fun hc => ?_) (fun hc => ?_)
              · have hf := ik_pos hc hf
                refine ik_iload C 0 rfl dX6_load_119 ?_
                cases hf
                exact ik_iretW C hr hlk dX6_load_121
              · have hf := ik_neg hc hf
                refine ik_aload_n C 3 rfl rfl dX6_load_78 ?_
                refine ik_get C inlX6 0 rfl rfl 0 (by decide) wl_1_15 rfl (v := .ref np0) rfl dX6_load_79 ?_
                refine ik_get C inlX1 2 rfl rfl 0 (by decide) wl_5_4 rfl (v := .ref nw0) rfl dX6_load_82 ?_
                refine ik_iload C 0 rfl dX6_load_85 ?_
                obtain ⟨r4, hc4, hf⟩ := ik_b1s hf
                refine ik_goR (ik_runV C (c_X5_isGone l D cI cS nw0 nw1 nw2 nw3 nw4 nnb nkd ncl ngr_56 noc x4_56 r4 hc4) mv_X5_isGone wl_8_11 ⟨rfl, rfl, Nat.le_of_ble_eq_true rfl, Nat.le_of_ble_eq_true rfl⟩ [3, 4, 5, 6, 7] rfl (by decide) 3 rfl rfl rfl rfl (Nat.le_of_ble_eq_true rfl) dX6_load_87) rfl ?_
                refine ik_if_ne C 113 dX6_load_90 (by decide) (fun hc => ?_) (fun hc => ?_)
                · have hf := ik_neg hc hf
                  refine ik_iinc C [(4, .int (x4_56 + (1 : Int32))), (3, .int (ik_min (ssize 2) nnb)), (2, .ref s20), (0, .ref o0), (1, .int x1)] 0 rfl rfl (by decide) rfl dX6_load_113 ?_
                  refine ik_goto C 56 dX6_load_116 (by decide) ?_
                  exact ik_sub [0, 1, 2, 3, 4] [(4, .int (x4_56 + (1 : Int32))), (3, .int (ik_min (ssize 2) nnb)), (2, .ref s20), (0, .ref o0), (1, .int x1)] rfl (ih_56 ngr_56 (x4_56 + (1 : Int32)) hf)
                · have hf := ik_pos hc hf
                  refine ik_aload_n C 3 rfl rfl dX6_load_93 ?_
                  refine ik_get C inlX6 0 rfl rfl 0 (by decide) wl_1_15 rfl (v := .ref np0) rfl dX6_load_94 ?_
                  refine ik_get C inlX1 2 rfl rfl 0 (by decide) wl_5_4 rfl (v := .ref nw0) rfl dX6_load_97 ?_
                  refine ik_get C inlX5 3 rfl rfl 3 (by decide) wl_8_6 rfl (v := .ref nw3) rfl dX6_load_100 ?_
                  refine ik_iload C 0 rfl dX6_load_103 ?_
                  refine ik_aload_n C 2 rfl rfl dX6_load_105 ?_
                  refine ik_get C inlX2 19 rfl rfl 2 (by decide) wl_46_2 rfl (v := .ref s21) rfl dX6_load_106 ?_
                  refine ik_iload C 0 rfl dX6_load_109 ?_
                  have hg := ik_gdi hf
                  have hf := ik_gdk hf
                  refine ik_iald C 20 rfl hg dX6_load_111 ?_
                  have hg := ik_gdi hf
                  have hf := ik_gdk hf
                  refine ik_iast C 6 rfl hg (wz_X6ofns cI cS o0 np0 kp0 tp0 r0 t0 sh0 f0 nw0 nc0 np1 np2 np3 nw1 nw2 nw3 nw4 nc1 nc2 s00 s10 s20 s30 s01 s11 s21 s31 isk fnd nhour nair nrub nz nnb nkd ncl (upd ngr_56 (x4_56).toNatClampNeg ((snum 2) (x4_56).toNatClampNeg)) noc nlit ncold nccell ncpow nsp nwm ndr sbits ssize snum) rfl dX6_load_112 ?_
                  refine ik_iinc C [(4, .int (x4_56 + (1 : Int32))), (3, .int (ik_min (ssize 2) nnb)), (2, .ref s20), (0, .ref o0), (1, .int x1)] 0 rfl rfl (by decide) rfl dX6_load_113 ?_
                  refine ik_goto C 56 dX6_load_116 (by decide) ?_
                  exact ik_sub [0, 1, 2, 3, 4] [(4, .int (x4_56 + (1 : Int32))), (3, .int (ik_min (ssize 2) nnb)), (2, .ref s20), (0, .ref o0), (1, .int x1)] rfl (ih_56 (upd ngr_56 (x4_56).toNatClampNeg ((snum 2) (x4_56).toNatClampNeg)) (x4_56 + (1 : Int32)) hf)
        exact hL_56 ik_fu ngr (0 : Int32) hf
      · have hf := ik_neg hc hf
        refine ik_aload_n C 1 rfl rfl dX6_load_28 ?_
        refine ik_ldc C wl_43_13 dX6_load_29 ?_
        obtain ⟨r3, g4, hc4, hf⟩ := ik_b2s hf
        refine ik_goW [0, 1] rfl rfl (wz_X6ofns cI cS o0 np0 kp0 tp0 r0 t0 sh0 f0 nw0 nc0 np1 np2 np3 nw1 nw2 nw3 nw4 nc1 nc2 s00 s10 s20 s30 s01 s11 s21 s31 isk g4 nhour nair nrub nz nnb nkd ncl ngr noc nlit ncold nccell ncpow nsp nwm ndr sbits ssize snum) rfl (ik_runV C (c_X6_tell l D cI cS o0 np0 kp0 tp0 r0 t0 sh0 f0 isk fnd (-1000006 : Int32) r3 g4 hc4) mv_X6_tell wl_5_16 ⟨rfl, rfl, Nat.le_of_ble_eq_true rfl, Nat.le_of_ble_eq_true rfl⟩ [0, 1] rfl (by decide) 0 rfl rfl rfl rfl (Nat.le_of_ble_eq_true rfl) dX6_load_31) rfl ?_
        cases hf
        exact ik_iretW C hr hlk dX6_load_34
    · have hf := ik_neg hb0 hf; have hf := ik_neg hb1 hf; have hf := ik_neg hb2 hf
      refine ik_astore_n C [(2, .ref s30), (0, .ref o0), (1, .int x1)] rfl (by decide) rfl dX6_load_20 ?_
      refine ik_aload_n C 0 rfl rfl dX6_load_21 ?_
      obtain ⟨r2, hc2, hf⟩ := ik_b1s hf
      refine ik_goR (ik_runV C (c_X2_isMissing l D cI cS s30 s31 (sbits 3) (ssize 3) (snum 3) r2 hc2) mv_X2_isMissing wl_45_9 ⟨rfl, rfl, Nat.le_of_ble_eq_true rfl, Nat.le_of_ble_eq_true rfl⟩ [21, 22] rfl (by decide) 21 rfl rfl rfl rfl (Nat.le_of_ble_eq_true rfl) dX6_load_22) rfl ?_
      refine ik_if_eq C 35 dX6_load_25 (by decide) (fun hc => ?_) (fun hc => ?_)
      · have hf := ik_pos hc hf
        refine ik_aload_n C 0 rfl rfl dX6_load_35 ?_
        refine ik_get C inlX2 21 rfl rfl 1 (by decide) wl_45_8 rfl (v := .int (ssize 3)) rfl dX6_load_36 ?_
        refine ik_aload_n C 1 rfl rfl dX6_load_39 ?_
        refine ik_get C inlX6 0 rfl rfl 0 (by decide) wl_1_15 rfl (v := .ref np0) rfl dX6_load_40 ?_
        refine ik_get C inlX1 2 rfl rfl 0 (by decide) wl_5_4 rfl (v := .ref nw0) rfl dX6_load_43 ?_
        refine ik_get C inlX5 3 rfl rfl 0 (by decide) wl_28_15 rfl (v := .int nnb) rfl dX6_load_46 ?_
        refine ik_mmin C wl_46_16 wl_14_6 wl_13_23 wl_14_7 (Nat.le_of_ble_eq_true rfl) (Nat.le_of_ble_eq_true rfl) dX6_load_49 ?_
        refine ik_istore_n C [(3, .int (ik_min (ssize 3) nnb)), (2, .ref s30), (0, .ref o0), (1, .int x1)] rfl (by decide) rfl dX6_load_52 ?_
        refine ik_iconst (v := (0 : Int32)) C (by decide) dX6_load_53 ?_
        refine ik_istore C [(4, .int (0 : Int32)), (3, .int (ik_min (ssize 3) nnb)), (2, .ref s30), (0, .ref o0), (1, .int x1)] (by decide) rfl dX6_load_54 ?_
        have hL_56 : ∀ (n_56 : Nat) (ngr_56 : Nat → Int32) (x4_56 : Int32), ik_lp2 (b_X6_load_56s3 fnd nnb ncl ssize snum) n_56 ngr_56 x4_56 = some (R, fnd_r, ngr_r) → ik_G p l e ({ frames := 2, cells := 0, slots := 0, locals := 44 } : Room) s m ([.ref o0, .int x1] : List Value).toArray below meth c D (ik_in (wz_X6ofns cI cS o0 np0 kp0 tp0 r0 t0 sh0 f0 nw0 nc0 np1 np2 np3 nw1 nw2 nw3 nw4 nc1 nc2 s00 s10 s20 s30 s01 s11 s21 s31 isk fnd nhour nair nrub nz nnb nkd ncl ngr noc nlit ncold nccell ncpow nsp nwm ndr sbits ssize snum)) (ik_in (wz_X6ofns cI cS o0 np0 kp0 tp0 r0 t0 sh0 f0 nw0 nc0 np1 np2 np3 nw1 nw2 nw3 nw4 nc1 nc2 s00 s10 s20 s30 s01 s11 s21 s31 isk fnd nhour nair nrub nz nnb nkd ncl ngr noc nlit ncold nccell ncpow nsp nwm ndr sbits ssize snum)) 5 (MQ below (ik_Q (some (.int R)) D (wz_X6ofns cI cS o0 np0 kp0 tp0 r0 t0 sh0 f0 nw0 nc0 np1 np2 np3 nw1 nw2 nw3 nw4 nc1 nc2 s00 s10 s20 s30 s01 s11 s21 s31 isk fnd_r nhour nair nrub nz nnb nkd ncl ngr_r noc nlit ncold nccell ncpow nsp nwm ndr sbits ssize snum) (wz_X6ofns cI cS o0 np0 kp0 tp0 r0 t0 sh0 f0 nw0 nc0 np1 np2 np3 nw1 nw2 nw3 nw4 nc1 nc2 s00 s10 s20 s30 s01 s11 s21 s31 isk fnd nhour nair nrub nz nnb nkd ncl ngr noc nlit ncold nccell ncpow nsp nwm ndr sbits ssize snum)) ([.ref o0, .int x1] : List Value).toArray s 0 0 (ik_in (wz_X6ofns cI cS o0 np0 kp0 tp0 r0 t0 sh0 f0 nw0 nc0 np1 np2 np3 nw1 nw2 nw3 nw4 nc1 nc2 s00 s10 s20 s30 s01 s11 s21 s31 isk fnd nhour nair nrub nz nnb nkd ncl ngr noc nlit ncold nccell ncpow nsp nwm ndr sbits ssize snum))) 56 [(4, .int x4_56), (3, .int (ik_min (ssize 3) nnb)), (2, .ref s30), (0, .ref o0), (1, .int x1)] [] (wz_X6ofns cI cS o0 np0 kp0 tp0 r0 t0 sh0 f0 nw0 nc0 np1 np2 np3 nw1 nw2 nw3 nw4 nc1 nc2 s00 s10 s20 s30 s01 s11 s21 s31 isk fnd nhour nair nrub nz nnb nkd ncl ngr_56 noc nlit ncold nccell ncpow nsp nwm ndr sbits ssize snum) := by
          intro n_56
          induction n_56 with
          | zero => intro _ _ hf; exact nomatch hf
          | succ n_56 ih_56 =>
            intro ngr_56 x4_56 hf
            replace hf : b_X6_load_56s3 fnd nnb ncl ssize snum (ik_lp2 (b_X6_load_56s3 fnd nnb ncl ssize snum) n_56) ngr_56 x4_56 = some (R, fnd_r, ngr_r) := hf
            unfold b_X6_load_56s3 at hf
            refine ik_iload C 0 rfl dX6_load_56 ?_
            refine ik_iload_n C 1 rfl rfl dX6_load_58 ?_
            refine ik_icmp_ge C 119 dX6_load_59 (by decide) (fun hc => ?_) (fun hc => ?_)
            · have hf := ik_pos hc hf
              refine ik_iload C 0 rfl dX6_load_119 ?_
              cases hf
              exact ik_iretW C hr hlk dX6_load_121
            · have hf := ik_neg hc hf
              refine ik_aload_n C 2 rfl rfl dX6_load_62 ?_
              refine ik_get C inlX2 21 rfl rfl 2 (by decide) wl_46_2 rfl (v := .ref s31) rfl dX6_load_63 ?_
              refine ik_iload C 0 rfl dX6_load_66 ?_
              have hg := ik_gdi hf
              have hf := ik_gdk hf
              refine ik_iald C 22 rfl hg dX6_load_68 ?_
              refine ik_iconst (v := (1 : Int32)) C (by decide) dX6_load_69 ?_
              refine ik_bipush (v := (99 : Int32)) C (by decide) dX6_load_70 ?_
              obtain ⟨r3, hc3, hf⟩ := ik_b1s hf
              refine ik_goR (ik_runS C (c_X6_isWithin l D cI cS ((snum 3) (x4_56).toNatClampNeg) (1 : Int32) (99 : Int32) r3 hc3) ms_X6_isWithin wl_5_10 ⟨rfl, rfl, Nat.le_of_ble_eq_true rfl, Nat.le_of_ble_eq_true rfl⟩ [] rfl (by decide) rfl rfl (Nat.le_of_ble_eq_true rfl) dX6_load_72) rfl ?_
              refine ik_if_eq C 119 dX6_load_75 (by decide) (fun hc => ?_) (fun hc => ?_)
              · have hf := ik_pos hc hf
                refine ik_iload C 0 rfl dX6_load_119 ?_
                cases hf
                exact ik_iretW C hr hlk dX6_load_121
              · have hf := ik_neg hc hf
                refine ik_aload_n C 3 rfl rfl dX6_load_78 ?_
                refine ik_get C inlX6 0 rfl rfl 0 (by decide) wl_1_15 rfl (v := .ref np0) rfl dX6_load_79 ?_
                refine ik_get C inlX1 2 rfl rfl 0 (by decide) wl_5_4 rfl (v := .ref nw0) rfl dX6_load_82 ?_
                refine ik_iload C 0 rfl dX6_load_85 ?_
                obtain ⟨r4, hc4, hf⟩ := ik_b1s hf
                refine ik_goR (ik_runV C (c_X5_isGone l D cI cS nw0 nw1 nw2 nw3 nw4 nnb nkd ncl ngr_56 noc x4_56 r4 hc4) mv_X5_isGone wl_8_11 ⟨rfl, rfl, Nat.le_of_ble_eq_true rfl, Nat.le_of_ble_eq_true rfl⟩ [3, 4, 5, 6, 7] rfl (by decide) 3 rfl rfl rfl rfl (Nat.le_of_ble_eq_true rfl) dX6_load_87) rfl ?_
                refine ik_if_ne C 113 dX6_load_90 (by decide) (fun hc => ?_) (fun hc => ?_)
                · have hf := ik_neg hc hf
                  refine ik_iinc C [(4, .int (x4_56 + (1 : Int32))), (3, .int (ik_min (ssize 3) nnb)), (2, .ref s30), (0, .ref o0), (1, .int x1)] 0 rfl rfl (by decide) rfl dX6_load_113 ?_
                  refine ik_goto C 56 dX6_load_116 (by decide) ?_
                  exact ik_sub [0, 1, 2, 3, 4] [(4, .int (x4_56 + (1 : Int32))), (3, .int (ik_min (ssize 3) nnb)), (2, .ref s30), (0, .ref o0), (1, .int x1)] rfl (ih_56 ngr_56 (x4_56 + (1 : Int32)) hf)
                · have hf := ik_pos hc hf
                  refine ik_aload_n C 3 rfl rfl dX6_load_93 ?_
                  refine ik_get C inlX6 0 rfl rfl 0 (by decide) wl_1_15 rfl (v := .ref np0) rfl dX6_load_94 ?_
                  refine ik_get C inlX1 2 rfl rfl 0 (by decide) wl_5_4 rfl (v := .ref nw0) rfl dX6_load_97 ?_
                  refine ik_get C inlX5 3 rfl rfl 3 (by decide) wl_8_6 rfl (v := .ref nw3) rfl dX6_load_100 ?_
                  refine ik_iload C 0 rfl dX6_load_103 ?_
                  refine ik_aload_n C 2 rfl rfl dX6_load_105 ?_
                  refine ik_get C inlX2 21 rfl rfl 2 (by decide) wl_46_2 rfl (v := .ref s31) rfl dX6_load_106 ?_
                  refine ik_iload C 0 rfl dX6_load_109 ?_
                  have hg := ik_gdi hf
                  have hf := ik_gdk hf
                  refine ik_iald C 22 rfl hg dX6_load_111 ?_
                  have hg := ik_gdi hf
                  have hf := ik_gdk hf
                  refine ik_iast C 6 rfl hg (wz_X6ofns cI cS o0 np0 kp0 tp0 r0 t0 sh0 f0 nw0 nc0 np1 np2 np3 nw1 nw2 nw3 nw4 nc1 nc2 s00 s10 s20 s30 s01 s11 s21 s31 isk fnd nhour nair nrub nz nnb nkd ncl (upd ngr_56 (x4_56).toNatClampNeg ((snum 3) (x4_56).toNatClampNeg)) noc nlit ncold nccell ncpow nsp nwm ndr sbits ssize snum) rfl dX6_load_112 ?_
                  refine ik_iinc C [(4, .int (x4_56 + (1 : Int32))), (3, .int (ik_min (ssize 3) nnb)), (2, .ref s30), (0, .ref o0), (1, .int x1)] 0 rfl rfl (by decide) rfl dX6_load_113 ?_
                  refine ik_goto C 56 dX6_load_116 (by decide) ?_
                  exact ik_sub [0, 1, 2, 3, 4] [(4, .int (x4_56 + (1 : Int32))), (3, .int (ik_min (ssize 3) nnb)), (2, .ref s30), (0, .ref o0), (1, .int x1)] rfl (ih_56 (upd ngr_56 (x4_56).toNatClampNeg ((snum 3) (x4_56).toNatClampNeg)) (x4_56 + (1 : Int32)) hf)
        exact hL_56 ik_fu ngr (0 : Int32) hf
      · have hf := ik_neg hc hf
        refine ik_aload_n C 1 rfl rfl dX6_load_28 ?_
        refine ik_ldc C wl_43_13 dX6_load_29 ?_
        obtain ⟨r3, g4, hc4, hf⟩ := ik_b2s hf
        refine ik_goW [0, 1] rfl rfl (wz_X6ofns cI cS o0 np0 kp0 tp0 r0 t0 sh0 f0 nw0 nc0 np1 np2 np3 nw1 nw2 nw3 nw4 nc1 nc2 s00 s10 s20 s30 s01 s11 s21 s31 isk g4 nhour nair nrub nz nnb nkd ncl ngr noc nlit ncold nccell ncpow nsp nwm ndr sbits ssize snum) rfl (ik_runV C (c_X6_tell l D cI cS o0 np0 kp0 tp0 r0 t0 sh0 f0 isk fnd (-1000006 : Int32) r3 g4 hc4) mv_X6_tell wl_5_16 ⟨rfl, rfl, Nat.le_of_ble_eq_true rfl, Nat.le_of_ble_eq_true rfl⟩ [0, 1] rfl (by decide) 0 rfl rfl rfl rfl (Nat.le_of_ble_eq_true rfl) dX6_load_31) rfl ?_
        cases hf
        exact ik_iretW C hr hlk dX6_load_34
  · have hf := ik_pos hc hf
    refine ik_aload_n C 0 rfl rfl dX6_load_7 ?_
    refine ik_ldc C wl_5_3 dX6_load_8 ?_
    obtain ⟨r2, g3, hc3, hf⟩ := ik_b2s hf
    refine ik_goW [0, 1] rfl rfl (wz_X6ofns cI cS o0 np0 kp0 tp0 r0 t0 sh0 f0 nw0 nc0 np1 np2 np3 nw1 nw2 nw3 nw4 nc1 nc2 s00 s10 s20 s30 s01 s11 s21 s31 isk g3 nhour nair nrub nz nnb nkd ncl ngr noc nlit ncold nccell ncpow nsp nwm ndr sbits ssize snum) rfl (ik_runV C (c_X6_tell l D cI cS o0 np0 kp0 tp0 r0 t0 sh0 f0 isk fnd (-1000001 : Int32) r2 g3 hc3) mv_X6_tell wl_5_16 ⟨rfl, rfl, Nat.le_of_ble_eq_true rfl, Nat.le_of_ble_eq_true rfl⟩ [0, 1] rfl (by decide) 0 rfl rfl rfl rfl (Nat.le_of_ble_eq_true rfl) dX6_load_10) rfl ?_
    cases hf
    exact ik_iretW C hr hlk dX6_load_13
theorem mv_X6_judge : ik_V yX6_judge RX6 cX6_judge 8 (some .int) 1 := ⟨wl_46_22, wl_46_23, wl_1_2, wl_47_0, by decide +kernel⟩
set_option maxHeartbeats 4000000 in
set_option maxRecDepth 100000 in
theorem c_X6_judge (l : Launch) (D : va_G) (cI cS : ClassId) (o0 np0 kp0 tp0 r0 t0 sh0 f0 nw0 nc0 np1 np2 np3 nw1 nw2 nw3 nw4 nc1 nc2 s00 s10 s20 s30 s01 s11 s21 s31 : Nat) (isk : Int32) (fnd : Nat → Int32) (nhour : Int32) (nair : Int32) (nrub : Int32) (nz : Int32) (nnb : Int32) (nkd : Nat → Int32) (ncl : Nat → Int32) (ngr : Nat → Int32) (noc : Nat → Int32) (nlit : Int32) (ncold : Int32) (nccell : Nat → Int32) (ncpow : Nat → Int32) (nsp : Nat → Int32) (nwm : Nat → Int32) (ndr : Nat → Int32) (sbits : Nat → Int32) (ssize : Nat → Int32) (snum : Nat → Nat → Int32) (x1 : Int32) (R : Int32) (fnd_r : Nat → Int32) (hf : f_X6_judge fnd nnb nkd ncl sbits ssize snum x1 = some (R, fnd_r)) : Met l yX6_judge (ik_ws yX6_judge cX6_judge 8 (some .int)) ({ frames := 2, cells := 0, slots := 0, locals := 50 } : Room) (ik_P D cI cS [.ref o0, .int x1] (wz_X6ofns cI cS o0 np0 kp0 tp0 r0 t0 sh0 f0 nw0 nc0 np1 np2 np3 nw1 nw2 nw3 nw4 nc1 nc2 s00 s10 s20 s30 s01 s11 s21 s31 isk fnd nhour nair nrub nz nnb nkd ncl ngr noc nlit ncold nccell ncpow nsp nwm ndr sbits ssize snum)) (ik_Q (some (.int R)) D (wz_X6ofns cI cS o0 np0 kp0 tp0 r0 t0 sh0 f0 nw0 nc0 np1 np2 np3 nw1 nw2 nw3 nw4 nc1 nc2 s00 s10 s20 s30 s01 s11 s21 s31 isk fnd_r nhour nair nrub nz nnb nkd ncl ngr noc nlit ncold nccell ncpow nsp nwm ndr sbits ssize snum) (wz_X6ofns cI cS o0 np0 kp0 tp0 r0 t0 sh0 f0 nw0 nc0 np1 np2 np3 nw1 nw2 nw3 nw4 nc1 nc2 s00 s10 s20 s30 s01 s11 s21 s31 isk fnd nhour nair nrub nz nnb nkd ncl ngr noc nlit ncold nccell ncpow nsp nwm ndr sbits ssize snum)) 0 0 (ik_in (wz_X6ofns cI cS o0 np0 kp0 tp0 r0 t0 sh0 f0 nw0 nc0 np1 np2 np3 nw1 nw2 nw3 nw4 nc1 nc2 s00 s10 s20 s30 s01 s11 s21 s31 isk fnd nhour nair nrub nz nnb nkd ncl ngr noc nlit ncold nccell ncpow nsp nwm ndr sbits ssize snum)) := by
  refine ik_metW RX6 rfl (by decide) (Nat.le_of_ble_eq_true rfl) [(0, .ref o0), (1, .int x1)] rfl ?_
  intro p e s m below meth c C hr hlk
  unfold f_X6_judge at hf
  refine ik_iload_n C 1 rfl rfl dX6_judge_0 ?_
  obtain ⟨r1, hc1, hf⟩ := ik_b1s hf
  refine ik_goR (ik_runS C (c_X6_isSheet l D cI cS x1 r1 hc1) ms_X6_isSheet wl_44_9 ⟨rfl, rfl, Nat.le_of_ble_eq_true rfl, Nat.le_of_ble_eq_true rfl⟩ [] rfl (by decide) rfl rfl (Nat.le_of_ble_eq_true rfl) dX6_judge_1) rfl ?_
  refine ik_if_ne C 14 dX6_judge_4 (by decide) (fun hc => ?_) (fun hc => ?_)
  · have hf := ik_neg hc hf
    refine ik_aload_n C 0 rfl rfl dX6_judge_14 ?_
    refine ik_get C inlX6 0 rfl rfl 6 (by decide) wl_2_1 rfl (v := .ref sh0) rfl dX6_judge_15 ?_
    refine ik_iload_n C 1 rfl rfl dX6_judge_18 ?_
    have hg := ik_gdi hf
    have hf := ik_gdk hf
    refine ik_aald4 C 14 rfl hg (a0 := s00) (a1 := s10) (a2 := s20) (a3 := s30) rfl rfl rfl rfl dX6_judge_19 (fun hc => ?_) (fun hb0 hc => ?_) (fun hb0 hb1 hc => ?_) (fun hb0 hb1 hb2 hc => ?_)
    · have hf := ik_pos hc hf
      refine ik_astore_n C [(2, .ref s00), (0, .ref o0), (1, .int x1)] rfl (by decide) rfl dX6_judge_20 ?_
      refine ik_aload_n C 0 rfl rfl dX6_judge_21 ?_
      obtain ⟨r2, hc2, hf⟩ := ik_b1s hf
      refine ik_goR (ik_runV C (c_X2_isMissing l D cI cS s00 s01 (sbits 0) (ssize 0) (snum 0) r2 hc2) mv_X2_isMissing wl_45_9 ⟨rfl, rfl, Nat.le_of_ble_eq_true rfl, Nat.le_of_ble_eq_true rfl⟩ [15, 16] rfl (by decide) 15 rfl rfl rfl rfl (Nat.le_of_ble_eq_true rfl) dX6_judge_22) rfl ?_
      refine ik_if_eq C 35 dX6_judge_25 (by decide) (fun hc => ?_) (fun hc => ?_)
      · have hf := ik_pos hc hf
        refine ik_aload_n C 1 rfl rfl dX6_judge_35 ?_
        refine ik_get C inlX6 0 rfl rfl 0 (by decide) wl_1_15 rfl (v := .ref np0) rfl dX6_judge_36 ?_
        refine ik_get C inlX1 2 rfl rfl 0 (by decide) wl_5_4 rfl (v := .ref nw0) rfl dX6_judge_39 ?_
        refine ik_astore_n C [(3, .ref nw0), (2, .ref s00), (0, .ref o0), (1, .int x1)] rfl (by decide) rfl dX6_judge_42 ?_
        refine ik_lconst (v := (0 : Int64)) C (by decide) dX6_judge_43 ?_
        refine ik_lstore C [(4, .long (0 : Int64)), (3, .ref nw0), (2, .ref s00), (0, .ref o0), (1, .int x1)] (by decide) rfl dX6_judge_44 ?_
        refine ik_iconst (v := (0 : Int32)) C (by decide) dX6_judge_46 ?_
        refine ik_istore C [(6, .int (0 : Int32)), (4, .long (0 : Int64)), (3, .ref nw0), (2, .ref s00), (0, .ref o0), (1, .int x1)] (by decide) rfl dX6_judge_47 ?_
        have hL_49 : ∀ (n_49 : Nat) (x4_49 : Int64) (x6_49 : Int32), ik_lp2 (b_X6_judge_49 fnd nnb nkd ncl ssize snum) n_49 x4_49 x6_49 = some (R, fnd_r) → ik_G p l e ({ frames := 2, cells := 0, slots := 0, locals := 50 } : Room) s m ([.ref o0, .int x1] : List Value).toArray below meth c D (ik_in (wz_X6ofns cI cS o0 np0 kp0 tp0 r0 t0 sh0 f0 nw0 nc0 np1 np2 np3 nw1 nw2 nw3 nw4 nc1 nc2 s00 s10 s20 s30 s01 s11 s21 s31 isk fnd nhour nair nrub nz nnb nkd ncl ngr noc nlit ncold nccell ncpow nsp nwm ndr sbits ssize snum)) (ik_in (wz_X6ofns cI cS o0 np0 kp0 tp0 r0 t0 sh0 f0 nw0 nc0 np1 np2 np3 nw1 nw2 nw3 nw4 nc1 nc2 s00 s10 s20 s30 s01 s11 s21 s31 isk fnd nhour nair nrub nz nnb nkd ncl ngr noc nlit ncold nccell ncpow nsp nwm ndr sbits ssize snum)) 8 (MQ below (ik_Q (some (.int R)) D (wz_X6ofns cI cS o0 np0 kp0 tp0 r0 t0 sh0 f0 nw0 nc0 np1 np2 np3 nw1 nw2 nw3 nw4 nc1 nc2 s00 s10 s20 s30 s01 s11 s21 s31 isk fnd_r nhour nair nrub nz nnb nkd ncl ngr noc nlit ncold nccell ncpow nsp nwm ndr sbits ssize snum) (wz_X6ofns cI cS o0 np0 kp0 tp0 r0 t0 sh0 f0 nw0 nc0 np1 np2 np3 nw1 nw2 nw3 nw4 nc1 nc2 s00 s10 s20 s30 s01 s11 s21 s31 isk fnd nhour nair nrub nz nnb nkd ncl ngr noc nlit ncold nccell ncpow nsp nwm ndr sbits ssize snum)) ([.ref o0, .int x1] : List Value).toArray s 0 0 (ik_in (wz_X6ofns cI cS o0 np0 kp0 tp0 r0 t0 sh0 f0 nw0 nc0 np1 np2 np3 nw1 nw2 nw3 nw4 nc1 nc2 s00 s10 s20 s30 s01 s11 s21 s31 isk fnd nhour nair nrub nz nnb nkd ncl ngr noc nlit ncold nccell ncpow nsp nwm ndr sbits ssize snum))) 49 [(6, .int x6_49), (4, .long x4_49), (3, .ref nw0), (2, .ref s00), (0, .ref o0), (1, .int x1)] [] (wz_X6ofns cI cS o0 np0 kp0 tp0 r0 t0 sh0 f0 nw0 nc0 np1 np2 np3 nw1 nw2 nw3 nw4 nc1 nc2 s00 s10 s20 s30 s01 s11 s21 s31 isk fnd nhour nair nrub nz nnb nkd ncl ngr noc nlit ncold nccell ncpow nsp nwm ndr sbits ssize snum) := by
          intro n_49
          induction n_49 with
          | zero => intro _ _ hf; exact nomatch hf
          | succ n_49 ih_49 =>
            intro x4_49 x6_49 hf
            replace hf : b_X6_judge_49 fnd nnb nkd ncl ssize snum (ik_lp2 (b_X6_judge_49 fnd nnb nkd ncl ssize snum) n_49) x4_49 x6_49 = some (R, fnd_r) := hf
            unfold b_X6_judge_49 at hf
            refine ik_iload C 0 rfl dX6_judge_49 ?_
            refine ik_aload_n C 3 rfl rfl dX6_judge_51 ?_
            refine ik_get C inlX2 15 rfl rfl 1 (by decide) wl_45_8 rfl (v := .int (ssize 0)) rfl dX6_judge_52 ?_
            refine ik_icmp_ge C 109 dX6_judge_55 (by decide) (fun hc => ?_) (fun hc => ?_)
            · have hf := ik_pos hc hf
              refine ik_lload C 1 rfl dX6_judge_109 ?_
              refine ik_aload_n C 2 rfl rfl dX6_judge_111 ?_
              obtain ⟨r3, hc3, hf⟩ := ik_b1s hf
              refine ik_goR (ik_runV C (c_X5_occupied l D cI cS nw0 nw1 nw2 nw3 nw4 nnb nkd ncl ngr noc r3 hc3) mv_X5_occupied wl_29_22 ⟨rfl, rfl, Nat.le_of_ble_eq_true rfl, Nat.le_of_ble_eq_true rfl⟩ [3, 4, 5, 6, 7] rfl (by decide) 3 rfl rfl rfl rfl (Nat.le_of_ble_eq_true rfl) dX6_judge_112) rfl ?_
              refine ik_lcmp C dX6_judge_115 ?_
              refine ik_if_ne C 123 dX6_judge_116 (by decide) (fun hc => ?_) (fun hc => ?_)
              · have hf := ik_neg hc hf
                refine ik_bipush (v := (41 : Int32)) C (by decide) dX6_judge_123 ?_
                cases hf
                exact ik_iretW C hr hlk dX6_judge_125
              · have hf := ik_pos hc hf
                refine ik_iconst (v := (0 : Int32)) C (by decide) dX6_judge_119 ?_
                refine ik_goto C 125 dX6_judge_120 (by decide) ?_
                cases hf
                exact ik_iretW C hr hlk dX6_judge_125
            · have hf := ik_neg hc hf
              refine ik_aload_n C 3 rfl rfl dX6_judge_58 ?_
              refine ik_get C inlX2 15 rfl rfl 2 (by decide) wl_46_2 rfl (v := .ref s01) rfl dX6_judge_59 ?_
              refine ik_iload C 0 rfl dX6_judge_62 ?_
              have hg := ik_gdi hf
              have hf := ik_gdk hf
              refine ik_iald C 16 rfl hg dX6_judge_64 ?_
              refine ik_istore C [(7, .int ((snum 0) (x6_49).toNatClampNeg)), (6, .int x6_49), (4, .long x4_49), (3, .ref nw0), (2, .ref s00), (0, .ref o0), (1, .int x1)] (by decide) rfl dX6_judge_65 ?_
              refine ik_aload_n C 3 rfl rfl dX6_judge_67 ?_
              refine ik_iload C 0 rfl dX6_judge_68 ?_
              obtain ⟨r3, hc3, hf⟩ := ik_b1s hf
              refine ik_goR (ik_runV C (c_X5_isBlock l D cI cS nw0 nw1 nw2 nw3 nw4 nnb nkd ncl ngr noc ((snum 0) (x6_49).toNatClampNeg) r3 hc3) mv_X5_isBlock wl_8_7 ⟨rfl, rfl, Nat.le_of_ble_eq_true rfl, Nat.le_of_ble_eq_true rfl⟩ [3, 4, 5, 6, 7] rfl (by decide) 3 rfl rfl rfl rfl (Nat.le_of_ble_eq_true rfl) dX6_judge_70) rfl ?_
              refine ik_if_eq C 87 dX6_judge_73 (by decide) (fun hc => ?_) (fun hc => ?_)
              · have hf := ik_pos hc hf
                refine ik_iconst (v := (1 : Int32)) C (by decide) dX6_judge_87 ?_
                refine ik_iload C 1 rfl dX6_judge_88 ?_
                refine ik_iadd C dX6_judge_90 ?_
                cases hf
                exact ik_iretW C hr hlk dX6_judge_91
              · have hf := ik_neg hc hf
                refine ik_aload_n C 3 rfl rfl dX6_judge_76 ?_
                refine ik_iload C 0 rfl dX6_judge_77 ?_
                refine ik_lload C 2 rfl dX6_judge_79 ?_
                obtain ⟨r4, hc4, hf⟩ := ik_b1s hf
                refine ik_goR (ik_runV C (c_X5_isComer l D cI cS nw0 nw1 nw2 nw3 nw4 nnb nkd ncl ngr noc ((snum 0) (x6_49).toNatClampNeg) x4_49 r4 hc4) mv_X5_isComer wl_47_1 ⟨rfl, rfl, Nat.le_of_ble_eq_true rfl, Nat.le_of_ble_eq_true rfl⟩ [3, 4, 5, 6, 7] rfl (by decide) 3 rfl rfl rfl rfl (Nat.le_of_ble_eq_true rfl) dX6_judge_81) rfl ?_
                refine ik_if_ne C 92 dX6_judge_84 (by decide) (fun hc => ?_) (fun hc => ?_)
                · have hf := ik_neg hc hf
                  refine ik_lload C 2 rfl dX6_judge_92 ?_
                  refine ik_aload_n C 3 rfl rfl dX6_judge_94 ?_
                  refine ik_iload C 0 rfl dX6_judge_95 ?_
                  obtain ⟨r5, hc5, hf⟩ := ik_b1s hf
                  refine ik_goR (ik_runV C (c_X5_cellBit l D cI cS nw0 nw1 nw2 nw3 nw4 nnb nkd ncl ngr noc ((snum 0) (x6_49).toNatClampNeg) r5 hc5) mv_X5_cellBit wl_9_3 ⟨rfl, rfl, Nat.le_of_ble_eq_true rfl, Nat.le_of_ble_eq_true rfl⟩ [3, 4, 5, 6, 7] rfl (by decide) 3 rfl rfl rfl rfl (Nat.le_of_ble_eq_true rfl) dX6_judge_97) rfl ?_
                  refine ik_lor C dX6_judge_100 ?_
                  refine ik_lstore C [(4, .long (x4_49 ||| r5)), (7, .int ((snum 0) (x6_49).toNatClampNeg)), (6, .int x6_49), (3, .ref nw0), (2, .ref s00), (0, .ref o0), (1, .int x1)] (by decide) rfl dX6_judge_101 ?_
                  refine ik_iinc C [(6, .int (x6_49 + (1 : Int32))), (4, .long (x4_49 ||| r5)), (7, .int ((snum 0) (x6_49).toNatClampNeg)), (3, .ref nw0), (2, .ref s00), (0, .ref o0), (1, .int x1)] 2 rfl rfl (by decide) rfl dX6_judge_103 ?_
                  refine ik_goto C 49 dX6_judge_106 (by decide) ?_
                  exact ik_sub [0, 1, 3, 4, 5, 6] [(6, .int (x6_49 + (1 : Int32))), (4, .long (x4_49 ||| r5)), (3, .ref nw0), (2, .ref s00), (0, .ref o0), (1, .int x1)] rfl (ih_49 (x4_49 ||| r5) (x6_49 + (1 : Int32)) hf)
                · have hf := ik_pos hc hf
                  refine ik_iconst (v := (1 : Int32)) C (by decide) dX6_judge_87 ?_
                  refine ik_iload C 1 rfl dX6_judge_88 ?_
                  refine ik_iadd C dX6_judge_90 ?_
                  cases hf
                  exact ik_iretW C hr hlk dX6_judge_91
        exact hL_49 ik_fu (0 : Int64) (0 : Int32) hf
      · have hf := ik_neg hc hf
        refine ik_aload_n C 1 rfl rfl dX6_judge_28 ?_
        refine ik_ldc C wl_43_13 dX6_judge_29 ?_
        obtain ⟨r3, g4, hc4, hf⟩ := ik_b2s hf
        refine ik_goW [0, 1] rfl rfl (wz_X6ofns cI cS o0 np0 kp0 tp0 r0 t0 sh0 f0 nw0 nc0 np1 np2 np3 nw1 nw2 nw3 nw4 nc1 nc2 s00 s10 s20 s30 s01 s11 s21 s31 isk g4 nhour nair nrub nz nnb nkd ncl ngr noc nlit ncold nccell ncpow nsp nwm ndr sbits ssize snum) rfl (ik_runV C (c_X6_tell l D cI cS o0 np0 kp0 tp0 r0 t0 sh0 f0 isk fnd (-1000006 : Int32) r3 g4 hc4) mv_X6_tell wl_5_16 ⟨rfl, rfl, Nat.le_of_ble_eq_true rfl, Nat.le_of_ble_eq_true rfl⟩ [0, 1] rfl (by decide) 0 rfl rfl rfl rfl (Nat.le_of_ble_eq_true rfl) dX6_judge_31) rfl ?_
        cases hf
        exact ik_iretW C hr hlk dX6_judge_34
    · have hf := ik_neg hb0 hf; have hf := ik_pos hc hf
      refine ik_astore_n C [(2, .ref s10), (0, .ref o0), (1, .int x1)] rfl (by decide) rfl dX6_judge_20 ?_
      refine ik_aload_n C 0 rfl rfl dX6_judge_21 ?_
      obtain ⟨r2, hc2, hf⟩ := ik_b1s hf
      refine ik_goR (ik_runV C (c_X2_isMissing l D cI cS s10 s11 (sbits 1) (ssize 1) (snum 1) r2 hc2) mv_X2_isMissing wl_45_9 ⟨rfl, rfl, Nat.le_of_ble_eq_true rfl, Nat.le_of_ble_eq_true rfl⟩ [17, 18] rfl (by decide) 17 rfl rfl rfl rfl (Nat.le_of_ble_eq_true rfl) dX6_judge_22) rfl ?_
      refine ik_if_eq C 35 dX6_judge_25 (by decide) (fun hc => ?_) (fun hc => ?_)
      · have hf := ik_pos hc hf
        refine ik_aload_n C 1 rfl rfl dX6_judge_35 ?_
        refine ik_get C inlX6 0 rfl rfl 0 (by decide) wl_1_15 rfl (v := .ref np0) rfl dX6_judge_36 ?_
        refine ik_get C inlX1 2 rfl rfl 0 (by decide) wl_5_4 rfl (v := .ref nw0) rfl dX6_judge_39 ?_
        refine ik_astore_n C [(3, .ref nw0), (2, .ref s10), (0, .ref o0), (1, .int x1)] rfl (by decide) rfl dX6_judge_42 ?_
        refine ik_lconst (v := (0 : Int64)) C (by decide) dX6_judge_43 ?_
        refine ik_lstore C [(4, .long (0 : Int64)), (3, .ref nw0), (2, .ref s10), (0, .ref o0), (1, .int x1)] (by decide) rfl dX6_judge_44 ?_
        refine ik_iconst (v := (0 : Int32)) C (by decide) dX6_judge_46 ?_
        refine ik_istore C [(6, .int (0 : Int32)), (4, .long (0 : Int64)), (3, .ref nw0), (2, .ref s10), (0, .ref o0), (1, .int x1)] (by decide) rfl dX6_judge_47 ?_
        have hL_49 : ∀ (n_49 : Nat) (x4_49 : Int64) (x6_49 : Int32), ik_lp2 (b_X6_judge_49s1 fnd nnb nkd ncl ssize snum) n_49 x4_49 x6_49 = some (R, fnd_r) → ik_G p l e ({ frames := 2, cells := 0, slots := 0, locals := 50 } : Room) s m ([.ref o0, .int x1] : List Value).toArray below meth c D (ik_in (wz_X6ofns cI cS o0 np0 kp0 tp0 r0 t0 sh0 f0 nw0 nc0 np1 np2 np3 nw1 nw2 nw3 nw4 nc1 nc2 s00 s10 s20 s30 s01 s11 s21 s31 isk fnd nhour nair nrub nz nnb nkd ncl ngr noc nlit ncold nccell ncpow nsp nwm ndr sbits ssize snum)) (ik_in (wz_X6ofns cI cS o0 np0 kp0 tp0 r0 t0 sh0 f0 nw0 nc0 np1 np2 np3 nw1 nw2 nw3 nw4 nc1 nc2 s00 s10 s20 s30 s01 s11 s21 s31 isk fnd nhour nair nrub nz nnb nkd ncl ngr noc nlit ncold nccell ncpow nsp nwm ndr sbits ssize snum)) 8 (MQ below (ik_Q (some (.int R)) D (wz_X6ofns cI cS o0 np0 kp0 tp0 r0 t0 sh0 f0 nw0 nc0 np1 np2 np3 nw1 nw2 nw3 nw4 nc1 nc2 s00 s10 s20 s30 s01 s11 s21 s31 isk fnd_r nhour nair nrub nz nnb nkd ncl ngr noc nlit ncold nccell ncpow nsp nwm ndr sbits ssize snum) (wz_X6ofns cI cS o0 np0 kp0 tp0 r0 t0 sh0 f0 nw0 nc0 np1 np2 np3 nw1 nw2 nw3 nw4 nc1 nc2 s00 s10 s20 s30 s01 s11 s21 s31 isk fnd nhour nair nrub nz nnb nkd ncl ngr noc nlit ncold nccell ncpow nsp nwm ndr sbits ssize snum)) ([.ref o0, .int x1] : List Value).toArray s 0 0 (ik_in (wz_X6ofns cI cS o0 np0 kp0 tp0 r0 t0 sh0 f0 nw0 nc0 np1 np2 np3 nw1 nw2 nw3 nw4 nc1 nc2 s00 s10 s20 s30 s01 s11 s21 s31 isk fnd nhour nair nrub nz nnb nkd ncl ngr noc nlit ncold nccell ncpow nsp nwm ndr sbits ssize snum))) 49 [(6, .int x6_49), (4, .long x4_49), (3, .ref nw0), (2, .ref s10), (0, .ref o0), (1, .int x1)] [] (wz_X6ofns cI cS o0 np0 kp0 tp0 r0 t0 sh0 f0 nw0 nc0 np1 np2 np3 nw1 nw2 nw3 nw4 nc1 nc2 s00 s10 s20 s30 s01 s11 s21 s31 isk fnd nhour nair nrub nz nnb nkd ncl ngr noc nlit ncold nccell ncpow nsp nwm ndr sbits ssize snum) := by
          intro n_49
          induction n_49 with
          | zero => intro _ _ hf; exact nomatch hf
          | succ n_49 ih_49 =>
            intro x4_49 x6_49 hf
            replace hf : b_X6_judge_49s1 fnd nnb nkd ncl ssize snum (ik_lp2 (b_X6_judge_49s1 fnd nnb nkd ncl ssize snum) n_49) x4_49 x6_49 = some (R, fnd_r) := hf
            unfold b_X6_judge_49s1 at hf
            refine ik_iload C 0 rfl dX6_judge_49 ?_
            refine ik_aload_n C 3 rfl rfl dX6_judge_51 ?_
            refine ik_get C inlX2 17 rfl rfl 1 (by decide) wl_45_8 rfl (v := .int (ssize 1)) rfl dX6_judge_52 ?_
            refine ik_icmp_ge C 109 dX6_judge_55 (by decide) (fun hc => ?_) (fun hc => ?_)
            · have hf := ik_pos hc hf
              refine ik_lload C 1 rfl dX6_judge_109 ?_
              refine ik_aload_n C 2 rfl rfl dX6_judge_111 ?_
              obtain ⟨r3, hc3, hf⟩ := ik_b1s hf
              refine ik_goR (ik_runV C (c_X5_occupied l D cI cS nw0 nw1 nw2 nw3 nw4 nnb nkd ncl ngr noc r3 hc3) mv_X5_occupied wl_29_22 ⟨rfl, rfl, Nat.le_of_ble_eq_true rfl, Nat.le_of_ble_eq_true rfl⟩ [3, 4, 5, 6, 7] rfl (by decide) 3 rfl rfl rfl rfl (Nat.le_of_ble_eq_true rfl) dX6_judge_112) rfl ?_
              refine ik_lcmp C dX6_judge_115 ?_
              refine ik_if_ne C 123 dX6_judge_116 (by decide) (fun hc => ?_) (fun hc => ?_)
              · have hf := ik_neg hc hf
                refine ik_bipush (v := (41 : Int32)) C (by decide) dX6_judge_123 ?_
                cases hf
                exact ik_iretW C hr hlk dX6_judge_125
              · have hf := ik_pos hc hf
                refine ik_iconst (v := (0 : Int32)) C (by decide) dX6_judge_119 ?_
                refine ik_goto C 125 dX6_judge_120 (by decide) ?_
                cases hf
                exact ik_iretW C hr hlk dX6_judge_125
            · have hf := ik_neg hc hf
              refine ik_aload_n C 3 rfl rfl dX6_judge_58 ?_
              refine ik_get C inlX2 17 rfl rfl 2 (by decide) wl_46_2 rfl (v := .ref s11) rfl dX6_judge_59 ?_
              refine ik_iload C 0 rfl dX6_judge_62 ?_
              have hg := ik_gdi hf
              have hf := ik_gdk hf
              refine ik_iald C 18 rfl hg dX6_judge_64 ?_
              refine ik_istore C [(7, .int ((snum 1) (x6_49).toNatClampNeg)), (6, .int x6_49), (4, .long x4_49), (3, .ref nw0), (2, .ref s10), (0, .ref o0), (1, .int x1)] (by decide) rfl dX6_judge_65 ?_
              refine ik_aload_n C 3 rfl rfl dX6_judge_67 ?_
              refine ik_iload C 0 rfl dX6_judge_68 ?_
              obtain ⟨r3, hc3, hf⟩ := ik_b1s hf
              refine ik_goR (ik_runV C (c_X5_isBlock l D cI cS nw0 nw1 nw2 nw3 nw4 nnb nkd ncl ngr noc ((snum 1) (x6_49).toNatClampNeg) r3 hc3) mv_X5_isBlock wl_8_7 ⟨rfl, rfl, Nat.le_of_ble_eq_true rfl, Nat.le_of_ble_eq_true rfl⟩ [3, 4, 5, 6, 7] rfl (by decide) 3 rfl rfl rfl rfl (Nat.le_of_ble_eq_true rfl) dX6_judge_70) rfl ?_
              refine ik_if_eq C 87 dX6_judge_73 (by decide) (fun hc => ?_) (fun hc => ?_)
              · have hf := ik_pos hc hf
                refine ik_iconst (v := (1 : Int32)) C (by decide) dX6_judge_87 ?_
                refine ik_iload C 1 rfl dX6_judge_88 ?_
                refine ik_iadd C dX6_judge_90 ?_
                cases hf
                exact ik_iretW C hr hlk dX6_judge_91
              · have hf := ik_neg hc hf
                refine ik_aload_n C 3 rfl rfl dX6_judge_76 ?_
                refine ik_iload C 0 rfl dX6_judge_77 ?_
                refine ik_lload C 2 rfl dX6_judge_79 ?_
                obtain ⟨r4, hc4, hf⟩ := ik_b1s hf
                refine ik_goR (ik_runV C (c_X5_isComer l D cI cS nw0 nw1 nw2 nw3 nw4 nnb nkd ncl ngr noc ((snum 1) (x6_49).toNatClampNeg) x4_49 r4 hc4) mv_X5_isComer wl_47_1 ⟨rfl, rfl, Nat.le_of_ble_eq_true rfl, Nat.le_of_ble_eq_true rfl⟩ [3, 4, 5, 6, 7] rfl (by decide) 3 rfl rfl rfl rfl (Nat.le_of_ble_eq_true rfl) dX6_judge_81) rfl ?_
                refine ik_if_ne C 92 dX6_judge_84 (by decide) (fun hc => ?_) (fun hc => ?_)
                · have hf := ik_neg hc hf
                  refine ik_lload C 2 rfl dX6_judge_92 ?_
                  refine ik_aload_n C 3 rfl rfl dX6_judge_94 ?_
                  refine ik_iload C 0 rfl dX6_judge_95 ?_
                  obtain ⟨r5, hc5, hf⟩ := ik_b1s hf
                  refine ik_goR (ik_runV C (c_X5_cellBit l D cI cS nw0 nw1 nw2 nw3 nw4 nnb nkd ncl ngr noc ((snum 1) (x6_49).toNatClampNeg) r5 hc5) mv_X5_cellBit wl_9_3 ⟨rfl, rfl, Nat.le_of_ble_eq_true rfl, Nat.le_of_ble_eq_true rfl⟩ [3, 4, 5, 6, 7] rfl (by decide) 3 rfl rfl rfl rfl (Nat.le_of_ble_eq_true rfl) dX6_judge_97) rfl ?_
                  refine ik_lor C dX6_judge_100 ?_
                  refine ik_lstore C [(4, .long (x4_49 ||| r5)), (7, .int ((snum 1) (x6_49).toNatClampNeg)), (6, .int x6_49), (3, .ref nw0), (2, .ref s10), (0, .ref o0), (1, .int x1)] (by decide) rfl dX6_judge_101 ?_
                  refine ik_iinc C [(6, .int (x6_49 + (1 : Int32))), (4, .long (x4_49 ||| r5)), (7, .int ((snum 1) (x6_49).toNatClampNeg)), (3, .ref nw0), (2, .ref s10), (0, .ref o0), (1, .int x1)] 2 rfl rfl (by decide) rfl dX6_judge_103 ?_
                  refine ik_goto C 49 dX6_judge_106 (by decide) ?_
                  exact ik_sub [0, 1, 3, 4, 5, 6] [(6, .int (x6_49 + (1 : Int32))), (4, .long (x4_49 ||| r5)), (3, .ref nw0), (2, .ref s10), (0, .ref o0), (1, .int x1)] rfl (ih_49 (x4_49 ||| r5) (x6_49 + (1 : Int32)) hf)
                · have hf := ik_pos hc hf
                  refine ik_iconst (v := (1 : Int32)) C (by decide) dX6_judge_87 ?_
                  refine ik_iload C 1 rfl dX6_judge_88 ?_
                  refine ik_iadd C dX6_judge_90 ?_
                  cases hf
                  exact ik_iretW C hr hlk dX6_judge_91
        exact hL_49 ik_fu (0 : Int64) (0 : Int32) hf
      · have hf := ik_neg hc hf
        refine ik_aload_n C 1 rfl rfl dX6_judge_28 ?_
        refine ik_ldc C wl_43_13 dX6_judge_29 ?_
        obtain ⟨r3, g4, hc4, hf⟩ := ik_b2s hf
        refine ik_goW [0, 1] rfl rfl (wz_X6ofns cI cS o0 np0 kp0 tp0 r0 t0 sh0 f0 nw0 nc0 np1 np2 np3 nw1 nw2 nw3 nw4 nc1 nc2 s00 s10 s20 s30 s01 s11 s21 s31 isk g4 nhour nair nrub nz nnb nkd ncl ngr noc nlit ncold nccell ncpow nsp nwm ndr sbits ssize snum) rfl (ik_runV C (c_X6_tell l D cI cS o0 np0 kp0 tp0 r0 t0 sh0 f0 isk fnd (-1000006 : Int32) r3 g4 hc4) mv_X6_tell wl_5_16 ⟨rfl, rfl, Nat.le_of_ble_eq_true rfl, Nat.le_of_ble_eq_true rfl⟩ [0, 1] rfl (by decide) 0 rfl rfl rfl rfl (Nat.le_of_ble_eq_true rfl) dX6_judge_31) rfl ?_
        cases hf
        exact ik_iretW C hr hlk dX6_judge_34
    · have hf := ik_neg hb0 hf; have hf := ik_neg hb1 hf; have hf := ik_pos hc hf
      refine ik_astore_n C [(2, .ref s20), (0, .ref o0), (1, .int x1)] rfl (by decide) rfl dX6_judge_20 ?_
      refine ik_aload_n C 0 rfl rfl dX6_judge_21 ?_
      obtain ⟨r2, hc2, hf⟩ := ik_b1s hf
      refine ik_goR (ik_runV C (c_X2_isMissing l D cI cS s20 s21 (sbits 2) (ssize 2) (snum 2) r2 hc2) mv_X2_isMissing wl_45_9 ⟨rfl, rfl, Nat.le_of_ble_eq_true rfl, Nat.le_of_ble_eq_true rfl⟩ [19, 20] rfl (by decide) 19 rfl rfl rfl rfl (Nat.le_of_ble_eq_true rfl) dX6_judge_22) rfl ?_
      refine ik_if_eq C 35 dX6_judge_25 (by decide) (fun hc => ?_) (fun hc => ?_)
      · have hf := ik_pos hc hf
        refine ik_aload_n C 1 rfl rfl dX6_judge_35 ?_
        refine ik_get C inlX6 0 rfl rfl 0 (by decide) wl_1_15 rfl (v := .ref np0) rfl dX6_judge_36 ?_
        refine ik_get C inlX1 2 rfl rfl 0 (by decide) wl_5_4 rfl (v := .ref nw0) rfl dX6_judge_39 ?_
        refine ik_astore_n C [(3, .ref nw0), (2, .ref s20), (0, .ref o0), (1, .int x1)] rfl (by decide) rfl dX6_judge_42 ?_
        refine ik_lconst (v := (0 : Int64)) C (by decide) dX6_judge_43 ?_
        refine ik_lstore C [(4, .long (0 : Int64)), (3, .ref nw0), (2, .ref s20), (0, .ref o0), (1, .int x1)] (by decide) rfl dX6_judge_44 ?_
        refine ik_iconst (v := (0 : Int32)) C (by decide) dX6_judge_46 ?_
        refine ik_istore C [(6, .int (0 : Int32)), (4, .long (0 : Int64)), (3, .ref nw0), (2, .ref s20), (0, .ref o0), (1, .int x1)] (by decide) rfl dX6_judge_47 ?_
        have hL_49 : ∀ (n_49 : Nat) (x4_49 : Int64) (x6_49 : Int32), ik_lp2 (b_X6_judge_49s2 fnd nnb nkd ncl ssize snum) n_49 x4_49 x6_49 = some (R, fnd_r) → ik_G p l e ({ frames := 2, cells := 0, slots := 0, locals := 50 } : Room) s m ([.ref o0, .int x1] : List Value).toArray below meth c D (ik_in (wz_X6ofns cI cS o0 np0 kp0 tp0 r0 t0 sh0 f0 nw0 nc0 np1 np2 np3 nw1 nw2 nw3 nw4 nc1 nc2 s00 s10 s20 s30 s01 s11 s21 s31 isk fnd nhour nair nrub nz nnb nkd ncl ngr noc nlit ncold nccell ncpow nsp nwm ndr sbits ssize snum)) (ik_in (wz_X6ofns cI cS o0 np0 kp0 tp0 r0 t0 sh0 f0 nw0 nc0 np1 np2 np3 nw1 nw2 nw3 nw4 nc1 nc2 s00 s10 s20 s30 s01 s11 s21 s31 isk fnd nhour nair nrub nz nnb nkd ncl ngr noc nlit ncold nccell ncpow nsp nwm ndr sbits ssize snum)) 8 (MQ below (ik_Q (some (.int R)) D (wz_X6ofns cI cS o0 np0 kp0 tp0 r0 t0 sh0 f0 nw0 nc0 np1 np2 np3 nw1 nw2 nw3 nw4 nc1 nc2 s00 s10 s20 s30 s01 s11 s21 s31 isk fnd_r nhour nair nrub nz nnb nkd ncl ngr noc nlit ncold nccell ncpow nsp nwm ndr sbits ssize snum) (wz_X6ofns cI cS o0 np0 kp0 tp0 r0 t0 sh0 f0 nw0 nc0 np1 np2 np3 nw1 nw2 nw3 nw4 nc1 nc2 s00 s10 s20 s30 s01 s11 s21 s31 isk fnd nhour nair nrub nz nnb nkd ncl ngr noc nlit ncold nccell ncpow nsp nwm ndr sbits ssize snum)) ([.ref o0, .int x1] : List Value).toArray s 0 0 (ik_in (wz_X6ofns cI cS o0 np0 kp0 tp0 r0 t0 sh0 f0 nw0 nc0 np1 np2 np3 nw1 nw2 nw3 nw4 nc1 nc2 s00 s10 s20 s30 s01 s11 s21 s31 isk fnd nhour nair nrub nz nnb nkd ncl ngr noc nlit ncold nccell ncpow nsp nwm ndr sbits ssize snum))) 49 [(6, .int x6_49), (4, .long x4_49), (3, .ref nw0), (2, .ref s20), (0, .ref o0), (1, .int x1)] [] (wz_X6ofns cI cS o0 np0 kp0 tp0 r0 t0 sh0 f0 nw0 nc0 np1 np2 np3 nw1 nw2 nw3 nw4 nc1 nc2 s00 s10 s20 s30 s01 s11 s21 s31 isk fnd nhour nair nrub nz nnb nkd ncl ngr noc nlit ncold nccell ncpow nsp nwm ndr sbits ssize snum) := by
          intro n_49
          induction n_49 with
          | zero => intro _ _ hf; exact nomatch hf
          | succ n_49 ih_49 =>
            intro x4_49 x6_49 hf
            replace hf : b_X6_judge_49s2 fnd nnb nkd ncl ssize snum (ik_lp2 (b_X6_judge_49s2 fnd nnb nkd ncl ssize snum) n_49) x4_49 x6_49 = some (R, fnd_r) := hf
            unfold b_X6_judge_49s2 at hf
            refine ik_iload C 0 rfl dX6_judge_49 ?_
            refine ik_aload_n C 3 rfl rfl dX6_judge_51 ?_
            refine ik_get C inlX2 19 rfl rfl 1 (by decide) wl_45_8 rfl (v := .int (ssize 2)) rfl dX6_judge_52 ?_
            refine ik_icmp_ge C 109 dX6_judge_55 (by decide) (fun hc => ?_) (fun hc => ?_)
            · have hf := ik_pos hc hf
              refine ik_lload C 1 rfl dX6_judge_109 ?_
              refine ik_aload_n C 2 rfl rfl dX6_judge_111 ?_
              obtain ⟨r3, hc3, hf⟩ := ik_b1s hf
              refine ik_goR (ik_runV C (c_X5_occupied l D cI cS nw0 nw1 nw2 nw3 nw4 nnb nkd ncl ngr noc r3 hc3) mv_X5_occupied wl_29_22 ⟨rfl, rfl, Nat.le_of_ble_eq_true rfl, Nat.le_of_ble_eq_true rfl⟩ [3, 4, 5, 6, 7] rfl (by decide) 3 rfl rfl rfl rfl (Nat.le_of_ble_eq_true rfl) dX6_judge_112) rfl ?_
              refine ik_lcmp C dX6_judge_115 ?_
              refine ik_if_ne C 123 dX6_judge_116 (by decide) (fun hc => ?_) (fun hc => ?_)
              · have hf := ik_neg hc hf
                refine ik_bipush (v := (41 : Int32)) C (by decide) dX6_judge_123 ?_
                cases hf
                exact ik_iretW C hr hlk dX6_judge_125
              · have hf := ik_pos hc hf
                refine ik_iconst (v := (0 : Int32)) C (by decide) dX6_judge_119 ?_
                refine ik_goto C 125 dX6_judge_120 (by decide) ?_
                cases hf
                exact ik_iretW C hr hlk dX6_judge_125
            · have hf := ik_neg hc hf
              refine ik_aload_n C 3 rfl rfl dX6_judge_58 ?_
              refine ik_get C inlX2 19 rfl rfl 2 (by decide) wl_46_2 rfl (v := .ref s21) rfl dX6_judge_59 ?_
              refine ik_iload C 0 rfl dX6_judge_62 ?_
              have hg := ik_gdi hf
              have hf := ik_gdk hf
              refine ik_iald C 20 rfl hg dX6_judge_64 ?_
              refine ik_istore C [(7, .int ((snum 2) (x6_49).toNatClampNeg)), (6, .int x6_49), (4, .long x4_49), (3, .ref nw0), (2, .ref s20), (0, .ref o0), (1, .int x1)] (by decide) rfl dX6_judge_65 ?_
              refine ik_aload_n C 3 rfl rfl dX6_judge_67 ?_
              refine ik_iload C 0 rfl dX6_judge_68 ?_
              obtain ⟨r3, hc3, hf⟩ := ik_b1s hf
              refine ik_goR (ik_runV C (c_X5_isBlock l D cI cS nw0 nw1 nw2 nw3 nw4 nnb nkd ncl ngr noc ((snum 2) (x6_49).toNatClampNeg) r3 hc3) mv_X5_isBlock wl_8_7 ⟨rfl, rfl, Nat.le_of_ble_eq_true rfl, Nat.le_of_ble_eq_true rfl⟩ [3, 4, 5, 6, 7] rfl (by decide) 3 rfl rfl rfl rfl (Nat.le_of_ble_eq_true rfl) dX6_judge_70) rfl ?_
              refine ik_if_eq C 87 dX6_judge_73 (by decide) (fun hc => ?_) (fun hc => ?_)
              · have hf := ik_pos hc hf
                refine ik_iconst (v := (1 : Int32)) C (by decide) dX6_judge_87 ?_
                refine ik_iload C 1 rfl dX6_judge_88 ?_
                refine ik_iadd C dX6_judge_90 ?_
                cases hf
                exact ik_iretW C hr hlk dX6_judge_91
              · have hf := ik_neg hc hf
                refine ik_aload_n C 3 rfl rfl dX6_judge_76 ?_
                refine ik_iload C 0 rfl dX6_judge_77 ?_
                refine ik_lload C 2 rfl dX6_judge_79 ?_
                obtain ⟨r4, hc4, hf⟩ := ik_b1s hf
                refine ik_goR (ik_runV C (c_X5_isComer l D cI cS nw0 nw1 nw2 nw3 nw4 nnb nkd ncl ngr noc ((snum 2) (x6_49).toNatClampNeg) x4_49 r4 hc4) mv_X5_isComer wl_47_1 ⟨rfl, rfl, Nat.le_of_ble_eq_true rfl, Nat.le_of_ble_eq_true rfl⟩ [3, 4, 5, 6, 7] rfl (by decide) 3 rfl rfl rfl rfl (Nat.le_of_ble_eq_true rfl) dX6_judge_81) rfl ?_
                refine ik_if_ne C 92 dX6_judge_84 (by decide) (fun hc => ?_) (fun hc => ?_)
                · have hf := ik_neg hc hf
                  refine ik_lload C 2 rfl dX6_judge_92 ?_
                  refine ik_aload_n C 3 rfl rfl dX6_judge_94 ?_
                  refine ik_iload C 0 rfl dX6_judge_95 ?_
                  obtain ⟨r5, hc5, hf⟩ := ik_b1s hf
                  refine ik_goR (ik_runV C (c_X5_cellBit l D cI cS nw0 nw1 nw2 nw3 nw4 nnb nkd ncl ngr noc ((snum 2) (x6_49).toNatClampNeg) r5 hc5) mv_X5_cellBit wl_9_3 ⟨rfl, rfl, Nat.le_of_ble_eq_true rfl, Nat.le_of_ble_eq_true rfl⟩ [3, 4, 5, 6, 7] rfl (by decide) 3 rfl rfl rfl rfl (Nat.le_of_ble_eq_true rfl) dX6_judge_97) rfl ?_
                  refine ik_lor C dX6_judge_100 ?_
                  refine ik_lstore C [(4, .long (x4_49 ||| r5)), (7, .int ((snum 2) (x6_49).toNatClampNeg)), (6, .int x6_49), (3, .ref nw0), (2, .ref s20), (0, .ref o0), (1, .int x1)] (by decide) rfl dX6_judge_101 ?_
                  refine ik_iinc C [(6, .int (x6_49 + (1 : Int32))), (4, .long (x4_49 ||| r5)), (7, .int ((snum 2) (x6_49).toNatClampNeg)), (3, .ref nw0), (2, .ref s20), (0, .ref o0), (1, .int x1)] 2 rfl rfl (by decide) rfl dX6_judge_103 ?_
                  refine ik_goto C 49 dX6_judge_106 (by decide) ?_
                  exact ik_sub [0, 1, 3, 4, 5, 6] [(6, .int (x6_49 + (1 : Int32))), (4, .long (x4_49 ||| r5)), (3, .ref nw0), (2, .ref s20), (0, .ref o0), (1, .int x1)] rfl (ih_49 (x4_49 ||| r5) (x6_49 + (1 : Int32)) hf)
                · have hf := ik_pos hc hf
                  refine ik_iconst (v := (1 : Int32)) C (by decide) dX6_judge_87 ?_
                  refine ik_iload C 1 rfl dX6_judge_88 ?_
                  refine ik_iadd C dX6_judge_90 ?_
                  cases hf
                  exact ik_iretW C hr hlk dX6_judge_91
        exact hL_49 ik_fu (0 : Int64) (0 : Int32) hf
      · have hf := ik_neg hc hf
        refine ik_aload_n C 1 rfl rfl dX6_judge_28 ?_
        refine ik_ldc C wl_43_13 dX6_judge_29 ?_
        obtain ⟨r3, g4, hc4, hf⟩ := ik_b2s hf
        refine ik_goW [0, 1] rfl rfl (wz_X6ofns cI cS o0 np0 kp0 tp0 r0 t0 sh0 f0 nw0 nc0 np1 np2 np3 nw1 nw2 nw3 nw4 nc1 nc2 s00 s10 s20 s30 s01 s11 s21 s31 isk g4 nhour nair nrub nz nnb nkd ncl ngr noc nlit ncold nccell ncpow nsp nwm ndr sbits ssize snum) rfl (ik_runV C (c_X6_tell l D cI cS o0 np0 kp0 tp0 r0 t0 sh0 f0 isk fnd (-1000006 : Int32) r3 g4 hc4) mv_X6_tell wl_5_16 ⟨rfl, rfl, Nat.le_of_ble_eq_true rfl, Nat.le_of_ble_eq_true rfl⟩ [0, 1] rfl (by decide) 0 rfl rfl rfl rfl (Nat.le_of_ble_eq_true rfl) dX6_judge_31) rfl ?_
        cases hf
        exact ik_iretW C hr hlk dX6_judge_34
    · have hf := ik_neg hb0 hf; have hf := ik_neg hb1 hf; have hf := ik_neg hb2 hf
      refine ik_astore_n C [(2, .ref s30), (0, .ref o0), (1, .int x1)] rfl (by decide) rfl dX6_judge_20 ?_
      refine ik_aload_n C 0 rfl rfl dX6_judge_21 ?_
      obtain ⟨r2, hc2, hf⟩ := ik_b1s hf
      refine ik_goR (ik_runV C (c_X2_isMissing l D cI cS s30 s31 (sbits 3) (ssize 3) (snum 3) r2 hc2) mv_X2_isMissing wl_45_9 ⟨rfl, rfl, Nat.le_of_ble_eq_true rfl, Nat.le_of_ble_eq_true rfl⟩ [21, 22] rfl (by decide) 21 rfl rfl rfl rfl (Nat.le_of_ble_eq_true rfl) dX6_judge_22) rfl ?_
      refine ik_if_eq C 35 dX6_judge_25 (by decide) (fun hc => ?_) (fun hc => ?_)
      · have hf := ik_pos hc hf
        refine ik_aload_n C 1 rfl rfl dX6_judge_35 ?_
        refine ik_get C inlX6 0 rfl rfl 0 (by decide) wl_1_15 rfl (v := .ref np0) rfl dX6_judge_36 ?_
        refine ik_get C inlX1 2 rfl rfl 0 (by decide) wl_5_4 rfl (v := .ref nw0) rfl dX6_judge_39 ?_
        refine ik_astore_n C [(3, .ref nw0), (2, .ref s30), (0, .ref o0), (1, .int x1)] rfl (by decide) rfl dX6_judge_42 ?_
        refine ik_lconst (v := (0 : Int64)) C (by decide) dX6_judge_43 ?_
        refine ik_lstore C [(4, .long (0 : Int64)), (3, .ref nw0), (2, .ref s30), (0, .ref o0), (1, .int x1)] (by decide) rfl dX6_judge_44 ?_
        refine ik_iconst (v := (0 : Int32)) C (by decide) dX6_judge_46 ?_
        refine ik_istore C [(6, .int (0 : Int32)), (4, .long (0 : Int64)), (3, .ref nw0), (2, .ref s30), (0, .ref o0), (1, .int x1)] (by decide) rfl dX6_judge_47 ?_
        have hL_49 : ∀ (n_49 : Nat) (x4_49 : Int64) (x6_49 : Int32), ik_lp2 (b_X6_judge_49s3 fnd nnb nkd ncl ssize snum) n_49 x4_49 x6_49 = some (R, fnd_r) → ik_G p l e ({ frames := 2, cells := 0, slots := 0, locals := 50 } : Room) s m ([.ref o0, .int x1] : List Value).toArray below meth c D (ik_in (wz_X6ofns cI cS o0 np0 kp0 tp0 r0 t0 sh0 f0 nw0 nc0 np1 np2 np3 nw1 nw2 nw3 nw4 nc1 nc2 s00 s10 s20 s30 s01 s11 s21 s31 isk fnd nhour nair nrub nz nnb nkd ncl ngr noc nlit ncold nccell ncpow nsp nwm ndr sbits ssize snum)) (ik_in (wz_X6ofns cI cS o0 np0 kp0 tp0 r0 t0 sh0 f0 nw0 nc0 np1 np2 np3 nw1 nw2 nw3 nw4 nc1 nc2 s00 s10 s20 s30 s01 s11 s21 s31 isk fnd nhour nair nrub nz nnb nkd ncl ngr noc nlit ncold nccell ncpow nsp nwm ndr sbits ssize snum)) 8 (MQ below (ik_Q (some (.int R)) D (wz_X6ofns cI cS o0 np0 kp0 tp0 r0 t0 sh0 f0 nw0 nc0 np1 np2 np3 nw1 nw2 nw3 nw4 nc1 nc2 s00 s10 s20 s30 s01 s11 s21 s31 isk fnd_r nhour nair nrub nz nnb nkd ncl ngr noc nlit ncold nccell ncpow nsp nwm ndr sbits ssize snum) (wz_X6ofns cI cS o0 np0 kp0 tp0 r0 t0 sh0 f0 nw0 nc0 np1 np2 np3 nw1 nw2 nw3 nw4 nc1 nc2 s00 s10 s20 s30 s01 s11 s21 s31 isk fnd nhour nair nrub nz nnb nkd ncl ngr noc nlit ncold nccell ncpow nsp nwm ndr sbits ssize snum)) ([.ref o0, .int x1] : List Value).toArray s 0 0 (ik_in (wz_X6ofns cI cS o0 np0 kp0 tp0 r0 t0 sh0 f0 nw0 nc0 np1 np2 np3 nw1 nw2 nw3 nw4 nc1 nc2 s00 s10 s20 s30 s01 s11 s21 s31 isk fnd nhour nair nrub nz nnb nkd ncl ngr noc nlit ncold nccell ncpow nsp nwm ndr sbits ssize snum))) 49 [(6, .int x6_49), (4, .long x4_49), (3, .ref nw0), (2, .ref s30), (0, .ref o0), (1, .int x1)] [] (wz_X6ofns cI cS o0 np0 kp0 tp0 r0 t0 sh0 f0 nw0 nc0 np1 np2 np3 nw1 nw2 nw3 nw4 nc1 nc2 s00 s10 s20 s30 s01 s11 s21 s31 isk fnd nhour nair nrub nz nnb nkd ncl ngr noc nlit ncold nccell ncpow nsp nwm ndr sbits ssize snum) := by
          intro n_49
          induction n_49 with
          | zero => intro _ _ hf; exact nomatch hf
          | succ n_49 ih_49 =>
            intro x4_49 x6_49 hf
            replace hf : b_X6_judge_49s3 fnd nnb nkd ncl ssize snum (ik_lp2 (b_X6_judge_49s3 fnd nnb nkd ncl ssize snum) n_49) x4_49 x6_49 = some (R, fnd_r) := hf
            unfold b_X6_judge_49s3 at hf
            refine ik_iload C 0 rfl dX6_judge_49 ?_
            refine ik_aload_n C 3 rfl rfl dX6_judge_51 ?_
            refine ik_get C inlX2 21 rfl rfl 1 (by decide) wl_45_8 rfl (v := .int (ssize 3)) rfl dX6_judge_52 ?_
            refine ik_icmp_ge C 109 dX6_judge_55 (by decide) (fun hc => ?_) (fun hc => ?_)
            · have hf := ik_pos hc hf
              refine ik_lload C 1 rfl dX6_judge_109 ?_
              refine ik_aload_n C 2 rfl rfl dX6_judge_111 ?_
              obtain ⟨r3, hc3, hf⟩ := ik_b1s hf
              refine ik_goR (ik_runV C (c_X5_occupied l D cI cS nw0 nw1 nw2 nw3 nw4 nnb nkd ncl ngr noc r3 hc3) mv_X5_occupied wl_29_22 ⟨rfl, rfl, Nat.le_of_ble_eq_true rfl, Nat.le_of_ble_eq_true rfl⟩ [3, 4, 5, 6, 7] rfl (by decide) 3 rfl rfl rfl rfl (Nat.le_of_ble_eq_true rfl) dX6_judge_112) rfl ?_
              refine ik_lcmp C dX6_judge_115 ?_
              refine ik_if_ne C 123 dX6_judge_116 (by decide) (fun hc => ?_) (fun hc => ?_)
              · have hf := ik_neg hc hf
                refine ik_bipush (v := (41 : Int32)) C (by decide) dX6_judge_123 ?_
                cases hf
                exact ik_iretW C hr hlk dX6_judge_125
              · have hf := ik_pos hc hf
                refine ik_iconst (v := (0 : Int32)) C (by decide) dX6_judge_119 ?_
                refine ik_goto C 125 dX6_judge_120 (by decide) ?_
                cases hf
                exact ik_iretW C hr hlk dX6_judge_125
            · have hf := ik_neg hc hf
              refine ik_aload_n C 3 rfl rfl dX6_judge_58 ?_
              refine ik_get C inlX2 21 rfl rfl 2 (by decide) wl_46_2 rfl (v := .ref s31) rfl dX6_judge_59 ?_
              refine ik_iload C 0 rfl dX6_judge_62 ?_
              have hg := ik_gdi hf
              have hf := ik_gdk hf
              refine ik_iald C 22 rfl hg dX6_judge_64 ?_
              refine ik_istore C [(7, .int ((snum 3) (x6_49).toNatClampNeg)), (6, .int x6_49), (4, .long x4_49), (3, .ref nw0), (2, .ref s30), (0, .ref o0), (1, .int x1)] (by decide) rfl dX6_judge_65 ?_
              refine ik_aload_n C 3 rfl rfl dX6_judge_67 ?_
              refine ik_iload C 0 rfl dX6_judge_68 ?_
              obtain ⟨r3, hc3, hf⟩ := ik_b1s hf
              refine ik_goR (ik_runV C (c_X5_isBlock l D cI cS nw0 nw1 nw2 nw3 nw4 nnb nkd ncl ngr noc ((snum 3) (x6_49).toNatClampNeg) r3 hc3) mv_X5_isBlock wl_8_7 ⟨rfl, rfl, Nat.le_of_ble_eq_true rfl, Nat.le_of_ble_eq_true rfl⟩ [3, 4, 5, 6, 7] rfl (by decide) 3 rfl rfl rfl rfl (Nat.le_of_ble_eq_true rfl) dX6_judge_70) rfl ?_
              refine ik_if_eq C 87 dX6_judge_73 (by decide) (fun hc => ?_) (fun hc => ?_)
              · have hf := ik_pos hc hf
                refine ik_iconst (v := (1 : Int32)) C (by decide) dX6_judge_87 ?_
                refine ik_iload C 1 rfl dX6_judge_88 ?_
                refine ik_iadd C dX6_judge_90 ?_
                cases hf
                exact ik_iretW C hr hlk dX6_judge_91
              · have hf := ik_neg hc hf
                refine ik_aload_n C 3 rfl rfl dX6_judge_76 ?_
                refine ik_iload C 0 rfl dX6_judge_77 ?_
                refine ik_lload C 2 rfl dX6_judge_79 ?_
                obtain ⟨r4, hc4, hf⟩ := ik_b1s hf
                refine ik_goR (ik_runV C (c_X5_isComer l D cI cS nw0 nw1 nw2 nw3 nw4 nnb nkd ncl ngr noc ((snum 3) (x6_49).toNatClampNeg) x4_49 r4 hc4) mv_X5_isComer wl_47_1 ⟨rfl, rfl, Nat.le_of_ble_eq_true rfl, Nat.le_of_ble_eq_true rfl⟩ [3, 4, 5, 6, 7] rfl (by decide) 3 rfl rfl rfl rfl (Nat.le_of_ble_eq_true rfl) dX6_judge_81) rfl ?_
                refine ik_if_ne C 92 dX6_judge_84 (by decide) (fun hc => ?_) (fun hc => ?_)
                · have hf := ik_neg hc hf
                  refine ik_lload C 2 rfl dX6_judge_92 ?_
                  refine ik_aload_n C 3 rfl rfl dX6_judge_94 ?_
                  refine ik_iload C 0 rfl dX6_judge_95 ?_
                  obtain ⟨r5, hc5, hf⟩ := ik_b1s hf
                  refine ik_goR (ik_runV C (c_X5_cellBit l D cI cS nw0 nw1 nw2 nw3 nw4 nnb nkd ncl ngr noc ((snum 3) (x6_49).toNatClampNeg) r5 hc5) mv_X5_cellBit wl_9_3 ⟨rfl, rfl, Nat.le_of_ble_eq_true rfl, Nat.le_of_ble_eq_true rfl⟩ [3, 4, 5, 6, 7] rfl (by decide) 3 rfl rfl rfl rfl (Nat.le_of_ble_eq_true rfl) dX6_judge_97) rfl ?_
                  refine ik_lor C dX6_judge_100 ?_
                  refine ik_lstore C [(4, .long (x4_49 ||| r5)), (7, .int ((snum 3) (x6_49).toNatClampNeg)), (6, .int x6_49), (3, .ref nw0), (2, .ref s30), (0, .ref o0), (1, .int x1)] (by decide) rfl dX6_judge_101 ?_
                  refine ik_iinc C [(6, .int (x6_49 + (1 : Int32))), (4, .long (x4_49 ||| r5)), (7, .int ((snum 3) (x6_49).toNatClampNeg)), (3, .ref nw0), (2, .ref s30), (0, .ref o0), (1, .int x1)] 2 rfl rfl (by decide) rfl dX6_judge_103 ?_
                  refine ik_goto C 49 dX6_judge_106 (by decide) ?_
                  exact ik_sub [0, 1, 3, 4, 5, 6] [(6, .int (x6_49 + (1 : Int32))), (4, .long (x4_49 ||| r5)), (3, .ref nw0), (2, .ref s30), (0, .ref o0), (1, .int x1)] rfl (ih_49 (x4_49 ||| r5) (x6_49 + (1 : Int32)) hf)
                · have hf := ik_pos hc hf
                  refine ik_iconst (v := (1 : Int32)) C (by decide) dX6_judge_87 ?_
                  refine ik_iload C 1 rfl dX6_judge_88 ?_
                  refine ik_iadd C dX6_judge_90 ?_
                  cases hf
                  exact ik_iretW C hr hlk dX6_judge_91
        exact hL_49 ik_fu (0 : Int64) (0 : Int32) hf
      · have hf := ik_neg hc hf
        refine ik_aload_n C 1 rfl rfl dX6_judge_28 ?_
        refine ik_ldc C wl_43_13 dX6_judge_29 ?_
        obtain ⟨r3, g4, hc4, hf⟩ := ik_b2s hf
        refine ik_goW [0, 1] rfl rfl (wz_X6ofns cI cS o0 np0 kp0 tp0 r0 t0 sh0 f0 nw0 nc0 np1 np2 np3 nw1 nw2 nw3 nw4 nc1 nc2 s00 s10 s20 s30 s01 s11 s21 s31 isk g4 nhour nair nrub nz nnb nkd ncl ngr noc nlit ncold nccell ncpow nsp nwm ndr sbits ssize snum) rfl (ik_runV C (c_X6_tell l D cI cS o0 np0 kp0 tp0 r0 t0 sh0 f0 isk fnd (-1000006 : Int32) r3 g4 hc4) mv_X6_tell wl_5_16 ⟨rfl, rfl, Nat.le_of_ble_eq_true rfl, Nat.le_of_ble_eq_true rfl⟩ [0, 1] rfl (by decide) 0 rfl rfl rfl rfl (Nat.le_of_ble_eq_true rfl) dX6_judge_31) rfl ?_
        cases hf
        exact ik_iretW C hr hlk dX6_judge_34
  · have hf := ik_pos hc hf
    refine ik_aload_n C 0 rfl rfl dX6_judge_7 ?_
    refine ik_ldc C wl_5_3 dX6_judge_8 ?_
    obtain ⟨r2, g3, hc3, hf⟩ := ik_b2s hf
    refine ik_goW [0, 1] rfl rfl (wz_X6ofns cI cS o0 np0 kp0 tp0 r0 t0 sh0 f0 nw0 nc0 np1 np2 np3 nw1 nw2 nw3 nw4 nc1 nc2 s00 s10 s20 s30 s01 s11 s21 s31 isk g3 nhour nair nrub nz nnb nkd ncl ngr noc nlit ncold nccell ncpow nsp nwm ndr sbits ssize snum) rfl (ik_runV C (c_X6_tell l D cI cS o0 np0 kp0 tp0 r0 t0 sh0 f0 isk fnd (-1000001 : Int32) r2 g3 hc3) mv_X6_tell wl_5_16 ⟨rfl, rfl, Nat.le_of_ble_eq_true rfl, Nat.le_of_ble_eq_true rfl⟩ [0, 1] rfl (by decide) 0 rfl rfl rfl rfl (Nat.le_of_ble_eq_true rfl) dX6_judge_10) rfl ?_
    cases hf
    exact ik_iretW C hr hlk dX6_judge_13
