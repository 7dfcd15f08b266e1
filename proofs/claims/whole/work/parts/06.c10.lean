theorem mv_X4_kindOfWord : ik_V yX4_kindOfWord RX4 cX4_kindOfWord 1 (some .int) 0 := ⟨wl_37_3, wl_37_4, wl_1_20, wl_37_5, by decide +kernel⟩
set_option maxHeartbeats 4000000 in
set_option maxRecDepth 100000 in
theorem c_X4_kindOfWord (l : Launch) (D : va_G) (cI cS : ClassId) (aK aV : Nat → Nat) (ka : Nat) (r0 t0 t1 : Nat) (tok : Int32) (sta : Int32) (en : Int32) (val : Int32) (tsize : Int32) (tby : Nat → Int32) (R : Int32) (hf : f_X4_kindOfWord tok sta en tsize tby = some (R)) : Met l yX4_kindOfWord (ik_ws yX4_kindOfWord cX4_kindOfWord 1 (some .int)) ({ frames := 5, cells := 0, slots := 0, locals := 133 } : Room) (ik_PZ D cI cS aK aV ka [.ref r0] (wz_X4 cI cS r0 t0 t1 tok sta en val tsize tby)) (ik_R (some (.int R))) 0 0 ik_no := by
  refine ik_metRZ RX4 rfl (by decide) (Nat.le_of_ble_eq_true rfl) [(0, .ref r0)] rfl ?_
  intro p e s m below meth c C hr hlk hZ
  unfold f_X4_kindOfWord at hf
  refine ik_aload_n C 0 rfl rfl dX4_kindOfWord_0 ?_
  refine ik_ldcS C (hZ.1 6 (by decide)).2.2.2.2 dX4_kindOfWord_1 ?_
  obtain ⟨r1, hc1, hf⟩ := ik_b1s hf
  have hM := (c_X4_isWord l D cI cS aK aV ka 6 (by decide) r0 t0 t1 tok sta en val tsize tby r1 hc1)
  refine ik_goR (ik_runVZ (st := []) (As := [.ref (aK 6)]) C hZ ik_noA ik_hBr hM mv_X4_isWord wl_37_6 ⟨rfl, rfl, Nat.le_of_ble_eq_true rfl, Nat.le_of_ble_eq_true rfl⟩ [0, 1, 2] rfl (by decide +kernel) 0 rfl rfl rfl rfl (Nat.le_of_ble_eq_true rfl) dX4_kindOfWord_3 ⟨Nat.zero_le _, Nat.zero_le _⟩) rfl ?_
  refine ik_if_eq C 11 dX4_kindOfWord_6 (by decide) (fun hc => ?_) (fun hc => ?_)
  · have hf := ik_pos hc hf
    refine ik_aload_n C 0 rfl rfl dX4_kindOfWord_11 ?_
    refine ik_ldcS C (hZ.1 7 (by decide)).2.2.2.2 dX4_kindOfWord_12 ?_
    obtain ⟨r2, hc2, hf⟩ := ik_b1s hf
    have hM := (c_X4_isWord l D cI cS aK aV ka 7 (by decide) r0 t0 t1 tok sta en val tsize tby r2 hc2)
    refine ik_goR (ik_runVZ (st := []) (As := [.ref (aK 7)]) C hZ ik_noA ik_hBr hM mv_X4_isWord wl_37_6 ⟨rfl, rfl, Nat.le_of_ble_eq_true rfl, Nat.le_of_ble_eq_true rfl⟩ [0, 1, 2] rfl (by decide +kernel) 0 rfl rfl rfl rfl (Nat.le_of_ble_eq_true rfl) dX4_kindOfWord_14 ⟨Nat.zero_le _, Nat.zero_le _⟩) rfl ?_
    refine ik_if_eq C 22 dX4_kindOfWord_17 (by decide) (fun hc => ?_) (fun hc => ?_)
    · have hf := ik_pos hc hf
      refine ik_aload_n C 0 rfl rfl dX4_kindOfWord_22 ?_
      refine ik_ldcS C (hZ.1 8 (by decide)).2.2.2.2 dX4_kindOfWord_23 ?_
      obtain ⟨r3, hc3, hf⟩ := ik_b1s hf
      have hM := (c_X4_isWord l D cI cS aK aV ka 8 (by decide) r0 t0 t1 tok sta en val tsize tby r3 hc3)
      refine ik_goR (ik_runVZ (st := []) (As := [.ref (aK 8)]) C hZ ik_noA ik_hBr hM mv_X4_isWord wl_37_6 ⟨rfl, rfl, Nat.le_of_ble_eq_true rfl, Nat.le_of_ble_eq_true rfl⟩ [0, 1, 2] rfl (by decide +kernel) 0 rfl rfl rfl rfl (Nat.le_of_ble_eq_true rfl) dX4_kindOfWord_25 ⟨Nat.zero_le _, Nat.zero_le _⟩) rfl ?_
      refine ik_if_eq C 33 dX4_kindOfWord_28 (by decide) (fun hc => ?_) (fun hc => ?_)
      · have hf := ik_pos hc hf
        refine ik_aload_n C 0 rfl rfl dX4_kindOfWord_33 ?_
        refine ik_ldcS C (hZ.1 9 (by decide)).2.2.2.2 dX4_kindOfWord_34 ?_
        obtain ⟨r4, hc4, hf⟩ := ik_b1s hf
        have hM := (c_X4_isWord l D cI cS aK aV ka 9 (by decide) r0 t0 t1 tok sta en val tsize tby r4 hc4)
        refine ik_goR (ik_runVZ (st := []) (As := [.ref (aK 9)]) C hZ ik_noA ik_hBr hM mv_X4_isWord wl_37_6 ⟨rfl, rfl, Nat.le_of_ble_eq_true rfl, Nat.le_of_ble_eq_true rfl⟩ [0, 1, 2] rfl (by decide +kernel) 0 rfl rfl rfl rfl (Nat.le_of_ble_eq_true rfl) dX4_kindOfWord_36 ⟨Nat.zero_le _, Nat.zero_le _⟩) rfl ?_
        refine ik_if_eq C 44 dX4_kindOfWord_39 (by decide) (fun hc => ?_) (fun hc => ?_)
        · have hf := ik_pos hc hf
          refine ik_aload_n C 0 rfl rfl dX4_kindOfWord_44 ?_
          refine ik_ldcS C (hZ.1 10 (by decide)).2.2.2.2 dX4_kindOfWord_45 ?_
          obtain ⟨r5, hc5, hf⟩ := ik_b1s hf
          have hM := (c_X4_isWord l D cI cS aK aV ka 10 (by decide) r0 t0 t1 tok sta en val tsize tby r5 hc5)
          refine ik_goR (ik_runVZ (st := []) (As := [.ref (aK 10)]) C hZ ik_noA ik_hBr hM mv_X4_isWord wl_37_6 ⟨rfl, rfl, Nat.le_of_ble_eq_true rfl, Nat.le_of_ble_eq_true rfl⟩ [0, 1, 2] rfl (by decide +kernel) 0 rfl rfl rfl rfl (Nat.le_of_ble_eq_true rfl) dX4_kindOfWord_47 ⟨Nat.zero_le _, Nat.zero_le _⟩) rfl ?_
          refine ik_if_eq C 55 dX4_kindOfWord_50 (by decide) (fun hc => ?_) (fun hc => ?_)
          · have hf := ik_pos hc hf
            refine ik_aload_n C 0 rfl rfl dX4_kindOfWord_55 ?_
            refine ik_ldcS C (hZ.1 11 (by decide)).2.2.2.2 dX4_kindOfWord_56 ?_
            obtain ⟨r6, hc6, hf⟩ := ik_b1s hf
            have hM := (c_X4_isWord l D cI cS aK aV ka 11 (by decide) r0 t0 t1 tok sta en val tsize tby r6 hc6)
            refine ik_goR (ik_runVZ (st := []) (As := [.ref (aK 11)]) C hZ ik_noA ik_hBr hM mv_X4_isWord wl_37_6 ⟨rfl, rfl, Nat.le_of_ble_eq_true rfl, Nat.le_of_ble_eq_true rfl⟩ [0, 1, 2] rfl (by decide +kernel) 0 rfl rfl rfl rfl (Nat.le_of_ble_eq_true rfl) dX4_kindOfWord_58 ⟨Nat.zero_le _, Nat.zero_le _⟩) rfl ?_
            refine ik_if_eq C 66 dX4_kindOfWord_61 (by decide) (fun hc => ?_) (fun hc => ?_)
            · have hf := ik_pos hc hf
              refine ik_aload_n C 0 rfl rfl dX4_kindOfWord_66 ?_
              refine ik_ldcS C (hZ.1 12 (by decide)).2.2.2.2 dX4_kindOfWord_67 ?_
              obtain ⟨r7, hc7, hf⟩ := ik_b1s hf
              have hM := (c_X4_isWord l D cI cS aK aV ka 12 (by decide) r0 t0 t1 tok sta en val tsize tby r7 hc7)
              refine ik_goR (ik_runVZ (st := []) (As := [.ref (aK 12)]) C hZ ik_noA ik_hBr hM mv_X4_isWord wl_37_6 ⟨rfl, rfl, Nat.le_of_ble_eq_true rfl, Nat.le_of_ble_eq_true rfl⟩ [0, 1, 2] rfl (by decide +kernel) 0 rfl rfl rfl rfl (Nat.le_of_ble_eq_true rfl) dX4_kindOfWord_69 ⟨Nat.zero_le _, Nat.zero_le _⟩) rfl ?_
              refine ik_if_eq C 80 dX4_kindOfWord_72 (by decide) (fun hc => ?_) (fun hc => ?_)
              · have hf := ik_pos hc hf
                refine ik_iconst (v := (-1 : Int32)) C (by decide) dX4_kindOfWord_80 ?_
                obtain rfl := Option.some.inj hf
                exact ik_iretR C hr hlk dX4_kindOfWord_81
              · have hf := ik_neg hc hf
                refine ik_bipush (v := (6 : Int32)) C (by decide) dX4_kindOfWord_75 ?_
                refine ik_goto C 81 dX4_kindOfWord_77 (by decide) ?_
                obtain rfl := Option.some.inj hf
                exact ik_iretR C hr hlk dX4_kindOfWord_81
            · have hf := ik_neg hc hf
              refine ik_iconst (v := (5 : Int32)) C (by decide) dX4_kindOfWord_64 ?_
              obtain rfl := Option.some.inj hf
              exact ik_iretR C hr hlk dX4_kindOfWord_65
          · have hf := ik_neg hc hf
            refine ik_iconst (v := (4 : Int32)) C (by decide) dX4_kindOfWord_53 ?_
            obtain rfl := Option.some.inj hf
            exact ik_iretR C hr hlk dX4_kindOfWord_54
        · have hf := ik_neg hc hf
          refine ik_iconst (v := (3 : Int32)) C (by decide) dX4_kindOfWord_42 ?_
          obtain rfl := Option.some.inj hf
          exact ik_iretR C hr hlk dX4_kindOfWord_43
      · have hf := ik_neg hc hf
        refine ik_iconst (v := (2 : Int32)) C (by decide) dX4_kindOfWord_31 ?_
        obtain rfl := Option.some.inj hf
        exact ik_iretR C hr hlk dX4_kindOfWord_32
    · have hf := ik_neg hc hf
      refine ik_iconst (v := (1 : Int32)) C (by decide) dX4_kindOfWord_20 ?_
      obtain rfl := Option.some.inj hf
      exact ik_iretR C hr hlk dX4_kindOfWord_21
  · have hf := ik_neg hc hf
    refine ik_iconst (v := (0 : Int32)) C (by decide) dX4_kindOfWord_9 ?_
    obtain rfl := Option.some.inj hf
    exact ik_iretR C hr hlk dX4_kindOfWord_10
theorem mv_X4_isNumber : ik_V yX4_isNumber RX4 cX4_isNumber 3 (some .boolean) 2 := ⟨wl_39_17, wl_39_18, wl_1_20, wl_39_19, by decide +kernel⟩
set_option maxHeartbeats 4000000 in
set_option maxRecDepth 100000 in
theorem c_X4_isNumber (l : Launch) (D : va_G) (cI cS : ClassId) (r0 t0 t1 : Nat) (tok : Int32) (sta : Int32) (en : Int32) (val : Int32) (tsize : Int32) (tby : Nat → Int32) (x1 : Int32) (x2 : Int32) (R : Int32) (hf : f_X4_isNumber tok val x1 x2 = some (R)) : Met l yX4_isNumber (ik_ws yX4_isNumber cX4_isNumber 3 (some .boolean)) ({ frames := 1, cells := 0, slots := 0, locals := 22 } : Room) (ik_P D cI cS [.ref r0, .int x1, .int x2] (wz_X4 cI cS r0 t0 t1 tok sta en val tsize tby)) (ik_R (some (.int R))) 0 0 ik_no := by
  refine ik_metR RX4 rfl (by decide) (Nat.le_of_ble_eq_true rfl) [(0, .ref r0), (1, .int x1), (2, .int x2)] rfl ?_
  intro p e s m below meth c C hr hlk
  unfold f_X4_isNumber at hf
  refine ik_aload_n C 0 rfl rfl dX4_isNumber_0 ?_
  refine ik_get C inlX4 0 rfl rfl 1 (by decide) wl_35_21 rfl (v := .int tok) rfl dX4_isNumber_1 ?_
  refine ik_iconst (v := (2 : Int32)) C (by decide) dX4_isNumber_4 ?_
  refine ik_icmp_ne C 24 dX4_isNumber_5 (by decide) (fun hc => ?_) (fun hc => ?_)
  · have hf := ik_neg hc hf
    refine ik_iconst (v := (0 : Int32)) C (by decide) dX4_isNumber_24 ?_
    obtain rfl := Option.some.inj hf
    exact ik_zretR C hr (by decide) hlk dX4_isNumber_25
  · have hf := ik_pos hc hf
    refine ik_aload_n C 0 rfl rfl dX4_isNumber_8 ?_
    refine ik_get C inlX4 0 rfl rfl 4 (by decide) wl_36_18 rfl (v := .int val) rfl dX4_isNumber_9 ?_
    refine ik_iload_n C 1 rfl rfl dX4_isNumber_12 ?_
    refine ik_iload_n C 2 rfl rfl dX4_isNumber_13 ?_
    obtain ⟨r1, hc1, hf⟩ := ik_b1s hf
    have hM := (c_X6_isWithin l D cI cS val x1 x2 r1 hc1)
    refine ik_goR (ik_runN (st := []) (As := [.int val, .int x1, .int x2]) C hM ms_X6_isWithin C.2.2.2 ⟨rfl, rfl, Nat.le_of_ble_eq_true rfl, Nat.le_of_ble_eq_true rfl⟩ [] rfl (by decide +kernel) rfl rfl (Nat.le_of_ble_eq_true rfl) dX4_isNumber_14 ⟨Nat.zero_le _, Nat.zero_le _⟩) rfl ?_
    refine ik_if_eq C 24 dX4_isNumber_17 (by decide) (fun hc => ?_) (fun hc => ?_)
    · have hf := ik_pos hc hf
      refine ik_iconst (v := (0 : Int32)) C (by decide) dX4_isNumber_24 ?_
      obtain rfl := Option.some.inj hf
      exact ik_zretR C hr (by decide) hlk dX4_isNumber_25
    · have hf := ik_neg hc hf
      refine ik_iconst (v := (1 : Int32)) C (by decide) dX4_isNumber_20 ?_
      refine ik_goto C 25 dX4_isNumber_21 (by decide) ?_
      obtain rfl := Option.some.inj hf
      exact ik_zretR C hr (by decide) hlk dX4_isNumber_25
theorem mv_X4_takeNumber : ik_V yX4_takeNumber RX4 cX4_takeNumber 1 none 0 := ⟨wl_36_15, wl_36_16, wl_1_20, wl_36_17, by decide +kernel⟩
set_option maxHeartbeats 4000000 in
set_option maxRecDepth 100000 in
theorem c_X4_takeNumber (l : Launch) (D : va_G) (cI cS : ClassId) (r0 t0 t1 : Nat) (tok : Int32) (sta : Int32) (en : Int32) (val : Int32) (tsize : Int32) (tby : Nat → Int32) (en_r : Int32) (val_r : Int32) (hf : f_X4_takeNumber sta en val tsize tby = some (en_r, val_r)) : Met l yX4_takeNumber (ik_ws yX4_takeNumber cX4_takeNumber 1 none) ({ frames := 1, cells := 0, slots := 0, locals := 21 } : Room) (ik_P D cI cS [.ref r0] (wz_X4 cI cS r0 t0 t1 tok sta en val tsize tby)) (ik_Q none D (wz_X4 cI cS r0 t0 t1 tok sta en_r val_r tsize tby) (wz_X4 cI cS r0 t0 t1 tok sta en val tsize tby)) 0 0 (ik_in (wz_X4 cI cS r0 t0 t1 tok sta en val tsize tby)) := by
  refine ik_metW RX4 rfl (by decide) (Nat.le_of_ble_eq_true rfl) [(0, .ref r0)] rfl ?_
  intro p e s m below meth c C hr hlk
  unfold f_X4_takeNumber at hf
  refine ik_aload_n C 0 rfl rfl dX4_takeNumber_0 ?_
  refine ik_aload_n C 0 rfl rfl dX4_takeNumber_1 ?_
  refine ik_get C inlX4 0 rfl rfl 2 (by decide) wl_35_22 rfl (v := .int sta) rfl dX4_takeNumber_2 ?_
  refine ik_put C inlX4 tyX4 tyX4_ok nmX4 0 rfl rfl 3 (by decide) wl_35_20 rfl (by decide) rfl rfl (Nat.le_of_ble_eq_true rfl) (wz_X4 cI cS r0 t0 t1 tok sta sta val tsize tby) rfl dX4_takeNumber_5 ?_
  refine ik_aload_n C 0 rfl rfl dX4_takeNumber_8 ?_
  refine ik_iconst (v := (0 : Int32)) C (by decide) dX4_takeNumber_9 ?_
  refine ik_put C inlX4 tyX4 tyX4_ok nmX4 0 rfl rfl 4 (by decide) wl_36_18 rfl (by decide) rfl rfl (Nat.le_of_ble_eq_true rfl) (wz_X4 cI cS r0 t0 t1 tok sta sta (0 : Int32) tsize tby) rfl dX4_takeNumber_10 ?_
  have hL_13 : ∀ (n_13 : Nat) (en_13 : Int32) (val_13 : Int32), ik_lp2 (b_X4_takeNumber_13 tsize tby) n_13 en_13 val_13 = some (en_r, val_r) → ik_G p l e ({ frames := 1, cells := 0, slots := 0, locals := 21 } : Room) s m ([.ref r0] : List Value).toArray below meth c D (ik_in (wz_X4 cI cS r0 t0 t1 tok sta en val tsize tby)) (ik_in (wz_X4 cI cS r0 t0 t1 tok sta en val tsize tby)) 1 0 0 (MQ below (ik_Q none D (wz_X4 cI cS r0 t0 t1 tok sta en_r val_r tsize tby) (wz_X4 cI cS r0 t0 t1 tok sta en val tsize tby)) ([.ref r0] : List Value).toArray s 0 0 (ik_in (wz_X4 cI cS r0 t0 t1 tok sta en val tsize tby))) 13 [(0, .ref r0)] [] (wz_X4 cI cS r0 t0 t1 tok sta en_13 val_13 tsize tby) := by
    intro n_13
    induction n_13 with
    | zero => intro _ _ hf; exact nomatch hf
    | succ n_13 ih_13 =>
      intro en_13 val_13 hf
      replace hf : b_X4_takeNumber_13 tsize tby (ik_lp2 (b_X4_takeNumber_13 tsize tby) n_13) en_13 val_13 = some (en_r, val_r) := hf
      unfold b_X4_takeNumber_13 at hf
      refine ik_aload_n C 0 rfl rfl dX4_takeNumber_13 ?_
      refine ik_get C inlX4 0 rfl rfl 3 (by decide) wl_35_20 rfl (v := .int en_13) rfl dX4_takeNumber_14 ?_
      refine ik_aload_n C 0 rfl rfl dX4_takeNumber_17 ?_
      refine ik_get C inlX4 0 rfl rfl 0 (by decide) wl_3_23 rfl (v := .ref t0) rfl dX4_takeNumber_18 ?_
      refine ik_get C inlX3 1 rfl rfl 1 (by decide) wl_36_3 rfl (v := .int tsize) rfl dX4_takeNumber_21 ?_
      refine ik_icmp_ge C 89 dX4_takeNumber_24 (by decide) (fun hc => ?_) (fun hc => ?_)
      · have hf := ik_pos hc hf
        obtain ⟨rfl, rfl⟩ := ik_e2 hf
        exact ik_vretW C hr hlk dX4_takeNumber_89
      · have hf := ik_neg hc hf
        refine ik_aload_n C 0 rfl rfl dX4_takeNumber_27 ?_
        refine ik_get C inlX4 0 rfl rfl 0 (by decide) wl_3_23 rfl (v := .ref t0) rfl dX4_takeNumber_28 ?_
        refine ik_aload_n C 0 rfl rfl dX4_takeNumber_31 ?_
        refine ik_get C inlX4 0 rfl rfl 3 (by decide) wl_35_20 rfl (v := .int en_13) rfl dX4_takeNumber_32 ?_
        obtain ⟨r1, hc1, hf⟩ := ik_b1s hf
        have hM := (c_X3_byteAt l D cI cS t0 t1 tsize tby en_13 r1 hc1)
        refine ik_goR (ik_runV (st := []) (As := [.int en_13]) C hM mv_X3_byteAt wl_36_4 ⟨rfl, rfl, Nat.le_of_ble_eq_true rfl, Nat.le_of_ble_eq_true rfl⟩ [1, 2] rfl (by decide +kernel) 1 rfl rfl rfl rfl (Nat.le_of_ble_eq_true rfl) dX4_takeNumber_35 ⟨Nat.zero_le _, Nat.zero_le _⟩) rfl ?_
        obtain ⟨r2, hc2, hf⟩ := ik_b1s hf
        have hM := (c_X4_isDigit l D cI cS r1 r2 hc2)
        refine ik_goR (ik_runS (st := []) (As := [.int r1]) C hM ms_X4_isDigit wl_36_11 ⟨rfl, rfl, Nat.le_of_ble_eq_true rfl, Nat.le_of_ble_eq_true rfl⟩ [] rfl (by decide +kernel) rfl rfl (Nat.le_of_ble_eq_true rfl) dX4_takeNumber_38 ⟨Nat.zero_le _, Nat.zero_le _⟩) rfl ?_
        refine ik_if_eq C 89 dX4_takeNumber_41 (by decide) (fun hc => ?_) (fun hc => ?_)
        · have hf := ik_pos hc hf
          obtain ⟨rfl, rfl⟩ := ik_e2 hf
          exact ik_vretW C hr hlk dX4_takeNumber_89
        · have hf := ik_neg hc hf
          refine ik_aload_n C 0 rfl rfl dX4_takeNumber_44 ?_
          refine ik_sipush (v := (1000 : Int32)) C (by decide) dX4_takeNumber_45 ?_
          refine ik_bipush (v := (10 : Int32)) C (by decide) dX4_takeNumber_48 ?_
          refine ik_aload_n C 0 rfl rfl dX4_takeNumber_50 ?_
          refine ik_get C inlX4 0 rfl rfl 4 (by decide) wl_36_18 rfl (v := .int val_13) rfl dX4_takeNumber_51 ?_
          refine ik_imul C dX4_takeNumber_54 ?_
          refine ik_aload_n C 0 rfl rfl dX4_takeNumber_55 ?_
          refine ik_get C inlX4 0 rfl rfl 0 (by decide) wl_3_23 rfl (v := .ref t0) rfl dX4_takeNumber_56 ?_
          refine ik_aload_n C 0 rfl rfl dX4_takeNumber_59 ?_
          refine ik_get C inlX4 0 rfl rfl 3 (by decide) wl_35_20 rfl (v := .int en_13) rfl dX4_takeNumber_60 ?_
          obtain ⟨r3, hc3, hf⟩ := ik_b1s hf
          have hM := (c_X3_byteAt l D cI cS t0 t1 tsize tby en_13 r3 hc3)
          refine ik_goR (ik_runV (st := [.int ((10 : Int32) * val_13), .int (1000 : Int32), .ref r0]) (As := [.int en_13]) C hM mv_X3_byteAt wl_36_4 ⟨rfl, rfl, Nat.le_of_ble_eq_true rfl, Nat.le_of_ble_eq_true rfl⟩ [1, 2] rfl (by decide +kernel) 1 rfl rfl rfl rfl (Nat.le_of_ble_eq_true rfl) dX4_takeNumber_63 ⟨Nat.zero_le _, Nat.zero_le _⟩) rfl ?_
          refine ik_iadd C dX4_takeNumber_66 ?_
          refine ik_bipush (v := (48 : Int32)) C (by decide) dX4_takeNumber_67 ?_
          refine ik_isub C dX4_takeNumber_69 ?_
          refine ik_mmin C wl_36_19 wl_14_6 wl_13_23 wl_14_7 (Nat.le_of_ble_eq_true rfl) (Nat.le_of_ble_eq_true rfl) dX4_takeNumber_70 ?_
          refine ik_put C inlX4 tyX4 tyX4_ok nmX4 0 rfl rfl 4 (by decide) wl_36_18 rfl (by decide) rfl rfl (Nat.le_of_ble_eq_true rfl) (wz_X4 cI cS r0 t0 t1 tok sta en_13 (ik_min (1000 : Int32) ((((10 : Int32) * val_13) + r3) - (48 : Int32))) tsize tby) rfl dX4_takeNumber_73 ?_
          refine ik_aload_n C 0 rfl rfl dX4_takeNumber_76 ?_
          refine ik_dup C rfl dX4_takeNumber_77 ?_
          refine ik_get C inlX4 0 rfl rfl 3 (by decide) wl_35_20 rfl (v := .int en_13) rfl dX4_takeNumber_78 ?_
          refine ik_iconst (v := (1 : Int32)) C (by decide) dX4_takeNumber_81 ?_
          refine ik_iadd C dX4_takeNumber_82 ?_
          refine ik_put C inlX4 tyX4 tyX4_ok nmX4 0 rfl rfl 3 (by decide) wl_35_20 rfl (by decide) rfl rfl (Nat.le_of_ble_eq_true rfl) (wz_X4 cI cS r0 t0 t1 tok sta (en_13 + (1 : Int32)) (ik_min (1000 : Int32) ((((10 : Int32) * val_13) + r3) - (48 : Int32))) tsize tby) rfl dX4_takeNumber_83 ?_
          refine ik_goto C 13 dX4_takeNumber_86 (by decide) ?_
          exact ik_sub [0] [(0, .ref r0)] rfl (ih_13 (en_13 + (1 : Int32)) (ik_min (1000 : Int32) ((((10 : Int32) * val_13) + r3) - (48 : Int32))) hf)
  exact hL_13 ik_fu sta (0 : Int32) hf
theorem mv_X5_blockAt : ik_V yX5_blockAt RX5 cX5_blockAt 2 (some .int) 1 := ⟨wl_6_2, wl_6_3, wl_2_12, wl_6_4, by decide +kernel⟩
set_option maxHeartbeats 4000000 in
set_option maxRecDepth 100000 in
theorem c_X5_blockAt (l : Launch) (D : va_G) (cI cS : ClassId) (w0 w1 w2 w3 w4 : Nat) (nb : Int32) (kd : Nat → Int32) (cl : Nat → Int32) (gr : Nat → Int32) (oc : Nat → Int32) (x1 : Int32) (R : Int32) (hf : f_X5_blockAt oc x1 = some (R)) : Met l yX5_blockAt (ik_ws yX5_blockAt cX5_blockAt 2 (some .int)) ({ frames := 2, cells := 0, slots := 0, locals := 42 } : Room) (ik_P D cI cS [.ref w0, .int x1] (wz_X5 cI cS w0 w1 w2 w3 w4 nb kd cl gr oc)) (ik_R (some (.int R))) 0 0 ik_no := by
  refine ik_metR RX5 rfl (by decide) (Nat.le_of_ble_eq_true rfl) [(0, .ref w0), (1, .int x1)] rfl ?_
  intro p e s m below meth c C hr hlk
  unfold f_X5_blockAt at hf
  refine ik_iload_n C 1 rfl rfl dX5_blockAt_0 ?_
  obtain ⟨r1, hc1, hf⟩ := ik_b1s hf
  have hM := (c_X6_isCell l D cI cS x1 r1 hc1)
  refine ik_goR (ik_runN (st := []) (As := [.int x1]) C hM ms_X6_isCell C.2.2.1 ⟨rfl, rfl, Nat.le_of_ble_eq_true rfl, Nat.le_of_ble_eq_true rfl⟩ [] rfl (by decide +kernel) rfl rfl (Nat.le_of_ble_eq_true rfl) dX5_blockAt_1 ⟨Nat.zero_le _, Nat.zero_le _⟩) rfl ?_
  refine ik_if_eq C 16 dX5_blockAt_4 (by decide) (fun hc => ?_) (fun hc => ?_)
  · have hf := ik_pos hc hf
    refine ik_iconst (v := (-1 : Int32)) C (by decide) dX5_blockAt_16 ?_
    obtain rfl := Option.some.inj hf
    exact ik_iretR C hr hlk dX5_blockAt_17
  · have hf := ik_neg hc hf
    refine ik_aload_n C 0 rfl rfl dX5_blockAt_7 ?_
    refine ik_get C inlX5 0 rfl rfl 4 (by decide) wl_3_5 rfl (v := .ref w4) rfl dX5_blockAt_8 ?_
    refine ik_iload_n C 1 rfl rfl dX5_blockAt_11 ?_
    have hg := ik_gdi hf
    have hf := ik_gdk hf
    refine ik_iald C 4 rfl hg dX5_blockAt_12 ?_
    refine ik_goto C 17 dX5_blockAt_13 (by decide) ?_
    obtain rfl := Option.some.inj hf
    exact ik_iretR C hr hlk dX5_blockAt_17
theorem mv_X5_build : ik_V yX5_build RX5 cX5_build 5 (some .int) 3 := ⟨wl_6_6, wl_6_7, wl_2_12, wl_6_8, by decide +kernel⟩
set_option maxHeartbeats 4000000 in
set_option maxRecDepth 100000 in
theorem c_X5_build (l : Launch) (D : va_G) (cI cS : ClassId) (w0 w1 w2 w3 w4 : Nat) (nb : Int32) (kd : Nat → Int32) (cl : Nat → Int32) (gr : Nat → Int32) (oc : Nat → Int32) (x1 : Int32) (x2 : Int32) (x3 : Int32) (R : Int32) (nb_r : Int32) (kd_r : Nat → Int32) (cl_r : Nat → Int32) (gr_r : Nat → Int32) (oc_r : Nat → Int32) (hf : f_X5_build nb kd cl gr oc x1 x2 x3 = some (R, nb_r, kd_r, cl_r, gr_r, oc_r)) : Met l yX5_build (ik_ws yX5_build cX5_build 5 (some .int)) ({ frames := 2, cells := 0, slots := 0, locals := 42 } : Room) (ik_P D cI cS [.ref w0, .int x1, .int x2, .int x3] (wz_X5 cI cS w0 w1 w2 w3 w4 nb kd cl gr oc)) (ik_Q (some (.int R)) D (wz_X5 cI cS w0 w1 w2 w3 w4 nb_r kd_r cl_r gr_r oc_r) (wz_X5 cI cS w0 w1 w2 w3 w4 nb kd cl gr oc)) 0 0 (ik_in (wz_X5 cI cS w0 w1 w2 w3 w4 nb kd cl gr oc)) := by
  refine ik_metW RX5 rfl (by decide) (Nat.le_of_ble_eq_true rfl) [(0, .ref w0), (1, .int x1), (2, .int x2), (3, .int x3)] rfl ?_
  intro p e s m below meth c C hr hlk
  unfold f_X5_build at hf
  refine ik_aload_n C 0 rfl rfl dX5_build_0 ?_
  refine ik_get C inlX5 0 rfl rfl 0 (by decide) wl_6_0 rfl (v := .int nb) rfl dX5_build_1 ?_
  refine ik_istore C [(4, .int nb), (0, .ref w0), (1, .int x1), (2, .int x2), (3, .int x3)] (by decide) rfl dX5_build_4 ?_
  refine ik_aload_n C 1 rfl rfl dX5_build_6 ?_
  obtain ⟨r1, hc1, hf⟩ := ik_b1s hf
  have hM := (c_X5_isFull l D cI cS w0 w1 w2 w3 w4 nb kd cl gr oc r1 hc1)
  refine ik_goR (ik_runV (st := []) (As := []) C hM mv_X5_isFull wl_6_9 ⟨rfl, rfl, Nat.le_of_ble_eq_true rfl, Nat.le_of_ble_eq_true rfl⟩ [0, 1, 2, 3, 4] rfl (by decide +kernel) 0 rfl rfl rfl rfl (Nat.le_of_ble_eq_true rfl) dX5_build_7 ⟨Nat.zero_le _, Nat.zero_le _⟩) rfl ?_
  refine ik_if_ne C 20 dX5_build_10 (by decide) (fun hc => ?_) (fun hc => ?_)
  · have hf := ik_neg hc hf
    refine ik_iconst (v := (-1 : Int32)) C (by decide) dX5_build_20 ?_
    obtain ⟨rfl, rfl, rfl, rfl, rfl, rfl⟩ := ik_e6 hf
    exact ik_iretW C hr hlk dX5_build_21
  · have hf := ik_pos hc hf
    refine ik_iload_n C 3 rfl rfl dX5_build_13 ?_
    obtain ⟨r2, hc2, hf⟩ := ik_b1s hf
    have hM := (c_X6_isCell l D cI cS x2 r2 hc2)
    refine ik_goR (ik_runN (st := []) (As := [.int x2]) C hM ms_X6_isCell C.2.2.1 ⟨rfl, rfl, Nat.le_of_ble_eq_true rfl, Nat.le_of_ble_eq_true rfl⟩ [] rfl (by decide +kernel) rfl rfl (Nat.le_of_ble_eq_true rfl) dX5_build_14 ⟨Nat.zero_le _, Nat.zero_le _⟩) rfl ?_
    refine ik_if_ne C 22 dX5_build_17 (by decide) (fun hc => ?_) (fun hc => ?_)
    · have hf := ik_neg hc hf
      refine ik_aload_n C 1 rfl rfl dX5_build_22 ?_
      refine ik_dup C rfl dX5_build_23 ?_
      refine ik_get C inlX5 0 rfl rfl 0 (by decide) wl_6_0 rfl (v := .int nb) rfl dX5_build_24 ?_
      refine ik_iconst (v := (1 : Int32)) C (by decide) dX5_build_27 ?_
      refine ik_iadd C dX5_build_28 ?_
      refine ik_put C inlX5 tyX5 tyX5_ok nmX5 0 rfl rfl 0 (by decide) wl_6_0 rfl (by decide) rfl rfl (Nat.le_of_ble_eq_true rfl) (wz_X5 cI cS w0 w1 w2 w3 w4 (nb + (1 : Int32)) kd cl gr oc) rfl dX5_build_29 ?_
      refine ik_aload_n C 1 rfl rfl dX5_build_32 ?_
      refine ik_get C inlX5 0 rfl rfl 1 (by decide) wl_3_2 rfl (v := .ref w1) rfl dX5_build_33 ?_
      refine ik_iload C 0 rfl dX5_build_36 ?_
      refine ik_iload_n C 2 rfl rfl dX5_build_38 ?_
      have hg := ik_gdi hf
      have hf := ik_gdk hf
      refine ik_iast C 1 rfl hg (wz_X5 cI cS w0 w1 w2 w3 w4 (nb + (1 : Int32)) (upd kd (nb).toNatClampNeg x1) cl gr oc) rfl dX5_build_39 ?_
      refine ik_aload_n C 1 rfl rfl dX5_build_40 ?_
      refine ik_get C inlX5 0 rfl rfl 2 (by decide) wl_3_3 rfl (v := .ref w2) rfl dX5_build_41 ?_
      refine ik_iload C 0 rfl dX5_build_44 ?_
      refine ik_iload_n C 3 rfl rfl dX5_build_46 ?_
      have hg := ik_gdi hf
      have hf := ik_gdk hf
      refine ik_iast C 2 rfl hg (wz_X5 cI cS w0 w1 w2 w3 w4 (nb + (1 : Int32)) (upd kd (nb).toNatClampNeg x1) (upd cl (nb).toNatClampNeg x2) gr oc) rfl dX5_build_47 ?_
      refine ik_aload_n C 1 rfl rfl dX5_build_48 ?_
      refine ik_get C inlX5 0 rfl rfl 3 (by decide) wl_3_4 rfl (v := .ref w3) rfl dX5_build_49 ?_
      refine ik_iload C 0 rfl dX5_build_52 ?_
      refine ik_iload_n C 4 rfl rfl dX5_build_54 ?_
      have hg := ik_gdi hf
      have hf := ik_gdk hf
      refine ik_iast C 3 rfl hg (wz_X5 cI cS w0 w1 w2 w3 w4 (nb + (1 : Int32)) (upd kd (nb).toNatClampNeg x1) (upd cl (nb).toNatClampNeg x2) (upd gr (nb).toNatClampNeg x3) oc) rfl dX5_build_55 ?_
      refine ik_aload_n C 1 rfl rfl dX5_build_56 ?_
      refine ik_get C inlX5 0 rfl rfl 4 (by decide) wl_3_5 rfl (v := .ref w4) rfl dX5_build_57 ?_
      refine ik_iload_n C 3 rfl rfl dX5_build_60 ?_
      refine ik_iload C 0 rfl dX5_build_61 ?_
      have hg := ik_gdi hf
      have hf := ik_gdk hf
      refine ik_iast C 4 rfl hg (wz_X5 cI cS w0 w1 w2 w3 w4 (nb + (1 : Int32)) (upd kd (nb).toNatClampNeg x1) (upd cl (nb).toNatClampNeg x2) (upd gr (nb).toNatClampNeg x3) (upd oc (x2).toNatClampNeg nb)) rfl dX5_build_63 ?_
      refine ik_iload C 0 rfl dX5_build_64 ?_
      obtain ⟨rfl, rfl, rfl, rfl, rfl, rfl⟩ := ik_e6 hf
      exact ik_iretW C hr hlk dX5_build_66
    · have hf := ik_pos hc hf
      refine ik_iconst (v := (-1 : Int32)) C (by decide) dX5_build_20 ?_
      obtain ⟨rfl, rfl, rfl, rfl, rfl, rfl⟩ := ik_e6 hf
      exact ik_iretW C hr hlk dX5_build_21
theorem mv_X5_move : ik_V yX5_move RX5 cX5_move 4 (some .int) 2 := ⟨wl_12_13, wl_12_14, wl_2_12, wl_12_15, by decide +kernel⟩
set_option maxHeartbeats 4000000 in
set_option maxRecDepth 100000 in
theorem c_X5_move (l : Launch) (D : va_G) (cI cS : ClassId) (w0 w1 w2 w3 w4 : Nat) (nb : Int32) (kd : Nat → Int32) (cl : Nat → Int32) (gr : Nat → Int32) (oc : Nat → Int32) (x1 : Int32) (x2 : Int32) (R : Int32) (cl_r : Nat → Int32) (oc_r : Nat → Int32) (hf : f_X5_move cl oc x1 x2 = some (R, cl_r, oc_r)) : Met l yX5_move (ik_ws yX5_move cX5_move 4 (some .int)) ({ frames := 2, cells := 0, slots := 0, locals := 42 } : Room) (ik_P D cI cS [.ref w0, .int x1, .int x2] (wz_X5 cI cS w0 w1 w2 w3 w4 nb kd cl gr oc)) (ik_Q (some (.int R)) D (wz_X5 cI cS w0 w1 w2 w3 w4 nb kd cl_r gr oc_r) (wz_X5 cI cS w0 w1 w2 w3 w4 nb kd cl gr oc)) 0 0 (ik_in (wz_X5 cI cS w0 w1 w2 w3 w4 nb kd cl gr oc)) := by
  refine ik_metW RX5 rfl (by decide) (Nat.le_of_ble_eq_true rfl) [(0, .ref w0), (1, .int x1), (2, .int x2)] rfl ?_
  intro p e s m below meth c C hr hlk
  unfold f_X5_move at hf
  refine ik_aload_n C 0 rfl rfl dX5_move_0 ?_
  refine ik_get C inlX5 0 rfl rfl 2 (by decide) wl_3_3 rfl (v := .ref w2) rfl dX5_move_1 ?_
  refine ik_iload_n C 1 rfl rfl dX5_move_4 ?_
  have hg := ik_gdi hf
  have hf := ik_gdk hf
  refine ik_iald C 2 rfl hg dX5_move_5 ?_
  refine ik_istore_n C [(3, .int (cl (x1).toNatClampNeg)), (0, .ref w0), (1, .int x1), (2, .int x2)] rfl (by decide) rfl dX5_move_6 ?_
  refine ik_iload_n C 0 rfl rfl dX5_move_7 ?_
  obtain ⟨r1, hc1, hf⟩ := ik_b1s hf
  have hM := (c_X6_isCell l D cI cS (cl (x1).toNatClampNeg) r1 hc1)
  refine ik_goR (ik_runN (st := []) (As := [.int (cl (x1).toNatClampNeg)]) C hM ms_X6_isCell C.2.2.1 ⟨rfl, rfl, Nat.le_of_ble_eq_true rfl, Nat.le_of_ble_eq_true rfl⟩ [] rfl (by decide +kernel) rfl rfl (Nat.le_of_ble_eq_true rfl) dX5_move_8 ⟨Nat.zero_le _, Nat.zero_le _⟩) rfl ?_
  refine ik_if_eq C 42 dX5_move_11 (by decide) (fun hc => ?_) (fun hc => ?_)
  · have hf := ik_pos hc hf
    refine ik_iload_n C 0 rfl rfl dX5_move_42 ?_
    obtain ⟨rfl, rfl, rfl⟩ := ik_e3 hf
    exact ik_iretW C hr hlk dX5_move_43
  · have hf := ik_neg hc hf
    refine ik_iload_n C 3 rfl rfl dX5_move_14 ?_
    obtain ⟨r2, hc2, hf⟩ := ik_b1s hf
    have hM := (c_X6_isCell l D cI cS x2 r2 hc2)
    refine ik_goR (ik_runN (st := []) (As := [.int x2]) C hM ms_X6_isCell C.2.2.1 ⟨rfl, rfl, Nat.le_of_ble_eq_true rfl, Nat.le_of_ble_eq_true rfl⟩ [] rfl (by decide +kernel) rfl rfl (Nat.le_of_ble_eq_true rfl) dX5_move_15 ⟨Nat.zero_le _, Nat.zero_le _⟩) rfl ?_
    refine ik_if_eq C 42 dX5_move_18 (by decide) (fun hc => ?_) (fun hc => ?_)
    · have hf := ik_pos hc hf
      refine ik_iload_n C 0 rfl rfl dX5_move_42 ?_
      obtain ⟨rfl, rfl, rfl⟩ := ik_e3 hf
      exact ik_iretW C hr hlk dX5_move_43
    · have hf := ik_neg hc hf
      refine ik_aload_n C 1 rfl rfl dX5_move_21 ?_
      refine ik_get C inlX5 0 rfl rfl 4 (by decide) wl_3_5 rfl (v := .ref w4) rfl dX5_move_22 ?_
      refine ik_iload_n C 0 rfl rfl dX5_move_25 ?_
      refine ik_iconst (v := (-1 : Int32)) C (by decide) dX5_move_26 ?_
      have hg := ik_gdi hf
      have hf := ik_gdk hf
      refine ik_iast C 4 rfl hg (wz_X5 cI cS w0 w1 w2 w3 w4 nb kd cl gr (upd oc ((cl (x1).toNatClampNeg)).toNatClampNeg (-1 : Int32))) rfl dX5_move_27 ?_
      refine ik_aload_n C 1 rfl rfl dX5_move_28 ?_
      refine ik_get C inlX5 0 rfl rfl 4 (by decide) wl_3_5 rfl (v := .ref w4) rfl dX5_move_29 ?_
      refine ik_iload_n C 3 rfl rfl dX5_move_32 ?_
      refine ik_iload_n C 2 rfl rfl dX5_move_33 ?_
      have hg := ik_gdi hf
      have hf := ik_gdk hf
      refine ik_iast C 4 rfl hg (wz_X5 cI cS w0 w1 w2 w3 w4 nb kd cl gr (upd (upd oc ((cl (x1).toNatClampNeg)).toNatClampNeg (-1 : Int32)) (x2).toNatClampNeg x1)) rfl dX5_move_34 ?_
      refine ik_aload_n C 1 rfl rfl dX5_move_35 ?_
      refine ik_get C inlX5 0 rfl rfl 2 (by decide) wl_3_3 rfl (v := .ref w2) rfl dX5_move_36 ?_
      refine ik_iload_n C 2 rfl rfl dX5_move_39 ?_
      refine ik_iload_n C 3 rfl rfl dX5_move_40 ?_
      have hg := ik_gdi hf
      have hf := ik_gdk hf
      refine ik_iast C 2 rfl hg (wz_X5 cI cS w0 w1 w2 w3 w4 nb kd (upd cl (x1).toNatClampNeg x2) gr (upd (upd oc ((cl (x1).toNatClampNeg)).toNatClampNeg (-1 : Int32)) (x2).toNatClampNeg x1)) rfl dX5_move_41 ?_
      refine ik_iload_n C 0 rfl rfl dX5_move_42 ?_
      obtain ⟨rfl, rfl, rfl⟩ := ik_e3 hf
      exact ik_iretW C hr hlk dX5_move_43
theorem mv_X5_remove : ik_V yX5_remove RX5 cX5_remove 4 (some .int) 1 := ⟨wl_19_14, wl_19_15, wl_2_12, wl_19_16, by decide +kernel⟩
set_option maxHeartbeats 4000000 in
set_option maxRecDepth 100000 in
theorem c_X5_remove (l : Launch) (D : va_G) (cI cS : ClassId) (w0 w1 w2 w3 w4 : Nat) (nb : Int32) (kd : Nat → Int32) (cl : Nat → Int32) (gr : Nat → Int32) (oc : Nat → Int32) (x1 : Int32) (R : Int32) (cl_r : Nat → Int32) (gr_r : Nat → Int32) (oc_r : Nat → Int32) (hf : f_X5_remove cl gr oc x1 = some (R, cl_r, gr_r, oc_r)) : Met l yX5_remove (ik_ws yX5_remove cX5_remove 4 (some .int)) ({ frames := 2, cells := 0, slots := 0, locals := 42 } : Room) (ik_P D cI cS [.ref w0, .int x1] (wz_X5 cI cS w0 w1 w2 w3 w4 nb kd cl gr oc)) (ik_Q (some (.int R)) D (wz_X5 cI cS w0 w1 w2 w3 w4 nb kd cl_r gr_r oc_r) (wz_X5 cI cS w0 w1 w2 w3 w4 nb kd cl gr oc)) 0 0 (ik_in (wz_X5 cI cS w0 w1 w2 w3 w4 nb kd cl gr oc)) := by
  refine ik_metW RX5 rfl (by decide) (Nat.le_of_ble_eq_true rfl) [(0, .ref w0), (1, .int x1)] rfl ?_
  intro p e s m below meth c C hr hlk
  unfold f_X5_remove at hf
  refine ik_aload_n C 0 rfl rfl dX5_remove_0 ?_
  refine ik_get C inlX5 0 rfl rfl 3 (by decide) wl_3_4 rfl (v := .ref w3) rfl dX5_remove_1 ?_
  refine ik_iload_n C 1 rfl rfl dX5_remove_4 ?_
  have hg := ik_gdi hf
  have hf := ik_gdk hf
  refine ik_iald C 3 rfl hg dX5_remove_5 ?_
  refine ik_istore_n C [(2, .int (gr (x1).toNatClampNeg)), (0, .ref w0), (1, .int x1)] rfl (by decide) rfl dX5_remove_6 ?_
  refine ik_aload_n C 1 rfl rfl dX5_remove_7 ?_
  refine ik_get C inlX5 0 rfl rfl 2 (by decide) wl_3_3 rfl (v := .ref w2) rfl dX5_remove_8 ?_
  refine ik_iload_n C 2 rfl rfl dX5_remove_11 ?_
  have hg := ik_gdi hf
  have hf := ik_gdk hf
  refine ik_iald C 2 rfl hg dX5_remove_12 ?_
  refine ik_istore_n C [(3, .int (cl (x1).toNatClampNeg)), (2, .int (gr (x1).toNatClampNeg)), (0, .ref w0), (1, .int x1)] rfl (by decide) rfl dX5_remove_13 ?_
  refine ik_iload_n C 0 rfl rfl dX5_remove_14 ?_
  obtain ⟨r1, hc1, hf⟩ := ik_b1s hf
  have hM := (c_X6_isCell l D cI cS (cl (x1).toNatClampNeg) r1 hc1)
  refine ik_goR (ik_runN (st := []) (As := [.int (cl (x1).toNatClampNeg)]) C hM ms_X6_isCell C.2.2.1 ⟨rfl, rfl, Nat.le_of_ble_eq_true rfl, Nat.le_of_ble_eq_true rfl⟩ [] rfl (by decide +kernel) rfl rfl (Nat.le_of_ble_eq_true rfl) dX5_remove_15 ⟨Nat.zero_le _, Nat.zero_le _⟩) rfl ?_
  refine ik_if_eq C 28 dX5_remove_18 (by decide) (fun hc => ?_) (fun hc => ?_)
  · have hf := ik_pos hc hf
    refine ik_aload_n C 2 rfl rfl dX5_remove_28 ?_
    refine ik_get C inlX5 0 rfl rfl 2 (by decide) wl_3_3 rfl (v := .ref w2) rfl dX5_remove_29 ?_
    refine ik_iload_n C 3 rfl rfl dX5_remove_32 ?_
    refine ik_iconst (v := (-1 : Int32)) C (by decide) dX5_remove_33 ?_
    have hg := ik_gdi hf
    have hf := ik_gdk hf
    refine ik_iast C 2 rfl hg (wz_X5 cI cS w0 w1 w2 w3 w4 nb kd (upd cl (x1).toNatClampNeg (-1 : Int32)) gr oc) rfl dX5_remove_34 ?_
    refine ik_aload_n C 2 rfl rfl dX5_remove_35 ?_
    refine ik_get C inlX5 0 rfl rfl 3 (by decide) wl_3_4 rfl (v := .ref w3) rfl dX5_remove_36 ?_
    refine ik_iload_n C 3 rfl rfl dX5_remove_39 ?_
    refine ik_iconst (v := (0 : Int32)) C (by decide) dX5_remove_40 ?_
    have hg := ik_gdi hf
    have hf := ik_gdk hf
    refine ik_iast C 3 rfl hg (wz_X5 cI cS w0 w1 w2 w3 w4 nb kd (upd cl (x1).toNatClampNeg (-1 : Int32)) (upd gr (x1).toNatClampNeg (0 : Int32)) oc) rfl dX5_remove_41 ?_
    refine ik_iload_n C 1 rfl rfl dX5_remove_42 ?_
    obtain ⟨rfl, rfl, rfl, rfl⟩ := ik_e4 hf
    exact ik_iretW C hr hlk dX5_remove_43
  · have hf := ik_neg hc hf
    refine ik_aload_n C 2 rfl rfl dX5_remove_21 ?_
    refine ik_get C inlX5 0 rfl rfl 4 (by decide) wl_3_5 rfl (v := .ref w4) rfl dX5_remove_22 ?_
    refine ik_iload_n C 0 rfl rfl dX5_remove_25 ?_
    refine ik_iconst (v := (-1 : Int32)) C (by decide) dX5_remove_26 ?_
    have hg := ik_gdi hf
    have hf := ik_gdk hf
    refine ik_iast C 4 rfl hg (wz_X5 cI cS w0 w1 w2 w3 w4 nb kd cl gr (upd oc ((cl (x1).toNatClampNeg)).toNatClampNeg (-1 : Int32))) rfl dX5_remove_27 ?_
    refine ik_aload_n C 2 rfl rfl dX5_remove_28 ?_
    refine ik_get C inlX5 0 rfl rfl 2 (by decide) wl_3_3 rfl (v := .ref w2) rfl dX5_remove_29 ?_
    refine ik_iload_n C 3 rfl rfl dX5_remove_32 ?_
    refine ik_iconst (v := (-1 : Int32)) C (by decide) dX5_remove_33 ?_
    have hg := ik_gdi hf
    have hf := ik_gdk hf
    refine ik_iast C 2 rfl hg (wz_X5 cI cS w0 w1 w2 w3 w4 nb kd (upd cl (x1).toNatClampNeg (-1 : Int32)) gr (upd oc ((cl (x1).toNatClampNeg)).toNatClampNeg (-1 : Int32))) rfl dX5_remove_34 ?_
    refine ik_aload_n C 2 rfl rfl dX5_remove_35 ?_
    refine ik_get C inlX5 0 rfl rfl 3 (by decide) wl_3_4 rfl (v := .ref w3) rfl dX5_remove_36 ?_
    refine ik_iload_n C 3 rfl rfl dX5_remove_39 ?_
    refine ik_iconst (v := (0 : Int32)) C (by decide) dX5_remove_40 ?_
    have hg := ik_gdi hf
    have hf := ik_gdk hf
    refine ik_iast C 3 rfl hg (wz_X5 cI cS w0 w1 w2 w3 w4 nb kd (upd cl (x1).toNatClampNeg (-1 : Int32)) (upd gr (x1).toNatClampNeg (0 : Int32)) (upd oc ((cl (x1).toNatClampNeg)).toNatClampNeg (-1 : Int32))) rfl dX5_remove_41 ?_
    refine ik_iload_n C 1 rfl rfl dX5_remove_42 ?_
    obtain ⟨rfl, rfl, rfl, rfl⟩ := ik_e4 hf
    exact ik_iretW C hr hlk dX5_remove_43
theorem mv_X5_weakSet : ik_V yX5_weakSet RX5 cX5_weakSet 3 (some .int) 0 := ⟨wl_20_4, wl_20_5, wl_2_12, wl_20_6, by decide +kernel⟩
set_option maxHeartbeats 4000000 in
set_option maxRecDepth 100000 in
theorem c_X5_weakSet (l : Launch) (D : va_G) (cI cS : ClassId) (w0 w1 w2 w3 w4 : Nat) (nb : Int32) (kd : Nat → Int32) (cl : Nat → Int32) (gr : Nat → Int32) (oc : Nat → Int32) (R : Int32) (hf : f_X5_weakSet nb kd cl gr oc = some (R)) : Met l yX5_weakSet (ik_ws yX5_weakSet cX5_weakSet 3 (some .int)) ({ frames := 2, cells := 0, slots := 0, locals := 45 } : Room) (ik_P D cI cS [.ref w0] (wz_X5 cI cS w0 w1 w2 w3 w4 nb kd cl gr oc)) (ik_R (some (.int R))) 0 0 ik_no := by
  refine ik_metR RX5 rfl (by decide) (Nat.le_of_ble_eq_true rfl) [(0, .ref w0)] rfl ?_
  intro p e s m below meth c C hr hlk
  unfold f_X5_weakSet at hf
  refine ik_iconst (v := (0 : Int32)) C (by decide) dX5_weakSet_0 ?_
  refine ik_istore_n C [(1, .int (0 : Int32)), (0, .ref w0)] rfl (by decide) rfl dX5_weakSet_1 ?_
  refine ik_iconst (v := (0 : Int32)) C (by decide) dX5_weakSet_2 ?_
  refine ik_istore_n C [(2, .int (0 : Int32)), (1, .int (0 : Int32)), (0, .ref w0)] rfl (by decide) rfl dX5_weakSet_3 ?_
  have hL_4 : ∀ (n_4 : Nat) (x1_4 : Int32) (x2_4 : Int32), ik_lp2 (b_X5_weakSet_4 nb kd cl gr oc) n_4 x1_4 x2_4 = some (R) → ik_G p l e ({ frames := 2, cells := 0, slots := 0, locals := 45 } : Room) s m ([.ref w0] : List Value).toArray below meth c D ik_no (fun _ => True) 3 0 0 (MQ below (ik_R (some (.int R))) ([.ref w0] : List Value).toArray s 0 0 ik_no) 4 [(2, .int x2_4), (1, .int x1_4), (0, .ref w0)] [] (wz_X5 cI cS w0 w1 w2 w3 w4 nb kd cl gr oc) := by
    intro n_4
    induction n_4 with
    | zero => intro _ _ hf; exact nomatch hf
    | succ n_4 ih_4 =>
      intro x1_4 x2_4 hf
      replace hf : b_X5_weakSet_4 nb kd cl gr oc (ik_lp2 (b_X5_weakSet_4 nb kd cl gr oc) n_4) x1_4 x2_4 = some (R) := hf
      unfold b_X5_weakSet_4 at hf
      refine ik_iload_n C 0 rfl rfl dX5_weakSet_4 ?_
      refine ik_aload_n C 2 rfl rfl dX5_weakSet_5 ?_
      refine ik_get C inlX5 0 rfl rfl 0 (by decide) wl_6_0 rfl (v := .int nb) rfl dX5_weakSet_6 ?_
      refine ik_icmp_ge C 37 dX5_weakSet_9 (by decide) (fun hc => ?_) (fun hc => ?_)
      · have hf := ik_pos hc hf
        refine ik_iload_n C 1 rfl rfl dX5_weakSet_37 ?_
        obtain rfl := Option.some.inj hf
        exact ik_iretR C hr hlk dX5_weakSet_38
      · have hf := ik_neg hc hf
        refine ik_aload_n C 2 rfl rfl dX5_weakSet_12 ?_
        refine ik_iload_n C 0 rfl rfl dX5_weakSet_13 ?_
        obtain ⟨r1, hc1, hf⟩ := ik_b1s hf
        have hM := (c_X5_loadOf l D cI cS w0 w1 w2 w3 w4 nb kd cl gr oc x2_4 r1 hc1)
        refine ik_goR (ik_runV (st := []) (As := [.int x2_4]) C hM mv_X5_loadOf wl_20_7 ⟨rfl, rfl, Nat.le_of_ble_eq_true rfl, Nat.le_of_ble_eq_true rfl⟩ [0, 1, 2, 3, 4] rfl (by decide +kernel) 0 rfl rfl rfl rfl (Nat.le_of_ble_eq_true rfl) dX5_weakSet_14 ⟨Nat.zero_le _, Nat.zero_le _⟩) rfl ?_
        refine ik_aload_n C 2 rfl rfl dX5_weakSet_17 ?_
        refine ik_iload_n C 0 rfl rfl dX5_weakSet_18 ?_
        obtain ⟨r2, hc2, hf⟩ := ik_b1s hf
        have hM := (c_X5_strengthOf l D cI cS w0 w1 w2 w3 w4 nb kd cl gr oc x2_4 r2 hc2)
        refine ik_goR (ik_runV (st := [.int r1]) (As := [.int x2_4]) C hM mv_X5_strengthOf wl_20_8 ⟨rfl, rfl, Nat.le_of_ble_eq_true rfl, Nat.le_of_ble_eq_true rfl⟩ [0, 1, 2, 3, 4] rfl (by decide +kernel) 0 rfl rfl rfl rfl (Nat.le_of_ble_eq_true rfl) dX5_weakSet_19 ⟨Nat.zero_le _, Nat.zero_le _⟩) rfl ?_
        refine ik_icmp_le C 31 dX5_weakSet_22 (by decide) (fun hc => ?_) (fun hc => ?_)
        · have hf := ik_pos hc hf
          refine ik_iinc C [(2, .int (x2_4 + (1 : Int32))), (1, .int x1_4), (0, .ref w0)] 0 rfl rfl (by decide) rfl dX5_weakSet_31 ?_
          refine ik_goto C 4 dX5_weakSet_34 (by decide) ?_
          exact ik_sub [0, 1, 2] [(2, .int (x2_4 + (1 : Int32))), (1, .int x1_4), (0, .ref w0)] rfl (ih_4 x1_4 (x2_4 + (1 : Int32)) hf)
        · have hf := ik_neg hc hf
          refine ik_iload_n C 1 rfl rfl dX5_weakSet_25 ?_
          refine ik_iconst (v := (1 : Int32)) C (by decide) dX5_weakSet_26 ?_
          refine ik_iload_n C 0 rfl rfl dX5_weakSet_27 ?_
          refine ik_ishl C dX5_weakSet_28 ?_
          refine ik_ior C dX5_weakSet_29 ?_
          refine ik_istore_n C [(1, .int (x1_4 ||| ((1 : Int32) <<< (x2_4 &&& 31)))), (2, .int x2_4), (0, .ref w0)] rfl (by decide) rfl dX5_weakSet_30 ?_
          refine ik_iinc C [(2, .int (x2_4 + (1 : Int32))), (1, .int (x1_4 ||| ((1 : Int32) <<< (x2_4 &&& 31)))), (0, .ref w0)] 1 rfl rfl (by decide) rfl dX5_weakSet_31 ?_
          refine ik_goto C 4 dX5_weakSet_34 (by decide) ?_
          exact ik_sub [0, 1, 2] [(2, .int (x2_4 + (1 : Int32))), (1, .int (x1_4 ||| ((1 : Int32) <<< (x2_4 &&& 31)))), (0, .ref w0)] rfl (ih_4 (x1_4 ||| ((1 : Int32) <<< (x2_4 &&& 31))) (x2_4 + (1 : Int32)) hf)
  exact hL_4 ik_fu (0 : Int32) (0 : Int32) hf
theorem mv_X6_weak : ik_V yX6_weak RX6 cX6_weak 1 (some .int) 0 := ⟨wl_22_20, wl_22_21, wl_1_2, wl_22_22, by decide +kernel⟩
set_option maxHeartbeats 4000000 in
set_option maxRecDepth 100000 in
theorem c_X6_weak (l : Launch) (D : va_G) (cI cS : ClassId) (o0 np0 kp0 tp0 r0 t0 sh0 f0 nw0 nc0 np1 np2 np3 nw1 nw2 nw3 nw4 nc1 nc2 : Nat) (isk : Int32) (nhour : Int32) (nair : Int32) (nrub : Int32) (nz : Int32) (nnb : Int32) (nkd : Nat → Int32) (ncl : Nat → Int32) (ngr : Nat → Int32) (noc : Nat → Int32) (nlit : Int32) (ncold : Int32) (nccell : Nat → Int32) (ncpow : Nat → Int32) (nsp : Nat → Int32) (nwm : Nat → Int32) (ndr : Nat → Int32) (R : Int32) (hf : f_X6_weak nnb nkd ncl ngr noc = some (R)) : Met l yX6_weak (ik_ws yX6_weak cX6_weak 1 (some .int)) ({ frames := 3, cells := 0, slots := 0, locals := 67 } : Room) (ik_P D cI cS [.ref o0] (wz_X6on cI cS o0 np0 kp0 tp0 r0 t0 sh0 f0 nw0 nc0 np1 np2 np3 nw1 nw2 nw3 nw4 nc1 nc2 isk nhour nair nrub nz nnb nkd ncl ngr noc nlit ncold nccell ncpow nsp nwm ndr)) (ik_R (some (.int R))) 0 0 ik_no := by
  refine ik_metR RX6 rfl (by decide) (Nat.le_of_ble_eq_true rfl) [(0, .ref o0)] rfl ?_
  intro p e s m below meth c C hr hlk
  unfold f_X6_weak at hf
  refine ik_aload_n C 0 rfl rfl dX6_weak_0 ?_
  refine ik_get C inlX6 0 rfl rfl 0 (by decide) wl_1_15 rfl (v := .ref np0) rfl dX6_weak_1 ?_
  refine ik_get C inlX1 1 rfl rfl 0 (by decide) wl_5_4 rfl (v := .ref nw0) rfl dX6_weak_4 ?_
  obtain ⟨r1, hc1, hf⟩ := ik_b1s hf
  have hM := (c_X5_weakSet l D cI cS nw0 nw1 nw2 nw3 nw4 nnb nkd ncl ngr noc r1 hc1)
  refine ik_goR (ik_runV (st := []) (As := []) C hM mv_X5_weakSet wl_22_23 ⟨rfl, rfl, Nat.le_of_ble_eq_true rfl, Nat.le_of_ble_eq_true rfl⟩ [2, 3, 4, 5, 6] rfl (by decide +kernel) 2 rfl rfl rfl rfl (Nat.le_of_ble_eq_true rfl) dX6_weak_7 ⟨Nat.zero_le _, Nat.zero_le _⟩) rfl ?_
  obtain rfl := Option.some.inj hf
  exact ik_iretR C hr hlk dX6_weak_10
theorem mv_X6_image : ik_V yX6_image RX6 cX6_image 1 (some .int) 0 := ⟨wl_47_7, wl_47_8, wl_1_2, wl_47_9, by decide +kernel⟩
set_option maxHeartbeats 4000000 in
set_option maxRecDepth 100000 in
theorem c_X6_image (l : Launch) (D : va_G) (cI cS : ClassId) (o0 np0 kp0 tp0 r0 t0 sh0 f0 nw0 nc0 np1 np2 np3 nw1 nw2 nw3 nw4 nc1 nc2 kw0 kc0 kp1 kp2 kp3 kw1 kw2 kw3 kw4 kc1 kc2 : Nat) (isk : Int32) (nhour : Int32) (nair : Int32) (nrub : Int32) (nz : Int32) (nnb : Int32) (nkd : Nat → Int32) (ncl : Nat → Int32) (ngr : Nat → Int32) (noc : Nat → Int32) (nlit : Int32) (ncold : Int32) (nccell : Nat → Int32) (ncpow : Nat → Int32) (nsp : Nat → Int32) (nwm : Nat → Int32) (ndr : Nat → Int32) (khour : Int32) (kair : Int32) (krub : Int32) (kz : Int32) (knb : Int32) (kkd : Nat → Int32) (kcl : Nat → Int32) (kgr : Nat → Int32) (koc : Nat → Int32) (klit : Int32) (kcold : Int32) (kccell : Nat → Int32) (kcpow : Nat → Int32) (ksp : Nat → Int32) (kwm : Nat → Int32) (kdr : Nat → Int32) (R : Int32) (isk_r : Int32) (khour_r : Int32) (kair_r : Int32) (krub_r : Int32) (kz_r : Int32) (knb_r : Int32) (kkd_r : Nat → Int32) (kcl_r : Nat → Int32) (kgr_r : Nat → Int32) (koc_r : Nat → Int32) (klit_r : Int32) (kcold_r : Int32) (kccell_r : Nat → Int32) (kcpow_r : Nat → Int32) (ksp_r : Nat → Int32) (hf : f_X6_image isk nhour nair nrub nz nnb nkd ncl ngr noc nlit ncold nccell ncpow nsp khour kair krub kz knb kkd kcl kgr koc klit kcold kccell kcpow ksp = some (R, isk_r, khour_r, kair_r, krub_r, kz_r, knb_r, kkd_r, kcl_r, kgr_r, koc_r, klit_r, kcold_r, kccell_r, kcpow_r, ksp_r)) : Met l yX6_image (ik_ws yX6_image cX6_image 1 (some .int)) ({ frames := 3, cells := 0, slots := 0, locals := 102 } : Room) (ik_P D cI cS [.ref o0] (wz_X6onk cI cS o0 np0 kp0 tp0 r0 t0 sh0 f0 nw0 nc0 np1 np2 np3 nw1 nw2 nw3 nw4 nc1 nc2 kw0 kc0 kp1 kp2 kp3 kw1 kw2 kw3 kw4 kc1 kc2 isk nhour nair nrub nz nnb nkd ncl ngr noc nlit ncold nccell ncpow nsp nwm ndr khour kair krub kz knb kkd kcl kgr koc klit kcold kccell kcpow ksp kwm kdr)) (ik_Q (some (.int R)) D (wz_X6onk cI cS o0 np0 kp0 tp0 r0 t0 sh0 f0 nw0 nc0 np1 np2 np3 nw1 nw2 nw3 nw4 nc1 nc2 kw0 kc0 kp1 kp2 kp3 kw1 kw2 kw3 kw4 kc1 kc2 isk_r nhour nair nrub nz nnb nkd ncl ngr noc nlit ncold nccell ncpow nsp nwm ndr khour_r kair_r krub_r kz_r knb_r kkd_r kcl_r kgr_r koc_r klit_r kcold_r kccell_r kcpow_r ksp_r kwm kdr) (wz_X6onk cI cS o0 np0 kp0 tp0 r0 t0 sh0 f0 nw0 nc0 np1 np2 np3 nw1 nw2 nw3 nw4 nc1 nc2 kw0 kc0 kp1 kp2 kp3 kw1 kw2 kw3 kw4 kc1 kc2 isk nhour nair nrub nz nnb nkd ncl ngr noc nlit ncold nccell ncpow nsp nwm ndr khour kair krub kz knb kkd kcl kgr koc klit kcold kccell kcpow ksp kwm kdr)) 0 0 (ik_in (wz_X6onk cI cS o0 np0 kp0 tp0 r0 t0 sh0 f0 nw0 nc0 np1 np2 np3 nw1 nw2 nw3 nw4 nc1 nc2 kw0 kc0 kp1 kp2 kp3 kw1 kw2 kw3 kw4 kc1 kc2 isk nhour nair nrub nz nnb nkd ncl ngr noc nlit ncold nccell ncpow nsp nwm ndr khour kair krub kz knb kkd kcl kgr koc klit kcold kccell kcpow ksp kwm kdr)) := by
  refine ik_metW RX6 rfl (by decide) (Nat.le_of_ble_eq_true rfl) [(0, .ref o0)] rfl ?_
  intro p e s m below meth c C hr hlk
  unfold f_X6_image at hf
  refine ik_aload_n C 0 rfl rfl dX6_image_0 ?_
  refine ik_get C inlX6 0 rfl rfl 1 (by decide) wl_1_16 rfl (v := .ref kp0) rfl dX6_image_1 ?_
  refine ik_aload_n C 0 rfl rfl dX6_image_4 ?_
  refine ik_get C inlX6 0 rfl rfl 0 (by decide) wl_1_15 rfl (v := .ref np0) rfl dX6_image_5 ?_
  obtain ⟨g1, g2, g3, g4, g5, g6, g7, g8, g9, g10, g11, g12, g13, g14, hc14, hf⟩ := ik_b14s hf
  have hM := (c_X1_copyFrom l D cI cS kp0 kw0 kc0 kp1 kp2 kp3 kw1 kw2 kw3 kw4 kc1 kc2 np0 nw0 nc0 np1 np2 np3 nw1 nw2 nw3 nw4 nc1 nc2 khour kair krub kz knb kkd kcl kgr koc klit kcold kccell kcpow ksp kwm kdr nhour nair nrub nz nnb nkd ncl ngr noc nlit ncold nccell ncpow nsp nwm ndr g1 g2 g3 g4 g5 g6 g7 g8 g9 g10 g11 g12 g13 g14 hc14)
  refine ik_goW (v := none) (wc := (wz_X1d cI cS kp0 kw0 kc0 kp1 kp2 kp3 kw1 kw2 kw3 kw4 kc1 kc2 np0 nw0 nc0 np1 np2 np3 nw1 nw2 nw3 nw4 nc1 nc2 khour kair krub kz knb kkd kcl kgr koc klit kcold kccell kcpow ksp kwm kdr nhour nair nrub nz nnb nkd ncl ngr noc nlit ncold nccell ncpow nsp nwm ndr)) (w1 := (wz_X1d cI cS kp0 kw0 kc0 kp1 kp2 kp3 kw1 kw2 kw3 kw4 kc1 kc2 np0 nw0 nc0 np1 np2 np3 nw1 nw2 nw3 nw4 nc1 nc2 g1 g2 g3 g4 g5 g6 g7 g8 g9 g10 g11 g12 g13 g14 kwm kdr nhour nair nrub nz nnb nkd ncl ngr noc nlit ncold nccell ncpow nsp nwm ndr)) [13, 14, 15, 16, 17, 18, 19, 20, 21, 22, 23, 24, 1, 2, 3, 4, 5, 6, 7, 8, 9, 10, 11, 12] [0] 25 rfl rfl (wz_X6onk cI cS o0 np0 kp0 tp0 r0 t0 sh0 f0 nw0 nc0 np1 np2 np3 nw1 nw2 nw3 nw4 nc1 nc2 kw0 kc0 kp1 kp2 kp3 kw1 kw2 kw3 kw4 kc1 kc2 isk nhour nair nrub nz nnb nkd ncl ngr noc nlit ncold nccell ncpow nsp nwm ndr g1 g2 g3 g4 g5 g6 g7 g8 g9 g10 g11 g12 g13 g14 kwm kdr) rfl [(o0, .inr (6, [.ref np0, .ref kp0, .ref tp0, .int isk, .ref r0, .ref t0, .ref sh0, .ref f0]))] rfl rfl rfl (by decide +kernel) (ik_runV (st := []) (As := [.ref np0]) C hM mv_X1_copyFrom wl_23_14 ⟨rfl, rfl, Nat.le_of_ble_eq_true rfl, Nat.le_of_ble_eq_true rfl⟩ [13, 14, 15, 16, 17, 18, 19, 20, 21, 22, 23, 24, 1, 2, 3, 4, 5, 6, 7, 8, 9, 10, 11, 12] rfl (by decide +kernel) 13 rfl rfl rfl rfl (Nat.le_of_ble_eq_true rfl) dX6_image_8 ⟨Nat.zero_le _, Nat.zero_le _⟩) rfl ?_
  refine ik_aload_n C 0 rfl rfl dX6_image_11 ?_
  refine ik_iconst (v := (1 : Int32)) C (by decide) dX6_image_12 ?_
  refine ik_put C inlX6 tyX6 tyX6_ok nmX6 0 rfl rfl 3 (by decide) wl_47_10 rfl (by decide) (by decide) (by decide) (Nat.le_of_ble_eq_true rfl) (wz_X6onk cI cS o0 np0 kp0 tp0 r0 t0 sh0 f0 nw0 nc0 np1 np2 np3 nw1 nw2 nw3 nw4 nc1 nc2 kw0 kc0 kp1 kp2 kp3 kw1 kw2 kw3 kw4 kc1 kc2 (1 : Int32) nhour nair nrub nz nnb nkd ncl ngr noc nlit ncold nccell ncpow nsp nwm ndr g1 g2 g3 g4 g5 g6 g7 g8 g9 g10 g11 g12 g13 g14 kwm kdr) rfl dX6_image_13 ?_
  refine ik_iconst (v := (1 : Int32)) C (by decide) dX6_image_16 ?_
  obtain ⟨rfl, rfl, rfl, rfl, rfl, rfl, rfl, rfl, rfl, rfl, rfl, rfl, rfl, rfl, rfl, rfl⟩ := ik_e16 hf
  exact ik_iretW C hr hlk dX6_image_17
theorem mv_X6_tell : ik_V yX6_tell RX6 cX6_tell 3 (some .int) 1 := ⟨wl_5_17, wl_5_18, wl_1_2, wl_5_19, by decide +kernel⟩
set_option maxHeartbeats 4000000 in
set_option maxRecDepth 100000 in
theorem c_X6_tell (l : Launch) (D : va_G) (cI cS : ClassId) (o0 np0 kp0 tp0 r0 t0 sh0 f0 : Nat) (isk : Int32) (fnd : Nat → Int32) (x1 : Int32) (R : Int32) (fnd_r : Nat → Int32) (hf : f_X6_tell fnd x1 = some (R, fnd_r)) : Met l yX6_tell (ik_ws yX6_tell cX6_tell 3 (some .int)) ({ frames := 1, cells := 0, slots := 0, locals := 22 } : Room) (ik_P D cI cS [.ref o0, .int x1] (wz_X6of cI cS o0 np0 kp0 tp0 r0 t0 sh0 f0 isk fnd)) (ik_Q (some (.int R)) D (wz_X6of cI cS o0 np0 kp0 tp0 r0 t0 sh0 f0 isk fnd_r) (wz_X6of cI cS o0 np0 kp0 tp0 r0 t0 sh0 f0 isk fnd)) 0 0 (ik_in (wz_X6of cI cS o0 np0 kp0 tp0 r0 t0 sh0 f0 isk fnd)) := by
  refine ik_metW RX6 rfl (by decide) (Nat.le_of_ble_eq_true rfl) [(0, .ref o0), (1, .int x1)] rfl ?_
  intro p e s m below meth c C hr hlk
  unfold f_X6_tell at hf
  refine ik_ldc C wl_5_3 dX6_tell_0 ?_
  refine ik_iload_n C 1 rfl rfl dX6_tell_2 ?_
  refine ik_isub C dX6_tell_3 ?_
  refine ik_istore_n C [(2, .int ((-1000001 : Int32) - x1)), (0, .ref o0), (1, .int x1)] rfl (by decide) rfl dX6_tell_4 ?_
  refine ik_iload_n C 0 rfl rfl dX6_tell_5 ?_
  refine ik_iconst (v := (0 : Int32)) C (by decide) dX6_tell_6 ?_
  refine ik_bipush (v := (6 : Int32)) C (by decide) dX6_tell_7 ?_
  obtain ⟨r1, hc1, hf⟩ := ik_b1s hf
  have hM := (c_X6_isWithin l D cI cS ((-1000001 : Int32) - x1) (0 : Int32) (6 : Int32) r1 hc1)
  refine ik_goR (ik_runS (st := []) (As := [.int ((-1000001 : Int32) - x1), .int (0 : Int32), .int (6 : Int32)]) C hM ms_X6_isWithin wl_5_10 ⟨rfl, rfl, Nat.le_of_ble_eq_true rfl, Nat.le_of_ble_eq_true rfl⟩ [] rfl (by decide +kernel) rfl rfl (Nat.le_of_ble_eq_true rfl) dX6_tell_9 ⟨Nat.zero_le _, Nat.zero_le _⟩) rfl ?_
  refine ik_if_eq C 25 dX6_tell_12 (by decide) (fun hc => ?_) (fun hc => ?_)
  · have hf := ik_pos hc hf
    refine ik_iload_n C 2 rfl rfl dX6_tell_25 ?_
    obtain ⟨rfl, rfl⟩ := ik_e2 hf
    exact ik_iretW C hr hlk dX6_tell_26
  · have hf := ik_neg hc hf
    refine ik_aload_n C 1 rfl rfl dX6_tell_15 ?_
    refine ik_get C inlX6 0 rfl rfl 7 (by decide) wl_2_3 rfl (v := .ref f0) rfl dX6_tell_16 ?_
    refine ik_iload_n C 0 rfl rfl dX6_tell_19 ?_
    refine ik_dup2 C rfl rfl dX6_tell_20 ?_
    have hg := ik_gdi hf
    have hf := ik_gdk hf
    refine ik_iald C 1 rfl hg dX6_tell_21 ?_
    refine ik_iconst (v := (1 : Int32)) C (by decide) dX6_tell_22 ?_
    refine ik_iadd C dX6_tell_23 ?_
    have hg := ik_gdi hf
    have hf := ik_gdk hf
    refine ik_iast C 1 rfl hg (wz_X6of cI cS o0 np0 kp0 tp0 r0 t0 sh0 f0 isk (upd fnd (((-1000001 : Int32) - x1)).toNatClampNeg ((fnd (((-1000001 : Int32) - x1)).toNatClampNeg) + (1 : Int32)))) rfl dX6_tell_24 ?_
    refine ik_iload_n C 2 rfl rfl dX6_tell_25 ?_
    obtain ⟨rfl, rfl⟩ := ik_e2 hf
    exact ik_iretW C hr hlk dX6_tell_26
theorem mv_X6_freshTrial : ik_V yX6_freshTrial RX6 cX6_freshTrial 1 (some (.object "IcePalace$Palace")) 0 := ⟨wl_23_11, wl_23_12, wl_1_2, wl_23_13, by decide +kernel⟩
set_option maxHeartbeats 4000000 in
set_option maxRecDepth 100000 in
theorem c_X6_freshTrial (l : Launch) (D : va_G) (cI cS : ClassId) (o0 np0 kp0 tp0 r0 t0 sh0 f0 nw0 nc0 np1 np2 np3 nw1 nw2 nw3 nw4 nc1 nc2 tw0 tc0 tp1 tp2 tp3 tw1 tw2 tw3 tw4 tc1 tc2 : Nat) (isk : Int32) (nhour : Int32) (nair : Int32) (nrub : Int32) (nz : Int32) (nnb : Int32) (nkd : Nat → Int32) (ncl : Nat → Int32) (ngr : Nat → Int32) (noc : Nat → Int32) (nlit : Int32) (ncold : Int32) (nccell : Nat → Int32) (ncpow : Nat → Int32) (nsp : Nat → Int32) (nwm : Nat → Int32) (ndr : Nat → Int32) (thour : Int32) (tair : Int32) (trub : Int32) (tz : Int32) (tnb : Int32) (tkd : Nat → Int32) (tcl : Nat → Int32) (tgr : Nat → Int32) (toc : Nat → Int32) (tlit : Int32) (tcold : Int32) (tccell : Nat → Int32) (tcpow : Nat → Int32) (tsp : Nat → Int32) (twm : Nat → Int32) (tdr : Nat → Int32) (thour_r : Int32) (tair_r : Int32) (trub_r : Int32) (tz_r : Int32) (tnb_r : Int32) (tkd_r : Nat → Int32) (tcl_r : Nat → Int32) (tgr_r : Nat → Int32) (toc_r : Nat → Int32) (tlit_r : Int32) (tcold_r : Int32) (tccell_r : Nat → Int32) (tcpow_r : Nat → Int32) (tsp_r : Nat → Int32) (hf : f_X6_freshTrial nhour nair nrub nz nnb nkd ncl ngr noc nlit ncold nccell ncpow nsp thour tair trub tz tnb tkd tcl tgr toc tlit tcold tccell tcpow tsp = some (thour_r, tair_r, trub_r, tz_r, tnb_r, tkd_r, tcl_r, tgr_r, toc_r, tlit_r, tcold_r, tccell_r, tcpow_r, tsp_r)) : Met l yX6_freshTrial (ik_ws yX6_freshTrial cX6_freshTrial 1 (some (.object "IcePalace$Palace"))) ({ frames := 3, cells := 0, slots := 0, locals := 102 } : Room) (ik_P D cI cS [.ref o0] (wz_X6ont cI cS o0 np0 kp0 tp0 r0 t0 sh0 f0 nw0 nc0 np1 np2 np3 nw1 nw2 nw3 nw4 nc1 nc2 tw0 tc0 tp1 tp2 tp3 tw1 tw2 tw3 tw4 tc1 tc2 isk nhour nair nrub nz nnb nkd ncl ngr noc nlit ncold nccell ncpow nsp nwm ndr thour tair trub tz tnb tkd tcl tgr toc tlit tcold tccell tcpow tsp twm tdr)) (ik_Q (some (.ref tp0)) D (wz_X6ont cI cS o0 np0 kp0 tp0 r0 t0 sh0 f0 nw0 nc0 np1 np2 np3 nw1 nw2 nw3 nw4 nc1 nc2 tw0 tc0 tp1 tp2 tp3 tw1 tw2 tw3 tw4 tc1 tc2 isk nhour nair nrub nz nnb nkd ncl ngr noc nlit ncold nccell ncpow nsp nwm ndr thour_r tair_r trub_r tz_r tnb_r tkd_r tcl_r tgr_r toc_r tlit_r tcold_r tccell_r tcpow_r tsp_r twm tdr) (wz_X6ont cI cS o0 np0 kp0 tp0 r0 t0 sh0 f0 nw0 nc0 np1 np2 np3 nw1 nw2 nw3 nw4 nc1 nc2 tw0 tc0 tp1 tp2 tp3 tw1 tw2 tw3 tw4 tc1 tc2 isk nhour nair nrub nz nnb nkd ncl ngr noc nlit ncold nccell ncpow nsp nwm ndr thour tair trub tz tnb tkd tcl tgr toc tlit tcold tccell tcpow tsp twm tdr)) 0 0 (ik_in (wz_X6ont cI cS o0 np0 kp0 tp0 r0 t0 sh0 f0 nw0 nc0 np1 np2 np3 nw1 nw2 nw3 nw4 nc1 nc2 tw0 tc0 tp1 tp2 tp3 tw1 tw2 tw3 tw4 tc1 tc2 isk nhour nair nrub nz nnb nkd ncl ngr noc nlit ncold nccell ncpow nsp nwm ndr thour tair trub tz tnb tkd tcl tgr toc tlit tcold tccell tcpow tsp twm tdr)) := by
  refine ik_metW RX6 rfl (by decide) (Nat.le_of_ble_eq_true rfl) [(0, .ref o0)] rfl ?_
  intro p e s m below meth c C hr hlk
  unfold f_X6_freshTrial at hf
  refine ik_aload_n C 0 rfl rfl dX6_freshTrial_0 ?_
  refine ik_get C inlX6 0 rfl rfl 2 (by decide) wl_1_17 rfl (v := .ref tp0) rfl dX6_freshTrial_1 ?_
  refine ik_aload_n C 0 rfl rfl dX6_freshTrial_4 ?_
  refine ik_get C inlX6 0 rfl rfl 0 (by decide) wl_1_15 rfl (v := .ref np0) rfl dX6_freshTrial_5 ?_
  obtain ⟨g1, g2, g3, g4, g5, g6, g7, g8, g9, g10, g11, g12, g13, g14, hc14, hf⟩ := ik_b14s hf
  have hM := (c_X1_copyFrom l D cI cS tp0 tw0 tc0 tp1 tp2 tp3 tw1 tw2 tw3 tw4 tc1 tc2 np0 nw0 nc0 np1 np2 np3 nw1 nw2 nw3 nw4 nc1 nc2 thour tair trub tz tnb tkd tcl tgr toc tlit tcold tccell tcpow tsp twm tdr nhour nair nrub nz nnb nkd ncl ngr noc nlit ncold nccell ncpow nsp nwm ndr g1 g2 g3 g4 g5 g6 g7 g8 g9 g10 g11 g12 g13 g14 hc14)
  refine ik_goW (v := none) (wc := (wz_X1d cI cS tp0 tw0 tc0 tp1 tp2 tp3 tw1 tw2 tw3 tw4 tc1 tc2 np0 nw0 nc0 np1 np2 np3 nw1 nw2 nw3 nw4 nc1 nc2 thour tair trub tz tnb tkd tcl tgr toc tlit tcold tccell tcpow tsp twm tdr nhour nair nrub nz nnb nkd ncl ngr noc nlit ncold nccell ncpow nsp nwm ndr)) (w1 := (wz_X1d cI cS tp0 tw0 tc0 tp1 tp2 tp3 tw1 tw2 tw3 tw4 tc1 tc2 np0 nw0 nc0 np1 np2 np3 nw1 nw2 nw3 nw4 nc1 nc2 g1 g2 g3 g4 g5 g6 g7 g8 g9 g10 g11 g12 g13 g14 twm tdr nhour nair nrub nz nnb nkd ncl ngr noc nlit ncold nccell ncpow nsp nwm ndr)) [13, 14, 15, 16, 17, 18, 19, 20, 21, 22, 23, 24, 1, 2, 3, 4, 5, 6, 7, 8, 9, 10, 11, 12] [0] 25 rfl rfl (wz_X6ont cI cS o0 np0 kp0 tp0 r0 t0 sh0 f0 nw0 nc0 np1 np2 np3 nw1 nw2 nw3 nw4 nc1 nc2 tw0 tc0 tp1 tp2 tp3 tw1 tw2 tw3 tw4 tc1 tc2 isk nhour nair nrub nz nnb nkd ncl ngr noc nlit ncold nccell ncpow nsp nwm ndr g1 g2 g3 g4 g5 g6 g7 g8 g9 g10 g11 g12 g13 g14 twm tdr) rfl [(o0, .inr (6, [.ref np0, .ref kp0, .ref tp0, .int isk, .ref r0, .ref t0, .ref sh0, .ref f0]))] rfl rfl rfl (by decide +kernel) (ik_runV (st := []) (As := [.ref np0]) C hM mv_X1_copyFrom wl_23_14 ⟨rfl, rfl, Nat.le_of_ble_eq_true rfl, Nat.le_of_ble_eq_true rfl⟩ [13, 14, 15, 16, 17, 18, 19, 20, 21, 22, 23, 24, 1, 2, 3, 4, 5, 6, 7, 8, 9, 10, 11, 12] rfl (by decide +kernel) 13 rfl rfl rfl rfl (Nat.le_of_ble_eq_true rfl) dX6_freshTrial_8 ⟨Nat.zero_le _, Nat.zero_le _⟩) rfl ?_
  refine ik_aload_n C 0 rfl rfl dX6_freshTrial_11 ?_
  refine ik_get C inlX6 0 rfl rfl 2 (by decide) wl_1_17 rfl (v := .ref tp0) rfl dX6_freshTrial_12 ?_
  obtain ⟨rfl, rfl, rfl, rfl, rfl, rfl, rfl, rfl, rfl, rfl, rfl, rfl, rfl, rfl⟩ := ik_e14 hf
  exact ik_aretW C hr hlk dX6_freshTrial_15
theorem mv_X1_removeMelted : ik_V yX1_removeMelted RX1 cX1_removeMelted 3 (some .int) 0 := ⟨wl_19_10, wl_19_11, wl_1_14, wl_19_12, by decide +kernel⟩
set_option maxHeartbeats 4000000 in
set_option maxRecDepth 100000 in
theorem c_X1_removeMelted (l : Launch) (D : va_G) (cI cS : ClassId) (p0 w0 c0 p1 p2 p3 w1 w2 w3 w4 c1 c2 : Nat) (hour : Int32) (air : Int32) (rub : Int32) (z : Int32) (nb : Int32) (kd : Nat → Int32) (cl : Nat → Int32) (gr : Nat → Int32) (oc : Nat → Int32) (lit : Int32) (cold : Int32) (ccell : Nat → Int32) (cpow : Nat → Int32) (sp : Nat → Int32) (wm : Nat → Int32) (dr : Nat → Int32) (R : Int32) (cl_r : Nat → Int32) (gr_r : Nat → Int32) (oc_r : Nat → Int32) (hf : f_X1_removeMelted nb cl gr oc = some (R, cl_r, gr_r, oc_r)) : Met l yX1_removeMelted (ik_ws yX1_removeMelted cX1_removeMelted 3 (some .int)) ({ frames := 3, cells := 0, slots := 0, locals := 65 } : Room) (ik_P D cI cS [.ref p0] (wz_X1 cI cS p0 w0 c0 p1 p2 p3 w1 w2 w3 w4 c1 c2 hour air rub z nb kd cl gr oc lit cold ccell cpow sp wm dr)) (ik_Q (some (.int R)) D (wz_X1 cI cS p0 w0 c0 p1 p2 p3 w1 w2 w3 w4 c1 c2 hour air rub z nb kd cl_r gr_r oc_r lit cold ccell cpow sp wm dr) (wz_X1 cI cS p0 w0 c0 p1 p2 p3 w1 w2 w3 w4 c1 c2 hour air rub z nb kd cl gr oc lit cold ccell cpow sp wm dr)) 0 0 (ik_in (wz_X1 cI cS p0 w0 c0 p1 p2 p3 w1 w2 w3 w4 c1 c2 hour air rub z nb kd cl gr oc lit cold ccell cpow sp wm dr)) := by
  refine ik_metW RX1 rfl (by decide) (Nat.le_of_ble_eq_true rfl) [(0, .ref p0)] rfl ?_
  intro p e s m below meth c C hr hlk
  unfold f_X1_removeMelted at hf
  refine ik_iconst (v := (0 : Int32)) C (by decide) dX1_removeMelted_0 ?_
  refine ik_istore_n C [(1, .int (0 : Int32)), (0, .ref p0)] rfl (by decide) rfl dX1_removeMelted_1 ?_
  refine ik_iconst (v := (0 : Int32)) C (by decide) dX1_removeMelted_2 ?_
  refine ik_istore_n C [(2, .int (0 : Int32)), (1, .int (0 : Int32)), (0, .ref p0)] rfl (by decide) rfl dX1_removeMelted_3 ?_
  have hL_4 : ∀ (n_4 : Nat) (cl_4 : Nat → Int32) (gr_4 : Nat → Int32) (oc_4 : Nat → Int32) (x1_4 : Int32) (x2_4 : Int32), ik_lp5 (b_X1_removeMelted_4 nb) n_4 cl_4 gr_4 oc_4 x1_4 x2_4 = some (R, cl_r, gr_r, oc_r) → ik_G p l e ({ frames := 3, cells := 0, slots := 0, locals := 65 } : Room) s m ([.ref p0] : List Value).toArray below meth c D (ik_in (wz_X1 cI cS p0 w0 c0 p1 p2 p3 w1 w2 w3 w4 c1 c2 hour air rub z nb kd cl gr oc lit cold ccell cpow sp wm dr)) (ik_in (wz_X1 cI cS p0 w0 c0 p1 p2 p3 w1 w2 w3 w4 c1 c2 hour air rub z nb kd cl gr oc lit cold ccell cpow sp wm dr)) 3 0 0 (MQ below (ik_Q (some (.int R)) D (wz_X1 cI cS p0 w0 c0 p1 p2 p3 w1 w2 w3 w4 c1 c2 hour air rub z nb kd cl_r gr_r oc_r lit cold ccell cpow sp wm dr) (wz_X1 cI cS p0 w0 c0 p1 p2 p3 w1 w2 w3 w4 c1 c2 hour air rub z nb kd cl gr oc lit cold ccell cpow sp wm dr)) ([.ref p0] : List Value).toArray s 0 0 (ik_in (wz_X1 cI cS p0 w0 c0 p1 p2 p3 w1 w2 w3 w4 c1 c2 hour air rub z nb kd cl gr oc lit cold ccell cpow sp wm dr))) 4 [(2, .int x2_4), (1, .int x1_4), (0, .ref p0)] [] (wz_X1 cI cS p0 w0 c0 p1 p2 p3 w1 w2 w3 w4 c1 c2 hour air rub z nb kd cl_4 gr_4 oc_4 lit cold ccell cpow sp wm dr) := by
    intro n_4
    induction n_4 with
    | zero => intro _ _ _ _ _ hf; exact nomatch hf
    | succ n_4 ih_4 =>
      intro cl_4 gr_4 oc_4 x1_4 x2_4 hf
      replace hf : b_X1_removeMelted_4 nb (ik_lp5 (b_X1_removeMelted_4 nb) n_4) cl_4 gr_4 oc_4 x1_4 x2_4 = some (R, cl_r, gr_r, oc_r) := hf
      unfold b_X1_removeMelted_4 at hf
      refine ik_iload_n C 0 rfl rfl dX1_removeMelted_4 ?_
      refine ik_aload_n C 2 rfl rfl dX1_removeMelted_5 ?_
      refine ik_get C inlX1 0 rfl rfl 0 (by decide) wl_2_13 rfl (v := .ref w0) rfl dX1_removeMelted_6 ?_
      refine ik_get C inlX5 1 rfl rfl 0 (by decide) wl_18_11 rfl (v := .int nb) rfl dX1_removeMelted_9 ?_
      refine ik_icmp_ge C 56 dX1_removeMelted_12 (by decide) (fun hc => ?_) (fun hc => ?_)
      · have hf := ik_pos hc hf
        refine ik_iload_n C 1 rfl rfl dX1_removeMelted_56 ?_
        obtain ⟨rfl, rfl, rfl, rfl⟩ := ik_e4 hf
        exact ik_iretW C hr hlk dX1_removeMelted_57
      · have hf := ik_neg hc hf
        refine ik_aload_n C 2 rfl rfl dX1_removeMelted_15 ?_
        refine ik_get C inlX1 0 rfl rfl 0 (by decide) wl_2_13 rfl (v := .ref w0) rfl dX1_removeMelted_16 ?_
        refine ik_iload_n C 0 rfl rfl dX1_removeMelted_19 ?_
        obtain ⟨r1, hc1, hf⟩ := ik_b1s hf
        have hM := (c_X5_isGone l D cI cS w0 w1 w2 w3 w4 nb kd cl_4 gr_4 oc_4 x2_4 r1 hc1)
        refine ik_goR (ik_runV (st := []) (As := [.int x2_4]) C hM mv_X5_isGone wl_18_13 ⟨rfl, rfl, Nat.le_of_ble_eq_true rfl, Nat.le_of_ble_eq_true rfl⟩ [1, 2, 3, 4, 5] rfl (by decide +kernel) 1 rfl rfl rfl rfl (Nat.le_of_ble_eq_true rfl) dX1_removeMelted_20 ⟨Nat.zero_le _, Nat.zero_le _⟩) rfl ?_
        refine ik_if_ne C 50 dX1_removeMelted_23 (by decide) (fun hc => ?_) (fun hc => ?_)
        · have hf := ik_neg hc hf
          refine ik_iinc C [(2, .int (x2_4 + (1 : Int32))), (1, .int x1_4), (0, .ref p0)] 0 rfl rfl (by decide) rfl dX1_removeMelted_50 ?_
          refine ik_goto C 4 dX1_removeMelted_53 (by decide) ?_
          exact ik_sub [0, 1, 2] [(2, .int (x2_4 + (1 : Int32))), (1, .int x1_4), (0, .ref p0)] rfl (ih_4 cl_4 gr_4 oc_4 x1_4 (x2_4 + (1 : Int32)) hf)
        · have hf := ik_pos hc hf
          refine ik_aload_n C 2 rfl rfl dX1_removeMelted_26 ?_
          refine ik_get C inlX1 0 rfl rfl 0 (by decide) wl_2_13 rfl (v := .ref w0) rfl dX1_removeMelted_27 ?_
          refine ik_get C inlX5 1 rfl rfl 3 (by decide) wl_19_0 rfl (v := .ref w3) rfl dX1_removeMelted_30 ?_
          refine ik_iload_n C 0 rfl rfl dX1_removeMelted_33 ?_
          have hg := ik_gdi hf
          have hf := ik_gdk hf
          refine ik_iald C 4 rfl hg dX1_removeMelted_34 ?_
          refine ik_if_gt C 50 dX1_removeMelted_35 (by decide) (fun hc => ?_) (fun hc => ?_)
          · have hf := ik_pos hc hf
            refine ik_iinc C [(2, .int (x2_4 + (1 : Int32))), (1, .int x1_4), (0, .ref p0)] 0 rfl rfl (by decide) rfl dX1_removeMelted_50 ?_
            refine ik_goto C 4 dX1_removeMelted_53 (by decide) ?_
            exact ik_sub [0, 1, 2] [(2, .int (x2_4 + (1 : Int32))), (1, .int x1_4), (0, .ref p0)] rfl (ih_4 cl_4 gr_4 oc_4 x1_4 (x2_4 + (1 : Int32)) hf)
          · have hf := ik_neg hc hf
            refine ik_aload_n C 2 rfl rfl dX1_removeMelted_38 ?_
            refine ik_get C inlX1 0 rfl rfl 0 (by decide) wl_2_13 rfl (v := .ref w0) rfl dX1_removeMelted_39 ?_
            refine ik_iload_n C 0 rfl rfl dX1_removeMelted_42 ?_
            obtain ⟨r2, g3, g4, g5, hc5, hf⟩ := ik_b4s hf
            have hM := (c_X5_remove l D cI cS w0 w1 w2 w3 w4 nb kd cl_4 gr_4 oc_4 x2_4 r2 g3 g4 g5 hc5)
            refine ik_goW (v := (some (.int r2))) (wc := (wz_X5 cI cS w0 w1 w2 w3 w4 nb kd cl_4 gr_4 oc_4)) (w1 := (wz_X5 cI cS w0 w1 w2 w3 w4 nb kd g3 g4 g5)) [1, 2, 3, 4, 5] [0, 6, 7, 8, 9, 10, 11] 12 rfl rfl (wz_X1 cI cS p0 w0 c0 p1 p2 p3 w1 w2 w3 w4 c1 c2 hour air rub z nb kd g3 g4 g5 lit cold ccell cpow sp wm dr) rfl [(p0, .inr (1, [.ref w0, .ref c0, .ref p1, .int hour, .int air, .int rub, .int z, .ref p2, .ref p3])), (c0, .inr (0, [.ref c1, .ref c2, .int lit, .int cold])), (c1, .inl (cI, 6, .inl ccell)), (c2, .inl (cI, 6, .inl cpow)), (p1, .inl (cI, 10, .inl sp)), (p2, .inl (cI, 16, .inl wm)), (p3, .inl (cI, 8, .inl dr))] rfl rfl rfl (by decide +kernel) (ik_runV (st := []) (As := [.int x2_4]) C hM mv_X5_remove wl_19_13 ⟨rfl, rfl, Nat.le_of_ble_eq_true rfl, Nat.le_of_ble_eq_true rfl⟩ [1, 2, 3, 4, 5] rfl (by decide +kernel) 1 rfl rfl rfl rfl (Nat.le_of_ble_eq_true rfl) dX1_removeMelted_43 ⟨Nat.zero_le _, Nat.zero_le _⟩) rfl ?_
            refine ik_pop C rfl dX1_removeMelted_46 ?_
            refine ik_iinc C [(1, .int (x1_4 + (1 : Int32))), (2, .int x2_4), (0, .ref p0)] 1 rfl rfl (by decide) rfl dX1_removeMelted_47 ?_
            refine ik_iinc C [(2, .int (x2_4 + (1 : Int32))), (1, .int (x1_4 + (1 : Int32))), (0, .ref p0)] 1 rfl rfl (by decide) rfl dX1_removeMelted_50 ?_
            refine ik_goto C 4 dX1_removeMelted_53 (by decide) ?_
            exact ik_sub [0, 1, 2] [(2, .int (x2_4 + (1 : Int32))), (1, .int (x1_4 + (1 : Int32))), (0, .ref p0)] rfl (ih_4 g3 g4 g5 (x1_4 + (1 : Int32)) (x2_4 + (1 : Int32)) hf)
  exact hL_4 ik_fu cl gr oc (0 : Int32) (0 : Int32) hf
theorem mv_X1_collapse : ik_V yX1_collapse RX1 cX1_collapse 5 (some .int) 0 := ⟨wl_19_18, wl_19_19, wl_1_14, wl_19_20, by decide +kernel⟩
set_option maxHeartbeats 4000000 in
set_option maxRecDepth 100000 in
theorem c_X1_collapse (l : Launch) (D : va_G) (cI cS : ClassId) (p0 w0 c0 p1 p2 p3 w1 w2 w3 w4 c1 c2 : Nat) (hour : Int32) (air : Int32) (rub : Int32) (z : Int32) (nb : Int32) (kd : Nat → Int32) (cl : Nat → Int32) (gr : Nat → Int32) (oc : Nat → Int32) (lit : Int32) (cold : Int32) (ccell : Nat → Int32) (cpow : Nat → Int32) (sp : Nat → Int32) (wm : Nat → Int32) (dr : Nat → Int32) (R : Int32) (rub_r : Int32) (cl_r : Nat → Int32) (gr_r : Nat → Int32) (oc_r : Nat → Int32) (hf : f_X1_collapse rub nb kd cl gr oc = some (R, rub_r, cl_r, gr_r, oc_r)) : Met l yX1_collapse (ik_ws yX1_collapse cX1_collapse 5 (some .int)) ({ frames := 3, cells := 0, slots := 0, locals := 77 } : Room) (ik_P D cI cS [.ref p0] (wz_X1 cI cS p0 w0 c0 p1 p2 p3 w1 w2 w3 w4 c1 c2 hour air rub z nb kd cl gr oc lit cold ccell cpow sp wm dr)) (ik_Q (some (.int R)) D (wz_X1 cI cS p0 w0 c0 p1 p2 p3 w1 w2 w3 w4 c1 c2 hour air rub_r z nb kd cl_r gr_r oc_r lit cold ccell cpow sp wm dr) (wz_X1 cI cS p0 w0 c0 p1 p2 p3 w1 w2 w3 w4 c1 c2 hour air rub z nb kd cl gr oc lit cold ccell cpow sp wm dr)) 0 0 (ik_in (wz_X1 cI cS p0 w0 c0 p1 p2 p3 w1 w2 w3 w4 c1 c2 hour air rub z nb kd cl gr oc lit cold ccell cpow sp wm dr)) := by
  refine ik_metW RX1 rfl (by decide) (Nat.le_of_ble_eq_true rfl) [(0, .ref p0)] rfl ?_
  intro p e s m below meth c C hr hlk
  unfold f_X1_collapse at hf
  refine ik_iconst (v := (0 : Int32)) C (by decide) dX1_collapse_0 ?_
  refine ik_istore_n C [(1, .int (0 : Int32)), (0, .ref p0)] rfl (by decide) rfl dX1_collapse_1 ?_
  refine ik_iconst (v := (0 : Int32)) C (by decide) dX1_collapse_2 ?_
  refine ik_istore_n C [(2, .int (0 : Int32)), (1, .int (0 : Int32)), (0, .ref p0)] rfl (by decide) rfl dX1_collapse_3 ?_
  have hL_4 : ∀ (n_4 : Nat) (rub_4 : Int32) (cl_4 : Nat → Int32) (gr_4 : Nat → Int32) (oc_4 : Nat → Int32) (x1_4 : Int32) (x2_4 : Int32), ik_lp6 (b_X1_collapse_4 nb kd) n_4 rub_4 cl_4 gr_4 oc_4 x1_4 x2_4 = some (R, rub_r, cl_r, gr_r, oc_r) → ik_G p l e ({ frames := 3, cells := 0, slots := 0, locals := 77 } : Room) s m ([.ref p0] : List Value).toArray below meth c D (ik_in (wz_X1 cI cS p0 w0 c0 p1 p2 p3 w1 w2 w3 w4 c1 c2 hour air rub z nb kd cl gr oc lit cold ccell cpow sp wm dr)) (ik_in (wz_X1 cI cS p0 w0 c0 p1 p2 p3 w1 w2 w3 w4 c1 c2 hour air rub z nb kd cl gr oc lit cold ccell cpow sp wm dr)) 5 0 0 (MQ below (ik_Q (some (.int R)) D (wz_X1 cI cS p0 w0 c0 p1 p2 p3 w1 w2 w3 w4 c1 c2 hour air rub_r z nb kd cl_r gr_r oc_r lit cold ccell cpow sp wm dr) (wz_X1 cI cS p0 w0 c0 p1 p2 p3 w1 w2 w3 w4 c1 c2 hour air rub z nb kd cl gr oc lit cold ccell cpow sp wm dr)) ([.ref p0] : List Value).toArray s 0 0 (ik_in (wz_X1 cI cS p0 w0 c0 p1 p2 p3 w1 w2 w3 w4 c1 c2 hour air rub z nb kd cl gr oc lit cold ccell cpow sp wm dr))) 4 [(2, .int x2_4), (1, .int x1_4), (0, .ref p0)] [] (wz_X1 cI cS p0 w0 c0 p1 p2 p3 w1 w2 w3 w4 c1 c2 hour air rub_4 z nb kd cl_4 gr_4 oc_4 lit cold ccell cpow sp wm dr) := by
    intro n_4
    induction n_4 with
    | zero => intro _ _ _ _ _ _ hf; exact nomatch hf
    | succ n_4 ih_4 =>
      intro rub_4 cl_4 gr_4 oc_4 x1_4 x2_4 hf
      replace hf : b_X1_collapse_4 nb kd (ik_lp6 (b_X1_collapse_4 nb kd) n_4) rub_4 cl_4 gr_4 oc_4 x1_4 x2_4 = some (R, rub_r, cl_r, gr_r, oc_r) := hf
      unfold b_X1_collapse_4 at hf
      refine ik_iload_n C 0 rfl rfl dX1_collapse_4 ?_
      refine ik_bipush (v := (16 : Int32)) C (by decide) dX1_collapse_5 ?_
      refine ik_icmp_gt C 90 dX1_collapse_7 (by decide) (fun hc => ?_) (fun hc => ?_)
      · have hf := ik_pos hc hf
        refine ik_iload_n C 1 rfl rfl dX1_collapse_90 ?_
        obtain ⟨rfl, rfl, rfl, rfl, rfl⟩ := ik_e5 hf
        exact ik_iretW C hr hlk dX1_collapse_91
      · have hf := ik_neg hc hf
        refine ik_aload_n C 2 rfl rfl dX1_collapse_10 ?_
        refine ik_get C inlX1 0 rfl rfl 0 (by decide) wl_2_13 rfl (v := .ref w0) rfl dX1_collapse_11 ?_
        obtain ⟨r1, hc1, hf⟩ := ik_b1s hf
        have hM := (c_X5_looseSet l D cI cS w0 w1 w2 w3 w4 nb kd cl_4 gr_4 oc_4 r1 hc1)
        refine ik_goR (ik_runV (st := []) (As := []) C hM mv_X5_looseSet wl_19_22 ⟨rfl, rfl, Nat.le_of_ble_eq_true rfl, Nat.le_of_ble_eq_true rfl⟩ [1, 2, 3, 4, 5] rfl (by decide +kernel) 1 rfl rfl rfl rfl (Nat.le_of_ble_eq_true rfl) dX1_collapse_14 ⟨Nat.zero_le _, Nat.zero_le _⟩) rfl ?_
        refine ik_aload_n C 2 rfl rfl dX1_collapse_17 ?_
        refine ik_get C inlX1 0 rfl rfl 0 (by decide) wl_2_13 rfl (v := .ref w0) rfl dX1_collapse_18 ?_
        obtain ⟨r2, hc2, hf⟩ := ik_b1s hf
        have hM := (c_X5_weakSet l D cI cS w0 w1 w2 w3 w4 nb kd cl_4 gr_4 oc_4 r2 hc2)
        refine ik_goR (ik_runV (st := [.int r1]) (As := []) C hM mv_X5_weakSet wl_20_3 ⟨rfl, rfl, Nat.le_of_ble_eq_true rfl, Nat.le_of_ble_eq_true rfl⟩ [1, 2, 3, 4, 5] rfl (by decide +kernel) 1 rfl rfl rfl rfl (Nat.le_of_ble_eq_true rfl) dX1_collapse_21 ⟨Nat.zero_le _, Nat.zero_le _⟩) rfl ?_
        refine ik_ior C dX1_collapse_24 ?_
        refine ik_istore_n C [(3, .int (r1 ||| r2)), (2, .int x2_4), (1, .int x1_4), (0, .ref p0)] rfl (by decide) rfl dX1_collapse_25 ?_
        refine ik_iload_n C 0 rfl rfl dX1_collapse_26 ?_
        refine ik_if_ne C 33 dX1_collapse_27 (by decide) (fun hc => ?_) (fun hc => ?_)
        · have hf := ik_neg hc hf
          refine ik_iconst (v := (0 : Int32)) C (by decide) dX1_collapse_33 ?_
          refine ik_istore C [(4, .int (0 : Int32)), (3, .int (r1 ||| r2)), (2, .int x2_4), (1, .int x1_4), (0, .ref p0)] (by decide) rfl dX1_collapse_34 ?_
          have hL_36 : ∀ (n_36 : Nat) (rub_36 : Int32) (cl_36 : Nat → Int32) (gr_36 : Nat → Int32) (oc_36 : Nat → Int32) (x1_36 : Int32) (x4_36 : Int32), ik_lp6 (b_X1_collapse_36 nb x2_4 r1 r2 (ik_lp6 (b_X1_collapse_4 nb kd) n_4)) n_36 rub_36 cl_36 gr_36 oc_36 x1_36 x4_36 = some (R, rub_r, cl_r, gr_r, oc_r) → ik_G p l e ({ frames := 3, cells := 0, slots := 0, locals := 77 } : Room) s m ([.ref p0] : List Value).toArray below meth c D (ik_in (wz_X1 cI cS p0 w0 c0 p1 p2 p3 w1 w2 w3 w4 c1 c2 hour air rub z nb kd cl gr oc lit cold ccell cpow sp wm dr)) (ik_in (wz_X1 cI cS p0 w0 c0 p1 p2 p3 w1 w2 w3 w4 c1 c2 hour air rub z nb kd cl gr oc lit cold ccell cpow sp wm dr)) 5 0 0 (MQ below (ik_Q (some (.int R)) D (wz_X1 cI cS p0 w0 c0 p1 p2 p3 w1 w2 w3 w4 c1 c2 hour air rub_r z nb kd cl_r gr_r oc_r lit cold ccell cpow sp wm dr) (wz_X1 cI cS p0 w0 c0 p1 p2 p3 w1 w2 w3 w4 c1 c2 hour air rub z nb kd cl gr oc lit cold ccell cpow sp wm dr)) ([.ref p0] : List Value).toArray s 0 0 (ik_in (wz_X1 cI cS p0 w0 c0 p1 p2 p3 w1 w2 w3 w4 c1 c2 hour air rub z nb kd cl gr oc lit cold ccell cpow sp wm dr))) 36 [(4, .int x4_36), (3, .int (r1 ||| r2)), (2, .int x2_4), (1, .int x1_36), (0, .ref p0)] [] (wz_X1 cI cS p0 w0 c0 p1 p2 p3 w1 w2 w3 w4 c1 c2 hour air rub_36 z nb kd cl_36 gr_36 oc_36 lit cold ccell cpow sp wm dr) := by
            intro n_36
            induction n_36 with
            | zero => intro _ _ _ _ _ _ hf; exact nomatch hf
            | succ n_36 ih_36 =>
              intro rub_36 cl_36 gr_36 oc_36 x1_36 x4_36 hf
              replace hf : b_X1_collapse_36 nb x2_4 r1 r2 (ik_lp6 (b_X1_collapse_4 nb kd) n_4) (ik_lp6 (b_X1_collapse_36 nb x2_4 r1 r2 (ik_lp6 (b_X1_collapse_4 nb kd) n_4)) n_36) rub_36 cl_36 gr_36 oc_36 x1_36 x4_36 = some (R, rub_r, cl_r, gr_r, oc_r) := hf
              unfold b_X1_collapse_36 at hf
              refine ik_iload C 0 rfl dX1_collapse_36 ?_
              refine ik_aload_n C 4 rfl rfl dX1_collapse_38 ?_
              refine ik_get C inlX1 0 rfl rfl 0 (by decide) wl_2_13 rfl (v := .ref w0) rfl dX1_collapse_39 ?_
              refine ik_get C inlX5 1 rfl rfl 0 (by decide) wl_18_11 rfl (v := .int nb) rfl dX1_collapse_42 ?_
              refine ik_icmp_ge C 84 dX1_collapse_45 (by decide) (fun hc => ?_) (fun hc => ?_)
              · have hf := ik_pos hc hf
                refine ik_iinc C [(2, .int (x2_4 + (1 : Int32))), (4, .int x4_36), (3, .int (r1 ||| r2)), (1, .int x1_36), (0, .ref p0)] 2 rfl rfl (by decide) rfl dX1_collapse_84 ?_
                refine ik_goto C 4 dX1_collapse_87 (by decide) ?_
                exact ik_sub [0, 3, 4] [(2, .int (x2_4 + (1 : Int32))), (1, .int x1_36), (0, .ref p0)] rfl (ih_4 rub_36 cl_36 gr_36 oc_36 x1_36 (x2_4 + (1 : Int32)) hf)
              · have hf := ik_neg hc hf
                refine ik_iload_n C 1 rfl rfl dX1_collapse_48 ?_
                refine ik_iload C 0 rfl dX1_collapse_49 ?_
                refine ik_iushr C dX1_collapse_51 ?_
                refine ik_iconst (v := (1 : Int32)) C (by decide) dX1_collapse_52 ?_
                refine ik_iand C dX1_collapse_53 ?_
                refine ik_if_eq C 78 dX1_collapse_54 (by decide) (fun hc => ?_) (fun hc => ?_)
                · have hf := ik_pos hc hf
                  refine ik_iinc C [(4, .int (x4_36 + (1 : Int32))), (3, .int (r1 ||| r2)), (2, .int x2_4), (1, .int x1_36), (0, .ref p0)] 0 rfl rfl (by decide) rfl dX1_collapse_78 ?_
                  refine ik_goto C 36 dX1_collapse_81 (by decide) ?_
                  exact ik_sub [0, 1, 2, 3, 4] [(4, .int (x4_36 + (1 : Int32))), (3, .int (r1 ||| r2)), (2, .int x2_4), (1, .int x1_36), (0, .ref p0)] rfl (ih_36 rub_36 cl_36 gr_36 oc_36 x1_36 (x4_36 + (1 : Int32)) hf)
                · have hf := ik_neg hc hf
                  refine ik_aload_n C 4 rfl rfl dX1_collapse_57 ?_
                  refine ik_dup C rfl dX1_collapse_58 ?_
                  refine ik_get C inlX1 0 rfl rfl 5 (by decide) wl_19_21 rfl (v := .int rub_36) rfl dX1_collapse_59 ?_
                  refine ik_aload_n C 4 rfl rfl dX1_collapse_62 ?_
                  refine ik_get C inlX1 0 rfl rfl 0 (by decide) wl_2_13 rfl (v := .ref w0) rfl dX1_collapse_63 ?_
                  refine ik_iload C 0 rfl dX1_collapse_66 ?_
                  obtain ⟨r3, g4, g5, g6, hc6, hf⟩ := ik_b4s hf
                  have hM := (c_X5_remove l D cI cS w0 w1 w2 w3 w4 nb kd cl_36 gr_36 oc_36 x4_36 r3 g4 g5 g6 hc6)
                  refine ik_goW (v := (some (.int r3))) (wc := (wz_X5 cI cS w0 w1 w2 w3 w4 nb kd cl_36 gr_36 oc_36)) (w1 := (wz_X5 cI cS w0 w1 w2 w3 w4 nb kd g4 g5 g6)) [1, 2, 3, 4, 5] [0, 6, 7, 8, 9, 10, 11] 12 rfl rfl (wz_X1 cI cS p0 w0 c0 p1 p2 p3 w1 w2 w3 w4 c1 c2 hour air rub_36 z nb kd g4 g5 g6 lit cold ccell cpow sp wm dr) rfl [(p0, .inr (1, [.ref w0, .ref c0, .ref p1, .int hour, .int air, .int rub_36, .int z, .ref p2, .ref p3])), (c0, .inr (0, [.ref c1, .ref c2, .int lit, .int cold])), (c1, .inl (cI, 6, .inl ccell)), (c2, .inl (cI, 6, .inl cpow)), (p1, .inl (cI, 10, .inl sp)), (p2, .inl (cI, 16, .inl wm)), (p3, .inl (cI, 8, .inl dr))] rfl rfl rfl (by decide +kernel) (ik_runV (st := [.int rub_36, .ref p0]) (As := [.int x4_36]) C hM mv_X5_remove wl_19_13 ⟨rfl, rfl, Nat.le_of_ble_eq_true rfl, Nat.le_of_ble_eq_true rfl⟩ [1, 2, 3, 4, 5] rfl (by decide +kernel) 1 rfl rfl rfl rfl (Nat.le_of_ble_eq_true rfl) dX1_collapse_68 ⟨Nat.zero_le _, Nat.zero_le _⟩) rfl ?_
                  refine ik_iadd C dX1_collapse_71 ?_
                  refine ik_put C inlX1 tyX1 tyX1_ok nmX1 0 rfl rfl 5 (by decide) wl_19_21 rfl (by decide) rfl rfl (Nat.le_of_ble_eq_true rfl) (wz_X1 cI cS p0 w0 c0 p1 p2 p3 w1 w2 w3 w4 c1 c2 hour air (rub_36 + r3) z nb kd g4 g5 g6 lit cold ccell cpow sp wm dr) rfl dX1_collapse_72 ?_
                  refine ik_iinc C [(1, .int (x1_36 + (1 : Int32))), (4, .int x4_36), (3, .int (r1 ||| r2)), (2, .int x2_4), (0, .ref p0)] 3 rfl rfl (by decide) rfl dX1_collapse_75 ?_
                  refine ik_iinc C [(4, .int (x4_36 + (1 : Int32))), (1, .int (x1_36 + (1 : Int32))), (3, .int (r1 ||| r2)), (2, .int x2_4), (0, .ref p0)] 1 rfl rfl (by decide) rfl dX1_collapse_78 ?_
                  refine ik_goto C 36 dX1_collapse_81 (by decide) ?_
                  exact ik_sub [0, 2, 3, 1, 4] [(4, .int (x4_36 + (1 : Int32))), (3, .int (r1 ||| r2)), (2, .int x2_4), (1, .int (x1_36 + (1 : Int32))), (0, .ref p0)] rfl (ih_36 (rub_36 + r3) g4 g5 g6 (x1_36 + (1 : Int32)) (x4_36 + (1 : Int32)) hf)
          exact hL_36 ik_fu rub_4 cl_4 gr_4 oc_4 x1_4 (0 : Int32) hf
        · have hf := ik_pos hc hf
          refine ik_goto C 90 dX1_collapse_30 (by decide) ?_
          refine ik_iload_n C 2 rfl rfl dX1_collapse_90 ?_
          obtain ⟨rfl, rfl, rfl, rfl, rfl⟩ := ik_e5 hf
          exact ik_iretW C hr hlk dX1_collapse_91
  exact hL_4 ik_fu rub cl gr oc (0 : Int32) (0 : Int32) hf
theorem mv_X1_danceTo : ik_V yX1_danceTo RX1 cX1_danceTo 4 (some .int) 1 := ⟨wl_32_14, wl_32_15, wl_1_14, wl_32_16, by decide +kernel⟩
set_option maxHeartbeats 4000000 in
set_option maxRecDepth 100000 in
theorem c_X1_danceTo (l : Launch) (D : va_G) (cI cS : ClassId) (p0 w0 c0 p1 p2 p3 w1 w2 w3 w4 c1 c2 : Nat) (hour : Int32) (air : Int32) (rub : Int32) (z : Int32) (nb : Int32) (kd : Nat → Int32) (cl : Nat → Int32) (gr : Nat → Int32) (oc : Nat → Int32) (lit : Int32) (cold : Int32) (ccell : Nat → Int32) (cpow : Nat → Int32) (sp : Nat → Int32) (wm : Nat → Int32) (dr : Nat → Int32) (x1 : Int32) (R : Int32) (air_r : Int32) (rub_r : Int32) (cl_r : Nat → Int32) (gr_r : Nat → Int32) (oc_r : Nat → Int32) (hf : f_X1_danceTo air rub nb kd cl gr oc x1 = some (R, air_r, rub_r, cl_r, gr_r, oc_r)) : Met l yX1_danceTo (ik_ws yX1_danceTo cX1_danceTo 4 (some .int)) ({ frames := 4, cells := 0, slots := 0, locals := 101 } : Room) (ik_P D cI cS [.ref p0, .int x1] (wz_X1 cI cS p0 w0 c0 p1 p2 p3 w1 w2 w3 w4 c1 c2 hour air rub z nb kd cl gr oc lit cold ccell cpow sp wm dr)) (ik_Q (some (.int R)) D (wz_X1 cI cS p0 w0 c0 p1 p2 p3 w1 w2 w3 w4 c1 c2 hour air_r rub_r z nb kd cl_r gr_r oc_r lit cold ccell cpow sp wm dr) (wz_X1 cI cS p0 w0 c0 p1 p2 p3 w1 w2 w3 w4 c1 c2 hour air rub z nb kd cl gr oc lit cold ccell cpow sp wm dr)) 0 0 (ik_in (wz_X1 cI cS p0 w0 c0 p1 p2 p3 w1 w2 w3 w4 c1 c2 hour air rub z nb kd cl gr oc lit cold ccell cpow sp wm dr)) := by
  refine ik_metW RX1 rfl (by decide) (Nat.le_of_ble_eq_true rfl) [(0, .ref p0), (1, .int x1)] rfl ?_
  intro p e s m below meth c C hr hlk
  unfold f_X1_danceTo at hf
  refine ik_aload_n C 0 rfl rfl dX1_danceTo_0 ?_
  refine ik_get C inlX1 0 rfl rfl 0 (by decide) wl_2_13 rfl (v := .ref w0) rfl dX1_danceTo_1 ?_
  refine ik_iload_n C 1 rfl rfl dX1_danceTo_4 ?_
  obtain ⟨r1, hc1, hf⟩ := ik_b1s hf
  have hM := (c_X5_shakenSet l D cI cS w0 w1 w2 w3 w4 nb kd cl gr oc x1 r1 hc1)
  refine ik_goR (ik_runV (st := []) (As := [.int x1]) C hM mv_X5_shakenSet wl_32_17 ⟨rfl, rfl, Nat.le_of_ble_eq_true rfl, Nat.le_of_ble_eq_true rfl⟩ [1, 2, 3, 4, 5] rfl (by decide +kernel) 1 rfl rfl rfl rfl (Nat.le_of_ble_eq_true rfl) dX1_danceTo_5 ⟨Nat.zero_le _, Nat.zero_le _⟩) rfl ?_
  refine ik_istore_n C [(2, .int r1), (0, .ref p0), (1, .int x1)] rfl (by decide) rfl dX1_danceTo_8 ?_
  refine ik_iconst (v := (0 : Int32)) C (by decide) dX1_danceTo_9 ?_
  refine ik_istore_n C [(3, .int (0 : Int32)), (2, .int r1), (0, .ref p0), (1, .int x1)] rfl (by decide) rfl dX1_danceTo_10 ?_
  have hL_11 : ∀ (n_11 : Nat) (air_11 : Int32) (gr_11 : Nat → Int32) (x3_11 : Int32), ik_lp3 (b_X1_danceTo_11 rub nb kd cl oc r1) n_11 air_11 gr_11 x3_11 = some (R, air_r, rub_r, cl_r, gr_r, oc_r) → ik_G p l e ({ frames := 4, cells := 0, slots := 0, locals := 101 } : Room) s m ([.ref p0, .int x1] : List Value).toArray below meth c D (ik_in (wz_X1 cI cS p0 w0 c0 p1 p2 p3 w1 w2 w3 w4 c1 c2 hour air rub z nb kd cl gr oc lit cold ccell cpow sp wm dr)) (ik_in (wz_X1 cI cS p0 w0 c0 p1 p2 p3 w1 w2 w3 w4 c1 c2 hour air rub z nb kd cl gr oc lit cold ccell cpow sp wm dr)) 4 0 0 (MQ below (ik_Q (some (.int R)) D (wz_X1 cI cS p0 w0 c0 p1 p2 p3 w1 w2 w3 w4 c1 c2 hour air_r rub_r z nb kd cl_r gr_r oc_r lit cold ccell cpow sp wm dr) (wz_X1 cI cS p0 w0 c0 p1 p2 p3 w1 w2 w3 w4 c1 c2 hour air rub z nb kd cl gr oc lit cold ccell cpow sp wm dr)) ([.ref p0, .int x1] : List Value).toArray s 0 0 (ik_in (wz_X1 cI cS p0 w0 c0 p1 p2 p3 w1 w2 w3 w4 c1 c2 hour air rub z nb kd cl gr oc lit cold ccell cpow sp wm dr))) 11 [(3, .int x3_11), (2, .int r1), (0, .ref p0), (1, .int x1)] [] (wz_X1 cI cS p0 w0 c0 p1 p2 p3 w1 w2 w3 w4 c1 c2 hour air_11 rub z nb kd cl gr_11 oc lit cold ccell cpow sp wm dr) := by
    intro n_11
    induction n_11 with
    | zero => intro _ _ _ hf; exact nomatch hf
    | succ n_11 ih_11 =>
      intro air_11 gr_11 x3_11 hf
      replace hf : b_X1_danceTo_11 rub nb kd cl oc r1 (ik_lp3 (b_X1_danceTo_11 rub nb kd cl oc r1) n_11) air_11 gr_11 x3_11 = some (R, air_r, rub_r, cl_r, gr_r, oc_r) := hf
      unfold b_X1_danceTo_11 at hf
      refine ik_iload_n C 0 rfl rfl dX1_danceTo_11 ?_
      refine ik_aload_n C 2 rfl rfl dX1_danceTo_12 ?_
      refine ik_get C inlX1 0 rfl rfl 0 (by decide) wl_2_13 rfl (v := .ref w0) rfl dX1_danceTo_13 ?_
      refine ik_get C inlX5 1 rfl rfl 0 (by decide) wl_18_11 rfl (v := .int nb) rfl dX1_danceTo_16 ?_
      refine ik_icmp_ge C 59 dX1_danceTo_19 (by decide) (fun hc => ?_) (fun hc => ?_)
      · have hf := ik_pos hc hf
        refine ik_aload_n C 2 rfl rfl dX1_danceTo_59 ?_
        obtain ⟨r2, g3, g4, g5, hc5, hf⟩ := ik_b4s hf
        have hM := (c_X1_removeMelted l D cI cS p0 w0 c0 p1 p2 p3 w1 w2 w3 w4 c1 c2 hour air_11 rub z nb kd cl gr_11 oc lit cold ccell cpow sp wm dr r2 g3 g4 g5 hc5)
        refine ik_goW (v := (some (.int r2))) (wc := (wz_X1 cI cS p0 w0 c0 p1 p2 p3 w1 w2 w3 w4 c1 c2 hour air_11 rub z nb kd cl gr_11 oc lit cold ccell cpow sp wm dr)) (w1 := (wz_X1 cI cS p0 w0 c0 p1 p2 p3 w1 w2 w3 w4 c1 c2 hour air_11 rub z nb kd g3 g4 g5 lit cold ccell cpow sp wm dr)) [0, 1, 2, 3, 4, 5, 6, 7, 8, 9, 10, 11] [] 12 rfl rfl (wz_X1 cI cS p0 w0 c0 p1 p2 p3 w1 w2 w3 w4 c1 c2 hour air_11 rub z nb kd g3 g4 g5 lit cold ccell cpow sp wm dr) rfl [] rfl rfl rfl (by decide +kernel) (ik_runV (st := []) (As := []) C hM mv_X1_removeMelted wl_19_9 ⟨rfl, rfl, Nat.le_of_ble_eq_true rfl, Nat.le_of_ble_eq_true rfl⟩ [0, 1, 2, 3, 4, 5, 6, 7, 8, 9, 10, 11] rfl (by decide +kernel) 0 rfl rfl rfl rfl (Nat.le_of_ble_eq_true rfl) dX1_danceTo_60 ⟨Nat.zero_le _, Nat.zero_le _⟩) rfl ?_
        refine ik_aload_n C 2 rfl rfl dX1_danceTo_63 ?_
        obtain ⟨r6, g7, g8, g9, g10, hc10, hf⟩ := ik_b5s hf
        have hM := (c_X1_collapse l D cI cS p0 w0 c0 p1 p2 p3 w1 w2 w3 w4 c1 c2 hour air_11 rub z nb kd g3 g4 g5 lit cold ccell cpow sp wm dr r6 g7 g8 g9 g10 hc10)
        refine ik_goW (v := (some (.int r6))) (wc := (wz_X1 cI cS p0 w0 c0 p1 p2 p3 w1 w2 w3 w4 c1 c2 hour air_11 rub z nb kd g3 g4 g5 lit cold ccell cpow sp wm dr)) (w1 := (wz_X1 cI cS p0 w0 c0 p1 p2 p3 w1 w2 w3 w4 c1 c2 hour air_11 g7 z nb kd g8 g9 g10 lit cold ccell cpow sp wm dr)) [0, 1, 2, 3, 4, 5, 6, 7, 8, 9, 10, 11] [] 12 rfl rfl (wz_X1 cI cS p0 w0 c0 p1 p2 p3 w1 w2 w3 w4 c1 c2 hour air_11 g7 z nb kd g8 g9 g10 lit cold ccell cpow sp wm dr) rfl [] rfl rfl rfl (by decide +kernel) (ik_runV (st := [.int r2]) (As := []) C hM mv_X1_collapse wl_19_17 ⟨rfl, rfl, Nat.le_of_ble_eq_true rfl, Nat.le_of_ble_eq_true rfl⟩ [0, 1, 2, 3, 4, 5, 6, 7, 8, 9, 10, 11] rfl (by decide +kernel) 0 rfl rfl rfl rfl (Nat.le_of_ble_eq_true rfl) dX1_danceTo_64 ⟨Nat.zero_le _, Nat.zero_le _⟩) rfl ?_
        refine ik_iadd C dX1_danceTo_67 ?_
        obtain ⟨rfl, rfl, rfl, rfl, rfl, rfl⟩ := ik_e6 hf
        exact ik_iretW C hr hlk dX1_danceTo_68
      · have hf := ik_neg hc hf
        refine ik_iload_n C 1 rfl rfl dX1_danceTo_22 ?_
        refine ik_iload_n C 0 rfl rfl dX1_danceTo_23 ?_
        refine ik_iushr C dX1_danceTo_24 ?_
        refine ik_iconst (v := (1 : Int32)) C (by decide) dX1_danceTo_25 ?_
        refine ik_iand C dX1_danceTo_26 ?_
        refine ik_if_eq C 53 dX1_danceTo_27 (by decide) (fun hc => ?_) (fun hc => ?_)
        · have hf := ik_pos hc hf
          refine ik_iinc C [(3, .int (x3_11 + (1 : Int32))), (2, .int r1), (0, .ref p0), (1, .int x1)] 0 rfl rfl (by decide) rfl dX1_danceTo_53 ?_
          refine ik_goto C 11 dX1_danceTo_56 (by decide) ?_
          exact ik_sub [0, 1, 2, 3] [(3, .int (x3_11 + (1 : Int32))), (2, .int r1), (0, .ref p0), (1, .int x1)] rfl (ih_11 air_11 gr_11 (x3_11 + (1 : Int32)) hf)
        · have hf := ik_neg hc hf
          refine ik_aload_n C 2 rfl rfl dX1_danceTo_30 ?_
          refine ik_get C inlX1 0 rfl rfl 0 (by decide) wl_2_13 rfl (v := .ref w0) rfl dX1_danceTo_31 ?_
          refine ik_get C inlX5 1 rfl rfl 3 (by decide) wl_19_0 rfl (v := .ref w3) rfl dX1_danceTo_34 ?_
          refine ik_iload_n C 0 rfl rfl dX1_danceTo_37 ?_
          refine ik_dup2 C rfl rfl dX1_danceTo_38 ?_
          have hg := ik_gdi hf
          have hf := ik_gdk hf
          refine ik_iald C 4 rfl hg dX1_danceTo_39 ?_
          refine ik_iconst (v := (1 : Int32)) C (by decide) dX1_danceTo_40 ?_
          refine ik_isub C dX1_danceTo_41 ?_
          have hg := ik_gdi hf
          have hf := ik_gdk hf
          refine ik_iast C 4 rfl hg (wz_X1 cI cS p0 w0 c0 p1 p2 p3 w1 w2 w3 w4 c1 c2 hour air_11 rub z nb kd cl (upd gr_11 (x3_11).toNatClampNeg ((gr_11 (x3_11).toNatClampNeg) - (1 : Int32))) oc lit cold ccell cpow sp wm dr) rfl dX1_danceTo_42 ?_
          refine ik_aload_n C 2 rfl rfl dX1_danceTo_43 ?_
          refine ik_dup C rfl dX1_danceTo_44 ?_
          refine ik_get C inlX1 0 rfl rfl 4 (by decide) wl_19_2 rfl (v := .int air_11) rfl dX1_danceTo_45 ?_
          refine ik_iconst (v := (1 : Int32)) C (by decide) dX1_danceTo_48 ?_
          refine ik_iadd C dX1_danceTo_49 ?_
          refine ik_put C inlX1 tyX1 tyX1_ok nmX1 0 rfl rfl 4 (by decide) wl_19_2 rfl (by decide) rfl rfl (Nat.le_of_ble_eq_true rfl) (wz_X1 cI cS p0 w0 c0 p1 p2 p3 w1 w2 w3 w4 c1 c2 hour (air_11 + (1 : Int32)) rub z nb kd cl (upd gr_11 (x3_11).toNatClampNeg ((gr_11 (x3_11).toNatClampNeg) - (1 : Int32))) oc lit cold ccell cpow sp wm dr) rfl dX1_danceTo_50 ?_
          refine ik_iinc C [(3, .int (x3_11 + (1 : Int32))), (2, .int r1), (0, .ref p0), (1, .int x1)] 0 rfl rfl (by decide) rfl dX1_danceTo_53 ?_
          refine ik_goto C 11 dX1_danceTo_56 (by decide) ?_
          exact ik_sub [0, 1, 2, 3] [(3, .int (x3_11 + (1 : Int32))), (2, .int r1), (0, .ref p0), (1, .int x1)] rfl (ih_11 (air_11 + (1 : Int32)) (upd gr_11 (x3_11).toNatClampNeg ((gr_11 (x3_11).toNatClampNeg) - (1 : Int32))) (x3_11 + (1 : Int32)) hf)
  exact hL_11 ik_fu air gr (0 : Int32) hf
theorem mv_X4_advance : ik_V yX4_advance RX4 cX4_advance 2 none 0 := ⟨wl_36_0, wl_36_1, wl_1_20, wl_36_2, by decide +kernel⟩
set_option maxHeartbeats 4000000 in
set_option maxRecDepth 100000 in
theorem c_X4_advance (l : Launch) (D : va_G) (cI cS : ClassId) (r0 t0 t1 : Nat) (tok : Int32) (sta : Int32) (en : Int32) (val : Int32) (tsize : Int32) (tby : Nat → Int32) (tok_r : Int32) (sta_r : Int32) (en_r : Int32) (val_r : Int32) (hf : f_X4_advance tok sta en val tsize tby = some (tok_r, sta_r, en_r, val_r)) : Met l yX4_advance (ik_ws yX4_advance cX4_advance 2 none) ({ frames := 2, cells := 0, slots := 0, locals := 41 } : Room) (ik_P D cI cS [.ref r0] (wz_X4 cI cS r0 t0 t1 tok sta en val tsize tby)) (ik_Q none D (wz_X4 cI cS r0 t0 t1 tok_r sta_r en_r val_r tsize tby) (wz_X4 cI cS r0 t0 t1 tok sta en val tsize tby)) 0 0 (ik_in (wz_X4 cI cS r0 t0 t1 tok sta en val tsize tby)) := by
  refine ik_metW RX4 rfl (by decide) (Nat.le_of_ble_eq_true rfl) [(0, .ref r0)] rfl ?_
  intro p e s m below meth c C hr hlk
  unfold f_X4_advance at hf
  refine ik_aload_n C 0 rfl rfl dX4_advance_0 ?_
  refine ik_aload_n C 0 rfl rfl dX4_advance_1 ?_
  refine ik_get C inlX4 0 rfl rfl 3 (by decide) wl_35_20 rfl (v := .int en) rfl dX4_advance_2 ?_
  refine ik_put C inlX4 tyX4 tyX4_ok nmX4 0 rfl rfl 2 (by decide) wl_35_22 rfl (by decide) rfl rfl (Nat.le_of_ble_eq_true rfl) (wz_X4 cI cS r0 t0 t1 tok en en val tsize tby) rfl dX4_advance_5 ?_
  have hL_8 : ∀ (n_8 : Nat) (sta_8 : Int32), ik_lp1 (b_X4_advance_8 val tsize tby) n_8 sta_8 = some (tok_r, sta_r, en_r, val_r) → ik_G p l e ({ frames := 2, cells := 0, slots := 0, locals := 41 } : Room) s m ([.ref r0] : List Value).toArray below meth c D (ik_in (wz_X4 cI cS r0 t0 t1 tok sta en val tsize tby)) (ik_in (wz_X4 cI cS r0 t0 t1 tok sta en val tsize tby)) 2 0 0 (MQ below (ik_Q none D (wz_X4 cI cS r0 t0 t1 tok_r sta_r en_r val_r tsize tby) (wz_X4 cI cS r0 t0 t1 tok sta en val tsize tby)) ([.ref r0] : List Value).toArray s 0 0 (ik_in (wz_X4 cI cS r0 t0 t1 tok sta en val tsize tby))) 8 [(0, .ref r0)] [] (wz_X4 cI cS r0 t0 t1 tok sta_8 en val tsize tby) := by
    intro n_8
    induction n_8 with
    | zero => intro _ hf; exact nomatch hf
    | succ n_8 ih_8 =>
      intro sta_8 hf
      replace hf : b_X4_advance_8 val tsize tby (ik_lp1 (b_X4_advance_8 val tsize tby) n_8) sta_8 = some (tok_r, sta_r, en_r, val_r) := hf
      unfold b_X4_advance_8 at hf
      have hJ_51 : ∀ (_ : Unit), j_X4_advance_51 val tsize tby sta_8 = some (tok_r, sta_r, en_r, val_r) → ik_G p l e ({ frames := 2, cells := 0, slots := 0, locals := 41 } : Room) s m ([.ref r0] : List Value).toArray below meth c D (ik_in (wz_X4 cI cS r0 t0 t1 tok sta en val tsize tby)) (ik_in (wz_X4 cI cS r0 t0 t1 tok sta en val tsize tby)) 2 0 0 (MQ below (ik_Q none D (wz_X4 cI cS r0 t0 t1 tok_r sta_r en_r val_r tsize tby) (wz_X4 cI cS r0 t0 t1 tok sta en val tsize tby)) ([.ref r0] : List Value).toArray s 0 0 (ik_in (wz_X4 cI cS r0 t0 t1 tok sta en val tsize tby))) 51 [(0, .ref r0)] [] (wz_X4 cI cS r0 t0 t1 tok sta_8 en val tsize tby) := by
        intro _ hf
        unfold j_X4_advance_51 at hf
        refine ik_aload_n C 0 rfl rfl dX4_advance_51 ?_
        refine ik_get C inlX4 0 rfl rfl 0 (by decide) wl_3_23 rfl (v := .ref t0) rfl dX4_advance_52 ?_
        refine ik_aload_n C 0 rfl rfl dX4_advance_55 ?_
        refine ik_get C inlX4 0 rfl rfl 2 (by decide) wl_35_22 rfl (v := .int sta_8) rfl dX4_advance_56 ?_
        obtain ⟨r1, hc1, hf⟩ := ik_b1s hf
        have hM := (c_X3_byteAt l D cI cS t0 t1 tsize tby sta_8 r1 hc1)
        refine ik_goR (ik_runV (st := []) (As := [.int sta_8]) C hM mv_X3_byteAt wl_36_4 ⟨rfl, rfl, Nat.le_of_ble_eq_true rfl, Nat.le_of_ble_eq_true rfl⟩ [1, 2] rfl (by decide +kernel) 1 rfl rfl rfl rfl (Nat.le_of_ble_eq_true rfl) dX4_advance_59 ⟨Nat.zero_le _, Nat.zero_le _⟩) rfl ?_
        refine ik_istore_n C [(1, .int r1), (0, .ref r0)] rfl (by decide) rfl dX4_advance_62 ?_
        refine ik_aload_n C 1 rfl rfl dX4_advance_63 ?_
        refine ik_aload_n C 1 rfl rfl dX4_advance_64 ?_
        refine ik_get C inlX4 0 rfl rfl 2 (by decide) wl_35_22 rfl (v := .int sta_8) rfl dX4_advance_65 ?_
        refine ik_iconst (v := (1 : Int32)) C (by decide) dX4_advance_68 ?_
        refine ik_iadd C dX4_advance_69 ?_
        refine ik_put C inlX4 tyX4 tyX4_ok nmX4 0 rfl rfl 3 (by decide) wl_35_20 rfl (by decide) rfl rfl (Nat.le_of_ble_eq_true rfl) (wz_X4 cI cS r0 t0 t1 tok sta_8 (sta_8 + (1 : Int32)) val tsize tby) rfl dX4_advance_70 ?_
        refine ik_iload_n C 0 rfl rfl dX4_advance_73 ?_
        refine ik_if_ge C 93 dX4_advance_74 (by decide) (fun hc => ?_) (fun hc => ?_)
        · have hf := ik_pos hc hf
          refine ik_iload_n C 0 rfl rfl dX4_advance_93 ?_
          obtain ⟨r2, hc2, hf⟩ := ik_b1s hf
          have hM := (c_X4_isLetter l D cI cS r1 r2 hc2)
          refine ik_goR (ik_runS (st := []) (As := [.int r1]) C hM ms_X4_isLetter wl_36_8 ⟨rfl, rfl, Nat.le_of_ble_eq_true rfl, Nat.le_of_ble_eq_true rfl⟩ [] rfl (by decide +kernel) rfl rfl (Nat.le_of_ble_eq_true rfl) dX4_advance_94 ⟨Nat.zero_le _, Nat.zero_le _⟩) rfl ?_
          refine ik_if_eq C 149 dX4_advance_97 (by decide) (fun hc => ?_) (fun hc => ?_)
          · have hf := ik_pos hc hf
            refine ik_iload_n C 0 rfl rfl dX4_advance_149 ?_
            obtain ⟨r3, hc3, hf⟩ := ik_b1s hf
            have hM := (c_X4_isDigit l D cI cS r1 r3 hc3)
            refine ik_goR (ik_runS (st := []) (As := [.int r1]) C hM ms_X4_isDigit wl_36_11 ⟨rfl, rfl, Nat.le_of_ble_eq_true rfl, Nat.le_of_ble_eq_true rfl⟩ [] rfl (by decide +kernel) rfl rfl (Nat.le_of_ble_eq_true rfl) dX4_advance_150 ⟨Nat.zero_le _, Nat.zero_le _⟩) rfl ?_
            refine ik_if_eq C 168 dX4_advance_153 (by decide) (fun hc => ?_) (fun hc => ?_)
            · have hf := ik_pos hc hf
              refine ik_iload_n C 0 rfl rfl dX4_advance_168 ?_
              refine ik_bipush (v := (59 : Int32)) C (by decide) dX4_advance_169 ?_
              refine ik_icmp_ne C 182 dX4_advance_171 (by decide) (fun hc => ?_) (fun hc => ?_)
              · have hf := ik_neg hc hf
                refine ik_aload_n C 1 rfl rfl dX4_advance_182 ?_
                refine ik_iload_n C 0 rfl rfl dX4_advance_183 ?_
                refine ik_bipush (v := (45 : Int32)) C (by decide) dX4_advance_184 ?_
                refine ik_icmp_ne C 193 dX4_advance_186 (by decide) (fun hc => ?_) (fun hc => ?_)
                · have hf := ik_neg hc hf
                  refine ik_iconst (v := (5 : Int32)) C (by decide) dX4_advance_193 ?_
                  refine ik_put C inlX4 tyX4 tyX4_ok nmX4 0 rfl rfl 1 (by decide) wl_35_21 rfl (by decide) rfl rfl (Nat.le_of_ble_eq_true rfl) (wz_X4 cI cS r0 t0 t1 (5 : Int32) sta_8 (sta_8 + (1 : Int32)) val tsize tby) rfl dX4_advance_194 ?_
                  obtain ⟨rfl, rfl, rfl, rfl⟩ := ik_e4 hf
                  exact ik_vretW C hr hlk dX4_advance_197
                · have hf := ik_pos hc hf
                  refine ik_iconst (v := (4 : Int32)) C (by decide) dX4_advance_189 ?_
                  refine ik_goto C 194 dX4_advance_190 (by decide) ?_
                  refine ik_put C inlX4 tyX4 tyX4_ok nmX4 0 rfl rfl 1 (by decide) wl_35_21 rfl (by decide) rfl rfl (Nat.le_of_ble_eq_true rfl) (wz_X4 cI cS r0 t0 t1 (4 : Int32) sta_8 (sta_8 + (1 : Int32)) val tsize tby) rfl dX4_advance_194 ?_
                  obtain ⟨rfl, rfl, rfl, rfl⟩ := ik_e4 hf
                  exact ik_vretW C hr hlk dX4_advance_197
              · have hf := ik_pos hc hf
                refine ik_aload_n C 1 rfl rfl dX4_advance_174 ?_
                refine ik_iconst (v := (3 : Int32)) C (by decide) dX4_advance_175 ?_
                refine ik_put C inlX4 tyX4 tyX4_ok nmX4 0 rfl rfl 1 (by decide) wl_35_21 rfl (by decide) rfl rfl (Nat.le_of_ble_eq_true rfl) (wz_X4 cI cS r0 t0 t1 (3 : Int32) sta_8 (sta_8 + (1 : Int32)) val tsize tby) rfl dX4_advance_176 ?_
                refine ik_goto C 197 dX4_advance_179 (by decide) ?_
                obtain ⟨rfl, rfl, rfl, rfl⟩ := ik_e4 hf
                exact ik_vretW C hr hlk dX4_advance_197
            · have hf := ik_neg hc hf
              refine ik_aload_n C 1 rfl rfl dX4_advance_156 ?_
              refine ik_iconst (v := (2 : Int32)) C (by decide) dX4_advance_157 ?_
              refine ik_put C inlX4 tyX4 tyX4_ok nmX4 0 rfl rfl 1 (by decide) wl_35_21 rfl (by decide) rfl rfl (Nat.le_of_ble_eq_true rfl) (wz_X4 cI cS r0 t0 t1 (2 : Int32) sta_8 (sta_8 + (1 : Int32)) val tsize tby) rfl dX4_advance_158 ?_
              refine ik_aload_n C 1 rfl rfl dX4_advance_161 ?_
              obtain ⟨g4, g5, hc5, hf⟩ := ik_b2s hf
              have hM := (c_X4_takeNumber l D cI cS r0 t0 t1 (2 : Int32) sta_8 (sta_8 + (1 : Int32)) val tsize tby g4 g5 hc5)
              refine ik_goW (v := none) (wc := (wz_X4 cI cS r0 t0 t1 (2 : Int32) sta_8 (sta_8 + (1 : Int32)) val tsize tby)) (w1 := (wz_X4 cI cS r0 t0 t1 (2 : Int32) sta_8 g4 g5 tsize tby)) [0, 1, 2] [] 3 rfl rfl (wz_X4 cI cS r0 t0 t1 (2 : Int32) sta_8 g4 g5 tsize tby) rfl [] rfl rfl rfl (by decide +kernel) (ik_runV (st := []) (As := []) C hM mv_X4_takeNumber wl_36_14 ⟨rfl, rfl, Nat.le_of_ble_eq_true rfl, Nat.le_of_ble_eq_true rfl⟩ [0, 1, 2] rfl (by decide +kernel) 0 rfl rfl rfl rfl (Nat.le_of_ble_eq_true rfl) dX4_advance_162 ⟨Nat.zero_le _, Nat.zero_le _⟩) rfl ?_
              refine ik_goto C 197 dX4_advance_165 (by decide) ?_
              obtain ⟨rfl, rfl, rfl, rfl⟩ := ik_e4 hf
              exact ik_vretW C hr hlk dX4_advance_197
          · have hf := ik_neg hc hf
            refine ik_aload_n C 1 rfl rfl dX4_advance_100 ?_
            refine ik_iconst (v := (1 : Int32)) C (by decide) dX4_advance_101 ?_
            refine ik_put C inlX4 tyX4 tyX4_ok nmX4 0 rfl rfl 1 (by decide) wl_35_21 rfl (by decide) rfl rfl (Nat.le_of_ble_eq_true rfl) (wz_X4 cI cS r0 t0 t1 (1 : Int32) sta_8 (sta_8 + (1 : Int32)) val tsize tby) rfl dX4_advance_102 ?_
            have hL_105 : ∀ (n_105 : Nat) (en_105 : Int32), ik_lp1 (b_X4_advance_105 val tsize tby sta_8) n_105 en_105 = some (tok_r, sta_r, en_r, val_r) → ik_G p l e ({ frames := 2, cells := 0, slots := 0, locals := 41 } : Room) s m ([.ref r0] : List Value).toArray below meth c D (ik_in (wz_X4 cI cS r0 t0 t1 tok sta en val tsize tby)) (ik_in (wz_X4 cI cS r0 t0 t1 tok sta en val tsize tby)) 2 0 0 (MQ below (ik_Q none D (wz_X4 cI cS r0 t0 t1 tok_r sta_r en_r val_r tsize tby) (wz_X4 cI cS r0 t0 t1 tok sta en val tsize tby)) ([.ref r0] : List Value).toArray s 0 0 (ik_in (wz_X4 cI cS r0 t0 t1 tok sta en val tsize tby))) 105 [(1, .int r1), (0, .ref r0)] [] (wz_X4 cI cS r0 t0 t1 (1 : Int32) sta_8 en_105 val tsize tby) := by
              intro n_105
              induction n_105 with
              | zero => intro _ hf; exact nomatch hf
              | succ n_105 ih_105 =>
                intro en_105 hf
                replace hf : b_X4_advance_105 val tsize tby sta_8 (ik_lp1 (b_X4_advance_105 val tsize tby sta_8) n_105) en_105 = some (tok_r, sta_r, en_r, val_r) := hf
                unfold b_X4_advance_105 at hf
                refine ik_aload_n C 1 rfl rfl dX4_advance_105 ?_
                refine ik_get C inlX4 0 rfl rfl 3 (by decide) wl_35_20 rfl (v := .int en_105) rfl dX4_advance_106 ?_
                refine ik_aload_n C 1 rfl rfl dX4_advance_109 ?_
                refine ik_get C inlX4 0 rfl rfl 0 (by decide) wl_3_23 rfl (v := .ref t0) rfl dX4_advance_110 ?_
                refine ik_get C inlX3 1 rfl rfl 1 (by decide) wl_36_3 rfl (v := .int tsize) rfl dX4_advance_113 ?_
                refine ik_icmp_ge C 197 dX4_advance_116 (by decide) (fun hc => ?_) (fun hc => ?_)
                · have hf := ik_pos hc hf
                  obtain ⟨rfl, rfl, rfl, rfl⟩ := ik_e4 hf
                  exact ik_vretW C hr hlk dX4_advance_197
                · have hf := ik_neg hc hf
                  refine ik_aload_n C 1 rfl rfl dX4_advance_119 ?_
                  refine ik_get C inlX4 0 rfl rfl 0 (by decide) wl_3_23 rfl (v := .ref t0) rfl dX4_advance_120 ?_
                  refine ik_aload_n C 1 rfl rfl dX4_advance_123 ?_
                  refine ik_get C inlX4 0 rfl rfl 3 (by decide) wl_35_20 rfl (v := .int en_105) rfl dX4_advance_124 ?_
                  obtain ⟨r3, hc3, hf⟩ := ik_b1s hf
                  have hM := (c_X3_byteAt l D cI cS t0 t1 tsize tby en_105 r3 hc3)
                  refine ik_goR (ik_runV (st := []) (As := [.int en_105]) C hM mv_X3_byteAt wl_36_4 ⟨rfl, rfl, Nat.le_of_ble_eq_true rfl, Nat.le_of_ble_eq_true rfl⟩ [1, 2] rfl (by decide +kernel) 1 rfl rfl rfl rfl (Nat.le_of_ble_eq_true rfl) dX4_advance_127 ⟨Nat.zero_le _, Nat.zero_le _⟩) rfl ?_
                  obtain ⟨r4, hc4, hf⟩ := ik_b1s hf
                  have hM := (c_X4_isLetter l D cI cS r3 r4 hc4)
                  refine ik_goR (ik_runS (st := []) (As := [.int r3]) C hM ms_X4_isLetter wl_36_8 ⟨rfl, rfl, Nat.le_of_ble_eq_true rfl, Nat.le_of_ble_eq_true rfl⟩ [] rfl (by decide +kernel) rfl rfl (Nat.le_of_ble_eq_true rfl) dX4_advance_130 ⟨Nat.zero_le _, Nat.zero_le _⟩) rfl ?_
                  refine ik_if_eq C 197 dX4_advance_133 (by decide) (fun hc => ?_) (fun hc => ?_)
                  · have hf := ik_pos hc hf
                    obtain ⟨rfl, rfl, rfl, rfl⟩ := ik_e4 hf
                    exact ik_vretW C hr hlk dX4_advance_197
                  · have hf := ik_neg hc hf
                    refine ik_aload_n C 1 rfl rfl dX4_advance_136 ?_
                    refine ik_dup C rfl dX4_advance_137 ?_
                    refine ik_get C inlX4 0 rfl rfl 3 (by decide) wl_35_20 rfl (v := .int en_105) rfl dX4_advance_138 ?_
                    refine ik_iconst (v := (1 : Int32)) C (by decide) dX4_advance_141 ?_
                    refine ik_iadd C dX4_advance_142 ?_
                    refine ik_put C inlX4 tyX4 tyX4_ok nmX4 0 rfl rfl 3 (by decide) wl_35_20 rfl (by decide) rfl rfl (Nat.le_of_ble_eq_true rfl) (wz_X4 cI cS r0 t0 t1 (1 : Int32) sta_8 (en_105 + (1 : Int32)) val tsize tby) rfl dX4_advance_143 ?_
                    refine ik_goto C 105 dX4_advance_146 (by decide) ?_
                    exact ik_sub [0, 1] [(1, .int r1), (0, .ref r0)] rfl (ih_105 (en_105 + (1 : Int32)) hf)
            exact hL_105 ik_fu (sta_8 + (1 : Int32)) hf
        · have hf := ik_neg hc hf
          refine ik_aload_n C 1 rfl rfl dX4_advance_77 ?_
          refine ik_iconst (v := (0 : Int32)) C (by decide) dX4_advance_78 ?_
          refine ik_put C inlX4 tyX4 tyX4_ok nmX4 0 rfl rfl 1 (by decide) wl_35_21 rfl (by decide) rfl rfl (Nat.le_of_ble_eq_true rfl) (wz_X4 cI cS r0 t0 t1 (0 : Int32) sta_8 (sta_8 + (1 : Int32)) val tsize tby) rfl dX4_advance_79 ?_
          refine ik_aload_n C 1 rfl rfl dX4_advance_82 ?_
          refine ik_aload_n C 1 rfl rfl dX4_advance_83 ?_
          refine ik_get C inlX4 0 rfl rfl 2 (by decide) wl_35_22 rfl (v := .int sta_8) rfl dX4_advance_84 ?_
          refine ik_put C inlX4 tyX4 tyX4_ok nmX4 0 rfl rfl 3 (by decide) wl_35_20 rfl (by decide) rfl rfl (Nat.le_of_ble_eq_true rfl) (wz_X4 cI cS r0 t0 t1 (0 : Int32) sta_8 sta_8 val tsize tby) rfl dX4_advance_87 ?_
          refine ik_goto C 197 dX4_advance_90 (by decide) ?_
          obtain ⟨rfl, rfl, rfl, rfl⟩ := ik_e4 hf
          exact ik_vretW C hr hlk dX4_advance_197
      refine ik_aload_n C 0 rfl rfl dX4_advance_8 ?_
      refine ik_get C inlX4 0 rfl rfl 2 (by decide) wl_35_22 rfl (v := .int sta_8) rfl dX4_advance_9 ?_
      refine ik_aload_n C 0 rfl rfl dX4_advance_12 ?_
      refine ik_get C inlX4 0 rfl rfl 0 (by decide) wl_3_23 rfl (v := .ref t0) rfl dX4_advance_13 ?_
      refine ik_get C inlX3 1 rfl rfl 1 (by decide) wl_36_3 rfl (v := .int tsize) rfl dX4_advance_16 ?_
      refine ik_icmp_ge C 51 dX4_advance_19 (by decide) (fun hc => ?_) (fun hc => ?_)
      · have hf := ik_pos hc hf
        exact ik_sub [0] [(0, .ref r0)] rfl (hJ_51 () hf)
      · have hf := ik_neg hc hf
        refine ik_aload_n C 0 rfl rfl dX4_advance_22 ?_
        refine ik_get C inlX4 0 rfl rfl 0 (by decide) wl_3_23 rfl (v := .ref t0) rfl dX4_advance_23 ?_
        refine ik_aload_n C 0 rfl rfl dX4_advance_26 ?_
        refine ik_get C inlX4 0 rfl rfl 2 (by decide) wl_35_22 rfl (v := .int sta_8) rfl dX4_advance_27 ?_
        obtain ⟨r1, hc1, hf⟩ := ik_b1s hf
        have hM := (c_X3_byteAt l D cI cS t0 t1 tsize tby sta_8 r1 hc1)
        refine ik_goR (ik_runV (st := []) (As := [.int sta_8]) C hM mv_X3_byteAt wl_36_4 ⟨rfl, rfl, Nat.le_of_ble_eq_true rfl, Nat.le_of_ble_eq_true rfl⟩ [1, 2] rfl (by decide +kernel) 1 rfl rfl rfl rfl (Nat.le_of_ble_eq_true rfl) dX4_advance_30 ⟨Nat.zero_le _, Nat.zero_le _⟩) rfl ?_
        refine ik_bipush (v := (32 : Int32)) C (by decide) dX4_advance_33 ?_
        refine ik_icmp_ne C 51 dX4_advance_35 (by decide) (fun hc => ?_) (fun hc => ?_)
        · have hf := ik_neg hc hf
          exact ik_sub [0] [(0, .ref r0)] rfl (hJ_51 () hf)
        · have hf := ik_pos hc hf
          refine ik_aload_n C 0 rfl rfl dX4_advance_38 ?_
          refine ik_dup C rfl dX4_advance_39 ?_
          refine ik_get C inlX4 0 rfl rfl 2 (by decide) wl_35_22 rfl (v := .int sta_8) rfl dX4_advance_40 ?_
          refine ik_iconst (v := (1 : Int32)) C (by decide) dX4_advance_43 ?_
          refine ik_iadd C dX4_advance_44 ?_
          refine ik_put C inlX4 tyX4 tyX4_ok nmX4 0 rfl rfl 2 (by decide) wl_35_22 rfl (by decide) rfl rfl (Nat.le_of_ble_eq_true rfl) (wz_X4 cI cS r0 t0 t1 tok (sta_8 + (1 : Int32)) en val tsize tby) rfl dX4_advance_45 ?_
          refine ik_goto C 8 dX4_advance_48 (by decide) ?_
          exact ik_sub [0] [(0, .ref r0)] rfl (ih_8 (sta_8 + (1 : Int32)) hf)
  exact hL_8 ik_fu en hf
theorem mv_X6_block : ik_V yX6_block RX6 cX6_block 4 (some .int) 3 := ⟨wl_5_0, wl_5_1, wl_1_2, wl_5_2, by decide +kernel⟩
set_option maxHeartbeats 4000000 in
set_option maxRecDepth 100000 in
theorem c_X6_block (l : Launch) (D : va_G) (cI cS : ClassId) (o0 np0 kp0 tp0 r0 t0 sh0 f0 nw0 nc0 np1 np2 np3 nw1 nw2 nw3 nw4 nc1 nc2 : Nat) (isk : Int32) (fnd : Nat → Int32) (nhour : Int32) (nair : Int32) (nrub : Int32) (nz : Int32) (nnb : Int32) (nkd : Nat → Int32) (ncl : Nat → Int32) (ngr : Nat → Int32) (noc : Nat → Int32) (nlit : Int32) (ncold : Int32) (nccell : Nat → Int32) (ncpow : Nat → Int32) (nsp : Nat → Int32) (nwm : Nat → Int32) (ndr : Nat → Int32) (x1 : Int32) (x2 : Int32) (x3 : Int32) (R : Int32) (fnd_r : Nat → Int32) (nnb_r : Int32) (nkd_r : Nat → Int32) (ncl_r : Nat → Int32) (ngr_r : Nat → Int32) (noc_r : Nat → Int32) (hf : f_X6_block fnd nnb nkd ncl ngr noc x1 x2 x3 = some (R, fnd_r, nnb_r, nkd_r, ncl_r, ngr_r, noc_r)) : Met l yX6_block (ik_ws yX6_block cX6_block 4 (some .int)) ({ frames := 3, cells := 0, slots := 0, locals := 66 } : Room) (ik_P D cI cS [.ref o0, .int x1, .int x2, .int x3] (wz_X6ofn cI cS o0 np0 kp0 tp0 r0 t0 sh0 f0 nw0 nc0 np1 np2 np3 nw1 nw2 nw3 nw4 nc1 nc2 isk fnd nhour nair nrub nz nnb nkd ncl ngr noc nlit ncold nccell ncpow nsp nwm ndr)) (ik_Q (some (.int R)) D (wz_X6ofn cI cS o0 np0 kp0 tp0 r0 t0 sh0 f0 nw0 nc0 np1 np2 np3 nw1 nw2 nw3 nw4 nc1 nc2 isk fnd_r nhour nair nrub nz nnb_r nkd_r ncl_r ngr_r noc_r nlit ncold nccell ncpow nsp nwm ndr) (wz_X6ofn cI cS o0 np0 kp0 tp0 r0 t0 sh0 f0 nw0 nc0 np1 np2 np3 nw1 nw2 nw3 nw4 nc1 nc2 isk fnd nhour nair nrub nz nnb nkd ncl ngr noc nlit ncold nccell ncpow nsp nwm ndr)) 0 0 (ik_in (wz_X6ofn cI cS o0 np0 kp0 tp0 r0 t0 sh0 f0 nw0 nc0 np1 np2 np3 nw1 nw2 nw3 nw4 nc1 nc2 isk fnd nhour nair nrub nz nnb nkd ncl ngr noc nlit ncold nccell ncpow nsp nwm ndr)) := by
  refine ik_metW RX6 rfl (by decide) (Nat.le_of_ble_eq_true rfl) [(0, .ref o0), (1, .int x1), (2, .int x2), (3, .int x3)] rfl ?_
  intro p e s m below meth c C hr hlk
  unfold f_X6_block at hf
  refine ik_iload_n C 1 rfl rfl dX6_block_0 ?_
  obtain ⟨r1, hc1, hf⟩ := ik_b1s hf
  have hM := (c_X6_isKind l D cI cS x1 r1 hc1)
  refine ik_goR (ik_runS (st := []) (As := [.int x1]) C hM ms_X6_isKind wl_5_7 ⟨rfl, rfl, Nat.le_of_ble_eq_true rfl, Nat.le_of_ble_eq_true rfl⟩ [] rfl (by decide +kernel) rfl rfl (Nat.le_of_ble_eq_true rfl) dX6_block_1 ⟨Nat.zero_le _, Nat.zero_le _⟩) rfl ?_
  refine ik_if_eq C 24 dX6_block_4 (by decide) (fun hc => ?_) (fun hc => ?_)
  · have hf := ik_pos hc hf
    refine ik_aload_n C 0 rfl rfl dX6_block_24 ?_
    refine ik_ldc C wl_5_3 dX6_block_25 ?_
    obtain ⟨r2, g3, hc3, hf⟩ := ik_b2s hf
    have hM := (c_X6_tell l D cI cS o0 np0 kp0 tp0 r0 t0 sh0 f0 isk fnd (-1000001 : Int32) r2 g3 hc3)
    refine ik_goW (v := (some (.int r2))) (wc := (wz_X6of cI cS o0 np0 kp0 tp0 r0 t0 sh0 f0 isk fnd)) (w1 := (wz_X6of cI cS o0 np0 kp0 tp0 r0 t0 sh0 f0 isk g3)) [0, 1] [2, 3, 4, 5, 6, 7, 8, 9, 10, 11, 12, 13] 14 rfl rfl (wz_X6ofn cI cS o0 np0 kp0 tp0 r0 t0 sh0 f0 nw0 nc0 np1 np2 np3 nw1 nw2 nw3 nw4 nc1 nc2 isk g3 nhour nair nrub nz nnb nkd ncl ngr noc nlit ncold nccell ncpow nsp nwm ndr) rfl [(np0, .inr (1, [.ref nw0, .ref nc0, .ref np1, .int nhour, .int nair, .int nrub, .int nz, .ref np2, .ref np3])), (nw0, .inr (5, [.int nnb, .ref nw1, .ref nw2, .ref nw3, .ref nw4])), (nw1, .inl (cI, 16, .inl nkd)), (nw2, .inl (cI, 16, .inl ncl)), (nw3, .inl (cI, 16, .inl ngr)), (nw4, .inl (cI, 48, .inl noc)), (nc0, .inr (0, [.ref nc1, .ref nc2, .int nlit, .int ncold])), (nc1, .inl (cI, 6, .inl nccell)), (nc2, .inl (cI, 6, .inl ncpow)), (np1, .inl (cI, 10, .inl nsp)), (np2, .inl (cI, 16, .inl nwm)), (np3, .inl (cI, 8, .inl ndr))] rfl rfl rfl (by decide +kernel) (ik_runV (st := []) (As := [.int (-1000001 : Int32)]) C hM mv_X6_tell wl_5_16 ⟨rfl, rfl, Nat.le_of_ble_eq_true rfl, Nat.le_of_ble_eq_true rfl⟩ [0, 1] rfl (by decide +kernel) 0 rfl rfl rfl rfl (Nat.le_of_ble_eq_true rfl) dX6_block_27 ⟨Nat.zero_le _, Nat.zero_le _⟩) rfl ?_
    obtain ⟨rfl, rfl, rfl, rfl, rfl, rfl, rfl⟩ := ik_e7 hf
    exact ik_iretW C hr hlk dX6_block_30
  · have hf := ik_neg hc hf
    refine ik_iload_n C 2 rfl rfl dX6_block_7 ?_
    obtain ⟨r2, hc2, hf⟩ := ik_b1s hf
    have hM := (c_X6_isCell l D cI cS x2 r2 hc2)
    refine ik_goR (ik_runS (st := []) (As := [.int x2]) C hM ms_X6_isCell wl_5_13 ⟨rfl, rfl, Nat.le_of_ble_eq_true rfl, Nat.le_of_ble_eq_true rfl⟩ [] rfl (by decide +kernel) rfl rfl (Nat.le_of_ble_eq_true rfl) dX6_block_8 ⟨Nat.zero_le _, Nat.zero_le _⟩) rfl ?_
    refine ik_if_eq C 24 dX6_block_11 (by decide) (fun hc => ?_) (fun hc => ?_)
    · have hf := ik_pos hc hf
      refine ik_aload_n C 0 rfl rfl dX6_block_24 ?_
      refine ik_ldc C wl_5_3 dX6_block_25 ?_
      obtain ⟨r3, g4, hc4, hf⟩ := ik_b2s hf
      have hM := (c_X6_tell l D cI cS o0 np0 kp0 tp0 r0 t0 sh0 f0 isk fnd (-1000001 : Int32) r3 g4 hc4)
      refine ik_goW (v := (some (.int r3))) (wc := (wz_X6of cI cS o0 np0 kp0 tp0 r0 t0 sh0 f0 isk fnd)) (w1 := (wz_X6of cI cS o0 np0 kp0 tp0 r0 t0 sh0 f0 isk g4)) [0, 1] [2, 3, 4, 5, 6, 7, 8, 9, 10, 11, 12, 13] 14 rfl rfl (wz_X6ofn cI cS o0 np0 kp0 tp0 r0 t0 sh0 f0 nw0 nc0 np1 np2 np3 nw1 nw2 nw3 nw4 nc1 nc2 isk g4 nhour nair nrub nz nnb nkd ncl ngr noc nlit ncold nccell ncpow nsp nwm ndr) rfl [(np0, .inr (1, [.ref nw0, .ref nc0, .ref np1, .int nhour, .int nair, .int nrub, .int nz, .ref np2, .ref np3])), (nw0, .inr (5, [.int nnb, .ref nw1, .ref nw2, .ref nw3, .ref nw4])), (nw1, .inl (cI, 16, .inl nkd)), (nw2, .inl (cI, 16, .inl ncl)), (nw3, .inl (cI, 16, .inl ngr)), (nw4, .inl (cI, 48, .inl noc)), (nc0, .inr (0, [.ref nc1, .ref nc2, .int nlit, .int ncold])), (nc1, .inl (cI, 6, .inl nccell)), (nc2, .inl (cI, 6, .inl ncpow)), (np1, .inl (cI, 10, .inl nsp)), (np2, .inl (cI, 16, .inl nwm)), (np3, .inl (cI, 8, .inl ndr))] rfl rfl rfl (by decide +kernel) (ik_runV (st := []) (As := [.int (-1000001 : Int32)]) C hM mv_X6_tell wl_5_16 ⟨rfl, rfl, Nat.le_of_ble_eq_true rfl, Nat.le_of_ble_eq_true rfl⟩ [0, 1] rfl (by decide +kernel) 0 rfl rfl rfl rfl (Nat.le_of_ble_eq_true rfl) dX6_block_27 ⟨Nat.zero_le _, Nat.zero_le _⟩) rfl ?_
      obtain ⟨rfl, rfl, rfl, rfl, rfl, rfl, rfl⟩ := ik_e7 hf
      exact ik_iretW C hr hlk dX6_block_30
    · have hf := ik_neg hc hf
      refine ik_iload_n C 3 rfl rfl dX6_block_14 ?_
      refine ik_iconst (v := (1 : Int32)) C (by decide) dX6_block_15 ?_
      refine ik_bipush (v := (99 : Int32)) C (by decide) dX6_block_16 ?_
      obtain ⟨r3, hc3, hf⟩ := ik_b1s hf
      have hM := (c_X6_isWithin l D cI cS x3 (1 : Int32) (99 : Int32) r3 hc3)
      refine ik_goR (ik_runS (st := []) (As := [.int x3, .int (1 : Int32), .int (99 : Int32)]) C hM ms_X6_isWithin wl_5_10 ⟨rfl, rfl, Nat.le_of_ble_eq_true rfl, Nat.le_of_ble_eq_true rfl⟩ [] rfl (by decide +kernel) rfl rfl (Nat.le_of_ble_eq_true rfl) dX6_block_18 ⟨Nat.zero_le _, Nat.zero_le _⟩) rfl ?_
      refine ik_if_ne C 31 dX6_block_21 (by decide) (fun hc => ?_) (fun hc => ?_)
      · have hf := ik_neg hc hf
        refine ik_aload_n C 0 rfl rfl dX6_block_31 ?_
        refine ik_get C inlX6 0 rfl rfl 0 (by decide) wl_1_15 rfl (v := .ref np0) rfl dX6_block_32 ?_
        refine ik_get C inlX1 2 rfl rfl 0 (by decide) wl_5_4 rfl (v := .ref nw0) rfl dX6_block_35 ?_
        obtain ⟨r4, hc4, hf⟩ := ik_b1s hf
        have hM := (c_X5_isFull l D cI cS nw0 nw1 nw2 nw3 nw4 nnb nkd ncl ngr noc r4 hc4)
        refine ik_goR (ik_runV (st := []) (As := []) C hM mv_X5_isFull wl_5_20 ⟨rfl, rfl, Nat.le_of_ble_eq_true rfl, Nat.le_of_ble_eq_true rfl⟩ [3, 4, 5, 6, 7] rfl (by decide +kernel) 3 rfl rfl rfl rfl (Nat.le_of_ble_eq_true rfl) dX6_block_38 ⟨Nat.zero_le _, Nat.zero_le _⟩) rfl ?_
        refine ik_if_eq C 51 dX6_block_41 (by decide) (fun hc => ?_) (fun hc => ?_)
        · have hf := ik_pos hc hf
          refine ik_aload_n C 0 rfl rfl dX6_block_51 ?_
          refine ik_get C inlX6 0 rfl rfl 0 (by decide) wl_1_15 rfl (v := .ref np0) rfl dX6_block_52 ?_
          refine ik_get C inlX1 2 rfl rfl 0 (by decide) wl_5_4 rfl (v := .ref nw0) rfl dX6_block_55 ?_
          refine ik_iload_n C 2 rfl rfl dX6_block_58 ?_
          obtain ⟨r5, hc5, hf⟩ := ik_b1s hf
          have hM := (c_X5_blockAt l D cI cS nw0 nw1 nw2 nw3 nw4 nnb nkd ncl ngr noc x2 r5 hc5)
          refine ik_goR (ik_runV (st := []) (As := [.int x2]) C hM mv_X5_blockAt wl_6_1 ⟨rfl, rfl, Nat.le_of_ble_eq_true rfl, Nat.le_of_ble_eq_true rfl⟩ [3, 4, 5, 6, 7] rfl (by decide +kernel) 3 rfl rfl rfl rfl (Nat.le_of_ble_eq_true rfl) dX6_block_59 ⟨Nat.zero_le _, Nat.zero_le _⟩) rfl ?_
          refine ik_if_lt C 72 dX6_block_62 (by decide) (fun hc => ?_) (fun hc => ?_)
          · have hf := ik_pos hc hf
            refine ik_aload_n C 0 rfl rfl dX6_block_72 ?_
            refine ik_get C inlX6 0 rfl rfl 0 (by decide) wl_1_15 rfl (v := .ref np0) rfl dX6_block_73 ?_
            refine ik_get C inlX1 2 rfl rfl 0 (by decide) wl_5_4 rfl (v := .ref nw0) rfl dX6_block_76 ?_
            refine ik_iload_n C 1 rfl rfl dX6_block_79 ?_
            refine ik_iload_n C 2 rfl rfl dX6_block_80 ?_
            refine ik_iload_n C 3 rfl rfl dX6_block_81 ?_
            obtain ⟨r6, g7, g8, g9, g10, g11, hc11, hf⟩ := ik_b6s hf
            have hM := (c_X5_build l D cI cS nw0 nw1 nw2 nw3 nw4 nnb nkd ncl ngr noc x1 x2 x3 r6 g7 g8 g9 g10 g11 hc11)
            refine ik_goW (v := (some (.int r6))) (wc := (wz_X5 cI cS nw0 nw1 nw2 nw3 nw4 nnb nkd ncl ngr noc)) (w1 := (wz_X5 cI cS nw0 nw1 nw2 nw3 nw4 g7 g8 g9 g10 g11)) [3, 4, 5, 6, 7] [0, 1, 2, 8, 9, 10, 11, 12, 13] 14 rfl rfl (wz_X6ofn cI cS o0 np0 kp0 tp0 r0 t0 sh0 f0 nw0 nc0 np1 np2 np3 nw1 nw2 nw3 nw4 nc1 nc2 isk fnd nhour nair nrub nz g7 g8 g9 g10 g11 nlit ncold nccell ncpow nsp nwm ndr) rfl [(o0, .inr (6, [.ref np0, .ref kp0, .ref tp0, .int isk, .ref r0, .ref t0, .ref sh0, .ref f0])), (f0, .inl (cI, 7, .inl fnd)), (np0, .inr (1, [.ref nw0, .ref nc0, .ref np1, .int nhour, .int nair, .int nrub, .int nz, .ref np2, .ref np3])), (nc0, .inr (0, [.ref nc1, .ref nc2, .int nlit, .int ncold])), (nc1, .inl (cI, 6, .inl nccell)), (nc2, .inl (cI, 6, .inl ncpow)), (np1, .inl (cI, 10, .inl nsp)), (np2, .inl (cI, 16, .inl nwm)), (np3, .inl (cI, 8, .inl ndr))] rfl rfl rfl (by decide +kernel) (ik_runV (st := []) (As := [.int x1, .int x2, .int x3]) C hM mv_X5_build wl_6_5 ⟨rfl, rfl, Nat.le_of_ble_eq_true rfl, Nat.le_of_ble_eq_true rfl⟩ [3, 4, 5, 6, 7] rfl (by decide +kernel) 3 rfl rfl rfl rfl (Nat.le_of_ble_eq_true rfl) dX6_block_82 ⟨Nat.zero_le _, Nat.zero_le _⟩) rfl ?_
            obtain ⟨rfl, rfl, rfl, rfl, rfl, rfl, rfl⟩ := ik_e7 hf
            exact ik_iretW C hr hlk dX6_block_85
          · have hf := ik_neg hc hf
            refine ik_aload_n C 0 rfl rfl dX6_block_65 ?_
            refine ik_ldc C wl_5_6 dX6_block_66 ?_
            obtain ⟨r6, g7, hc7, hf⟩ := ik_b2s hf
            have hM := (c_X6_tell l D cI cS o0 np0 kp0 tp0 r0 t0 sh0 f0 isk fnd (-1000005 : Int32) r6 g7 hc7)
            refine ik_goW (v := (some (.int r6))) (wc := (wz_X6of cI cS o0 np0 kp0 tp0 r0 t0 sh0 f0 isk fnd)) (w1 := (wz_X6of cI cS o0 np0 kp0 tp0 r0 t0 sh0 f0 isk g7)) [0, 1] [2, 3, 4, 5, 6, 7, 8, 9, 10, 11, 12, 13] 14 rfl rfl (wz_X6ofn cI cS o0 np0 kp0 tp0 r0 t0 sh0 f0 nw0 nc0 np1 np2 np3 nw1 nw2 nw3 nw4 nc1 nc2 isk g7 nhour nair nrub nz nnb nkd ncl ngr noc nlit ncold nccell ncpow nsp nwm ndr) rfl [(np0, .inr (1, [.ref nw0, .ref nc0, .ref np1, .int nhour, .int nair, .int nrub, .int nz, .ref np2, .ref np3])), (nw0, .inr (5, [.int nnb, .ref nw1, .ref nw2, .ref nw3, .ref nw4])), (nw1, .inl (cI, 16, .inl nkd)), (nw2, .inl (cI, 16, .inl ncl)), (nw3, .inl (cI, 16, .inl ngr)), (nw4, .inl (cI, 48, .inl noc)), (nc0, .inr (0, [.ref nc1, .ref nc2, .int nlit, .int ncold])), (nc1, .inl (cI, 6, .inl nccell)), (nc2, .inl (cI, 6, .inl ncpow)), (np1, .inl (cI, 10, .inl nsp)), (np2, .inl (cI, 16, .inl nwm)), (np3, .inl (cI, 8, .inl ndr))] rfl rfl rfl (by decide +kernel) (ik_runV (st := []) (As := [.int (-1000005 : Int32)]) C hM mv_X6_tell wl_5_16 ⟨rfl, rfl, Nat.le_of_ble_eq_true rfl, Nat.le_of_ble_eq_true rfl⟩ [0, 1] rfl (by decide +kernel) 0 rfl rfl rfl rfl (Nat.le_of_ble_eq_true rfl) dX6_block_68 ⟨Nat.zero_le _, Nat.zero_le _⟩) rfl ?_
            obtain ⟨rfl, rfl, rfl, rfl, rfl, rfl, rfl⟩ := ik_e7 hf
            exact ik_iretW C hr hlk dX6_block_71
        · have hf := ik_neg hc hf
          refine ik_aload_n C 0 rfl rfl dX6_block_44 ?_
          refine ik_ldc C wl_5_5 dX6_block_45 ?_
          obtain ⟨r5, g6, hc6, hf⟩ := ik_b2s hf
          have hM := (c_X6_tell l D cI cS o0 np0 kp0 tp0 r0 t0 sh0 f0 isk fnd (-1000002 : Int32) r5 g6 hc6)
          refine ik_goW (v := (some (.int r5))) (wc := (wz_X6of cI cS o0 np0 kp0 tp0 r0 t0 sh0 f0 isk fnd)) (w1 := (wz_X6of cI cS o0 np0 kp0 tp0 r0 t0 sh0 f0 isk g6)) [0, 1] [2, 3, 4, 5, 6, 7, 8, 9, 10, 11, 12, 13] 14 rfl rfl (wz_X6ofn cI cS o0 np0 kp0 tp0 r0 t0 sh0 f0 nw0 nc0 np1 np2 np3 nw1 nw2 nw3 nw4 nc1 nc2 isk g6 nhour nair nrub nz nnb nkd ncl ngr noc nlit ncold nccell ncpow nsp nwm ndr) rfl [(np0, .inr (1, [.ref nw0, .ref nc0, .ref np1, .int nhour, .int nair, .int nrub, .int nz, .ref np2, .ref np3])), (nw0, .inr (5, [.int nnb, .ref nw1, .ref nw2, .ref nw3, .ref nw4])), (nw1, .inl (cI, 16, .inl nkd)), (nw2, .inl (cI, 16, .inl ncl)), (nw3, .inl (cI, 16, .inl ngr)), (nw4, .inl (cI, 48, .inl noc)), (nc0, .inr (0, [.ref nc1, .ref nc2, .int nlit, .int ncold])), (nc1, .inl (cI, 6, .inl nccell)), (nc2, .inl (cI, 6, .inl ncpow)), (np1, .inl (cI, 10, .inl nsp)), (np2, .inl (cI, 16, .inl nwm)), (np3, .inl (cI, 8, .inl ndr))] rfl rfl rfl (by decide +kernel) (ik_runV (st := []) (As := [.int (-1000002 : Int32)]) C hM mv_X6_tell wl_5_16 ⟨rfl, rfl, Nat.le_of_ble_eq_true rfl, Nat.le_of_ble_eq_true rfl⟩ [0, 1] rfl (by decide +kernel) 0 rfl rfl rfl rfl (Nat.le_of_ble_eq_true rfl) dX6_block_47 ⟨Nat.zero_le _, Nat.zero_le _⟩) rfl ?_
          obtain ⟨rfl, rfl, rfl, rfl, rfl, rfl, rfl⟩ := ik_e7 hf
          exact ik_iretW C hr hlk dX6_block_50
      · have hf := ik_pos hc hf
        refine ik_aload_n C 0 rfl rfl dX6_block_24 ?_
        refine ik_ldc C wl_5_3 dX6_block_25 ?_
        obtain ⟨r4, g5, hc5, hf⟩ := ik_b2s hf
        have hM := (c_X6_tell l D cI cS o0 np0 kp0 tp0 r0 t0 sh0 f0 isk fnd (-1000001 : Int32) r4 g5 hc5)
        refine ik_goW (v := (some (.int r4))) (wc := (wz_X6of cI cS o0 np0 kp0 tp0 r0 t0 sh0 f0 isk fnd)) (w1 := (wz_X6of cI cS o0 np0 kp0 tp0 r0 t0 sh0 f0 isk g5)) [0, 1] [2, 3, 4, 5, 6, 7, 8, 9, 10, 11, 12, 13] 14 rfl rfl (wz_X6ofn cI cS o0 np0 kp0 tp0 r0 t0 sh0 f0 nw0 nc0 np1 np2 np3 nw1 nw2 nw3 nw4 nc1 nc2 isk g5 nhour nair nrub nz nnb nkd ncl ngr noc nlit ncold nccell ncpow nsp nwm ndr) rfl [(np0, .inr (1, [.ref nw0, .ref nc0, .ref np1, .int nhour, .int nair, .int nrub, .int nz, .ref np2, .ref np3])), (nw0, .inr (5, [.int nnb, .ref nw1, .ref nw2, .ref nw3, .ref nw4])), (nw1, .inl (cI, 16, .inl nkd)), (nw2, .inl (cI, 16, .inl ncl)), (nw3, .inl (cI, 16, .inl ngr)), (nw4, .inl (cI, 48, .inl noc)), (nc0, .inr (0, [.ref nc1, .ref nc2, .int nlit, .int ncold])), (nc1, .inl (cI, 6, .inl nccell)), (nc2, .inl (cI, 6, .inl ncpow)), (np1, .inl (cI, 10, .inl nsp)), (np2, .inl (cI, 16, .inl nwm)), (np3, .inl (cI, 8, .inl ndr))] rfl rfl rfl (by decide +kernel) (ik_runV (st := []) (As := [.int (-1000001 : Int32)]) C hM mv_X6_tell wl_5_16 ⟨rfl, rfl, Nat.le_of_ble_eq_true rfl, Nat.le_of_ble_eq_true rfl⟩ [0, 1] rfl (by decide +kernel) 0 rfl rfl rfl rfl (Nat.le_of_ble_eq_true rfl) dX6_block_27 ⟨Nat.zero_le _, Nat.zero_le _⟩) rfl ?_
        obtain ⟨rfl, rfl, rfl, rfl, rfl, rfl, rfl⟩ := ik_e7 hf
        exact ik_iretW C hr hlk dX6_block_30
