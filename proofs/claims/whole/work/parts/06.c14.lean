theorem mv_X1_passHour : ik_V yX1_passHour RX1 cX1_passHour 2 (some .int) 0 := ⟨wl_18_16, wl_18_17, wl_1_14, wl_18_18, by decide +kernel⟩
set_option maxHeartbeats 4000000 in
set_option maxRecDepth 100000 in
theorem c_X1_passHour (l : Launch) (D : va_G) (cI cS : ClassId) (p0 w0 c0 p1 p2 p3 w1 w2 w3 w4 c1 c2 : Nat) (hour : Int32) (air : Int32) (rub : Int32) (z : Int32) (nb : Int32) (kd : Nat → Int32) (cl : Nat → Int32) (gr : Nat → Int32) (oc : Nat → Int32) (lit : Int32) (cold : Int32) (ccell : Nat → Int32) (cpow : Nat → Int32) (sp : Nat → Int32) (wm : Nat → Int32) (dr : Nat → Int32) (R : Int32) (hour_r : Int32) (air_r : Int32) (rub_r : Int32) (cl_r : Nat → Int32) (gr_r : Nat → Int32) (oc_r : Nat → Int32) (dr_r : Nat → Int32) (hf : f_X1_passHour hour air rub nb kd cl gr oc wm dr = some (R, hour_r, air_r, rub_r, cl_r, gr_r, oc_r, dr_r)) : Met l yX1_passHour (ik_ws yX1_passHour cX1_passHour 2 (some .int)) ({ frames := 4, cells := 0, slots := 0, locals := 101 } : Room) (ik_P D cI cS [.ref p0] (wz_X1 cI cS p0 w0 c0 p1 p2 p3 w1 w2 w3 w4 c1 c2 hour air rub z nb kd cl gr oc lit cold ccell cpow sp wm dr)) (ik_Q (some (.int R)) D (wz_X1 cI cS p0 w0 c0 p1 p2 p3 w1 w2 w3 w4 c1 c2 hour_r air_r rub_r z nb kd cl_r gr_r oc_r lit cold ccell cpow sp wm dr_r) (wz_X1 cI cS p0 w0 c0 p1 p2 p3 w1 w2 w3 w4 c1 c2 hour air rub z nb kd cl gr oc lit cold ccell cpow sp wm dr)) 0 0 (ik_in (wz_X1 cI cS p0 w0 c0 p1 p2 p3 w1 w2 w3 w4 c1 c2 hour air rub z nb kd cl gr oc lit cold ccell cpow sp wm dr)) := by
  refine ik_metW RX1 rfl (by decide) (Nat.le_of_ble_eq_true rfl) [(0, .ref p0)] rfl ?_
  intro p e s m below meth c C hr hlk
  unfold f_X1_passHour at hf
  refine ik_aload_n C 0 rfl rfl dX1_passHour_0 ?_
  refine ik_get C inlX1 0 rfl rfl 8 (by decide) wl_2_21 rfl (v := .ref p3) rfl dX1_passHour_1 ?_
  refine ik_iconst (v := (0 : Int32)) C (by decide) dX1_passHour_4 ?_
  obtain ⟨g1, hc1, hf⟩ := ik_b1s hf
  have hM := (c_J7_fill_53178 l D cI cS p3 8 dr (0 : Int32) g1 hc1)
  refine ik_goW (v := none) (wc := (wz_fill cI cS p3 8 dr)) (w1 := (wz_fill cI cS p3 8 g1)) [11] [0, 1, 2, 3, 4, 5, 6, 7, 8, 9, 10] 12 rfl rfl (wz_X1 cI cS p0 w0 c0 p1 p2 p3 w1 w2 w3 w4 c1 c2 hour air rub z nb kd cl gr oc lit cold ccell cpow sp wm g1) rfl [(p0, .inr (1, [.ref w0, .ref c0, .ref p1, .int hour, .int air, .int rub, .int z, .ref p2, .ref p3])), (w0, .inr (5, [.int nb, .ref w1, .ref w2, .ref w3, .ref w4])), (w1, .inl (cI, 16, .inl kd)), (w2, .inl (cI, 16, .inl cl)), (w3, .inl (cI, 16, .inl gr)), (w4, .inl (cI, 48, .inl oc)), (c0, .inr (0, [.ref c1, .ref c2, .int lit, .int cold])), (c1, .inl (cI, 6, .inl ccell)), (c2, .inl (cI, 6, .inl cpow)), (p1, .inl (cI, 10, .inl sp)), (p2, .inl (cI, 16, .inl wm))] rfl rfl rfl (by decide +kernel) (ik_runS (st := []) (As := [.ref p3, .int (0 : Int32)]) C hM ms_J7_fill_53178 wl_3_16 ⟨rfl, rfl, Nat.le_of_ble_eq_true rfl, Nat.le_of_ble_eq_true rfl⟩ [11] rfl (by decide +kernel) rfl rfl (Nat.le_of_ble_eq_true rfl) dX1_passHour_5 ⟨Nat.zero_le _, Nat.zero_le _⟩) rfl ?_
  refine ik_iconst (v := (0 : Int32)) C (by decide) dX1_passHour_8 ?_
  refine ik_istore_n C [(1, .int (0 : Int32)), (0, .ref p0)] rfl (by decide) rfl dX1_passHour_9 ?_
  have hL_10 : ∀ (n_10 : Nat) (air_10 : Int32) (gr_10 : Nat → Int32) (dr_10 : Nat → Int32) (x1_10 : Int32), ik_lp4 (b_X1_passHour_10 hour rub nb kd cl oc wm) n_10 air_10 gr_10 dr_10 x1_10 = some (R, hour_r, air_r, rub_r, cl_r, gr_r, oc_r, dr_r) → ik_G p l e ({ frames := 4, cells := 0, slots := 0, locals := 101 } : Room) s m ([.ref p0] : List Value).toArray below meth c D (ik_in (wz_X1 cI cS p0 w0 c0 p1 p2 p3 w1 w2 w3 w4 c1 c2 hour air rub z nb kd cl gr oc lit cold ccell cpow sp wm dr)) (ik_in (wz_X1 cI cS p0 w0 c0 p1 p2 p3 w1 w2 w3 w4 c1 c2 hour air rub z nb kd cl gr oc lit cold ccell cpow sp wm dr)) 2 0 0 (MQ below (ik_Q (some (.int R)) D (wz_X1 cI cS p0 w0 c0 p1 p2 p3 w1 w2 w3 w4 c1 c2 hour_r air_r rub_r z nb kd cl_r gr_r oc_r lit cold ccell cpow sp wm dr_r) (wz_X1 cI cS p0 w0 c0 p1 p2 p3 w1 w2 w3 w4 c1 c2 hour air rub z nb kd cl gr oc lit cold ccell cpow sp wm dr)) ([.ref p0] : List Value).toArray s 0 0 (ik_in (wz_X1 cI cS p0 w0 c0 p1 p2 p3 w1 w2 w3 w4 c1 c2 hour air rub z nb kd cl gr oc lit cold ccell cpow sp wm dr))) 10 [(1, .int x1_10), (0, .ref p0)] [] (wz_X1 cI cS p0 w0 c0 p1 p2 p3 w1 w2 w3 w4 c1 c2 hour air_10 rub z nb kd cl gr_10 oc lit cold ccell cpow sp wm dr_10) := by
    intro n_10
    induction n_10 with
    | zero => intro _ _ _ _ hf; exact nomatch hf
    | succ n_10 ih_10 =>
      intro air_10 gr_10 dr_10 x1_10 hf
      replace hf : b_X1_passHour_10 hour rub nb kd cl oc wm (ik_lp4 (b_X1_passHour_10 hour rub nb kd cl oc wm) n_10) air_10 gr_10 dr_10 x1_10 = some (R, hour_r, air_r, rub_r, cl_r, gr_r, oc_r, dr_r) := hf
      unfold b_X1_passHour_10 at hf
      refine ik_iload_n C 0 rfl rfl dX1_passHour_10 ?_
      refine ik_aload_n C 1 rfl rfl dX1_passHour_11 ?_
      refine ik_get C inlX1 0 rfl rfl 0 (by decide) wl_2_13 rfl (v := .ref w0) rfl dX1_passHour_12 ?_
      refine ik_get C inlX5 1 rfl rfl 0 (by decide) wl_18_11 rfl (v := .int nb) rfl dX1_passHour_15 ?_
      refine ik_icmp_ge C 43 dX1_passHour_18 (by decide) (fun hc => ?_) (fun hc => ?_)
      · have hf := ik_pos hc hf
        refine ik_iconst (v := (0 : Int32)) C (by decide) dX1_passHour_43 ?_
        refine ik_istore_n C [(1, .int (0 : Int32)), (0, .ref p0)] rfl (by decide) rfl dX1_passHour_44 ?_
        have hL_45 : ∀ (n_45 : Nat) (air_45 : Int32) (gr_45 : Nat → Int32) (x1_45 : Int32), ik_lp3 (b_X1_passHour_45 hour rub nb kd cl oc wm dr_10) n_45 air_45 gr_45 x1_45 = some (R, hour_r, air_r, rub_r, cl_r, gr_r, oc_r, dr_r) → ik_G p l e ({ frames := 4, cells := 0, slots := 0, locals := 101 } : Room) s m ([.ref p0] : List Value).toArray below meth c D (ik_in (wz_X1 cI cS p0 w0 c0 p1 p2 p3 w1 w2 w3 w4 c1 c2 hour air rub z nb kd cl gr oc lit cold ccell cpow sp wm dr)) (ik_in (wz_X1 cI cS p0 w0 c0 p1 p2 p3 w1 w2 w3 w4 c1 c2 hour air rub z nb kd cl gr oc lit cold ccell cpow sp wm dr)) 2 0 0 (MQ below (ik_Q (some (.int R)) D (wz_X1 cI cS p0 w0 c0 p1 p2 p3 w1 w2 w3 w4 c1 c2 hour_r air_r rub_r z nb kd cl_r gr_r oc_r lit cold ccell cpow sp wm dr_r) (wz_X1 cI cS p0 w0 c0 p1 p2 p3 w1 w2 w3 w4 c1 c2 hour air rub z nb kd cl gr oc lit cold ccell cpow sp wm dr)) ([.ref p0] : List Value).toArray s 0 0 (ik_in (wz_X1 cI cS p0 w0 c0 p1 p2 p3 w1 w2 w3 w4 c1 c2 hour air rub z nb kd cl gr oc lit cold ccell cpow sp wm dr))) 45 [(1, .int x1_45), (0, .ref p0)] [] (wz_X1 cI cS p0 w0 c0 p1 p2 p3 w1 w2 w3 w4 c1 c2 hour air_45 rub z nb kd cl gr_45 oc lit cold ccell cpow sp wm dr_10) := by
          intro n_45
          induction n_45 with
          | zero => intro _ _ _ hf; exact nomatch hf
          | succ n_45 ih_45 =>
            intro air_45 gr_45 x1_45 hf
            replace hf : b_X1_passHour_45 hour rub nb kd cl oc wm dr_10 (ik_lp3 (b_X1_passHour_45 hour rub nb kd cl oc wm dr_10) n_45) air_45 gr_45 x1_45 = some (R, hour_r, air_r, rub_r, cl_r, gr_r, oc_r, dr_r) := hf
            unfold b_X1_passHour_45 at hf
            refine ik_iload_n C 0 rfl rfl dX1_passHour_45 ?_
            refine ik_bipush (v := (8 : Int32)) C (by decide) dX1_passHour_46 ?_
            refine ik_icmp_ge C 62 dX1_passHour_48 (by decide) (fun hc => ?_) (fun hc => ?_)
            · have hf := ik_pos hc hf
              refine ik_aload_n C 1 rfl rfl dX1_passHour_62 ?_
              obtain ⟨r2, g3, g4, g5, hc5, hf⟩ := ik_b4s hf
              have hM := (c_X1_removeMelted l D cI cS p0 w0 c0 p1 p2 p3 w1 w2 w3 w4 c1 c2 hour air_45 rub z nb kd cl gr_45 oc lit cold ccell cpow sp wm dr_10 r2 g3 g4 g5 hc5)
              refine ik_goW (v := (some (.int r2))) (wc := (wz_X1 cI cS p0 w0 c0 p1 p2 p3 w1 w2 w3 w4 c1 c2 hour air_45 rub z nb kd cl gr_45 oc lit cold ccell cpow sp wm dr_10)) (w1 := (wz_X1 cI cS p0 w0 c0 p1 p2 p3 w1 w2 w3 w4 c1 c2 hour air_45 rub z nb kd g3 g4 g5 lit cold ccell cpow sp wm dr_10)) [0, 1, 2, 3, 4, 5, 6, 7, 8, 9, 10, 11] [] 12 rfl rfl (wz_X1 cI cS p0 w0 c0 p1 p2 p3 w1 w2 w3 w4 c1 c2 hour air_45 rub z nb kd g3 g4 g5 lit cold ccell cpow sp wm dr_10) rfl [] rfl rfl rfl (by decide +kernel) (ik_runV (st := []) (As := []) C hM mv_X1_removeMelted wl_19_9 ⟨rfl, rfl, Nat.le_of_ble_eq_true rfl, Nat.le_of_ble_eq_true rfl⟩ [0, 1, 2, 3, 4, 5, 6, 7, 8, 9, 10, 11] rfl (by decide +kernel) 0 rfl rfl rfl rfl (Nat.le_of_ble_eq_true rfl) dX1_passHour_63 ⟨Nat.zero_le _, Nat.zero_le _⟩) rfl ?_
              refine ik_aload_n C 1 rfl rfl dX1_passHour_66 ?_
              obtain ⟨r6, g7, g8, g9, g10, hc10, hf⟩ := ik_b5s hf
              have hM := (c_X1_collapse l D cI cS p0 w0 c0 p1 p2 p3 w1 w2 w3 w4 c1 c2 hour air_45 rub z nb kd g3 g4 g5 lit cold ccell cpow sp wm dr_10 r6 g7 g8 g9 g10 hc10)
              refine ik_goW (v := (some (.int r6))) (wc := (wz_X1 cI cS p0 w0 c0 p1 p2 p3 w1 w2 w3 w4 c1 c2 hour air_45 rub z nb kd g3 g4 g5 lit cold ccell cpow sp wm dr_10)) (w1 := (wz_X1 cI cS p0 w0 c0 p1 p2 p3 w1 w2 w3 w4 c1 c2 hour air_45 g7 z nb kd g8 g9 g10 lit cold ccell cpow sp wm dr_10)) [0, 1, 2, 3, 4, 5, 6, 7, 8, 9, 10, 11] [] 12 rfl rfl (wz_X1 cI cS p0 w0 c0 p1 p2 p3 w1 w2 w3 w4 c1 c2 hour air_45 g7 z nb kd g8 g9 g10 lit cold ccell cpow sp wm dr_10) rfl [] rfl rfl rfl (by decide +kernel) (ik_runV (st := [.int r2]) (As := []) C hM mv_X1_collapse wl_19_17 ⟨rfl, rfl, Nat.le_of_ble_eq_true rfl, Nat.le_of_ble_eq_true rfl⟩ [0, 1, 2, 3, 4, 5, 6, 7, 8, 9, 10, 11] rfl (by decide +kernel) 0 rfl rfl rfl rfl (Nat.le_of_ble_eq_true rfl) dX1_passHour_67 ⟨Nat.zero_le _, Nat.zero_le _⟩) rfl ?_
              refine ik_iadd C dX1_passHour_70 ?_
              refine ik_istore_n C [(1, .int (r2 + r6)), (0, .ref p0)] rfl (by decide) rfl dX1_passHour_71 ?_
              refine ik_aload_n C 1 rfl rfl dX1_passHour_72 ?_
              refine ik_dup C rfl dX1_passHour_73 ?_
              refine ik_get C inlX1 0 rfl rfl 3 (by decide) wl_18_19 rfl (v := .int hour) rfl dX1_passHour_74 ?_
              refine ik_iconst (v := (1 : Int32)) C (by decide) dX1_passHour_77 ?_
              refine ik_iadd C dX1_passHour_78 ?_
              refine ik_put C inlX1 tyX1 tyX1_ok nmX1 0 rfl rfl 3 (by decide) wl_18_19 rfl (by decide) rfl rfl (Nat.le_of_ble_eq_true rfl) (wz_X1 cI cS p0 w0 c0 p1 p2 p3 w1 w2 w3 w4 c1 c2 (hour + (1 : Int32)) air_45 g7 z nb kd g8 g9 g10 lit cold ccell cpow sp wm dr_10) rfl dX1_passHour_79 ?_
              refine ik_iload_n C 0 rfl rfl dX1_passHour_82 ?_
              obtain ⟨rfl, rfl, rfl, rfl, rfl, rfl, rfl, rfl⟩ := ik_e8 hf
              exact ik_iretW C hr hlk dX1_passHour_83
            · have hf := ik_neg hc hf
              refine ik_aload_n C 1 rfl rfl dX1_passHour_51 ?_
              refine ik_iload_n C 0 rfl rfl dX1_passHour_52 ?_
              obtain ⟨g2, g3, hc3, hf⟩ := ik_b2s hf
              have hM := (c_X1_freezeDrip l D cI cS p0 w0 c0 p1 p2 p3 w1 w2 w3 w4 c1 c2 hour air_45 rub z nb kd cl gr_45 oc lit cold ccell cpow sp wm dr_10 x1_45 g2 g3 hc3)
              refine ik_goW (v := none) (wc := (wz_X1 cI cS p0 w0 c0 p1 p2 p3 w1 w2 w3 w4 c1 c2 hour air_45 rub z nb kd cl gr_45 oc lit cold ccell cpow sp wm dr_10)) (w1 := (wz_X1 cI cS p0 w0 c0 p1 p2 p3 w1 w2 w3 w4 c1 c2 hour g2 rub z nb kd cl g3 oc lit cold ccell cpow sp wm dr_10)) [0, 1, 2, 3, 4, 5, 6, 7, 8, 9, 10, 11] [] 12 rfl rfl (wz_X1 cI cS p0 w0 c0 p1 p2 p3 w1 w2 w3 w4 c1 c2 hour g2 rub z nb kd cl g3 oc lit cold ccell cpow sp wm dr_10) rfl [] rfl rfl rfl (by decide +kernel) (ik_runV (st := []) (As := [.int x1_45]) C hM mv_X1_freezeDrip wl_19_4 ⟨rfl, rfl, Nat.le_of_ble_eq_true rfl, Nat.le_of_ble_eq_true rfl⟩ [0, 1, 2, 3, 4, 5, 6, 7, 8, 9, 10, 11] rfl (by decide +kernel) 0 rfl rfl rfl rfl (Nat.le_of_ble_eq_true rfl) dX1_passHour_53 ⟨Nat.zero_le _, Nat.zero_le _⟩) rfl ?_
              refine ik_iinc C [(1, .int (x1_45 + (1 : Int32))), (0, .ref p0)] 0 rfl rfl (by decide) rfl dX1_passHour_56 ?_
              refine ik_goto C 45 dX1_passHour_59 (by decide) ?_
              exact ik_sub [0, 1] [(1, .int (x1_45 + (1 : Int32))), (0, .ref p0)] rfl (ih_45 g2 g3 (x1_45 + (1 : Int32)) hf)
        exact hL_45 ik_fu air_10 gr_10 (0 : Int32) hf
      · have hf := ik_neg hc hf
        refine ik_aload_n C 1 rfl rfl dX1_passHour_21 ?_
        refine ik_get C inlX1 0 rfl rfl 0 (by decide) wl_2_13 rfl (v := .ref w0) rfl dX1_passHour_22 ?_
        refine ik_iload_n C 0 rfl rfl dX1_passHour_25 ?_
        obtain ⟨r2, hc2, hf⟩ := ik_b1s hf
        have hM := (c_X5_isGone l D cI cS w0 w1 w2 w3 w4 nb kd cl gr_10 oc x1_10 r2 hc2)
        refine ik_goR (ik_runV (st := []) (As := [.int x1_10]) C hM mv_X5_isGone wl_18_13 ⟨rfl, rfl, Nat.le_of_ble_eq_true rfl, Nat.le_of_ble_eq_true rfl⟩ [1, 2, 3, 4, 5] rfl (by decide +kernel) 1 rfl rfl rfl rfl (Nat.le_of_ble_eq_true rfl) dX1_passHour_26 ⟨Nat.zero_le _, Nat.zero_le _⟩) rfl ?_
        refine ik_if_ne C 37 dX1_passHour_29 (by decide) (fun hc => ?_) (fun hc => ?_)
        · have hf := ik_neg hc hf
          refine ik_iinc C [(1, .int (x1_10 + (1 : Int32))), (0, .ref p0)] 0 rfl rfl (by decide) rfl dX1_passHour_37 ?_
          refine ik_goto C 10 dX1_passHour_40 (by decide) ?_
          exact ik_sub [0, 1] [(1, .int (x1_10 + (1 : Int32))), (0, .ref p0)] rfl (ih_10 air_10 gr_10 dr_10 (x1_10 + (1 : Int32)) hf)
        · have hf := ik_pos hc hf
          refine ik_aload_n C 1 rfl rfl dX1_passHour_32 ?_
          refine ik_iload_n C 0 rfl rfl dX1_passHour_33 ?_
          obtain ⟨g3, g4, g5, hc5, hf⟩ := ik_b3s hf
          have hM := (c_X1_meltOrMend l D cI cS p0 w0 c0 p1 p2 p3 w1 w2 w3 w4 c1 c2 hour air_10 rub z nb kd cl gr_10 oc lit cold ccell cpow sp wm dr_10 x1_10 g3 g4 g5 hc5)
          refine ik_goW (v := none) (wc := (wz_X1 cI cS p0 w0 c0 p1 p2 p3 w1 w2 w3 w4 c1 c2 hour air_10 rub z nb kd cl gr_10 oc lit cold ccell cpow sp wm dr_10)) (w1 := (wz_X1 cI cS p0 w0 c0 p1 p2 p3 w1 w2 w3 w4 c1 c2 hour g3 rub z nb kd cl g4 oc lit cold ccell cpow sp wm g5)) [0, 1, 2, 3, 4, 5, 6, 7, 8, 9, 10, 11] [] 12 rfl rfl (wz_X1 cI cS p0 w0 c0 p1 p2 p3 w1 w2 w3 w4 c1 c2 hour g3 rub z nb kd cl g4 oc lit cold ccell cpow sp wm g5) rfl [] rfl rfl rfl (by decide +kernel) (ik_runV (st := []) (As := [.int x1_10]) C hM mv_X1_meltOrMend wl_18_20 ⟨rfl, rfl, Nat.le_of_ble_eq_true rfl, Nat.le_of_ble_eq_true rfl⟩ [0, 1, 2, 3, 4, 5, 6, 7, 8, 9, 10, 11] rfl (by decide +kernel) 0 rfl rfl rfl rfl (Nat.le_of_ble_eq_true rfl) dX1_passHour_34 ⟨Nat.zero_le _, Nat.zero_le _⟩) rfl ?_
          refine ik_iinc C [(1, .int (x1_10 + (1 : Int32))), (0, .ref p0)] 0 rfl rfl (by decide) rfl dX1_passHour_37 ?_
          refine ik_goto C 10 dX1_passHour_40 (by decide) ?_
          exact ik_sub [0, 1] [(1, .int (x1_10 + (1 : Int32))), (0, .ref p0)] rfl (ih_10 g3 g4 g5 (x1_10 + (1 : Int32)) hf)
  exact hL_10 ik_fu air gr g1 (0 : Int32) hf
theorem mv_X4_readBlock : ik_V yX4_readBlock RX4 cX4_readBlock 5 (some .boolean) 2 := ⟨wl_39_12, wl_39_13, wl_1_20, wl_39_14, by decide +kernel⟩
set_option maxHeartbeats 4000000 in
set_option maxRecDepth 100000 in
theorem c_X4_readBlock (l : Launch) (D : va_G) (cI cS : ClassId) (aK aV : Nat → Nat) (ka : Nat) (r0 t0 t1 qw0 qw1 qw2 qw3 qw4 : Nat) (tok : Int32) (sta : Int32) (en : Int32) (val : Int32) (tsize : Int32) (tby : Nat → Int32) (qnb : Int32) (qkd : Nat → Int32) (qcl : Nat → Int32) (qgr : Nat → Int32) (qoc : Nat → Int32) (x2 : Int32) (R : Int32) (tok_r : Int32) (sta_r : Int32) (en_r : Int32) (val_r : Int32) (qnb_r : Int32) (qkd_r : Nat → Int32) (qcl_r : Nat → Int32) (qgr_r : Nat → Int32) (qoc_r : Nat → Int32) (hf : f_X4_readBlock tok sta en val tsize tby qnb qkd qcl qgr qoc x2 = some (R, tok_r, sta_r, en_r, val_r, qnb_r, qkd_r, qcl_r, qgr_r, qoc_r)) : Met l yX4_readBlock (ik_ws yX4_readBlock cX4_readBlock 5 (some .boolean)) ({ frames := 5, cells := 0, slots := 0, locals := 133 } : Room) (ik_PZ D cI cS aK aV ka [.ref r0, .ref qw0, .int x2] (wz_X4X5 cI cS r0 t0 t1 qw0 qw1 qw2 qw3 qw4 tok sta en val tsize tby qnb qkd qcl qgr qoc)) (ik_Q (some (.int R)) D (wz_X4X5 cI cS r0 t0 t1 qw0 qw1 qw2 qw3 qw4 tok_r sta_r en_r val_r tsize tby qnb_r qkd_r qcl_r qgr_r qoc_r) (wz_X4X5 cI cS r0 t0 t1 qw0 qw1 qw2 qw3 qw4 tok sta en val tsize tby qnb qkd qcl qgr qoc)) 0 0 (ik_in (wz_X4X5 cI cS r0 t0 t1 qw0 qw1 qw2 qw3 qw4 tok sta en val tsize tby qnb qkd qcl qgr qoc)) := by
  refine ik_metWZ RX4 rfl (by decide) (Nat.le_of_ble_eq_true rfl) [(0, .ref r0), (1, .ref qw0), (2, .int x2)] rfl ?_
  intro p e s m below meth c C hr hlk hZ
  unfold f_X4_readBlock at hf
  refine ik_aload_n C 1 rfl rfl dX4_readBlock_0 ?_
  obtain ⟨r1, hc1, hf⟩ := ik_b1s hf
  have hM := (c_X5_isFull l D cI cS qw0 qw1 qw2 qw3 qw4 qnb qkd qcl qgr qoc r1 hc1)
  refine ik_goR (ik_runV (st := []) (As := []) C hM mv_X5_isFull wl_39_15 ⟨rfl, rfl, Nat.le_of_ble_eq_true rfl, Nat.le_of_ble_eq_true rfl⟩ [3, 4, 5, 6, 7] rfl (by decide +kernel) 3 rfl rfl rfl rfl (Nat.le_of_ble_eq_true rfl) dX4_readBlock_1 ⟨Nat.zero_le _, Nat.zero_le _⟩) rfl ?_
  refine ik_if_eq C 9 dX4_readBlock_4 (by decide) (fun hc => ?_) (fun hc => ?_)
  · have hf := ik_pos hc hf
    refine ik_aload_n C 0 rfl rfl dX4_readBlock_9 ?_
    obtain ⟨g2, g3, g4, g5, hc5, hf⟩ := ik_b4s hf
    have hM := (c_X4_advance l D cI cS r0 t0 t1 tok sta en val tsize tby g2 g3 g4 g5 hc5)
    refine ik_goW (v := none) (wc := (wz_X4 cI cS r0 t0 t1 tok sta en val tsize tby)) (w1 := (wz_X4 cI cS r0 t0 t1 g2 g3 g4 g5 tsize tby)) [0, 1, 2] [3, 4, 5, 6, 7] 8 rfl rfl (wz_X4X5 cI cS r0 t0 t1 qw0 qw1 qw2 qw3 qw4 g2 g3 g4 g5 tsize tby qnb qkd qcl qgr qoc) rfl [(qw0, .inr (5, [.int qnb, .ref qw1, .ref qw2, .ref qw3, .ref qw4])), (qw1, .inl (cI, 16, .inl qkd)), (qw2, .inl (cI, 16, .inl qcl)), (qw3, .inl (cI, 16, .inl qgr)), (qw4, .inl (cI, 48, .inl qoc))] rfl rfl rfl (by decide +kernel) (ik_runV (st := []) (As := []) C hM mv_X4_advance wl_35_23 ⟨rfl, rfl, Nat.le_of_ble_eq_true rfl, Nat.le_of_ble_eq_true rfl⟩ [0, 1, 2] rfl (by decide +kernel) 0 rfl rfl rfl rfl (Nat.le_of_ble_eq_true rfl) dX4_readBlock_10 ⟨Nat.zero_le _, Nat.zero_le _⟩) rfl ?_
    refine ik_aload_n C 0 rfl rfl dX4_readBlock_13 ?_
    refine ik_iconst (v := (0 : Int32)) C (by decide) dX4_readBlock_14 ?_
    refine ik_bipush (v := (47 : Int32)) C (by decide) dX4_readBlock_15 ?_
    obtain ⟨r6, hc6, hf⟩ := ik_b1s hf
    have hM := (c_X4_isNumber l D cI cS r0 t0 t1 g2 g3 g4 g5 tsize tby (0 : Int32) (47 : Int32) r6 hc6)
    refine ik_goR (ik_runV (st := []) (As := [.int (0 : Int32), .int (47 : Int32)]) C hM mv_X4_isNumber wl_39_16 ⟨rfl, rfl, Nat.le_of_ble_eq_true rfl, Nat.le_of_ble_eq_true rfl⟩ [0, 1, 2] rfl (by decide +kernel) 0 rfl rfl rfl rfl (Nat.le_of_ble_eq_true rfl) dX4_readBlock_17 ⟨Nat.zero_le _, Nat.zero_le _⟩) rfl ?_
    refine ik_if_eq C 34 dX4_readBlock_20 (by decide) (fun hc => ?_) (fun hc => ?_)
    · have hf := ik_pos hc hf
      refine ik_iconst (v := (0 : Int32)) C (by decide) dX4_readBlock_34 ?_
      obtain ⟨rfl, rfl, rfl, rfl, rfl, rfl, rfl, rfl, rfl, rfl⟩ := ik_e10 hf
      exact ik_zretW C hr (by decide) hlk dX4_readBlock_35
    · have hf := ik_neg hc hf
      refine ik_aload_n C 1 rfl rfl dX4_readBlock_23 ?_
      refine ik_aload_n C 0 rfl rfl dX4_readBlock_24 ?_
      refine ik_get C inlX4 0 rfl rfl 4 (by decide) wl_36_18 rfl (v := .int g5) rfl dX4_readBlock_25 ?_
      obtain ⟨r7, hc7, hf⟩ := ik_b1s hf
      have hM := (c_X5_blockAt l D cI cS qw0 qw1 qw2 qw3 qw4 qnb qkd qcl qgr qoc g5 r7 hc7)
      refine ik_goR (ik_runV (st := []) (As := [.int g5]) C hM mv_X5_blockAt wl_39_20 ⟨rfl, rfl, Nat.le_of_ble_eq_true rfl, Nat.le_of_ble_eq_true rfl⟩ [3, 4, 5, 6, 7] rfl (by decide +kernel) 3 rfl rfl rfl rfl (Nat.le_of_ble_eq_true rfl) dX4_readBlock_28 ⟨Nat.zero_le _, Nat.zero_le _⟩) rfl ?_
      refine ik_if_lt C 36 dX4_readBlock_31 (by decide) (fun hc => ?_) (fun hc => ?_)
      · have hf := ik_pos hc hf
        refine ik_aload_n C 0 rfl rfl dX4_readBlock_36 ?_
        refine ik_get C inlX4 0 rfl rfl 4 (by decide) wl_36_18 rfl (v := .int g5) rfl dX4_readBlock_37 ?_
        refine ik_istore_n C [(3, .int g5), (0, .ref r0), (1, .ref qw0), (2, .int x2)] rfl (by decide) rfl dX4_readBlock_40 ?_
        refine ik_bipush (v := (20 : Int32)) C (by decide) dX4_readBlock_41 ?_
        refine ik_istore C [(4, .int (20 : Int32)), (3, .int g5), (0, .ref r0), (1, .ref qw0), (2, .int x2)] (by decide) rfl dX4_readBlock_43 ?_
        refine ik_aload_n C 2 rfl rfl dX4_readBlock_45 ?_
        obtain ⟨g8, g9, g10, g11, hc11, hf⟩ := ik_b4s hf
        have hM := (c_X4_advance l D cI cS r0 t0 t1 g2 g3 g4 g5 tsize tby g8 g9 g10 g11 hc11)
        refine ik_goW (v := none) (wc := (wz_X4 cI cS r0 t0 t1 g2 g3 g4 g5 tsize tby)) (w1 := (wz_X4 cI cS r0 t0 t1 g8 g9 g10 g11 tsize tby)) [0, 1, 2] [3, 4, 5, 6, 7] 8 rfl rfl (wz_X4X5 cI cS r0 t0 t1 qw0 qw1 qw2 qw3 qw4 g8 g9 g10 g11 tsize tby qnb qkd qcl qgr qoc) rfl [(qw0, .inr (5, [.int qnb, .ref qw1, .ref qw2, .ref qw3, .ref qw4])), (qw1, .inl (cI, 16, .inl qkd)), (qw2, .inl (cI, 16, .inl qcl)), (qw3, .inl (cI, 16, .inl qgr)), (qw4, .inl (cI, 48, .inl qoc))] rfl rfl rfl (by decide +kernel) (ik_runV (st := []) (As := []) C hM mv_X4_advance wl_35_23 ⟨rfl, rfl, Nat.le_of_ble_eq_true rfl, Nat.le_of_ble_eq_true rfl⟩ [0, 1, 2] rfl (by decide +kernel) 0 rfl rfl rfl rfl (Nat.le_of_ble_eq_true rfl) dX4_readBlock_46 ⟨Nat.zero_le _, Nat.zero_le _⟩) rfl ?_
        refine ik_aload_n C 2 rfl rfl dX4_readBlock_49 ?_
        refine ik_ldcS C (hZ.1 2 (by decide)).2.2.2.2 dX4_readBlock_50 ?_
        obtain ⟨r12, hc12, hf⟩ := ik_b1s hf
        have hM := (c_X4_isWord l D cI cS aK aV ka 2 (by decide) r0 t0 t1 g8 g9 g10 g11 tsize tby r12 hc12)
        refine ik_goR (ik_runVZ (st := []) (As := [.ref (aK 2)]) C hZ (fun _ h => h) ik_hBw hM mv_X4_isWord wl_37_6 ⟨rfl, rfl, Nat.le_of_ble_eq_true rfl, Nat.le_of_ble_eq_true rfl⟩ [0, 1, 2] rfl (by decide +kernel) 0 rfl rfl rfl rfl (Nat.le_of_ble_eq_true rfl) dX4_readBlock_52 ⟨Nat.zero_le _, Nat.zero_le _⟩) rfl ?_
        refine ik_if_eq C 84 dX4_readBlock_55 (by decide) (fun hc => ?_) (fun hc => ?_)
        · have hf := ik_pos hc hf
          refine ik_aload_n C 3 rfl rfl dX4_readBlock_84 ?_
          refine ik_iload_n C 4 rfl rfl dX4_readBlock_85 ?_
          refine ik_iload_n C 1 rfl rfl dX4_readBlock_86 ?_
          refine ik_iload C 0 rfl dX4_readBlock_87 ?_
          obtain ⟨r13, g14, g15, g16, g17, g18, hc18, hf⟩ := ik_b6s hf
          have hM := (c_X5_build l D cI cS qw0 qw1 qw2 qw3 qw4 qnb qkd qcl qgr qoc x2 g5 (20 : Int32) r13 g14 g15 g16 g17 g18 hc18)
          refine ik_goW (v := (some (.int r13))) (wc := (wz_X5 cI cS qw0 qw1 qw2 qw3 qw4 qnb qkd qcl qgr qoc)) (w1 := (wz_X5 cI cS qw0 qw1 qw2 qw3 qw4 g14 g15 g16 g17 g18)) [3, 4, 5, 6, 7] [0, 1, 2] 8 rfl rfl (wz_X4X5 cI cS r0 t0 t1 qw0 qw1 qw2 qw3 qw4 g8 g9 g10 g11 tsize tby g14 g15 g16 g17 g18) rfl [(r0, .inr (4, [.ref t0, .int g8, .int g9, .int g10, .int g11])), (t0, .inr (3, [.ref t1, .int tsize])), (t1, .inl (cI, 120, .inl tby))] rfl rfl rfl (by decide +kernel) (ik_runV (st := []) (As := [.int x2, .int g5, .int (20 : Int32)]) C hM mv_X5_build wl_39_21 ⟨rfl, rfl, Nat.le_of_ble_eq_true rfl, Nat.le_of_ble_eq_true rfl⟩ [3, 4, 5, 6, 7] rfl (by decide +kernel) 3 rfl rfl rfl rfl (Nat.le_of_ble_eq_true rfl) dX4_readBlock_89 ⟨Nat.zero_le _, Nat.zero_le _⟩) rfl ?_
          refine ik_pop C rfl dX4_readBlock_92 ?_
          refine ik_iconst (v := (1 : Int32)) C (by decide) dX4_readBlock_93 ?_
          obtain ⟨rfl, rfl, rfl, rfl, rfl, rfl, rfl, rfl, rfl, rfl⟩ := ik_e10 hf
          exact ik_zretW C hr (by decide) hlk dX4_readBlock_94
        · have hf := ik_neg hc hf
          refine ik_aload_n C 2 rfl rfl dX4_readBlock_58 ?_
          obtain ⟨g13, g14, g15, g16, hc16, hf⟩ := ik_b4s hf
          have hM := (c_X4_advance l D cI cS r0 t0 t1 g8 g9 g10 g11 tsize tby g13 g14 g15 g16 hc16)
          refine ik_goW (v := none) (wc := (wz_X4 cI cS r0 t0 t1 g8 g9 g10 g11 tsize tby)) (w1 := (wz_X4 cI cS r0 t0 t1 g13 g14 g15 g16 tsize tby)) [0, 1, 2] [3, 4, 5, 6, 7] 8 rfl rfl (wz_X4X5 cI cS r0 t0 t1 qw0 qw1 qw2 qw3 qw4 g13 g14 g15 g16 tsize tby qnb qkd qcl qgr qoc) rfl [(qw0, .inr (5, [.int qnb, .ref qw1, .ref qw2, .ref qw3, .ref qw4])), (qw1, .inl (cI, 16, .inl qkd)), (qw2, .inl (cI, 16, .inl qcl)), (qw3, .inl (cI, 16, .inl qgr)), (qw4, .inl (cI, 48, .inl qoc))] rfl rfl rfl (by decide +kernel) (ik_runV (st := []) (As := []) C hM mv_X4_advance wl_35_23 ⟨rfl, rfl, Nat.le_of_ble_eq_true rfl, Nat.le_of_ble_eq_true rfl⟩ [0, 1, 2] rfl (by decide +kernel) 0 rfl rfl rfl rfl (Nat.le_of_ble_eq_true rfl) dX4_readBlock_59 ⟨Nat.zero_le _, Nat.zero_le _⟩) rfl ?_
          refine ik_aload_n C 2 rfl rfl dX4_readBlock_62 ?_
          refine ik_iconst (v := (1 : Int32)) C (by decide) dX4_readBlock_63 ?_
          refine ik_bipush (v := (99 : Int32)) C (by decide) dX4_readBlock_64 ?_
          obtain ⟨r17, hc17, hf⟩ := ik_b1s hf
          have hM := (c_X4_isNumber l D cI cS r0 t0 t1 g13 g14 g15 g16 tsize tby (1 : Int32) (99 : Int32) r17 hc17)
          refine ik_goR (ik_runV (st := []) (As := [.int (1 : Int32), .int (99 : Int32)]) C hM mv_X4_isNumber wl_39_16 ⟨rfl, rfl, Nat.le_of_ble_eq_true rfl, Nat.le_of_ble_eq_true rfl⟩ [0, 1, 2] rfl (by decide +kernel) 0 rfl rfl rfl rfl (Nat.le_of_ble_eq_true rfl) dX4_readBlock_66 ⟨Nat.zero_le _, Nat.zero_le _⟩) rfl ?_
          refine ik_if_ne C 74 dX4_readBlock_69 (by decide) (fun hc => ?_) (fun hc => ?_)
          · have hf := ik_neg hc hf
            refine ik_aload_n C 2 rfl rfl dX4_readBlock_74 ?_
            refine ik_get C inlX4 0 rfl rfl 4 (by decide) wl_36_18 rfl (v := .int g16) rfl dX4_readBlock_75 ?_
            refine ik_istore C [(4, .int g16), (3, .int g5), (0, .ref r0), (1, .ref qw0), (2, .int x2)] (by decide) rfl dX4_readBlock_78 ?_
            refine ik_aload_n C 2 rfl rfl dX4_readBlock_80 ?_
            obtain ⟨g18, g19, g20, g21, hc21, hf⟩ := ik_b4s hf
            have hM := (c_X4_advance l D cI cS r0 t0 t1 g13 g14 g15 g16 tsize tby g18 g19 g20 g21 hc21)
            refine ik_goW (v := none) (wc := (wz_X4 cI cS r0 t0 t1 g13 g14 g15 g16 tsize tby)) (w1 := (wz_X4 cI cS r0 t0 t1 g18 g19 g20 g21 tsize tby)) [0, 1, 2] [3, 4, 5, 6, 7] 8 rfl rfl (wz_X4X5 cI cS r0 t0 t1 qw0 qw1 qw2 qw3 qw4 g18 g19 g20 g21 tsize tby qnb qkd qcl qgr qoc) rfl [(qw0, .inr (5, [.int qnb, .ref qw1, .ref qw2, .ref qw3, .ref qw4])), (qw1, .inl (cI, 16, .inl qkd)), (qw2, .inl (cI, 16, .inl qcl)), (qw3, .inl (cI, 16, .inl qgr)), (qw4, .inl (cI, 48, .inl qoc))] rfl rfl rfl (by decide +kernel) (ik_runV (st := []) (As := []) C hM mv_X4_advance wl_35_23 ⟨rfl, rfl, Nat.le_of_ble_eq_true rfl, Nat.le_of_ble_eq_true rfl⟩ [0, 1, 2] rfl (by decide +kernel) 0 rfl rfl rfl rfl (Nat.le_of_ble_eq_true rfl) dX4_readBlock_81 ⟨Nat.zero_le _, Nat.zero_le _⟩) rfl ?_
            refine ik_aload_n C 3 rfl rfl dX4_readBlock_84 ?_
            refine ik_iload_n C 4 rfl rfl dX4_readBlock_85 ?_
            refine ik_iload_n C 1 rfl rfl dX4_readBlock_86 ?_
            refine ik_iload C 0 rfl dX4_readBlock_87 ?_
            obtain ⟨r22, g23, g24, g25, g26, g27, hc27, hf⟩ := ik_b6s hf
            have hM := (c_X5_build l D cI cS qw0 qw1 qw2 qw3 qw4 qnb qkd qcl qgr qoc x2 g5 g16 r22 g23 g24 g25 g26 g27 hc27)
            refine ik_goW (v := (some (.int r22))) (wc := (wz_X5 cI cS qw0 qw1 qw2 qw3 qw4 qnb qkd qcl qgr qoc)) (w1 := (wz_X5 cI cS qw0 qw1 qw2 qw3 qw4 g23 g24 g25 g26 g27)) [3, 4, 5, 6, 7] [0, 1, 2] 8 rfl rfl (wz_X4X5 cI cS r0 t0 t1 qw0 qw1 qw2 qw3 qw4 g18 g19 g20 g21 tsize tby g23 g24 g25 g26 g27) rfl [(r0, .inr (4, [.ref t0, .int g18, .int g19, .int g20, .int g21])), (t0, .inr (3, [.ref t1, .int tsize])), (t1, .inl (cI, 120, .inl tby))] rfl rfl rfl (by decide +kernel) (ik_runV (st := []) (As := [.int x2, .int g5, .int g16]) C hM mv_X5_build wl_39_21 ⟨rfl, rfl, Nat.le_of_ble_eq_true rfl, Nat.le_of_ble_eq_true rfl⟩ [3, 4, 5, 6, 7] rfl (by decide +kernel) 3 rfl rfl rfl rfl (Nat.le_of_ble_eq_true rfl) dX4_readBlock_89 ⟨Nat.zero_le _, Nat.zero_le _⟩) rfl ?_
            refine ik_pop C rfl dX4_readBlock_92 ?_
            refine ik_iconst (v := (1 : Int32)) C (by decide) dX4_readBlock_93 ?_
            obtain ⟨rfl, rfl, rfl, rfl, rfl, rfl, rfl, rfl, rfl, rfl⟩ := ik_e10 hf
            exact ik_zretW C hr (by decide) hlk dX4_readBlock_94
          · have hf := ik_pos hc hf
            refine ik_iconst (v := (0 : Int32)) C (by decide) dX4_readBlock_72 ?_
            obtain ⟨rfl, rfl, rfl, rfl, rfl, rfl, rfl, rfl, rfl, rfl⟩ := ik_e10 hf
            exact ik_zretW C hr (by decide) hlk dX4_readBlock_73
      · have hf := ik_neg hc hf
        refine ik_iconst (v := (0 : Int32)) C (by decide) dX4_readBlock_34 ?_
        obtain ⟨rfl, rfl, rfl, rfl, rfl, rfl, rfl, rfl, rfl, rfl⟩ := ik_e10 hf
        exact ik_zretW C hr (by decide) hlk dX4_readBlock_35
  · have hf := ik_neg hc hf
    refine ik_iconst (v := (0 : Int32)) C (by decide) dX4_readBlock_7 ?_
    obtain ⟨rfl, rfl, rfl, rfl, rfl, rfl, rfl, rfl, rfl, rfl⟩ := ik_e10 hf
    exact ik_zretW C hr (by decide) hlk dX4_readBlock_8
theorem mv_X4_readCandle : ik_V yX4_readCandle RX4 cX4_readCandle 4 (some .boolean) 1 := ⟨wl_39_23, wl_40_0, wl_1_20, wl_40_1, by decide +kernel⟩
set_option maxHeartbeats 4000000 in
set_option maxRecDepth 100000 in
theorem c_X4_readCandle (l : Launch) (D : va_G) (cI cS : ClassId) (aK aV : Nat → Nat) (ka : Nat) (r0 t0 t1 qc0 qc1 qc2 : Nat) (tok : Int32) (sta : Int32) (en : Int32) (val : Int32) (tsize : Int32) (tby : Nat → Int32) (qlit : Int32) (qcold : Int32) (qccell : Nat → Int32) (qcpow : Nat → Int32) (R : Int32) (tok_r : Int32) (sta_r : Int32) (en_r : Int32) (val_r : Int32) (qlit_r : Int32) (qccell_r : Nat → Int32) (qcpow_r : Nat → Int32) (hf : f_X4_readCandle tok sta en val tsize tby qlit qccell qcpow = some (R, tok_r, sta_r, en_r, val_r, qlit_r, qccell_r, qcpow_r)) : Met l yX4_readCandle (ik_ws yX4_readCandle cX4_readCandle 4 (some .boolean)) ({ frames := 5, cells := 0, slots := 0, locals := 133 } : Room) (ik_PZ D cI cS aK aV ka [.ref r0, .ref qc0] (wz_X4X0 cI cS r0 t0 t1 qc0 qc1 qc2 tok sta en val tsize tby qlit qcold qccell qcpow)) (ik_Q (some (.int R)) D (wz_X4X0 cI cS r0 t0 t1 qc0 qc1 qc2 tok_r sta_r en_r val_r tsize tby qlit_r qcold qccell_r qcpow_r) (wz_X4X0 cI cS r0 t0 t1 qc0 qc1 qc2 tok sta en val tsize tby qlit qcold qccell qcpow)) 0 0 (ik_in (wz_X4X0 cI cS r0 t0 t1 qc0 qc1 qc2 tok sta en val tsize tby qlit qcold qccell qcpow)) := by
  refine ik_metWZ RX4 rfl (by decide) (Nat.le_of_ble_eq_true rfl) [(0, .ref r0), (1, .ref qc0)] rfl ?_
  intro p e s m below meth c C hr hlk hZ
  unfold f_X4_readCandle at hf
  refine ik_aload_n C 0 rfl rfl dX4_readCandle_0 ?_
  obtain ⟨g1, g2, g3, g4, hc4, hf⟩ := ik_b4s hf
  have hM := (c_X4_advance l D cI cS r0 t0 t1 tok sta en val tsize tby g1 g2 g3 g4 hc4)
  refine ik_goW (v := none) (wc := (wz_X4 cI cS r0 t0 t1 tok sta en val tsize tby)) (w1 := (wz_X4 cI cS r0 t0 t1 g1 g2 g3 g4 tsize tby)) [0, 1, 2] [3, 4, 5] 6 rfl rfl (wz_X4X0 cI cS r0 t0 t1 qc0 qc1 qc2 g1 g2 g3 g4 tsize tby qlit qcold qccell qcpow) rfl [(qc0, .inr (0, [.ref qc1, .ref qc2, .int qlit, .int qcold])), (qc1, .inl (cI, 6, .inl qccell)), (qc2, .inl (cI, 6, .inl qcpow))] rfl rfl rfl (by decide +kernel) (ik_runV (st := []) (As := []) C hM mv_X4_advance wl_35_23 ⟨rfl, rfl, Nat.le_of_ble_eq_true rfl, Nat.le_of_ble_eq_true rfl⟩ [0, 1, 2] rfl (by decide +kernel) 0 rfl rfl rfl rfl (Nat.le_of_ble_eq_true rfl) dX4_readCandle_1 ⟨Nat.zero_le _, Nat.zero_le _⟩) rfl ?_
  refine ik_aload_n C 0 rfl rfl dX4_readCandle_4 ?_
  refine ik_iconst (v := (0 : Int32)) C (by decide) dX4_readCandle_5 ?_
  refine ik_iconst (v := (5 : Int32)) C (by decide) dX4_readCandle_6 ?_
  obtain ⟨r5, hc5, hf⟩ := ik_b1s hf
  have hM := (c_X4_isNumber l D cI cS r0 t0 t1 g1 g2 g3 g4 tsize tby (0 : Int32) (5 : Int32) r5 hc5)
  refine ik_goR (ik_runV (st := []) (As := [.int (0 : Int32), .int (5 : Int32)]) C hM mv_X4_isNumber wl_39_16 ⟨rfl, rfl, Nat.le_of_ble_eq_true rfl, Nat.le_of_ble_eq_true rfl⟩ [0, 1, 2] rfl (by decide +kernel) 0 rfl rfl rfl rfl (Nat.le_of_ble_eq_true rfl) dX4_readCandle_7 ⟨Nat.zero_le _, Nat.zero_le _⟩) rfl ?_
  refine ik_if_ne C 15 dX4_readCandle_10 (by decide) (fun hc => ?_) (fun hc => ?_)
  · have hf := ik_neg hc hf
    refine ik_aload_n C 0 rfl rfl dX4_readCandle_15 ?_
    refine ik_get C inlX4 0 rfl rfl 4 (by decide) wl_36_18 rfl (v := .int g4) rfl dX4_readCandle_16 ?_
    refine ik_istore_n C [(2, .int g4), (0, .ref r0), (1, .ref qc0)] rfl (by decide) rfl dX4_readCandle_19 ?_
    refine ik_aload_n C 1 rfl rfl dX4_readCandle_20 ?_
    obtain ⟨g6, g7, g8, g9, hc9, hf⟩ := ik_b4s hf
    have hM := (c_X4_advance l D cI cS r0 t0 t1 g1 g2 g3 g4 tsize tby g6 g7 g8 g9 hc9)
    refine ik_goW (v := none) (wc := (wz_X4 cI cS r0 t0 t1 g1 g2 g3 g4 tsize tby)) (w1 := (wz_X4 cI cS r0 t0 t1 g6 g7 g8 g9 tsize tby)) [0, 1, 2] [3, 4, 5] 6 rfl rfl (wz_X4X0 cI cS r0 t0 t1 qc0 qc1 qc2 g6 g7 g8 g9 tsize tby qlit qcold qccell qcpow) rfl [(qc0, .inr (0, [.ref qc1, .ref qc2, .int qlit, .int qcold])), (qc1, .inl (cI, 6, .inl qccell)), (qc2, .inl (cI, 6, .inl qcpow))] rfl rfl rfl (by decide +kernel) (ik_runV (st := []) (As := []) C hM mv_X4_advance wl_35_23 ⟨rfl, rfl, Nat.le_of_ble_eq_true rfl, Nat.le_of_ble_eq_true rfl⟩ [0, 1, 2] rfl (by decide +kernel) 0 rfl rfl rfl rfl (Nat.le_of_ble_eq_true rfl) dX4_readCandle_21 ⟨Nat.zero_le _, Nat.zero_le _⟩) rfl ?_
    refine ik_aload_n C 1 rfl rfl dX4_readCandle_24 ?_
    refine ik_ldcS C (hZ.1 3 (by decide)).2.2.2.2 dX4_readCandle_25 ?_
    obtain ⟨r10, hc10, hf⟩ := ik_b1s hf
    have hM := (c_X4_isWord l D cI cS aK aV ka 3 (by decide) r0 t0 t1 g6 g7 g8 g9 tsize tby r10 hc10)
    refine ik_goR (ik_runVZ (st := []) (As := [.ref (aK 3)]) C hZ (fun _ h => h) ik_hBw hM mv_X4_isWord wl_37_6 ⟨rfl, rfl, Nat.le_of_ble_eq_true rfl, Nat.le_of_ble_eq_true rfl⟩ [0, 1, 2] rfl (by decide +kernel) 0 rfl rfl rfl rfl (Nat.le_of_ble_eq_true rfl) dX4_readCandle_27 ⟨Nat.zero_le _, Nat.zero_le _⟩) rfl ?_
    refine ik_if_ne C 35 dX4_readCandle_30 (by decide) (fun hc => ?_) (fun hc => ?_)
    · have hf := ik_neg hc hf
      refine ik_aload_n C 1 rfl rfl dX4_readCandle_35 ?_
      obtain ⟨g11, g12, g13, g14, hc14, hf⟩ := ik_b4s hf
      have hM := (c_X4_advance l D cI cS r0 t0 t1 g6 g7 g8 g9 tsize tby g11 g12 g13 g14 hc14)
      refine ik_goW (v := none) (wc := (wz_X4 cI cS r0 t0 t1 g6 g7 g8 g9 tsize tby)) (w1 := (wz_X4 cI cS r0 t0 t1 g11 g12 g13 g14 tsize tby)) [0, 1, 2] [3, 4, 5] 6 rfl rfl (wz_X4X0 cI cS r0 t0 t1 qc0 qc1 qc2 g11 g12 g13 g14 tsize tby qlit qcold qccell qcpow) rfl [(qc0, .inr (0, [.ref qc1, .ref qc2, .int qlit, .int qcold])), (qc1, .inl (cI, 6, .inl qccell)), (qc2, .inl (cI, 6, .inl qcpow))] rfl rfl rfl (by decide +kernel) (ik_runV (st := []) (As := []) C hM mv_X4_advance wl_35_23 ⟨rfl, rfl, Nat.le_of_ble_eq_true rfl, Nat.le_of_ble_eq_true rfl⟩ [0, 1, 2] rfl (by decide +kernel) 0 rfl rfl rfl rfl (Nat.le_of_ble_eq_true rfl) dX4_readCandle_36 ⟨Nat.zero_le _, Nat.zero_le _⟩) rfl ?_
      refine ik_aload_n C 1 rfl rfl dX4_readCandle_39 ?_
      refine ik_iconst (v := (0 : Int32)) C (by decide) dX4_readCandle_40 ?_
      refine ik_bipush (v := (47 : Int32)) C (by decide) dX4_readCandle_41 ?_
      obtain ⟨r15, hc15, hf⟩ := ik_b1s hf
      have hM := (c_X4_isNumber l D cI cS r0 t0 t1 g11 g12 g13 g14 tsize tby (0 : Int32) (47 : Int32) r15 hc15)
      refine ik_goR (ik_runV (st := []) (As := [.int (0 : Int32), .int (47 : Int32)]) C hM mv_X4_isNumber wl_39_16 ⟨rfl, rfl, Nat.le_of_ble_eq_true rfl, Nat.le_of_ble_eq_true rfl⟩ [0, 1, 2] rfl (by decide +kernel) 0 rfl rfl rfl rfl (Nat.le_of_ble_eq_true rfl) dX4_readCandle_43 ⟨Nat.zero_le _, Nat.zero_le _⟩) rfl ?_
      refine ik_if_ne C 51 dX4_readCandle_46 (by decide) (fun hc => ?_) (fun hc => ?_)
      · have hf := ik_neg hc hf
        refine ik_aload_n C 2 rfl rfl dX4_readCandle_51 ?_
        refine ik_get C inlX0 3 rfl rfl 0 (by decide) wl_40_2 rfl (v := .ref qc1) rfl dX4_readCandle_52 ?_
        refine ik_iload_n C 0 rfl rfl dX4_readCandle_55 ?_
        refine ik_aload_n C 1 rfl rfl dX4_readCandle_56 ?_
        refine ik_get C inlX4 0 rfl rfl 4 (by decide) wl_36_18 rfl (v := .int g14) rfl dX4_readCandle_57 ?_
        have hg := ik_gdi hf
        have hf := ik_gdk hf
        refine ik_iast C 4 rfl hg (wz_X4X0 cI cS r0 t0 t1 qc0 qc1 qc2 g11 g12 g13 g14 tsize tby qlit qcold (upd qccell (g4).toNatClampNeg g14) qcpow) rfl dX4_readCandle_60 ?_
        refine ik_aload_n C 1 rfl rfl dX4_readCandle_61 ?_
        obtain ⟨g16, g17, g18, g19, hc19, hf⟩ := ik_b4s hf
        have hM := (c_X4_advance l D cI cS r0 t0 t1 g11 g12 g13 g14 tsize tby g16 g17 g18 g19 hc19)
        refine ik_goW (v := none) (wc := (wz_X4 cI cS r0 t0 t1 g11 g12 g13 g14 tsize tby)) (w1 := (wz_X4 cI cS r0 t0 t1 g16 g17 g18 g19 tsize tby)) [0, 1, 2] [3, 4, 5] 6 rfl rfl (wz_X4X0 cI cS r0 t0 t1 qc0 qc1 qc2 g16 g17 g18 g19 tsize tby qlit qcold (upd qccell (g4).toNatClampNeg g14) qcpow) rfl [(qc0, .inr (0, [.ref qc1, .ref qc2, .int qlit, .int qcold])), (qc1, .inl (cI, 6, .inl (upd qccell (g4).toNatClampNeg g14))), (qc2, .inl (cI, 6, .inl qcpow))] rfl rfl rfl (by decide +kernel) (ik_runV (st := []) (As := []) C hM mv_X4_advance wl_35_23 ⟨rfl, rfl, Nat.le_of_ble_eq_true rfl, Nat.le_of_ble_eq_true rfl⟩ [0, 1, 2] rfl (by decide +kernel) 0 rfl rfl rfl rfl (Nat.le_of_ble_eq_true rfl) dX4_readCandle_62 ⟨Nat.zero_le _, Nat.zero_le _⟩) rfl ?_
        refine ik_aload_n C 1 rfl rfl dX4_readCandle_65 ?_
        refine ik_ldcS C (hZ.1 4 (by decide)).2.2.2.2 dX4_readCandle_66 ?_
        obtain ⟨r20, hc20, hf⟩ := ik_b1s hf
        have hM := (c_X4_isWord l D cI cS aK aV ka 4 (by decide) r0 t0 t1 g16 g17 g18 g19 tsize tby r20 hc20)
        refine ik_goR (ik_runVZ (st := []) (As := [.ref (aK 4)]) C hZ (fun _ h => h) ik_hBw hM mv_X4_isWord wl_37_6 ⟨rfl, rfl, Nat.le_of_ble_eq_true rfl, Nat.le_of_ble_eq_true rfl⟩ [0, 1, 2] rfl (by decide +kernel) 0 rfl rfl rfl rfl (Nat.le_of_ble_eq_true rfl) dX4_readCandle_68 ⟨Nat.zero_le _, Nat.zero_le _⟩) rfl ?_
        refine ik_if_eq C 104 dX4_readCandle_71 (by decide) (fun hc => ?_) (fun hc => ?_)
        · have hf := ik_pos hc hf
          refine ik_aload_n C 1 rfl rfl dX4_readCandle_104 ?_
          refine ik_ldcS C (hZ.1 5 (by decide)).2.2.2.2 dX4_readCandle_105 ?_
          obtain ⟨r21, hc21, hf⟩ := ik_b1s hf
          have hM := (c_X4_isWord l D cI cS aK aV ka 5 (by decide) r0 t0 t1 g16 g17 g18 g19 tsize tby r21 hc21)
          refine ik_goR (ik_runVZ (st := []) (As := [.ref (aK 5)]) C hZ (fun _ h => h) ik_hBw hM mv_X4_isWord wl_37_6 ⟨rfl, rfl, Nat.le_of_ble_eq_true rfl, Nat.le_of_ble_eq_true rfl⟩ [0, 1, 2] rfl (by decide +kernel) 0 rfl rfl rfl rfl (Nat.le_of_ble_eq_true rfl) dX4_readCandle_107 ⟨Nat.zero_le _, Nat.zero_le _⟩) rfl ?_
          refine ik_istore_n C [(3, .int r21), (2, .int g4), (0, .ref r0), (1, .ref qc0)] rfl (by decide) rfl dX4_readCandle_110 ?_
          refine ik_aload_n C 3 rfl rfl dX4_readCandle_111 ?_
          refine ik_iload_n C 1 rfl rfl dX4_readCandle_112 ?_
          refine ik_iload_n C 0 rfl rfl dX4_readCandle_113 ?_
          obtain ⟨g22, hc22, hf⟩ := ik_b1s hf
          have hM := (c_X0_setLit l D cI cS qc0 qc1 qc2 qlit qcold (upd qccell (g4).toNatClampNeg g14) qcpow g4 r21 g22 hc22)
          refine ik_goW (v := none) (wc := (wz_X0 cI cS qc0 qc1 qc2 qlit qcold (upd qccell (g4).toNatClampNeg g14) qcpow)) (w1 := (wz_X0 cI cS qc0 qc1 qc2 g22 qcold (upd qccell (g4).toNatClampNeg g14) qcpow)) [3, 4, 5] [0, 1, 2] 6 rfl rfl (wz_X4X0 cI cS r0 t0 t1 qc0 qc1 qc2 g16 g17 g18 g19 tsize tby g22 qcold (upd qccell (g4).toNatClampNeg g14) qcpow) rfl [(r0, .inr (4, [.ref t0, .int g16, .int g17, .int g18, .int g19])), (t0, .inr (3, [.ref t1, .int tsize])), (t1, .inl (cI, 120, .inl tby))] rfl rfl rfl (by decide +kernel) (ik_runV (st := []) (As := [.int g4, .int r21]) C hM mv_X0_setLit wl_40_4 ⟨rfl, rfl, Nat.le_of_ble_eq_true rfl, Nat.le_of_ble_eq_true rfl⟩ [3, 4, 5] rfl (by decide +kernel) 3 rfl rfl rfl rfl (Nat.le_of_ble_eq_true rfl) dX4_readCandle_114 ⟨Nat.zero_le _, Nat.zero_le _⟩) rfl ?_
          refine ik_iload_n C 0 rfl rfl dX4_readCandle_117 ?_
          refine ik_if_eq C 125 dX4_readCandle_118 (by decide) (fun hc => ?_) (fun hc => ?_)
          · have hf := ik_pos hc hf
            refine ik_iconst (v := (1 : Int32)) C (by decide) dX4_readCandle_125 ?_
            obtain ⟨rfl, rfl, rfl, rfl, rfl, rfl, rfl, rfl⟩ := ik_e8 hf
            exact ik_zretW C hr (by decide) hlk dX4_readCandle_126
          · have hf := ik_neg hc hf
            refine ik_aload_n C 2 rfl rfl dX4_readCandle_121 ?_
            obtain ⟨g23, g24, g25, g26, hc26, hf⟩ := ik_b4s hf
            have hM := (c_X4_advance l D cI cS r0 t0 t1 g16 g17 g18 g19 tsize tby g23 g24 g25 g26 hc26)
            refine ik_goW (v := none) (wc := (wz_X4 cI cS r0 t0 t1 g16 g17 g18 g19 tsize tby)) (w1 := (wz_X4 cI cS r0 t0 t1 g23 g24 g25 g26 tsize tby)) [0, 1, 2] [3, 4, 5] 6 rfl rfl (wz_X4X0 cI cS r0 t0 t1 qc0 qc1 qc2 g23 g24 g25 g26 tsize tby g22 qcold (upd qccell (g4).toNatClampNeg g14) qcpow) rfl [(qc0, .inr (0, [.ref qc1, .ref qc2, .int g22, .int qcold])), (qc1, .inl (cI, 6, .inl (upd qccell (g4).toNatClampNeg g14))), (qc2, .inl (cI, 6, .inl qcpow))] rfl rfl rfl (by decide +kernel) (ik_runV (st := []) (As := []) C hM mv_X4_advance wl_35_23 ⟨rfl, rfl, Nat.le_of_ble_eq_true rfl, Nat.le_of_ble_eq_true rfl⟩ [0, 1, 2] rfl (by decide +kernel) 0 rfl rfl rfl rfl (Nat.le_of_ble_eq_true rfl) dX4_readCandle_122 ⟨Nat.zero_le _, Nat.zero_le _⟩) rfl ?_
            refine ik_iconst (v := (1 : Int32)) C (by decide) dX4_readCandle_125 ?_
            obtain ⟨rfl, rfl, rfl, rfl, rfl, rfl, rfl, rfl⟩ := ik_e8 hf
            exact ik_zretW C hr (by decide) hlk dX4_readCandle_126
        · have hf := ik_neg hc hf
          refine ik_aload_n C 1 rfl rfl dX4_readCandle_74 ?_
          obtain ⟨g21, g22, g23, g24, hc24, hf⟩ := ik_b4s hf
          have hM := (c_X4_advance l D cI cS r0 t0 t1 g16 g17 g18 g19 tsize tby g21 g22 g23 g24 hc24)
          refine ik_goW (v := none) (wc := (wz_X4 cI cS r0 t0 t1 g16 g17 g18 g19 tsize tby)) (w1 := (wz_X4 cI cS r0 t0 t1 g21 g22 g23 g24 tsize tby)) [0, 1, 2] [3, 4, 5] 6 rfl rfl (wz_X4X0 cI cS r0 t0 t1 qc0 qc1 qc2 g21 g22 g23 g24 tsize tby qlit qcold (upd qccell (g4).toNatClampNeg g14) qcpow) rfl [(qc0, .inr (0, [.ref qc1, .ref qc2, .int qlit, .int qcold])), (qc1, .inl (cI, 6, .inl (upd qccell (g4).toNatClampNeg g14))), (qc2, .inl (cI, 6, .inl qcpow))] rfl rfl rfl (by decide +kernel) (ik_runV (st := []) (As := []) C hM mv_X4_advance wl_35_23 ⟨rfl, rfl, Nat.le_of_ble_eq_true rfl, Nat.le_of_ble_eq_true rfl⟩ [0, 1, 2] rfl (by decide +kernel) 0 rfl rfl rfl rfl (Nat.le_of_ble_eq_true rfl) dX4_readCandle_75 ⟨Nat.zero_le _, Nat.zero_le _⟩) rfl ?_
          refine ik_aload_n C 1 rfl rfl dX4_readCandle_78 ?_
          refine ik_iconst (v := (0 : Int32)) C (by decide) dX4_readCandle_79 ?_
          refine ik_bipush (v := (30 : Int32)) C (by decide) dX4_readCandle_80 ?_
          obtain ⟨r25, hc25, hf⟩ := ik_b1s hf
          have hM := (c_X4_isNumber l D cI cS r0 t0 t1 g21 g22 g23 g24 tsize tby (0 : Int32) (30 : Int32) r25 hc25)
          refine ik_goR (ik_runV (st := []) (As := [.int (0 : Int32), .int (30 : Int32)]) C hM mv_X4_isNumber wl_39_16 ⟨rfl, rfl, Nat.le_of_ble_eq_true rfl, Nat.le_of_ble_eq_true rfl⟩ [0, 1, 2] rfl (by decide +kernel) 0 rfl rfl rfl rfl (Nat.le_of_ble_eq_true rfl) dX4_readCandle_82 ⟨Nat.zero_le _, Nat.zero_le _⟩) rfl ?_
          refine ik_if_ne C 90 dX4_readCandle_85 (by decide) (fun hc => ?_) (fun hc => ?_)
          · have hf := ik_neg hc hf
            refine ik_aload_n C 2 rfl rfl dX4_readCandle_90 ?_
            refine ik_get C inlX0 3 rfl rfl 1 (by decide) wl_40_3 rfl (v := .ref qc2) rfl dX4_readCandle_91 ?_
            refine ik_iload_n C 0 rfl rfl dX4_readCandle_94 ?_
            refine ik_aload_n C 1 rfl rfl dX4_readCandle_95 ?_
            refine ik_get C inlX4 0 rfl rfl 4 (by decide) wl_36_18 rfl (v := .int g24) rfl dX4_readCandle_96 ?_
            have hg := ik_gdi hf
            have hf := ik_gdk hf
            refine ik_iast C 5 rfl hg (wz_X4X0 cI cS r0 t0 t1 qc0 qc1 qc2 g21 g22 g23 g24 tsize tby qlit qcold (upd qccell (g4).toNatClampNeg g14) (upd qcpow (g4).toNatClampNeg g24)) rfl dX4_readCandle_99 ?_
            refine ik_aload_n C 1 rfl rfl dX4_readCandle_100 ?_
            obtain ⟨g26, g27, g28, g29, hc29, hf⟩ := ik_b4s hf
            have hM := (c_X4_advance l D cI cS r0 t0 t1 g21 g22 g23 g24 tsize tby g26 g27 g28 g29 hc29)
            refine ik_goW (v := none) (wc := (wz_X4 cI cS r0 t0 t1 g21 g22 g23 g24 tsize tby)) (w1 := (wz_X4 cI cS r0 t0 t1 g26 g27 g28 g29 tsize tby)) [0, 1, 2] [3, 4, 5] 6 rfl rfl (wz_X4X0 cI cS r0 t0 t1 qc0 qc1 qc2 g26 g27 g28 g29 tsize tby qlit qcold (upd qccell (g4).toNatClampNeg g14) (upd qcpow (g4).toNatClampNeg g24)) rfl [(qc0, .inr (0, [.ref qc1, .ref qc2, .int qlit, .int qcold])), (qc1, .inl (cI, 6, .inl (upd qccell (g4).toNatClampNeg g14))), (qc2, .inl (cI, 6, .inl (upd qcpow (g4).toNatClampNeg g24)))] rfl rfl rfl (by decide +kernel) (ik_runV (st := []) (As := []) C hM mv_X4_advance wl_35_23 ⟨rfl, rfl, Nat.le_of_ble_eq_true rfl, Nat.le_of_ble_eq_true rfl⟩ [0, 1, 2] rfl (by decide +kernel) 0 rfl rfl rfl rfl (Nat.le_of_ble_eq_true rfl) dX4_readCandle_101 ⟨Nat.zero_le _, Nat.zero_le _⟩) rfl ?_
            refine ik_aload_n C 1 rfl rfl dX4_readCandle_104 ?_
            refine ik_ldcS C (hZ.1 5 (by decide)).2.2.2.2 dX4_readCandle_105 ?_
            obtain ⟨r30, hc30, hf⟩ := ik_b1s hf
            have hM := (c_X4_isWord l D cI cS aK aV ka 5 (by decide) r0 t0 t1 g26 g27 g28 g29 tsize tby r30 hc30)
            refine ik_goR (ik_runVZ (st := []) (As := [.ref (aK 5)]) C hZ (fun _ h => h) ik_hBw hM mv_X4_isWord wl_37_6 ⟨rfl, rfl, Nat.le_of_ble_eq_true rfl, Nat.le_of_ble_eq_true rfl⟩ [0, 1, 2] rfl (by decide +kernel) 0 rfl rfl rfl rfl (Nat.le_of_ble_eq_true rfl) dX4_readCandle_107 ⟨Nat.zero_le _, Nat.zero_le _⟩) rfl ?_
            refine ik_istore_n C [(3, .int r30), (2, .int g4), (0, .ref r0), (1, .ref qc0)] rfl (by decide) rfl dX4_readCandle_110 ?_
            refine ik_aload_n C 3 rfl rfl dX4_readCandle_111 ?_
            refine ik_iload_n C 1 rfl rfl dX4_readCandle_112 ?_
            refine ik_iload_n C 0 rfl rfl dX4_readCandle_113 ?_
            obtain ⟨g31, hc31, hf⟩ := ik_b1s hf
            have hM := (c_X0_setLit l D cI cS qc0 qc1 qc2 qlit qcold (upd qccell (g4).toNatClampNeg g14) (upd qcpow (g4).toNatClampNeg g24) g4 r30 g31 hc31)
            refine ik_goW (v := none) (wc := (wz_X0 cI cS qc0 qc1 qc2 qlit qcold (upd qccell (g4).toNatClampNeg g14) (upd qcpow (g4).toNatClampNeg g24))) (w1 := (wz_X0 cI cS qc0 qc1 qc2 g31 qcold (upd qccell (g4).toNatClampNeg g14) (upd qcpow (g4).toNatClampNeg g24))) [3, 4, 5] [0, 1, 2] 6 rfl rfl (wz_X4X0 cI cS r0 t0 t1 qc0 qc1 qc2 g26 g27 g28 g29 tsize tby g31 qcold (upd qccell (g4).toNatClampNeg g14) (upd qcpow (g4).toNatClampNeg g24)) rfl [(r0, .inr (4, [.ref t0, .int g26, .int g27, .int g28, .int g29])), (t0, .inr (3, [.ref t1, .int tsize])), (t1, .inl (cI, 120, .inl tby))] rfl rfl rfl (by decide +kernel) (ik_runV (st := []) (As := [.int g4, .int r30]) C hM mv_X0_setLit wl_40_4 ⟨rfl, rfl, Nat.le_of_ble_eq_true rfl, Nat.le_of_ble_eq_true rfl⟩ [3, 4, 5] rfl (by decide +kernel) 3 rfl rfl rfl rfl (Nat.le_of_ble_eq_true rfl) dX4_readCandle_114 ⟨Nat.zero_le _, Nat.zero_le _⟩) rfl ?_
            refine ik_iload_n C 0 rfl rfl dX4_readCandle_117 ?_
            refine ik_if_eq C 125 dX4_readCandle_118 (by decide) (fun hc => ?_) (fun hc => ?_)
            · have hf := ik_pos hc hf
              refine ik_iconst (v := (1 : Int32)) C (by decide) dX4_readCandle_125 ?_
              obtain ⟨rfl, rfl, rfl, rfl, rfl, rfl, rfl, rfl⟩ := ik_e8 hf
              exact ik_zretW C hr (by decide) hlk dX4_readCandle_126
            · have hf := ik_neg hc hf
              refine ik_aload_n C 2 rfl rfl dX4_readCandle_121 ?_
              obtain ⟨g32, g33, g34, g35, hc35, hf⟩ := ik_b4s hf
              have hM := (c_X4_advance l D cI cS r0 t0 t1 g26 g27 g28 g29 tsize tby g32 g33 g34 g35 hc35)
              refine ik_goW (v := none) (wc := (wz_X4 cI cS r0 t0 t1 g26 g27 g28 g29 tsize tby)) (w1 := (wz_X4 cI cS r0 t0 t1 g32 g33 g34 g35 tsize tby)) [0, 1, 2] [3, 4, 5] 6 rfl rfl (wz_X4X0 cI cS r0 t0 t1 qc0 qc1 qc2 g32 g33 g34 g35 tsize tby g31 qcold (upd qccell (g4).toNatClampNeg g14) (upd qcpow (g4).toNatClampNeg g24)) rfl [(qc0, .inr (0, [.ref qc1, .ref qc2, .int g31, .int qcold])), (qc1, .inl (cI, 6, .inl (upd qccell (g4).toNatClampNeg g14))), (qc2, .inl (cI, 6, .inl (upd qcpow (g4).toNatClampNeg g24)))] rfl rfl rfl (by decide +kernel) (ik_runV (st := []) (As := []) C hM mv_X4_advance wl_35_23 ⟨rfl, rfl, Nat.le_of_ble_eq_true rfl, Nat.le_of_ble_eq_true rfl⟩ [0, 1, 2] rfl (by decide +kernel) 0 rfl rfl rfl rfl (Nat.le_of_ble_eq_true rfl) dX4_readCandle_122 ⟨Nat.zero_le _, Nat.zero_le _⟩) rfl ?_
              refine ik_iconst (v := (1 : Int32)) C (by decide) dX4_readCandle_125 ?_
              obtain ⟨rfl, rfl, rfl, rfl, rfl, rfl, rfl, rfl⟩ := ik_e8 hf
              exact ik_zretW C hr (by decide) hlk dX4_readCandle_126
          · have hf := ik_pos hc hf
            refine ik_iconst (v := (0 : Int32)) C (by decide) dX4_readCandle_88 ?_
            obtain ⟨rfl, rfl, rfl, rfl, rfl, rfl, rfl, rfl⟩ := ik_e8 hf
            exact ik_zretW C hr (by decide) hlk dX4_readCandle_89
      · have hf := ik_pos hc hf
        refine ik_iconst (v := (0 : Int32)) C (by decide) dX4_readCandle_49 ?_
        obtain ⟨rfl, rfl, rfl, rfl, rfl, rfl, rfl, rfl⟩ := ik_e8 hf
        exact ik_zretW C hr (by decide) hlk dX4_readCandle_50
    · have hf := ik_pos hc hf
      refine ik_iconst (v := (0 : Int32)) C (by decide) dX4_readCandle_33 ?_
      obtain ⟨rfl, rfl, rfl, rfl, rfl, rfl, rfl, rfl⟩ := ik_e8 hf
      exact ik_zretW C hr (by decide) hlk dX4_readCandle_34
  · have hf := ik_pos hc hf
    refine ik_iconst (v := (0 : Int32)) C (by decide) dX4_readCandle_13 ?_
    obtain ⟨rfl, rfl, rfl, rfl, rfl, rfl, rfl, rfl⟩ := ik_e8 hf
    exact ik_zretW C hr (by decide) hlk dX4_readCandle_14
theorem mv_X4_readCold : ik_V yX4_readCold RX4 cX4_readCold 3 (some .boolean) 1 := ⟨wl_40_6, wl_40_7, wl_1_20, wl_40_8, by decide +kernel⟩
set_option maxHeartbeats 4000000 in
set_option maxRecDepth 100000 in
theorem c_X4_readCold (l : Launch) (D : va_G) (cI cS : ClassId) (r0 t0 t1 qc0 qc1 qc2 : Nat) (tok : Int32) (sta : Int32) (en : Int32) (val : Int32) (tsize : Int32) (tby : Nat → Int32) (qlit : Int32) (qcold : Int32) (qccell : Nat → Int32) (qcpow : Nat → Int32) (R : Int32) (tok_r : Int32) (sta_r : Int32) (en_r : Int32) (val_r : Int32) (qcold_r : Int32) (hf : f_X4_readCold tok sta en val tsize tby qcold = some (R, tok_r, sta_r, en_r, val_r, qcold_r)) : Met l yX4_readCold (ik_ws yX4_readCold cX4_readCold 3 (some .boolean)) ({ frames := 3, cells := 0, slots := 0, locals := 62 } : Room) (ik_P D cI cS [.ref r0, .ref qc0] (wz_X4X0 cI cS r0 t0 t1 qc0 qc1 qc2 tok sta en val tsize tby qlit qcold qccell qcpow)) (ik_Q (some (.int R)) D (wz_X4X0 cI cS r0 t0 t1 qc0 qc1 qc2 tok_r sta_r en_r val_r tsize tby qlit qcold_r qccell qcpow) (wz_X4X0 cI cS r0 t0 t1 qc0 qc1 qc2 tok sta en val tsize tby qlit qcold qccell qcpow)) 0 0 (ik_in (wz_X4X0 cI cS r0 t0 t1 qc0 qc1 qc2 tok sta en val tsize tby qlit qcold qccell qcpow)) := by
  refine ik_metW RX4 rfl (by decide) (Nat.le_of_ble_eq_true rfl) [(0, .ref r0), (1, .ref qc0)] rfl ?_
  intro p e s m below meth c C hr hlk
  unfold f_X4_readCold at hf
  refine ik_aload_n C 0 rfl rfl dX4_readCold_0 ?_
  obtain ⟨g1, g2, g3, g4, hc4, hf⟩ := ik_b4s hf
  have hM := (c_X4_advance l D cI cS r0 t0 t1 tok sta en val tsize tby g1 g2 g3 g4 hc4)
  refine ik_goW (v := none) (wc := (wz_X4 cI cS r0 t0 t1 tok sta en val tsize tby)) (w1 := (wz_X4 cI cS r0 t0 t1 g1 g2 g3 g4 tsize tby)) [0, 1, 2] [3, 4, 5] 6 rfl rfl (wz_X4X0 cI cS r0 t0 t1 qc0 qc1 qc2 g1 g2 g3 g4 tsize tby qlit qcold qccell qcpow) rfl [(qc0, .inr (0, [.ref qc1, .ref qc2, .int qlit, .int qcold])), (qc1, .inl (cI, 6, .inl qccell)), (qc2, .inl (cI, 6, .inl qcpow))] rfl rfl rfl (by decide +kernel) (ik_runV (st := []) (As := []) C hM mv_X4_advance wl_35_23 ⟨rfl, rfl, Nat.le_of_ble_eq_true rfl, Nat.le_of_ble_eq_true rfl⟩ [0, 1, 2] rfl (by decide +kernel) 0 rfl rfl rfl rfl (Nat.le_of_ble_eq_true rfl) dX4_readCold_1 ⟨Nat.zero_le _, Nat.zero_le _⟩) rfl ?_
  refine ik_aload_n C 0 rfl rfl dX4_readCold_4 ?_
  refine ik_get C inlX4 0 rfl rfl 1 (by decide) wl_35_21 rfl (v := .int g1) rfl dX4_readCold_5 ?_
  refine ik_iconst (v := (4 : Int32)) C (by decide) dX4_readCold_8 ?_
  refine ik_icmp_ne C 16 dX4_readCold_9 (by decide) (fun hc => ?_) (fun hc => ?_)
  · have hf := ik_neg hc hf
    refine ik_iconst (v := (0 : Int32)) C (by decide) dX4_readCold_16 ?_
    refine ik_istore_n C [(2, .int (0 : Int32)), (0, .ref r0), (1, .ref qc0)] rfl (by decide) rfl dX4_readCold_17 ?_
    refine ik_iload_n C 0 rfl rfl dX4_readCold_18 ?_
    refine ik_if_eq C 26 dX4_readCold_19 (by decide) (fun hc => ?_) (fun hc => ?_)
    · have hf := ik_pos hc hf
      refine ik_aload_n C 1 rfl rfl dX4_readCold_26 ?_
      refine ik_iconst (v := (0 : Int32)) C (by decide) dX4_readCold_27 ?_
      refine ik_bipush (v := (20 : Int32)) C (by decide) dX4_readCold_28 ?_
      obtain ⟨r5, hc5, hf⟩ := ik_b1s hf
      have hM := (c_X4_isNumber l D cI cS r0 t0 t1 g1 g2 g3 g4 tsize tby (0 : Int32) (20 : Int32) r5 hc5)
      refine ik_goR (ik_runV (st := []) (As := [.int (0 : Int32), .int (20 : Int32)]) C hM mv_X4_isNumber wl_39_16 ⟨rfl, rfl, Nat.le_of_ble_eq_true rfl, Nat.le_of_ble_eq_true rfl⟩ [0, 1, 2] rfl (by decide +kernel) 0 rfl rfl rfl rfl (Nat.le_of_ble_eq_true rfl) dX4_readCold_30 ⟨Nat.zero_le _, Nat.zero_le _⟩) rfl ?_
      refine ik_if_ne C 38 dX4_readCold_33 (by decide) (fun hc => ?_) (fun hc => ?_)
      · have hf := ik_neg hc hf
        refine ik_aload_n C 2 rfl rfl dX4_readCold_38 ?_
        refine ik_iload_n C 0 rfl rfl dX4_readCold_39 ?_
        refine ik_if_eq C 51 dX4_readCold_40 (by decide) (fun hc => ?_) (fun hc => ?_)
        · have hf := ik_pos hc hf
          refine ik_aload_n C 1 rfl rfl dX4_readCold_51 ?_
          refine ik_get C inlX4 0 rfl rfl 4 (by decide) wl_36_18 rfl (v := .int g4) rfl dX4_readCold_52 ?_
          refine ik_put C inlX0 tyX0 tyX0_ok nmX0 3 rfl rfl 3 (by decide) wl_40_9 rfl (by decide) rfl rfl (Nat.le_of_ble_eq_true rfl) (wz_X4X0 cI cS r0 t0 t1 qc0 qc1 qc2 g1 g2 g3 g4 tsize tby qlit g4 qccell qcpow) rfl dX4_readCold_55 ?_
          refine ik_aload_n C 1 rfl rfl dX4_readCold_58 ?_
          obtain ⟨g6, g7, g8, g9, hc9, hf⟩ := ik_b4s hf
          have hM := (c_X4_advance l D cI cS r0 t0 t1 g1 g2 g3 g4 tsize tby g6 g7 g8 g9 hc9)
          refine ik_goW (v := none) (wc := (wz_X4 cI cS r0 t0 t1 g1 g2 g3 g4 tsize tby)) (w1 := (wz_X4 cI cS r0 t0 t1 g6 g7 g8 g9 tsize tby)) [0, 1, 2] [3, 4, 5] 6 rfl rfl (wz_X4X0 cI cS r0 t0 t1 qc0 qc1 qc2 g6 g7 g8 g9 tsize tby qlit g4 qccell qcpow) rfl [(qc0, .inr (0, [.ref qc1, .ref qc2, .int qlit, .int g4])), (qc1, .inl (cI, 6, .inl qccell)), (qc2, .inl (cI, 6, .inl qcpow))] rfl rfl rfl (by decide +kernel) (ik_runV (st := []) (As := []) C hM mv_X4_advance wl_35_23 ⟨rfl, rfl, Nat.le_of_ble_eq_true rfl, Nat.le_of_ble_eq_true rfl⟩ [0, 1, 2] rfl (by decide +kernel) 0 rfl rfl rfl rfl (Nat.le_of_ble_eq_true rfl) dX4_readCold_59 ⟨Nat.zero_le _, Nat.zero_le _⟩) rfl ?_
          refine ik_iconst (v := (1 : Int32)) C (by decide) dX4_readCold_62 ?_
          obtain ⟨rfl, rfl, rfl, rfl, rfl, rfl⟩ := ik_e6 hf
          exact ik_zretW C hr (by decide) hlk dX4_readCold_63
        · have hf := ik_neg hc hf
          refine ik_aload_n C 1 rfl rfl dX4_readCold_43 ?_
          refine ik_get C inlX4 0 rfl rfl 4 (by decide) wl_36_18 rfl (v := .int g4) rfl dX4_readCold_44 ?_
          refine ik_ineg C dX4_readCold_47 ?_
          refine ik_goto C 55 dX4_readCold_48 (by decide) ?_
          refine ik_put C inlX0 tyX0 tyX0_ok nmX0 3 rfl rfl 3 (by decide) wl_40_9 rfl (by decide) rfl rfl (Nat.le_of_ble_eq_true rfl) (wz_X4X0 cI cS r0 t0 t1 qc0 qc1 qc2 g1 g2 g3 g4 tsize tby qlit (-g4) qccell qcpow) rfl dX4_readCold_55 ?_
          refine ik_aload_n C 1 rfl rfl dX4_readCold_58 ?_
          obtain ⟨g6, g7, g8, g9, hc9, hf⟩ := ik_b4s hf
          have hM := (c_X4_advance l D cI cS r0 t0 t1 g1 g2 g3 g4 tsize tby g6 g7 g8 g9 hc9)
          refine ik_goW (v := none) (wc := (wz_X4 cI cS r0 t0 t1 g1 g2 g3 g4 tsize tby)) (w1 := (wz_X4 cI cS r0 t0 t1 g6 g7 g8 g9 tsize tby)) [0, 1, 2] [3, 4, 5] 6 rfl rfl (wz_X4X0 cI cS r0 t0 t1 qc0 qc1 qc2 g6 g7 g8 g9 tsize tby qlit (-g4) qccell qcpow) rfl [(qc0, .inr (0, [.ref qc1, .ref qc2, .int qlit, .int (-g4)])), (qc1, .inl (cI, 6, .inl qccell)), (qc2, .inl (cI, 6, .inl qcpow))] rfl rfl rfl (by decide +kernel) (ik_runV (st := []) (As := []) C hM mv_X4_advance wl_35_23 ⟨rfl, rfl, Nat.le_of_ble_eq_true rfl, Nat.le_of_ble_eq_true rfl⟩ [0, 1, 2] rfl (by decide +kernel) 0 rfl rfl rfl rfl (Nat.le_of_ble_eq_true rfl) dX4_readCold_59 ⟨Nat.zero_le _, Nat.zero_le _⟩) rfl ?_
          refine ik_iconst (v := (1 : Int32)) C (by decide) dX4_readCold_62 ?_
          obtain ⟨rfl, rfl, rfl, rfl, rfl, rfl⟩ := ik_e6 hf
          exact ik_zretW C hr (by decide) hlk dX4_readCold_63
      · have hf := ik_pos hc hf
        refine ik_iconst (v := (0 : Int32)) C (by decide) dX4_readCold_36 ?_
        obtain ⟨rfl, rfl, rfl, rfl, rfl, rfl⟩ := ik_e6 hf
        exact ik_zretW C hr (by decide) hlk dX4_readCold_37
    · have hf := ik_neg hc hf
      refine ik_aload_n C 1 rfl rfl dX4_readCold_22 ?_
      obtain ⟨g5, g6, g7, g8, hc8, hf⟩ := ik_b4s hf
      have hM := (c_X4_advance l D cI cS r0 t0 t1 g1 g2 g3 g4 tsize tby g5 g6 g7 g8 hc8)
      refine ik_goW (v := none) (wc := (wz_X4 cI cS r0 t0 t1 g1 g2 g3 g4 tsize tby)) (w1 := (wz_X4 cI cS r0 t0 t1 g5 g6 g7 g8 tsize tby)) [0, 1, 2] [3, 4, 5] 6 rfl rfl (wz_X4X0 cI cS r0 t0 t1 qc0 qc1 qc2 g5 g6 g7 g8 tsize tby qlit qcold qccell qcpow) rfl [(qc0, .inr (0, [.ref qc1, .ref qc2, .int qlit, .int qcold])), (qc1, .inl (cI, 6, .inl qccell)), (qc2, .inl (cI, 6, .inl qcpow))] rfl rfl rfl (by decide +kernel) (ik_runV (st := []) (As := []) C hM mv_X4_advance wl_35_23 ⟨rfl, rfl, Nat.le_of_ble_eq_true rfl, Nat.le_of_ble_eq_true rfl⟩ [0, 1, 2] rfl (by decide +kernel) 0 rfl rfl rfl rfl (Nat.le_of_ble_eq_true rfl) dX4_readCold_23 ⟨Nat.zero_le _, Nat.zero_le _⟩) rfl ?_
      refine ik_aload_n C 1 rfl rfl dX4_readCold_26 ?_
      refine ik_iconst (v := (0 : Int32)) C (by decide) dX4_readCold_27 ?_
      refine ik_bipush (v := (20 : Int32)) C (by decide) dX4_readCold_28 ?_
      obtain ⟨r9, hc9, hf⟩ := ik_b1s hf
      have hM := (c_X4_isNumber l D cI cS r0 t0 t1 g5 g6 g7 g8 tsize tby (0 : Int32) (20 : Int32) r9 hc9)
      refine ik_goR (ik_runV (st := []) (As := [.int (0 : Int32), .int (20 : Int32)]) C hM mv_X4_isNumber wl_39_16 ⟨rfl, rfl, Nat.le_of_ble_eq_true rfl, Nat.le_of_ble_eq_true rfl⟩ [0, 1, 2] rfl (by decide +kernel) 0 rfl rfl rfl rfl (Nat.le_of_ble_eq_true rfl) dX4_readCold_30 ⟨Nat.zero_le _, Nat.zero_le _⟩) rfl ?_
      refine ik_if_ne C 38 dX4_readCold_33 (by decide) (fun hc => ?_) (fun hc => ?_)
      · have hf := ik_neg hc hf
        refine ik_aload_n C 2 rfl rfl dX4_readCold_38 ?_
        refine ik_iload_n C 0 rfl rfl dX4_readCold_39 ?_
        refine ik_if_eq C 51 dX4_readCold_40 (by decide) (fun hc => ?_) (fun hc => ?_)
        · have hf := ik_pos hc hf
          refine ik_aload_n C 1 rfl rfl dX4_readCold_51 ?_
          refine ik_get C inlX4 0 rfl rfl 4 (by decide) wl_36_18 rfl (v := .int g8) rfl dX4_readCold_52 ?_
          refine ik_put C inlX0 tyX0 tyX0_ok nmX0 3 rfl rfl 3 (by decide) wl_40_9 rfl (by decide) rfl rfl (Nat.le_of_ble_eq_true rfl) (wz_X4X0 cI cS r0 t0 t1 qc0 qc1 qc2 g5 g6 g7 g8 tsize tby qlit g8 qccell qcpow) rfl dX4_readCold_55 ?_
          refine ik_aload_n C 1 rfl rfl dX4_readCold_58 ?_
          obtain ⟨g10, g11, g12, g13, hc13, hf⟩ := ik_b4s hf
          have hM := (c_X4_advance l D cI cS r0 t0 t1 g5 g6 g7 g8 tsize tby g10 g11 g12 g13 hc13)
          refine ik_goW (v := none) (wc := (wz_X4 cI cS r0 t0 t1 g5 g6 g7 g8 tsize tby)) (w1 := (wz_X4 cI cS r0 t0 t1 g10 g11 g12 g13 tsize tby)) [0, 1, 2] [3, 4, 5] 6 rfl rfl (wz_X4X0 cI cS r0 t0 t1 qc0 qc1 qc2 g10 g11 g12 g13 tsize tby qlit g8 qccell qcpow) rfl [(qc0, .inr (0, [.ref qc1, .ref qc2, .int qlit, .int g8])), (qc1, .inl (cI, 6, .inl qccell)), (qc2, .inl (cI, 6, .inl qcpow))] rfl rfl rfl (by decide +kernel) (ik_runV (st := []) (As := []) C hM mv_X4_advance wl_35_23 ⟨rfl, rfl, Nat.le_of_ble_eq_true rfl, Nat.le_of_ble_eq_true rfl⟩ [0, 1, 2] rfl (by decide +kernel) 0 rfl rfl rfl rfl (Nat.le_of_ble_eq_true rfl) dX4_readCold_59 ⟨Nat.zero_le _, Nat.zero_le _⟩) rfl ?_
          refine ik_iconst (v := (1 : Int32)) C (by decide) dX4_readCold_62 ?_
          obtain ⟨rfl, rfl, rfl, rfl, rfl, rfl⟩ := ik_e6 hf
          exact ik_zretW C hr (by decide) hlk dX4_readCold_63
        · have hf := ik_neg hc hf
          refine ik_aload_n C 1 rfl rfl dX4_readCold_43 ?_
          refine ik_get C inlX4 0 rfl rfl 4 (by decide) wl_36_18 rfl (v := .int g8) rfl dX4_readCold_44 ?_
          refine ik_ineg C dX4_readCold_47 ?_
          refine ik_goto C 55 dX4_readCold_48 (by decide) ?_
          refine ik_put C inlX0 tyX0 tyX0_ok nmX0 3 rfl rfl 3 (by decide) wl_40_9 rfl (by decide) rfl rfl (Nat.le_of_ble_eq_true rfl) (wz_X4X0 cI cS r0 t0 t1 qc0 qc1 qc2 g5 g6 g7 g8 tsize tby qlit (-g8) qccell qcpow) rfl dX4_readCold_55 ?_
          refine ik_aload_n C 1 rfl rfl dX4_readCold_58 ?_
          obtain ⟨g10, g11, g12, g13, hc13, hf⟩ := ik_b4s hf
          have hM := (c_X4_advance l D cI cS r0 t0 t1 g5 g6 g7 g8 tsize tby g10 g11 g12 g13 hc13)
          refine ik_goW (v := none) (wc := (wz_X4 cI cS r0 t0 t1 g5 g6 g7 g8 tsize tby)) (w1 := (wz_X4 cI cS r0 t0 t1 g10 g11 g12 g13 tsize tby)) [0, 1, 2] [3, 4, 5] 6 rfl rfl (wz_X4X0 cI cS r0 t0 t1 qc0 qc1 qc2 g10 g11 g12 g13 tsize tby qlit (-g8) qccell qcpow) rfl [(qc0, .inr (0, [.ref qc1, .ref qc2, .int qlit, .int (-g8)])), (qc1, .inl (cI, 6, .inl qccell)), (qc2, .inl (cI, 6, .inl qcpow))] rfl rfl rfl (by decide +kernel) (ik_runV (st := []) (As := []) C hM mv_X4_advance wl_35_23 ⟨rfl, rfl, Nat.le_of_ble_eq_true rfl, Nat.le_of_ble_eq_true rfl⟩ [0, 1, 2] rfl (by decide +kernel) 0 rfl rfl rfl rfl (Nat.le_of_ble_eq_true rfl) dX4_readCold_59 ⟨Nat.zero_le _, Nat.zero_le _⟩) rfl ?_
          refine ik_iconst (v := (1 : Int32)) C (by decide) dX4_readCold_62 ?_
          obtain ⟨rfl, rfl, rfl, rfl, rfl, rfl⟩ := ik_e6 hf
          exact ik_zretW C hr (by decide) hlk dX4_readCold_63
      · have hf := ik_pos hc hf
        refine ik_iconst (v := (0 : Int32)) C (by decide) dX4_readCold_36 ?_
        obtain ⟨rfl, rfl, rfl, rfl, rfl, rfl⟩ := ik_e6 hf
        exact ik_zretW C hr (by decide) hlk dX4_readCold_37
  · have hf := ik_pos hc hf
    refine ik_iconst (v := (1 : Int32)) C (by decide) dX4_readCold_12 ?_
    refine ik_goto C 17 dX4_readCold_13 (by decide) ?_
    refine ik_istore_n C [(2, .int (1 : Int32)), (0, .ref r0), (1, .ref qc0)] rfl (by decide) rfl dX4_readCold_17 ?_
    refine ik_iload_n C 0 rfl rfl dX4_readCold_18 ?_
    refine ik_if_eq C 26 dX4_readCold_19 (by decide) (fun hc => ?_) (fun hc => ?_)
    · have hf := ik_pos hc hf
      refine ik_aload_n C 1 rfl rfl dX4_readCold_26 ?_
      refine ik_iconst (v := (0 : Int32)) C (by decide) dX4_readCold_27 ?_
      refine ik_bipush (v := (20 : Int32)) C (by decide) dX4_readCold_28 ?_
      obtain ⟨r5, hc5, hf⟩ := ik_b1s hf
      have hM := (c_X4_isNumber l D cI cS r0 t0 t1 g1 g2 g3 g4 tsize tby (0 : Int32) (20 : Int32) r5 hc5)
      refine ik_goR (ik_runV (st := []) (As := [.int (0 : Int32), .int (20 : Int32)]) C hM mv_X4_isNumber wl_39_16 ⟨rfl, rfl, Nat.le_of_ble_eq_true rfl, Nat.le_of_ble_eq_true rfl⟩ [0, 1, 2] rfl (by decide +kernel) 0 rfl rfl rfl rfl (Nat.le_of_ble_eq_true rfl) dX4_readCold_30 ⟨Nat.zero_le _, Nat.zero_le _⟩) rfl ?_
      refine ik_if_ne C 38 dX4_readCold_33 (by decide) (fun hc => ?_) (fun hc => ?_)
      · have hf := ik_neg hc hf
        refine ik_aload_n C 2 rfl rfl dX4_readCold_38 ?_
        refine ik_iload_n C 0 rfl rfl dX4_readCold_39 ?_
        refine ik_if_eq C 51 dX4_readCold_40 (by decide) (fun hc => ?_) (fun hc => ?_)
        · have hf := ik_pos hc hf
          refine ik_aload_n C 1 rfl rfl dX4_readCold_51 ?_
          refine ik_get C inlX4 0 rfl rfl 4 (by decide) wl_36_18 rfl (v := .int g4) rfl dX4_readCold_52 ?_
          refine ik_put C inlX0 tyX0 tyX0_ok nmX0 3 rfl rfl 3 (by decide) wl_40_9 rfl (by decide) rfl rfl (Nat.le_of_ble_eq_true rfl) (wz_X4X0 cI cS r0 t0 t1 qc0 qc1 qc2 g1 g2 g3 g4 tsize tby qlit g4 qccell qcpow) rfl dX4_readCold_55 ?_
          refine ik_aload_n C 1 rfl rfl dX4_readCold_58 ?_
          obtain ⟨g6, g7, g8, g9, hc9, hf⟩ := ik_b4s hf
          have hM := (c_X4_advance l D cI cS r0 t0 t1 g1 g2 g3 g4 tsize tby g6 g7 g8 g9 hc9)
          refine ik_goW (v := none) (wc := (wz_X4 cI cS r0 t0 t1 g1 g2 g3 g4 tsize tby)) (w1 := (wz_X4 cI cS r0 t0 t1 g6 g7 g8 g9 tsize tby)) [0, 1, 2] [3, 4, 5] 6 rfl rfl (wz_X4X0 cI cS r0 t0 t1 qc0 qc1 qc2 g6 g7 g8 g9 tsize tby qlit g4 qccell qcpow) rfl [(qc0, .inr (0, [.ref qc1, .ref qc2, .int qlit, .int g4])), (qc1, .inl (cI, 6, .inl qccell)), (qc2, .inl (cI, 6, .inl qcpow))] rfl rfl rfl (by decide +kernel) (ik_runV (st := []) (As := []) C hM mv_X4_advance wl_35_23 ⟨rfl, rfl, Nat.le_of_ble_eq_true rfl, Nat.le_of_ble_eq_true rfl⟩ [0, 1, 2] rfl (by decide +kernel) 0 rfl rfl rfl rfl (Nat.le_of_ble_eq_true rfl) dX4_readCold_59 ⟨Nat.zero_le _, Nat.zero_le _⟩) rfl ?_
          refine ik_iconst (v := (1 : Int32)) C (by decide) dX4_readCold_62 ?_
          obtain ⟨rfl, rfl, rfl, rfl, rfl, rfl⟩ := ik_e6 hf
          exact ik_zretW C hr (by decide) hlk dX4_readCold_63
        · have hf := ik_neg hc hf
          refine ik_aload_n C 1 rfl rfl dX4_readCold_43 ?_
          refine ik_get C inlX4 0 rfl rfl 4 (by decide) wl_36_18 rfl (v := .int g4) rfl dX4_readCold_44 ?_
          refine ik_ineg C dX4_readCold_47 ?_
          refine ik_goto C 55 dX4_readCold_48 (by decide) ?_
          refine ik_put C inlX0 tyX0 tyX0_ok nmX0 3 rfl rfl 3 (by decide) wl_40_9 rfl (by decide) rfl rfl (Nat.le_of_ble_eq_true rfl) (wz_X4X0 cI cS r0 t0 t1 qc0 qc1 qc2 g1 g2 g3 g4 tsize tby qlit (-g4) qccell qcpow) rfl dX4_readCold_55 ?_
          refine ik_aload_n C 1 rfl rfl dX4_readCold_58 ?_
          obtain ⟨g6, g7, g8, g9, hc9, hf⟩ := ik_b4s hf
          have hM := (c_X4_advance l D cI cS r0 t0 t1 g1 g2 g3 g4 tsize tby g6 g7 g8 g9 hc9)
          refine ik_goW (v := none) (wc := (wz_X4 cI cS r0 t0 t1 g1 g2 g3 g4 tsize tby)) (w1 := (wz_X4 cI cS r0 t0 t1 g6 g7 g8 g9 tsize tby)) [0, 1, 2] [3, 4, 5] 6 rfl rfl (wz_X4X0 cI cS r0 t0 t1 qc0 qc1 qc2 g6 g7 g8 g9 tsize tby qlit (-g4) qccell qcpow) rfl [(qc0, .inr (0, [.ref qc1, .ref qc2, .int qlit, .int (-g4)])), (qc1, .inl (cI, 6, .inl qccell)), (qc2, .inl (cI, 6, .inl qcpow))] rfl rfl rfl (by decide +kernel) (ik_runV (st := []) (As := []) C hM mv_X4_advance wl_35_23 ⟨rfl, rfl, Nat.le_of_ble_eq_true rfl, Nat.le_of_ble_eq_true rfl⟩ [0, 1, 2] rfl (by decide +kernel) 0 rfl rfl rfl rfl (Nat.le_of_ble_eq_true rfl) dX4_readCold_59 ⟨Nat.zero_le _, Nat.zero_le _⟩) rfl ?_
          refine ik_iconst (v := (1 : Int32)) C (by decide) dX4_readCold_62 ?_
          obtain ⟨rfl, rfl, rfl, rfl, rfl, rfl⟩ := ik_e6 hf
          exact ik_zretW C hr (by decide) hlk dX4_readCold_63
      · have hf := ik_pos hc hf
        refine ik_iconst (v := (0 : Int32)) C (by decide) dX4_readCold_36 ?_
        obtain ⟨rfl, rfl, rfl, rfl, rfl, rfl⟩ := ik_e6 hf
        exact ik_zretW C hr (by decide) hlk dX4_readCold_37
    · have hf := ik_neg hc hf
      refine ik_aload_n C 1 rfl rfl dX4_readCold_22 ?_
      obtain ⟨g5, g6, g7, g8, hc8, hf⟩ := ik_b4s hf
      have hM := (c_X4_advance l D cI cS r0 t0 t1 g1 g2 g3 g4 tsize tby g5 g6 g7 g8 hc8)
      refine ik_goW (v := none) (wc := (wz_X4 cI cS r0 t0 t1 g1 g2 g3 g4 tsize tby)) (w1 := (wz_X4 cI cS r0 t0 t1 g5 g6 g7 g8 tsize tby)) [0, 1, 2] [3, 4, 5] 6 rfl rfl (wz_X4X0 cI cS r0 t0 t1 qc0 qc1 qc2 g5 g6 g7 g8 tsize tby qlit qcold qccell qcpow) rfl [(qc0, .inr (0, [.ref qc1, .ref qc2, .int qlit, .int qcold])), (qc1, .inl (cI, 6, .inl qccell)), (qc2, .inl (cI, 6, .inl qcpow))] rfl rfl rfl (by decide +kernel) (ik_runV (st := []) (As := []) C hM mv_X4_advance wl_35_23 ⟨rfl, rfl, Nat.le_of_ble_eq_true rfl, Nat.le_of_ble_eq_true rfl⟩ [0, 1, 2] rfl (by decide +kernel) 0 rfl rfl rfl rfl (Nat.le_of_ble_eq_true rfl) dX4_readCold_23 ⟨Nat.zero_le _, Nat.zero_le _⟩) rfl ?_
      refine ik_aload_n C 1 rfl rfl dX4_readCold_26 ?_
      refine ik_iconst (v := (0 : Int32)) C (by decide) dX4_readCold_27 ?_
      refine ik_bipush (v := (20 : Int32)) C (by decide) dX4_readCold_28 ?_
      obtain ⟨r9, hc9, hf⟩ := ik_b1s hf
      have hM := (c_X4_isNumber l D cI cS r0 t0 t1 g5 g6 g7 g8 tsize tby (0 : Int32) (20 : Int32) r9 hc9)
      refine ik_goR (ik_runV (st := []) (As := [.int (0 : Int32), .int (20 : Int32)]) C hM mv_X4_isNumber wl_39_16 ⟨rfl, rfl, Nat.le_of_ble_eq_true rfl, Nat.le_of_ble_eq_true rfl⟩ [0, 1, 2] rfl (by decide +kernel) 0 rfl rfl rfl rfl (Nat.le_of_ble_eq_true rfl) dX4_readCold_30 ⟨Nat.zero_le _, Nat.zero_le _⟩) rfl ?_
      refine ik_if_ne C 38 dX4_readCold_33 (by decide) (fun hc => ?_) (fun hc => ?_)
      · have hf := ik_neg hc hf
        refine ik_aload_n C 2 rfl rfl dX4_readCold_38 ?_
        refine ik_iload_n C 0 rfl rfl dX4_readCold_39 ?_
        refine ik_if_eq C 51 dX4_readCold_40 (by decide) (fun hc => ?_) (fun hc => ?_)
        · have hf := ik_pos hc hf
          refine ik_aload_n C 1 rfl rfl dX4_readCold_51 ?_
          refine ik_get C inlX4 0 rfl rfl 4 (by decide) wl_36_18 rfl (v := .int g8) rfl dX4_readCold_52 ?_
          refine ik_put C inlX0 tyX0 tyX0_ok nmX0 3 rfl rfl 3 (by decide) wl_40_9 rfl (by decide) rfl rfl (Nat.le_of_ble_eq_true rfl) (wz_X4X0 cI cS r0 t0 t1 qc0 qc1 qc2 g5 g6 g7 g8 tsize tby qlit g8 qccell qcpow) rfl dX4_readCold_55 ?_
          refine ik_aload_n C 1 rfl rfl dX4_readCold_58 ?_
          obtain ⟨g10, g11, g12, g13, hc13, hf⟩ := ik_b4s hf
          have hM := (c_X4_advance l D cI cS r0 t0 t1 g5 g6 g7 g8 tsize tby g10 g11 g12 g13 hc13)
          refine ik_goW (v := none) (wc := (wz_X4 cI cS r0 t0 t1 g5 g6 g7 g8 tsize tby)) (w1 := (wz_X4 cI cS r0 t0 t1 g10 g11 g12 g13 tsize tby)) [0, 1, 2] [3, 4, 5] 6 rfl rfl (wz_X4X0 cI cS r0 t0 t1 qc0 qc1 qc2 g10 g11 g12 g13 tsize tby qlit g8 qccell qcpow) rfl [(qc0, .inr (0, [.ref qc1, .ref qc2, .int qlit, .int g8])), (qc1, .inl (cI, 6, .inl qccell)), (qc2, .inl (cI, 6, .inl qcpow))] rfl rfl rfl (by decide +kernel) (ik_runV (st := []) (As := []) C hM mv_X4_advance wl_35_23 ⟨rfl, rfl, Nat.le_of_ble_eq_true rfl, Nat.le_of_ble_eq_true rfl⟩ [0, 1, 2] rfl (by decide +kernel) 0 rfl rfl rfl rfl (Nat.le_of_ble_eq_true rfl) dX4_readCold_59 ⟨Nat.zero_le _, Nat.zero_le _⟩) rfl ?_
          refine ik_iconst (v := (1 : Int32)) C (by decide) dX4_readCold_62 ?_
          obtain ⟨rfl, rfl, rfl, rfl, rfl, rfl⟩ := ik_e6 hf
          exact ik_zretW C hr (by decide) hlk dX4_readCold_63
        · have hf := ik_neg hc hf
          refine ik_aload_n C 1 rfl rfl dX4_readCold_43 ?_
          refine ik_get C inlX4 0 rfl rfl 4 (by decide) wl_36_18 rfl (v := .int g8) rfl dX4_readCold_44 ?_
          refine ik_ineg C dX4_readCold_47 ?_
          refine ik_goto C 55 dX4_readCold_48 (by decide) ?_
          refine ik_put C inlX0 tyX0 tyX0_ok nmX0 3 rfl rfl 3 (by decide) wl_40_9 rfl (by decide) rfl rfl (Nat.le_of_ble_eq_true rfl) (wz_X4X0 cI cS r0 t0 t1 qc0 qc1 qc2 g5 g6 g7 g8 tsize tby qlit (-g8) qccell qcpow) rfl dX4_readCold_55 ?_
          refine ik_aload_n C 1 rfl rfl dX4_readCold_58 ?_
          obtain ⟨g10, g11, g12, g13, hc13, hf⟩ := ik_b4s hf
          have hM := (c_X4_advance l D cI cS r0 t0 t1 g5 g6 g7 g8 tsize tby g10 g11 g12 g13 hc13)
          refine ik_goW (v := none) (wc := (wz_X4 cI cS r0 t0 t1 g5 g6 g7 g8 tsize tby)) (w1 := (wz_X4 cI cS r0 t0 t1 g10 g11 g12 g13 tsize tby)) [0, 1, 2] [3, 4, 5] 6 rfl rfl (wz_X4X0 cI cS r0 t0 t1 qc0 qc1 qc2 g10 g11 g12 g13 tsize tby qlit (-g8) qccell qcpow) rfl [(qc0, .inr (0, [.ref qc1, .ref qc2, .int qlit, .int (-g8)])), (qc1, .inl (cI, 6, .inl qccell)), (qc2, .inl (cI, 6, .inl qcpow))] rfl rfl rfl (by decide +kernel) (ik_runV (st := []) (As := []) C hM mv_X4_advance wl_35_23 ⟨rfl, rfl, Nat.le_of_ble_eq_true rfl, Nat.le_of_ble_eq_true rfl⟩ [0, 1, 2] rfl (by decide +kernel) 0 rfl rfl rfl rfl (Nat.le_of_ble_eq_true rfl) dX4_readCold_59 ⟨Nat.zero_le _, Nat.zero_le _⟩) rfl ?_
          refine ik_iconst (v := (1 : Int32)) C (by decide) dX4_readCold_62 ?_
          obtain ⟨rfl, rfl, rfl, rfl, rfl, rfl⟩ := ik_e6 hf
          exact ik_zretW C hr (by decide) hlk dX4_readCold_63
      · have hf := ik_pos hc hf
        refine ik_iconst (v := (0 : Int32)) C (by decide) dX4_readCold_36 ?_
        obtain ⟨rfl, rfl, rfl, rfl, rfl, rfl⟩ := ik_e6 hf
        exact ik_zretW C hr (by decide) hlk dX4_readCold_37
theorem mv_X1_passHours : ik_V yX1_passHours RX1 cX1_passHours 4 (some .int) 1 := ⟨wl_18_4, wl_18_5, wl_1_14, wl_18_6, by decide +kernel⟩
set_option maxHeartbeats 4000000 in
set_option maxRecDepth 100000 in
theorem c_X1_passHours (l : Launch) (D : va_G) (cI cS : ClassId) (p0 w0 c0 p1 p2 p3 w1 w2 w3 w4 c1 c2 : Nat) (hour : Int32) (air : Int32) (rub : Int32) (z : Int32) (nb : Int32) (kd : Nat → Int32) (cl : Nat → Int32) (gr : Nat → Int32) (oc : Nat → Int32) (lit : Int32) (cold : Int32) (ccell : Nat → Int32) (cpow : Nat → Int32) (sp : Nat → Int32) (wm : Nat → Int32) (dr : Nat → Int32) (x1 : Int32) (R : Int32) (hour_r : Int32) (air_r : Int32) (rub_r : Int32) (cl_r : Nat → Int32) (gr_r : Nat → Int32) (oc_r : Nat → Int32) (wm_r : Nat → Int32) (dr_r : Nat → Int32) (hf : f_X1_passHours hour air rub nb kd cl gr oc lit cold ccell cpow wm dr x1 = some (R, hour_r, air_r, rub_r, cl_r, gr_r, oc_r, wm_r, dr_r)) : Met l yX1_passHours (ik_ws yX1_passHours cX1_passHours 4 (some .int)) ({ frames := 5, cells := 0, slots := 0, locals := 122 } : Room) (ik_P D cI cS [.ref p0, .int x1] (wz_X1 cI cS p0 w0 c0 p1 p2 p3 w1 w2 w3 w4 c1 c2 hour air rub z nb kd cl gr oc lit cold ccell cpow sp wm dr)) (ik_Q (some (.int R)) D (wz_X1 cI cS p0 w0 c0 p1 p2 p3 w1 w2 w3 w4 c1 c2 hour_r air_r rub_r z nb kd cl_r gr_r oc_r lit cold ccell cpow sp wm_r dr_r) (wz_X1 cI cS p0 w0 c0 p1 p2 p3 w1 w2 w3 w4 c1 c2 hour air rub z nb kd cl gr oc lit cold ccell cpow sp wm dr)) 0 0 (ik_in (wz_X1 cI cS p0 w0 c0 p1 p2 p3 w1 w2 w3 w4 c1 c2 hour air rub z nb kd cl gr oc lit cold ccell cpow sp wm dr)) := by
  refine ik_metW RX1 rfl (by decide) (Nat.le_of_ble_eq_true rfl) [(0, .ref p0), (1, .int x1)] rfl ?_
  intro p e s m below meth c C hr hlk
  unfold f_X1_passHours at hf
  refine ik_aload_n C 0 rfl rfl dX1_passHours_0 ?_
  obtain ⟨g1, hc1, hf⟩ := ik_b1s hf
  have hM := (c_X1_feelWarmth l D cI cS p0 w0 c0 p1 p2 p3 w1 w2 w3 w4 c1 c2 hour air rub z nb kd cl gr oc lit cold ccell cpow sp wm dr g1 hc1)
  refine ik_goW (v := none) (wc := (wz_X1 cI cS p0 w0 c0 p1 p2 p3 w1 w2 w3 w4 c1 c2 hour air rub z nb kd cl gr oc lit cold ccell cpow sp wm dr)) (w1 := (wz_X1 cI cS p0 w0 c0 p1 p2 p3 w1 w2 w3 w4 c1 c2 hour air rub z nb kd cl gr oc lit cold ccell cpow sp g1 dr)) [0, 1, 2, 3, 4, 5, 6, 7, 8, 9, 10, 11] [] 12 rfl rfl (wz_X1 cI cS p0 w0 c0 p1 p2 p3 w1 w2 w3 w4 c1 c2 hour air rub z nb kd cl gr oc lit cold ccell cpow sp g1 dr) rfl [] rfl rfl rfl (by decide +kernel) (ik_runV (st := []) (As := []) C hM mv_X1_feelWarmth wl_18_7 ⟨rfl, rfl, Nat.le_of_ble_eq_true rfl, Nat.le_of_ble_eq_true rfl⟩ [0, 1, 2, 3, 4, 5, 6, 7, 8, 9, 10, 11] rfl (by decide +kernel) 0 rfl rfl rfl rfl (Nat.le_of_ble_eq_true rfl) dX1_passHours_1 ⟨Nat.zero_le _, Nat.zero_le _⟩) rfl ?_
  refine ik_iconst (v := (0 : Int32)) C (by decide) dX1_passHours_4 ?_
  refine ik_istore_n C [(2, .int (0 : Int32)), (0, .ref p0), (1, .int x1)] rfl (by decide) rfl dX1_passHours_5 ?_
  refine ik_iconst (v := (0 : Int32)) C (by decide) dX1_passHours_6 ?_
  refine ik_istore_n C [(3, .int (0 : Int32)), (2, .int (0 : Int32)), (0, .ref p0), (1, .int x1)] rfl (by decide) rfl dX1_passHours_7 ?_
  have hL_8 : ∀ (n_8 : Nat) (hour_8 : Int32) (air_8 : Int32) (rub_8 : Int32) (cl_8 : Nat → Int32) (gr_8 : Nat → Int32) (oc_8 : Nat → Int32) (dr_8 : Nat → Int32) (x2_8 : Int32) (x3_8 : Int32), ik_lp9 (b_X1_passHours_8 nb kd x1 g1) n_8 hour_8 air_8 rub_8 cl_8 gr_8 oc_8 dr_8 x2_8 x3_8 = some (R, hour_r, air_r, rub_r, cl_r, gr_r, oc_r, wm_r, dr_r) → ik_G p l e ({ frames := 5, cells := 0, slots := 0, locals := 122 } : Room) s m ([.ref p0, .int x1] : List Value).toArray below meth c D (ik_in (wz_X1 cI cS p0 w0 c0 p1 p2 p3 w1 w2 w3 w4 c1 c2 hour air rub z nb kd cl gr oc lit cold ccell cpow sp wm dr)) (ik_in (wz_X1 cI cS p0 w0 c0 p1 p2 p3 w1 w2 w3 w4 c1 c2 hour air rub z nb kd cl gr oc lit cold ccell cpow sp wm dr)) 4 0 0 (MQ below (ik_Q (some (.int R)) D (wz_X1 cI cS p0 w0 c0 p1 p2 p3 w1 w2 w3 w4 c1 c2 hour_r air_r rub_r z nb kd cl_r gr_r oc_r lit cold ccell cpow sp wm_r dr_r) (wz_X1 cI cS p0 w0 c0 p1 p2 p3 w1 w2 w3 w4 c1 c2 hour air rub z nb kd cl gr oc lit cold ccell cpow sp wm dr)) ([.ref p0, .int x1] : List Value).toArray s 0 0 (ik_in (wz_X1 cI cS p0 w0 c0 p1 p2 p3 w1 w2 w3 w4 c1 c2 hour air rub z nb kd cl gr oc lit cold ccell cpow sp wm dr))) 8 [(3, .int x3_8), (2, .int x2_8), (0, .ref p0), (1, .int x1)] [] (wz_X1 cI cS p0 w0 c0 p1 p2 p3 w1 w2 w3 w4 c1 c2 hour_8 air_8 rub_8 z nb kd cl_8 gr_8 oc_8 lit cold ccell cpow sp g1 dr_8) := by
    intro n_8
    induction n_8 with
    | zero => intro _ _ _ _ _ _ _ _ _ hf; exact nomatch hf
    | succ n_8 ih_8 =>
      intro hour_8 air_8 rub_8 cl_8 gr_8 oc_8 dr_8 x2_8 x3_8 hf
      replace hf : b_X1_passHours_8 nb kd x1 g1 (ik_lp9 (b_X1_passHours_8 nb kd x1 g1) n_8) hour_8 air_8 rub_8 cl_8 gr_8 oc_8 dr_8 x2_8 x3_8 = some (R, hour_r, air_r, rub_r, cl_r, gr_r, oc_r, wm_r, dr_r) := hf
      unfold b_X1_passHours_8 at hf
      refine ik_iload_n C 0 rfl rfl dX1_passHours_8 ?_
      refine ik_iload_n C 3 rfl rfl dX1_passHours_9 ?_
      refine ik_icmp_ge C 26 dX1_passHours_10 (by decide) (fun hc => ?_) (fun hc => ?_)
      · have hf := ik_pos hc hf
        refine ik_iload_n C 1 rfl rfl dX1_passHours_26 ?_
        obtain ⟨rfl, rfl, rfl, rfl, rfl, rfl, rfl, rfl, rfl⟩ := ik_e9 hf
        exact ik_iretW C hr hlk dX1_passHours_27
      · have hf := ik_neg hc hf
        refine ik_iload_n C 1 rfl rfl dX1_passHours_13 ?_
        refine ik_aload_n C 2 rfl rfl dX1_passHours_14 ?_
        obtain ⟨r2, g3, g4, g5, g6, g7, g8, g9, hc9, hf⟩ := ik_b8s hf
        have hM := (c_X1_passHour l D cI cS p0 w0 c0 p1 p2 p3 w1 w2 w3 w4 c1 c2 hour_8 air_8 rub_8 z nb kd cl_8 gr_8 oc_8 lit cold ccell cpow sp g1 dr_8 r2 g3 g4 g5 g6 g7 g8 g9 hc9)
        refine ik_goW (v := (some (.int r2))) (wc := (wz_X1 cI cS p0 w0 c0 p1 p2 p3 w1 w2 w3 w4 c1 c2 hour_8 air_8 rub_8 z nb kd cl_8 gr_8 oc_8 lit cold ccell cpow sp g1 dr_8)) (w1 := (wz_X1 cI cS p0 w0 c0 p1 p2 p3 w1 w2 w3 w4 c1 c2 g3 g4 g5 z nb kd g6 g7 g8 lit cold ccell cpow sp g1 g9)) [0, 1, 2, 3, 4, 5, 6, 7, 8, 9, 10, 11] [] 12 rfl rfl (wz_X1 cI cS p0 w0 c0 p1 p2 p3 w1 w2 w3 w4 c1 c2 g3 g4 g5 z nb kd g6 g7 g8 lit cold ccell cpow sp g1 g9) rfl [] rfl rfl rfl (by decide +kernel) (ik_runV (st := [.int x2_8]) (As := []) C hM mv_X1_passHour wl_18_15 ⟨rfl, rfl, Nat.le_of_ble_eq_true rfl, Nat.le_of_ble_eq_true rfl⟩ [0, 1, 2, 3, 4, 5, 6, 7, 8, 9, 10, 11] rfl (by decide +kernel) 0 rfl rfl rfl rfl (Nat.le_of_ble_eq_true rfl) dX1_passHours_15 ⟨Nat.zero_le _, Nat.zero_le _⟩) rfl ?_
        refine ik_iadd C dX1_passHours_18 ?_
        refine ik_istore_n C [(2, .int (x2_8 + r2)), (3, .int x3_8), (0, .ref p0), (1, .int x1)] rfl (by decide) rfl dX1_passHours_19 ?_
        refine ik_iinc C [(3, .int (x3_8 + (1 : Int32))), (2, .int (x2_8 + r2)), (0, .ref p0), (1, .int x1)] 1 rfl rfl (by decide) rfl dX1_passHours_20 ?_
        refine ik_goto C 8 dX1_passHours_23 (by decide) ?_
        exact ik_sub [0, 1, 2, 3] [(3, .int (x3_8 + (1 : Int32))), (2, .int (x2_8 + r2)), (0, .ref p0), (1, .int x1)] rfl (ih_8 g3 g4 g5 g6 g7 g8 g9 (x2_8 + r2) (x3_8 + (1 : Int32)) hf)
  exact hL_8 ik_fu hour air rub cl gr oc dr (0 : Int32) (0 : Int32) hf
theorem mv_X1_hoursHeld : ik_V yX1_hoursHeld RX1 cX1_hoursHeld 3 (some .int) 1 := ⟨wl_26_8, wl_26_9, wl_1_14, wl_26_10, by decide +kernel⟩
set_option maxHeartbeats 4000000 in
set_option maxRecDepth 100000 in
theorem c_X1_hoursHeld (l : Launch) (D : va_G) (cI cS : ClassId) (p0 w0 c0 p1 p2 p3 w1 w2 w3 w4 c1 c2 : Nat) (hour : Int32) (air : Int32) (rub : Int32) (z : Int32) (nb : Int32) (kd : Nat → Int32) (cl : Nat → Int32) (gr : Nat → Int32) (oc : Nat → Int32) (lit : Int32) (cold : Int32) (ccell : Nat → Int32) (cpow : Nat → Int32) (sp : Nat → Int32) (wm : Nat → Int32) (dr : Nat → Int32) (x1 : Int32) (R : Int32) (hour_r : Int32) (air_r : Int32) (rub_r : Int32) (cl_r : Nat → Int32) (gr_r : Nat → Int32) (oc_r : Nat → Int32) (wm_r : Nat → Int32) (dr_r : Nat → Int32) (hf : f_X1_hoursHeld hour air rub nb kd cl gr oc lit cold ccell cpow wm dr x1 = some (R, hour_r, air_r, rub_r, cl_r, gr_r, oc_r, wm_r, dr_r)) : Met l yX1_hoursHeld (ik_ws yX1_hoursHeld cX1_hoursHeld 3 (some .int)) ({ frames := 5, cells := 0, slots := 0, locals := 122 } : Room) (ik_P D cI cS [.ref p0, .int x1] (wz_X1 cI cS p0 w0 c0 p1 p2 p3 w1 w2 w3 w4 c1 c2 hour air rub z nb kd cl gr oc lit cold ccell cpow sp wm dr)) (ik_Q (some (.int R)) D (wz_X1 cI cS p0 w0 c0 p1 p2 p3 w1 w2 w3 w4 c1 c2 hour_r air_r rub_r z nb kd cl_r gr_r oc_r lit cold ccell cpow sp wm_r dr_r) (wz_X1 cI cS p0 w0 c0 p1 p2 p3 w1 w2 w3 w4 c1 c2 hour air rub z nb kd cl gr oc lit cold ccell cpow sp wm dr)) 0 0 (ik_in (wz_X1 cI cS p0 w0 c0 p1 p2 p3 w1 w2 w3 w4 c1 c2 hour air rub z nb kd cl gr oc lit cold ccell cpow sp wm dr)) := by
  refine ik_metW RX1 rfl (by decide) (Nat.le_of_ble_eq_true rfl) [(0, .ref p0), (1, .int x1)] rfl ?_
  intro p e s m below meth c C hr hlk
  unfold f_X1_hoursHeld at hf
  refine ik_aload_n C 0 rfl rfl dX1_hoursHeld_0 ?_
  obtain ⟨g1, hc1, hf⟩ := ik_b1s hf
  have hM := (c_X1_feelWarmth l D cI cS p0 w0 c0 p1 p2 p3 w1 w2 w3 w4 c1 c2 hour air rub z nb kd cl gr oc lit cold ccell cpow sp wm dr g1 hc1)
  refine ik_goW (v := none) (wc := (wz_X1 cI cS p0 w0 c0 p1 p2 p3 w1 w2 w3 w4 c1 c2 hour air rub z nb kd cl gr oc lit cold ccell cpow sp wm dr)) (w1 := (wz_X1 cI cS p0 w0 c0 p1 p2 p3 w1 w2 w3 w4 c1 c2 hour air rub z nb kd cl gr oc lit cold ccell cpow sp g1 dr)) [0, 1, 2, 3, 4, 5, 6, 7, 8, 9, 10, 11] [] 12 rfl rfl (wz_X1 cI cS p0 w0 c0 p1 p2 p3 w1 w2 w3 w4 c1 c2 hour air rub z nb kd cl gr oc lit cold ccell cpow sp g1 dr) rfl [] rfl rfl rfl (by decide +kernel) (ik_runV (st := []) (As := []) C hM mv_X1_feelWarmth wl_18_7 ⟨rfl, rfl, Nat.le_of_ble_eq_true rfl, Nat.le_of_ble_eq_true rfl⟩ [0, 1, 2, 3, 4, 5, 6, 7, 8, 9, 10, 11] rfl (by decide +kernel) 0 rfl rfl rfl rfl (Nat.le_of_ble_eq_true rfl) dX1_hoursHeld_1 ⟨Nat.zero_le _, Nat.zero_le _⟩) rfl ?_
  refine ik_iconst (v := (0 : Int32)) C (by decide) dX1_hoursHeld_4 ?_
  refine ik_istore_n C [(2, .int (0 : Int32)), (0, .ref p0), (1, .int x1)] rfl (by decide) rfl dX1_hoursHeld_5 ?_
  have hL_6 : ∀ (n_6 : Nat) (hour_6 : Int32) (air_6 : Int32) (rub_6 : Int32) (cl_6 : Nat → Int32) (gr_6 : Nat → Int32) (oc_6 : Nat → Int32) (dr_6 : Nat → Int32) (x2_6 : Int32), ik_lp8 (b_X1_hoursHeld_6 nb kd x1 g1) n_6 hour_6 air_6 rub_6 cl_6 gr_6 oc_6 dr_6 x2_6 = some (R, hour_r, air_r, rub_r, cl_r, gr_r, oc_r, wm_r, dr_r) → ik_G p l e ({ frames := 5, cells := 0, slots := 0, locals := 122 } : Room) s m ([.ref p0, .int x1] : List Value).toArray below meth c D (ik_in (wz_X1 cI cS p0 w0 c0 p1 p2 p3 w1 w2 w3 w4 c1 c2 hour air rub z nb kd cl gr oc lit cold ccell cpow sp wm dr)) (ik_in (wz_X1 cI cS p0 w0 c0 p1 p2 p3 w1 w2 w3 w4 c1 c2 hour air rub z nb kd cl gr oc lit cold ccell cpow sp wm dr)) 3 0 0 (MQ below (ik_Q (some (.int R)) D (wz_X1 cI cS p0 w0 c0 p1 p2 p3 w1 w2 w3 w4 c1 c2 hour_r air_r rub_r z nb kd cl_r gr_r oc_r lit cold ccell cpow sp wm_r dr_r) (wz_X1 cI cS p0 w0 c0 p1 p2 p3 w1 w2 w3 w4 c1 c2 hour air rub z nb kd cl gr oc lit cold ccell cpow sp wm dr)) ([.ref p0, .int x1] : List Value).toArray s 0 0 (ik_in (wz_X1 cI cS p0 w0 c0 p1 p2 p3 w1 w2 w3 w4 c1 c2 hour air rub z nb kd cl gr oc lit cold ccell cpow sp wm dr))) 6 [(2, .int x2_6), (0, .ref p0), (1, .int x1)] [] (wz_X1 cI cS p0 w0 c0 p1 p2 p3 w1 w2 w3 w4 c1 c2 hour_6 air_6 rub_6 z nb kd cl_6 gr_6 oc_6 lit cold ccell cpow sp g1 dr_6) := by
    intro n_6
    induction n_6 with
    | zero => intro _ _ _ _ _ _ _ _ hf; exact nomatch hf
    | succ n_6 ih_6 =>
      intro hour_6 air_6 rub_6 cl_6 gr_6 oc_6 dr_6 x2_6 hf
      replace hf : b_X1_hoursHeld_6 nb kd x1 g1 (ik_lp8 (b_X1_hoursHeld_6 nb kd x1 g1) n_6) hour_6 air_6 rub_6 cl_6 gr_6 oc_6 dr_6 x2_6 = some (R, hour_r, air_r, rub_r, cl_r, gr_r, oc_r, wm_r, dr_r) := hf
      unfold b_X1_hoursHeld_6 at hf
      refine ik_iload_n C 0 rfl rfl dX1_hoursHeld_6 ?_
      refine ik_iload_n C 2 rfl rfl dX1_hoursHeld_7 ?_
      refine ik_icmp_ge C 26 dX1_hoursHeld_8 (by decide) (fun hc => ?_) (fun hc => ?_)
      · have hf := ik_pos hc hf
        refine ik_iload_n C 2 rfl rfl dX1_hoursHeld_26 ?_
        obtain ⟨rfl, rfl, rfl, rfl, rfl, rfl, rfl, rfl, rfl⟩ := ik_e9 hf
        exact ik_iretW C hr hlk dX1_hoursHeld_27
      · have hf := ik_neg hc hf
        refine ik_aload_n C 1 rfl rfl dX1_hoursHeld_11 ?_
        obtain ⟨r2, g3, g4, g5, g6, g7, g8, g9, hc9, hf⟩ := ik_b8s hf
        have hM := (c_X1_passHour l D cI cS p0 w0 c0 p1 p2 p3 w1 w2 w3 w4 c1 c2 hour_6 air_6 rub_6 z nb kd cl_6 gr_6 oc_6 lit cold ccell cpow sp g1 dr_6 r2 g3 g4 g5 g6 g7 g8 g9 hc9)
        refine ik_goW (v := (some (.int r2))) (wc := (wz_X1 cI cS p0 w0 c0 p1 p2 p3 w1 w2 w3 w4 c1 c2 hour_6 air_6 rub_6 z nb kd cl_6 gr_6 oc_6 lit cold ccell cpow sp g1 dr_6)) (w1 := (wz_X1 cI cS p0 w0 c0 p1 p2 p3 w1 w2 w3 w4 c1 c2 g3 g4 g5 z nb kd g6 g7 g8 lit cold ccell cpow sp g1 g9)) [0, 1, 2, 3, 4, 5, 6, 7, 8, 9, 10, 11] [] 12 rfl rfl (wz_X1 cI cS p0 w0 c0 p1 p2 p3 w1 w2 w3 w4 c1 c2 g3 g4 g5 z nb kd g6 g7 g8 lit cold ccell cpow sp g1 g9) rfl [] rfl rfl rfl (by decide +kernel) (ik_runV (st := []) (As := []) C hM mv_X1_passHour wl_18_15 ⟨rfl, rfl, Nat.le_of_ble_eq_true rfl, Nat.le_of_ble_eq_true rfl⟩ [0, 1, 2, 3, 4, 5, 6, 7, 8, 9, 10, 11] rfl (by decide +kernel) 0 rfl rfl rfl rfl (Nat.le_of_ble_eq_true rfl) dX1_hoursHeld_12 ⟨Nat.zero_le _, Nat.zero_le _⟩) rfl ?_
        refine ik_if_le C 20 dX1_hoursHeld_15 (by decide) (fun hc => ?_) (fun hc => ?_)
        · have hf := ik_pos hc hf
          refine ik_iinc C [(2, .int (x2_6 + (1 : Int32))), (0, .ref p0), (1, .int x1)] 0 rfl rfl (by decide) rfl dX1_hoursHeld_20 ?_
          refine ik_goto C 6 dX1_hoursHeld_23 (by decide) ?_
          exact ik_sub [0, 1, 2] [(2, .int (x2_6 + (1 : Int32))), (0, .ref p0), (1, .int x1)] rfl (ih_6 g3 g4 g5 g6 g7 g8 g9 (x2_6 + (1 : Int32)) hf)
        · have hf := ik_neg hc hf
          refine ik_iload_n C 0 rfl rfl dX1_hoursHeld_18 ?_
          obtain ⟨rfl, rfl, rfl, rfl, rfl, rfl, rfl, rfl, rfl⟩ := ik_e9 hf
          exact ik_iretW C hr hlk dX1_hoursHeld_19
  exact hL_6 ik_fu hour air rub cl gr oc dr (0 : Int32) hf
theorem mv_X1_goneIn : ik_V yX1_goneIn RX1 cX1_goneIn 4 (some .int) 2 := ⟨wl_25_11, wl_25_12, wl_1_14, wl_25_13, by decide +kernel⟩
set_option maxHeartbeats 4000000 in
set_option maxRecDepth 100000 in
theorem c_X1_goneIn (l : Launch) (D : va_G) (cI cS : ClassId) (p0 w0 c0 p1 p2 p3 w1 w2 w3 w4 c1 c2 : Nat) (hour : Int32) (air : Int32) (rub : Int32) (z : Int32) (nb : Int32) (kd : Nat → Int32) (cl : Nat → Int32) (gr : Nat → Int32) (oc : Nat → Int32) (lit : Int32) (cold : Int32) (ccell : Nat → Int32) (cpow : Nat → Int32) (sp : Nat → Int32) (wm : Nat → Int32) (dr : Nat → Int32) (x1 : Int32) (x2 : Int32) (R : Int32) (hour_r : Int32) (air_r : Int32) (rub_r : Int32) (cl_r : Nat → Int32) (gr_r : Nat → Int32) (oc_r : Nat → Int32) (wm_r : Nat → Int32) (dr_r : Nat → Int32) (hf : f_X1_goneIn hour air rub nb kd cl gr oc lit cold ccell cpow wm dr x1 x2 = some (R, hour_r, air_r, rub_r, cl_r, gr_r, oc_r, wm_r, dr_r)) : Met l yX1_goneIn (ik_ws yX1_goneIn cX1_goneIn 4 (some .int)) ({ frames := 5, cells := 0, slots := 0, locals := 122 } : Room) (ik_P D cI cS [.ref p0, .int x1, .int x2] (wz_X1 cI cS p0 w0 c0 p1 p2 p3 w1 w2 w3 w4 c1 c2 hour air rub z nb kd cl gr oc lit cold ccell cpow sp wm dr)) (ik_Q (some (.int R)) D (wz_X1 cI cS p0 w0 c0 p1 p2 p3 w1 w2 w3 w4 c1 c2 hour_r air_r rub_r z nb kd cl_r gr_r oc_r lit cold ccell cpow sp wm_r dr_r) (wz_X1 cI cS p0 w0 c0 p1 p2 p3 w1 w2 w3 w4 c1 c2 hour air rub z nb kd cl gr oc lit cold ccell cpow sp wm dr)) 0 0 (ik_in (wz_X1 cI cS p0 w0 c0 p1 p2 p3 w1 w2 w3 w4 c1 c2 hour air rub z nb kd cl gr oc lit cold ccell cpow sp wm dr)) := by
  refine ik_metW RX1 rfl (by decide) (Nat.le_of_ble_eq_true rfl) [(0, .ref p0), (1, .int x1), (2, .int x2)] rfl ?_
  intro p e s m below meth c C hr hlk
  unfold f_X1_goneIn at hf
  refine ik_aload_n C 0 rfl rfl dX1_goneIn_0 ?_
  obtain ⟨g1, hc1, hf⟩ := ik_b1s hf
  have hM := (c_X1_feelWarmth l D cI cS p0 w0 c0 p1 p2 p3 w1 w2 w3 w4 c1 c2 hour air rub z nb kd cl gr oc lit cold ccell cpow sp wm dr g1 hc1)
  refine ik_goW (v := none) (wc := (wz_X1 cI cS p0 w0 c0 p1 p2 p3 w1 w2 w3 w4 c1 c2 hour air rub z nb kd cl gr oc lit cold ccell cpow sp wm dr)) (w1 := (wz_X1 cI cS p0 w0 c0 p1 p2 p3 w1 w2 w3 w4 c1 c2 hour air rub z nb kd cl gr oc lit cold ccell cpow sp g1 dr)) [0, 1, 2, 3, 4, 5, 6, 7, 8, 9, 10, 11] [] 12 rfl rfl (wz_X1 cI cS p0 w0 c0 p1 p2 p3 w1 w2 w3 w4 c1 c2 hour air rub z nb kd cl gr oc lit cold ccell cpow sp g1 dr) rfl [] rfl rfl rfl (by decide +kernel) (ik_runV (st := []) (As := []) C hM mv_X1_feelWarmth wl_18_7 ⟨rfl, rfl, Nat.le_of_ble_eq_true rfl, Nat.le_of_ble_eq_true rfl⟩ [0, 1, 2, 3, 4, 5, 6, 7, 8, 9, 10, 11] rfl (by decide +kernel) 0 rfl rfl rfl rfl (Nat.le_of_ble_eq_true rfl) dX1_goneIn_1 ⟨Nat.zero_le _, Nat.zero_le _⟩) rfl ?_
  refine ik_iconst (v := (1 : Int32)) C (by decide) dX1_goneIn_4 ?_
  refine ik_istore_n C [(3, .int (1 : Int32)), (0, .ref p0), (1, .int x1), (2, .int x2)] rfl (by decide) rfl dX1_goneIn_5 ?_
  have hL_6 : ∀ (n_6 : Nat) (hour_6 : Int32) (air_6 : Int32) (rub_6 : Int32) (cl_6 : Nat → Int32) (gr_6 : Nat → Int32) (oc_6 : Nat → Int32) (dr_6 : Nat → Int32) (x3_6 : Int32), ik_lp8 (b_X1_goneIn_6 nb kd x1 x2 g1) n_6 hour_6 air_6 rub_6 cl_6 gr_6 oc_6 dr_6 x3_6 = some (R, hour_r, air_r, rub_r, cl_r, gr_r, oc_r, wm_r, dr_r) → ik_G p l e ({ frames := 5, cells := 0, slots := 0, locals := 122 } : Room) s m ([.ref p0, .int x1, .int x2] : List Value).toArray below meth c D (ik_in (wz_X1 cI cS p0 w0 c0 p1 p2 p3 w1 w2 w3 w4 c1 c2 hour air rub z nb kd cl gr oc lit cold ccell cpow sp wm dr)) (ik_in (wz_X1 cI cS p0 w0 c0 p1 p2 p3 w1 w2 w3 w4 c1 c2 hour air rub z nb kd cl gr oc lit cold ccell cpow sp wm dr)) 4 0 0 (MQ below (ik_Q (some (.int R)) D (wz_X1 cI cS p0 w0 c0 p1 p2 p3 w1 w2 w3 w4 c1 c2 hour_r air_r rub_r z nb kd cl_r gr_r oc_r lit cold ccell cpow sp wm_r dr_r) (wz_X1 cI cS p0 w0 c0 p1 p2 p3 w1 w2 w3 w4 c1 c2 hour air rub z nb kd cl gr oc lit cold ccell cpow sp wm dr)) ([.ref p0, .int x1, .int x2] : List Value).toArray s 0 0 (ik_in (wz_X1 cI cS p0 w0 c0 p1 p2 p3 w1 w2 w3 w4 c1 c2 hour air rub z nb kd cl gr oc lit cold ccell cpow sp wm dr))) 6 [(3, .int x3_6), (0, .ref p0), (1, .int x1), (2, .int x2)] [] (wz_X1 cI cS p0 w0 c0 p1 p2 p3 w1 w2 w3 w4 c1 c2 hour_6 air_6 rub_6 z nb kd cl_6 gr_6 oc_6 lit cold ccell cpow sp g1 dr_6) := by
    intro n_6
    induction n_6 with
    | zero => intro _ _ _ _ _ _ _ _ hf; exact nomatch hf
    | succ n_6 ih_6 =>
      intro hour_6 air_6 rub_6 cl_6 gr_6 oc_6 dr_6 x3_6 hf
      replace hf : b_X1_goneIn_6 nb kd x1 x2 g1 (ik_lp8 (b_X1_goneIn_6 nb kd x1 x2 g1) n_6) hour_6 air_6 rub_6 cl_6 gr_6 oc_6 dr_6 x3_6 = some (R, hour_r, air_r, rub_r, cl_r, gr_r, oc_r, wm_r, dr_r) := hf
      unfold b_X1_goneIn_6 at hf
      refine ik_iload_n C 0 rfl rfl dX1_goneIn_6 ?_
      refine ik_iload_n C 3 rfl rfl dX1_goneIn_7 ?_
      refine ik_icmp_gt C 35 dX1_goneIn_8 (by decide) (fun hc => ?_) (fun hc => ?_)
      · have hf := ik_pos hc hf
        refine ik_iload_n C 3 rfl rfl dX1_goneIn_35 ?_
        refine ik_iconst (v := (1 : Int32)) C (by decide) dX1_goneIn_36 ?_
        refine ik_iadd C dX1_goneIn_37 ?_
        obtain ⟨rfl, rfl, rfl, rfl, rfl, rfl, rfl, rfl, rfl⟩ := ik_e9 hf
        exact ik_iretW C hr hlk dX1_goneIn_38
      · have hf := ik_neg hc hf
        refine ik_aload_n C 1 rfl rfl dX1_goneIn_11 ?_
        obtain ⟨r2, g3, g4, g5, g6, g7, g8, g9, hc9, hf⟩ := ik_b8s hf
        have hM := (c_X1_passHour l D cI cS p0 w0 c0 p1 p2 p3 w1 w2 w3 w4 c1 c2 hour_6 air_6 rub_6 z nb kd cl_6 gr_6 oc_6 lit cold ccell cpow sp g1 dr_6 r2 g3 g4 g5 g6 g7 g8 g9 hc9)
        refine ik_goW (v := (some (.int r2))) (wc := (wz_X1 cI cS p0 w0 c0 p1 p2 p3 w1 w2 w3 w4 c1 c2 hour_6 air_6 rub_6 z nb kd cl_6 gr_6 oc_6 lit cold ccell cpow sp g1 dr_6)) (w1 := (wz_X1 cI cS p0 w0 c0 p1 p2 p3 w1 w2 w3 w4 c1 c2 g3 g4 g5 z nb kd g6 g7 g8 lit cold ccell cpow sp g1 g9)) [0, 1, 2, 3, 4, 5, 6, 7, 8, 9, 10, 11] [] 12 rfl rfl (wz_X1 cI cS p0 w0 c0 p1 p2 p3 w1 w2 w3 w4 c1 c2 g3 g4 g5 z nb kd g6 g7 g8 lit cold ccell cpow sp g1 g9) rfl [] rfl rfl rfl (by decide +kernel) (ik_runV (st := []) (As := []) C hM mv_X1_passHour wl_18_15 ⟨rfl, rfl, Nat.le_of_ble_eq_true rfl, Nat.le_of_ble_eq_true rfl⟩ [0, 1, 2, 3, 4, 5, 6, 7, 8, 9, 10, 11] rfl (by decide +kernel) 0 rfl rfl rfl rfl (Nat.le_of_ble_eq_true rfl) dX1_goneIn_12 ⟨Nat.zero_le _, Nat.zero_le _⟩) rfl ?_
        refine ik_pop C rfl dX1_goneIn_15 ?_
        refine ik_aload_n C 1 rfl rfl dX1_goneIn_16 ?_
        refine ik_get C inlX1 0 rfl rfl 0 (by decide) wl_2_13 rfl (v := .ref w0) rfl dX1_goneIn_17 ?_
        refine ik_iload_n C 2 rfl rfl dX1_goneIn_20 ?_
        obtain ⟨r10, hc10, hf⟩ := ik_b1s hf
        have hM := (c_X5_isGone l D cI cS w0 w1 w2 w3 w4 nb kd g6 g7 g8 x1 r10 hc10)
        refine ik_goR (ik_runV (st := []) (As := [.int x1]) C hM mv_X5_isGone wl_18_13 ⟨rfl, rfl, Nat.le_of_ble_eq_true rfl, Nat.le_of_ble_eq_true rfl⟩ [1, 2, 3, 4, 5] rfl (by decide +kernel) 1 rfl rfl rfl rfl (Nat.le_of_ble_eq_true rfl) dX1_goneIn_21 ⟨Nat.zero_le _, Nat.zero_le _⟩) rfl ?_
        refine ik_if_eq C 29 dX1_goneIn_24 (by decide) (fun hc => ?_) (fun hc => ?_)
        · have hf := ik_pos hc hf
          refine ik_iinc C [(3, .int (x3_6 + (1 : Int32))), (0, .ref p0), (1, .int x1), (2, .int x2)] 0 rfl rfl (by decide) rfl dX1_goneIn_29 ?_
          refine ik_goto C 6 dX1_goneIn_32 (by decide) ?_
          exact ik_sub [0, 1, 2, 3] [(3, .int (x3_6 + (1 : Int32))), (0, .ref p0), (1, .int x1), (2, .int x2)] rfl (ih_6 g3 g4 g5 g6 g7 g8 g9 (x3_6 + (1 : Int32)) hf)
        · have hf := ik_neg hc hf
          refine ik_iload_n C 0 rfl rfl dX1_goneIn_27 ?_
          obtain ⟨rfl, rfl, rfl, rfl, rfl, rfl, rfl, rfl, rfl⟩ := ik_e9 hf
          exact ik_iretW C hr hlk dX1_goneIn_28
  exact hL_6 ik_fu hour air rub cl gr oc dr (1 : Int32) hf
theorem mv_X4_readItem : ik_V yX4_readItem RX4 cX4_readItem 3 (some .boolean) 1 := ⟨wl_36_21, wl_36_22, wl_1_20, wl_36_23, by decide +kernel⟩
set_option maxHeartbeats 4000000 in
set_option maxRecDepth 100000 in
theorem c_X4_readItem (l : Launch) (D : va_G) (cI cS : ClassId) (aK aV : Nat → Nat) (ka : Nat) (r0 t0 t1 qp0 qw0 qc0 qp1 qp2 qp3 qw1 qw2 qw3 qw4 qc1 qc2 : Nat) (tok : Int32) (sta : Int32) (en : Int32) (val : Int32) (tsize : Int32) (tby : Nat → Int32) (qhour : Int32) (qair : Int32) (qrub : Int32) (qz : Int32) (qnb : Int32) (qkd : Nat → Int32) (qcl : Nat → Int32) (qgr : Nat → Int32) (qoc : Nat → Int32) (qlit : Int32) (qcold : Int32) (qccell : Nat → Int32) (qcpow : Nat → Int32) (qsp : Nat → Int32) (qwm : Nat → Int32) (qdr : Nat → Int32) (R : Int32) (tok_r : Int32) (sta_r : Int32) (en_r : Int32) (val_r : Int32) (qnb_r : Int32) (qkd_r : Nat → Int32) (qcl_r : Nat → Int32) (qgr_r : Nat → Int32) (qoc_r : Nat → Int32) (qlit_r : Int32) (qcold_r : Int32) (qccell_r : Nat → Int32) (qcpow_r : Nat → Int32) (hf : f_X4_readItem tok sta en val tsize tby qnb qkd qcl qgr qoc qlit qcold qccell qcpow = some (R, tok_r, sta_r, en_r, val_r, qnb_r, qkd_r, qcl_r, qgr_r, qoc_r, qlit_r, qcold_r, qccell_r, qcpow_r)) : Met l yX4_readItem (ik_ws yX4_readItem cX4_readItem 3 (some .boolean)) ({ frames := 6, cells := 0, slots := 0, locals := 157 } : Room) (ik_PZ D cI cS aK aV ka [.ref r0, .ref qp0] (wz_X4X1 cI cS r0 t0 t1 qp0 qw0 qc0 qp1 qp2 qp3 qw1 qw2 qw3 qw4 qc1 qc2 tok sta en val tsize tby qhour qair qrub qz qnb qkd qcl qgr qoc qlit qcold qccell qcpow qsp qwm qdr)) (ik_Q (some (.int R)) D (wz_X4X1 cI cS r0 t0 t1 qp0 qw0 qc0 qp1 qp2 qp3 qw1 qw2 qw3 qw4 qc1 qc2 tok_r sta_r en_r val_r tsize tby qhour qair qrub qz qnb_r qkd_r qcl_r qgr_r qoc_r qlit_r qcold_r qccell_r qcpow_r qsp qwm qdr) (wz_X4X1 cI cS r0 t0 t1 qp0 qw0 qc0 qp1 qp2 qp3 qw1 qw2 qw3 qw4 qc1 qc2 tok sta en val tsize tby qhour qair qrub qz qnb qkd qcl qgr qoc qlit qcold qccell qcpow qsp qwm qdr)) 0 0 (ik_in (wz_X4X1 cI cS r0 t0 t1 qp0 qw0 qc0 qp1 qp2 qp3 qw1 qw2 qw3 qw4 qc1 qc2 tok sta en val tsize tby qhour qair qrub qz qnb qkd qcl qgr qoc qlit qcold qccell qcpow qsp qwm qdr)) := by
  refine ik_metWZ RX4 rfl (by decide) (Nat.le_of_ble_eq_true rfl) [(0, .ref r0), (1, .ref qp0)] rfl ?_
  intro p e s m below meth c C hr hlk hZ
  unfold f_X4_readItem at hf
  refine ik_aload_n C 0 rfl rfl dX4_readItem_0 ?_
  obtain ⟨r1, hc1, hf⟩ := ik_b1s hf
  have hM := (c_X4_kindOfWord l D cI cS aK aV ka r0 t0 t1 tok sta en val tsize tby r1 hc1)
  refine ik_goR (ik_runVZ (st := []) (As := []) C hZ (fun _ h => h) ik_hBw hM mv_X4_kindOfWord wl_37_2 ⟨rfl, rfl, Nat.le_of_ble_eq_true rfl, Nat.le_of_ble_eq_true rfl⟩ [0, 1, 2] rfl (by decide +kernel) 0 rfl rfl rfl rfl (Nat.le_of_ble_eq_true rfl) dX4_readItem_1 ⟨Nat.zero_le _, Nat.zero_le _⟩) rfl ?_
  refine ik_istore_n C [(2, .int r1), (0, .ref r0), (1, .ref qp0)] rfl (by decide) rfl dX4_readItem_4 ?_
  refine ik_iload_n C 0 rfl rfl dX4_readItem_5 ?_
  refine ik_if_lt C 19 dX4_readItem_6 (by decide) (fun hc => ?_) (fun hc => ?_)
  · have hf := ik_pos hc hf
    refine ik_aload_n C 1 rfl rfl dX4_readItem_19 ?_
    refine ik_ldcS C (hZ.1 0 (by decide)).2.2.2.2 dX4_readItem_20 ?_
    obtain ⟨r2, hc2, hf⟩ := ik_b1s hf
    have hM := (c_X4_isWord l D cI cS aK aV ka 0 (by decide) r0 t0 t1 tok sta en val tsize tby r2 hc2)
    refine ik_goR (ik_runVZ (st := []) (As := [.ref (aK 0)]) C hZ (fun _ h => h) ik_hBw hM mv_X4_isWord wl_37_6 ⟨rfl, rfl, Nat.le_of_ble_eq_true rfl, Nat.le_of_ble_eq_true rfl⟩ [0, 1, 2] rfl (by decide +kernel) 0 rfl rfl rfl rfl (Nat.le_of_ble_eq_true rfl) dX4_readItem_22 ⟨Nat.zero_le _, Nat.zero_le _⟩) rfl ?_
    refine ik_if_eq C 37 dX4_readItem_25 (by decide) (fun hc => ?_) (fun hc => ?_)
    · have hf := ik_pos hc hf
      refine ik_aload_n C 1 rfl rfl dX4_readItem_37 ?_
      refine ik_ldcS C (hZ.1 1 (by decide)).2.2.2.2 dX4_readItem_38 ?_
      obtain ⟨r3, hc3, hf⟩ := ik_b1s hf
      have hM := (c_X4_isWord l D cI cS aK aV ka 1 (by decide) r0 t0 t1 tok sta en val tsize tby r3 hc3)
      refine ik_goR (ik_runVZ (st := []) (As := [.ref (aK 1)]) C hZ (fun _ h => h) ik_hBw hM mv_X4_isWord wl_37_6 ⟨rfl, rfl, Nat.le_of_ble_eq_true rfl, Nat.le_of_ble_eq_true rfl⟩ [0, 1, 2] rfl (by decide +kernel) 0 rfl rfl rfl rfl (Nat.le_of_ble_eq_true rfl) dX4_readItem_40 ⟨Nat.zero_le _, Nat.zero_le _⟩) rfl ?_
      refine ik_if_eq C 61 dX4_readItem_43 (by decide) (fun hc => ?_) (fun hc => ?_)
      · have hf := ik_pos hc hf
        refine ik_iconst (v := (0 : Int32)) C (by decide) dX4_readItem_61 ?_
        obtain ⟨rfl, rfl, rfl, rfl, rfl, rfl, rfl, rfl, rfl, rfl, rfl, rfl, rfl, rfl⟩ := ik_e14 hf
        exact ik_zretW C hr (by decide) hlk dX4_readItem_62
      · have hf := ik_neg hc hf
        refine ik_aload_n C 1 rfl rfl dX4_readItem_46 ?_
        refine ik_aload_n C 2 rfl rfl dX4_readItem_47 ?_
        refine ik_get C inlX1 3 rfl rfl 1 (by decide) wl_37_1 rfl (v := .ref qc0) rfl dX4_readItem_48 ?_
        obtain ⟨r4, g5, g6, g7, g8, g9, hc9, hf⟩ := ik_b6s hf
        have hM := (c_X4_readCold l D cI cS r0 t0 t1 qc0 qc1 qc2 tok sta en val tsize tby qlit qcold qccell qcpow r4 g5 g6 g7 g8 g9 hc9)
        refine ik_goW (v := (some (.int r4))) (wc := (wz_X4X0 cI cS r0 t0 t1 qc0 qc1 qc2 tok sta en val tsize tby qlit qcold qccell qcpow)) (w1 := (wz_X4X0 cI cS r0 t0 t1 qc0 qc1 qc2 g5 g6 g7 g8 tsize tby qlit g9 qccell qcpow)) [0, 1, 2, 9, 10, 11] [3, 4, 5, 6, 7, 8, 12, 13, 14] 15 rfl rfl (wz_X4X1 cI cS r0 t0 t1 qp0 qw0 qc0 qp1 qp2 qp3 qw1 qw2 qw3 qw4 qc1 qc2 g5 g6 g7 g8 tsize tby qhour qair qrub qz qnb qkd qcl qgr qoc qlit g9 qccell qcpow qsp qwm qdr) rfl [(qp0, .inr (1, [.ref qw0, .ref qc0, .ref qp1, .int qhour, .int qair, .int qrub, .int qz, .ref qp2, .ref qp3])), (qw0, .inr (5, [.int qnb, .ref qw1, .ref qw2, .ref qw3, .ref qw4])), (qw1, .inl (cI, 16, .inl qkd)), (qw2, .inl (cI, 16, .inl qcl)), (qw3, .inl (cI, 16, .inl qgr)), (qw4, .inl (cI, 48, .inl qoc)), (qp1, .inl (cI, 10, .inl qsp)), (qp2, .inl (cI, 16, .inl qwm)), (qp3, .inl (cI, 8, .inl qdr))] rfl rfl rfl (by decide +kernel) (ik_runV (st := []) (As := [.ref qc0]) C hM mv_X4_readCold wl_40_5 ⟨rfl, rfl, Nat.le_of_ble_eq_true rfl, Nat.le_of_ble_eq_true rfl⟩ [0, 1, 2, 9, 10, 11] rfl (by decide +kernel) 0 rfl rfl rfl rfl (Nat.le_of_ble_eq_true rfl) dX4_readItem_51 ⟨Nat.zero_le _, Nat.zero_le _⟩) rfl ?_
        refine ik_if_eq C 61 dX4_readItem_54 (by decide) (fun hc => ?_) (fun hc => ?_)
        · have hf := ik_pos hc hf
          refine ik_iconst (v := (0 : Int32)) C (by decide) dX4_readItem_61 ?_
          obtain ⟨rfl, rfl, rfl, rfl, rfl, rfl, rfl, rfl, rfl, rfl, rfl, rfl, rfl, rfl⟩ := ik_e14 hf
          exact ik_zretW C hr (by decide) hlk dX4_readItem_62
        · have hf := ik_neg hc hf
          refine ik_iconst (v := (1 : Int32)) C (by decide) dX4_readItem_57 ?_
          refine ik_goto C 62 dX4_readItem_58 (by decide) ?_
          obtain ⟨rfl, rfl, rfl, rfl, rfl, rfl, rfl, rfl, rfl, rfl, rfl, rfl, rfl, rfl⟩ := ik_e14 hf
          exact ik_zretW C hr (by decide) hlk dX4_readItem_62
    · have hf := ik_neg hc hf
      refine ik_aload_n C 1 rfl rfl dX4_readItem_28 ?_
      refine ik_aload_n C 2 rfl rfl dX4_readItem_29 ?_
      refine ik_get C inlX1 3 rfl rfl 1 (by decide) wl_37_1 rfl (v := .ref qc0) rfl dX4_readItem_30 ?_
      obtain ⟨r3, g4, g5, g6, g7, g8, g9, g10, hc10, hf⟩ := ik_b8s hf
      have hM := (c_X4_readCandle l D cI cS aK aV ka r0 t0 t1 qc0 qc1 qc2 tok sta en val tsize tby qlit qcold qccell qcpow r3 g4 g5 g6 g7 g8 g9 g10 hc10)
      refine ik_goW (v := (some (.int r3))) (wc := (wz_X4X0 cI cS r0 t0 t1 qc0 qc1 qc2 tok sta en val tsize tby qlit qcold qccell qcpow)) (w1 := (wz_X4X0 cI cS r0 t0 t1 qc0 qc1 qc2 g4 g5 g6 g7 tsize tby g8 qcold g9 g10)) [0, 1, 2, 9, 10, 11] [3, 4, 5, 6, 7, 8, 12, 13, 14] 15 rfl rfl (wz_X4X1 cI cS r0 t0 t1 qp0 qw0 qc0 qp1 qp2 qp3 qw1 qw2 qw3 qw4 qc1 qc2 g4 g5 g6 g7 tsize tby qhour qair qrub qz qnb qkd qcl qgr qoc g8 qcold g9 g10 qsp qwm qdr) rfl [(qp0, .inr (1, [.ref qw0, .ref qc0, .ref qp1, .int qhour, .int qair, .int qrub, .int qz, .ref qp2, .ref qp3])), (qw0, .inr (5, [.int qnb, .ref qw1, .ref qw2, .ref qw3, .ref qw4])), (qw1, .inl (cI, 16, .inl qkd)), (qw2, .inl (cI, 16, .inl qcl)), (qw3, .inl (cI, 16, .inl qgr)), (qw4, .inl (cI, 48, .inl qoc)), (qp1, .inl (cI, 10, .inl qsp)), (qp2, .inl (cI, 16, .inl qwm)), (qp3, .inl (cI, 8, .inl qdr))] rfl rfl rfl (by decide +kernel) (ik_runVZ (st := []) (As := [.ref qc0]) C hZ (fun _ h => h) ik_hBw hM mv_X4_readCandle wl_39_22 ⟨rfl, rfl, Nat.le_of_ble_eq_true rfl, Nat.le_of_ble_eq_true rfl⟩ [0, 1, 2, 9, 10, 11] rfl (by decide +kernel) 0 rfl rfl rfl rfl (Nat.le_of_ble_eq_true rfl) dX4_readItem_33 ⟨Nat.zero_le _, Nat.zero_le _⟩) rfl ?_
      have hz := ik_gzi hf
      have hf := ik_gzk hf
      obtain ⟨rfl, rfl, rfl, rfl, rfl, rfl, rfl, rfl, rfl, rfl, rfl, rfl, rfl, rfl⟩ := ik_e14 hf
      exact ik_zretW C hr hz.1 hlk dX4_readItem_36
  · have hf := ik_neg hc hf
    refine ik_aload_n C 1 rfl rfl dX4_readItem_9 ?_
    refine ik_aload_n C 2 rfl rfl dX4_readItem_10 ?_
    refine ik_get C inlX1 3 rfl rfl 0 (by decide) wl_37_0 rfl (v := .ref qw0) rfl dX4_readItem_11 ?_
    refine ik_iload_n C 0 rfl rfl dX4_readItem_14 ?_
    obtain ⟨r2, g3, g4, g5, g6, g7, g8, g9, g10, g11, hc11, hf⟩ := ik_b10s hf
    have hM := (c_X4_readBlock l D cI cS aK aV ka r0 t0 t1 qw0 qw1 qw2 qw3 qw4 tok sta en val tsize tby qnb qkd qcl qgr qoc r1 r2 g3 g4 g5 g6 g7 g8 g9 g10 g11 hc11)
    refine ik_goW (v := (some (.int r2))) (wc := (wz_X4X5 cI cS r0 t0 t1 qw0 qw1 qw2 qw3 qw4 tok sta en val tsize tby qnb qkd qcl qgr qoc)) (w1 := (wz_X4X5 cI cS r0 t0 t1 qw0 qw1 qw2 qw3 qw4 g3 g4 g5 g6 tsize tby g7 g8 g9 g10 g11)) [0, 1, 2, 4, 5, 6, 7, 8] [3, 9, 10, 11, 12, 13, 14] 15 rfl rfl (wz_X4X1 cI cS r0 t0 t1 qp0 qw0 qc0 qp1 qp2 qp3 qw1 qw2 qw3 qw4 qc1 qc2 g3 g4 g5 g6 tsize tby qhour qair qrub qz g7 g8 g9 g10 g11 qlit qcold qccell qcpow qsp qwm qdr) rfl [(qp0, .inr (1, [.ref qw0, .ref qc0, .ref qp1, .int qhour, .int qair, .int qrub, .int qz, .ref qp2, .ref qp3])), (qc0, .inr (0, [.ref qc1, .ref qc2, .int qlit, .int qcold])), (qc1, .inl (cI, 6, .inl qccell)), (qc2, .inl (cI, 6, .inl qcpow)), (qp1, .inl (cI, 10, .inl qsp)), (qp2, .inl (cI, 16, .inl qwm)), (qp3, .inl (cI, 8, .inl qdr))] rfl rfl rfl (by decide +kernel) (ik_runVZ (st := []) (As := [.ref qw0, .int r1]) C hZ (fun _ h => h) ik_hBw hM mv_X4_readBlock wl_39_11 ⟨rfl, rfl, Nat.le_of_ble_eq_true rfl, Nat.le_of_ble_eq_true rfl⟩ [0, 1, 2, 4, 5, 6, 7, 8] rfl (by decide +kernel) 0 rfl rfl rfl rfl (Nat.le_of_ble_eq_true rfl) dX4_readItem_15 ⟨Nat.zero_le _, Nat.zero_le _⟩) rfl ?_
    have hz := ik_gzi hf
    have hf := ik_gzk hf
    obtain ⟨rfl, rfl, rfl, rfl, rfl, rfl, rfl, rfl, rfl, rfl, rfl, rfl, rfl, rfl⟩ := ik_e14 hf
    exact ik_zretW C hr hz.1 hlk dX4_readItem_18
theorem mv_X6_hours : ik_V yX6_hours RX6 cX6_hours 2 (some .int) 1 := ⟨wl_17_19, wl_17_20, wl_1_2, wl_17_21, by decide +kernel⟩
set_option maxHeartbeats 4000000 in
set_option maxRecDepth 100000 in
theorem c_X6_hours (l : Launch) (D : va_G) (cI cS : ClassId) (o0 np0 kp0 tp0 r0 t0 sh0 f0 nw0 nc0 np1 np2 np3 nw1 nw2 nw3 nw4 nc1 nc2 : Nat) (isk : Int32) (fnd : Nat → Int32) (nhour : Int32) (nair : Int32) (nrub : Int32) (nz : Int32) (nnb : Int32) (nkd : Nat → Int32) (ncl : Nat → Int32) (ngr : Nat → Int32) (noc : Nat → Int32) (nlit : Int32) (ncold : Int32) (nccell : Nat → Int32) (ncpow : Nat → Int32) (nsp : Nat → Int32) (nwm : Nat → Int32) (ndr : Nat → Int32) (x1 : Int32) (R : Int32) (fnd_r : Nat → Int32) (nhour_r : Int32) (nair_r : Int32) (nrub_r : Int32) (ncl_r : Nat → Int32) (ngr_r : Nat → Int32) (noc_r : Nat → Int32) (nwm_r : Nat → Int32) (ndr_r : Nat → Int32) (hf : f_X6_hours fnd nhour nair nrub nnb nkd ncl ngr noc nlit ncold nccell ncpow nwm ndr x1 = some (R, fnd_r, nhour_r, nair_r, nrub_r, ncl_r, ngr_r, noc_r, nwm_r, ndr_r)) : Met l yX6_hours (ik_ws yX6_hours cX6_hours 2 (some .int)) ({ frames := 6, cells := 0, slots := 0, locals := 145 } : Room) (ik_P D cI cS [.ref o0, .int x1] (wz_X6ofn cI cS o0 np0 kp0 tp0 r0 t0 sh0 f0 nw0 nc0 np1 np2 np3 nw1 nw2 nw3 nw4 nc1 nc2 isk fnd nhour nair nrub nz nnb nkd ncl ngr noc nlit ncold nccell ncpow nsp nwm ndr)) (ik_Q (some (.int R)) D (wz_X6ofn cI cS o0 np0 kp0 tp0 r0 t0 sh0 f0 nw0 nc0 np1 np2 np3 nw1 nw2 nw3 nw4 nc1 nc2 isk fnd_r nhour_r nair_r nrub_r nz nnb nkd ncl_r ngr_r noc_r nlit ncold nccell ncpow nsp nwm_r ndr_r) (wz_X6ofn cI cS o0 np0 kp0 tp0 r0 t0 sh0 f0 nw0 nc0 np1 np2 np3 nw1 nw2 nw3 nw4 nc1 nc2 isk fnd nhour nair nrub nz nnb nkd ncl ngr noc nlit ncold nccell ncpow nsp nwm ndr)) 0 0 (ik_in (wz_X6ofn cI cS o0 np0 kp0 tp0 r0 t0 sh0 f0 nw0 nc0 np1 np2 np3 nw1 nw2 nw3 nw4 nc1 nc2 isk fnd nhour nair nrub nz nnb nkd ncl ngr noc nlit ncold nccell ncpow nsp nwm ndr)) := by
  refine ik_metW RX6 rfl (by decide) (Nat.le_of_ble_eq_true rfl) [(0, .ref o0), (1, .int x1)] rfl ?_
  intro p e s m below meth c C hr hlk
  unfold f_X6_hours at hf
  refine ik_iload_n C 1 rfl rfl dX6_hours_0 ?_
  refine ik_iconst (v := (1 : Int32)) C (by decide) dX6_hours_1 ?_
  refine ik_bipush (v := (48 : Int32)) C (by decide) dX6_hours_2 ?_
  obtain ⟨r1, hc1, hf⟩ := ik_b1s hf
  have hM := (c_X6_isWithin l D cI cS x1 (1 : Int32) (48 : Int32) r1 hc1)
  refine ik_goR (ik_runS (st := []) (As := [.int x1, .int (1 : Int32), .int (48 : Int32)]) C hM ms_X6_isWithin wl_5_10 ⟨rfl, rfl, Nat.le_of_ble_eq_true rfl, Nat.le_of_ble_eq_true rfl⟩ [] rfl (by decide +kernel) rfl rfl (Nat.le_of_ble_eq_true rfl) dX6_hours_4 ⟨Nat.zero_le _, Nat.zero_le _⟩) rfl ?_
  refine ik_if_ne C 17 dX6_hours_7 (by decide) (fun hc => ?_) (fun hc => ?_)
  · have hf := ik_neg hc hf
    refine ik_aload_n C 0 rfl rfl dX6_hours_17 ?_
    refine ik_iload_n C 1 rfl rfl dX6_hours_18 ?_
    obtain ⟨r2, hc2, hf⟩ := ik_b1s hf
    have hM := (c_X6_hasHours l D cI cS o0 np0 kp0 tp0 r0 t0 sh0 f0 nw0 nc0 np1 np2 np3 nw1 nw2 nw3 nw4 nc1 nc2 isk nhour nair nrub nz nnb nkd ncl ngr noc nlit ncold nccell ncpow nsp nwm ndr x1 r2 hc2)
    refine ik_goR (ik_runV (st := []) (As := [.int x1]) C hM mv_X6_hasHours wl_17_22 ⟨rfl, rfl, Nat.le_of_ble_eq_true rfl, Nat.le_of_ble_eq_true rfl⟩ [0, 2, 3, 4, 5, 6, 7, 8, 9, 10, 11, 12, 13] rfl (by decide +kernel) 0 rfl rfl rfl rfl (Nat.le_of_ble_eq_true rfl) dX6_hours_19 ⟨Nat.zero_le _, Nat.zero_le _⟩) rfl ?_
    refine ik_if_ne C 32 dX6_hours_22 (by decide) (fun hc => ?_) (fun hc => ?_)
    · have hf := ik_neg hc hf
      refine ik_aload_n C 0 rfl rfl dX6_hours_32 ?_
      refine ik_get C inlX6 0 rfl rfl 0 (by decide) wl_1_15 rfl (v := .ref np0) rfl dX6_hours_33 ?_
      refine ik_iload_n C 1 rfl rfl dX6_hours_36 ?_
      obtain ⟨r3, g4, g5, g6, g7, g8, g9, g10, g11, hc11, hf⟩ := ik_b9s hf
      have hM := (c_X1_passHours l D cI cS np0 nw0 nc0 np1 np2 np3 nw1 nw2 nw3 nw4 nc1 nc2 nhour nair nrub nz nnb nkd ncl ngr noc nlit ncold nccell ncpow nsp nwm ndr x1 r3 g4 g5 g6 g7 g8 g9 g10 g11 hc11)
      refine ik_goW (v := (some (.int r3))) (wc := (wz_X1 cI cS np0 nw0 nc0 np1 np2 np3 nw1 nw2 nw3 nw4 nc1 nc2 nhour nair nrub nz nnb nkd ncl ngr noc nlit ncold nccell ncpow nsp nwm ndr)) (w1 := (wz_X1 cI cS np0 nw0 nc0 np1 np2 np3 nw1 nw2 nw3 nw4 nc1 nc2 g4 g5 g6 nz nnb nkd g7 g8 g9 nlit ncold nccell ncpow nsp g10 g11)) [2, 3, 4, 5, 6, 7, 8, 9, 10, 11, 12, 13] [0, 1] 14 rfl rfl (wz_X6ofn cI cS o0 np0 kp0 tp0 r0 t0 sh0 f0 nw0 nc0 np1 np2 np3 nw1 nw2 nw3 nw4 nc1 nc2 isk fnd g4 g5 g6 nz nnb nkd g7 g8 g9 nlit ncold nccell ncpow nsp g10 g11) rfl [(o0, .inr (6, [.ref np0, .ref kp0, .ref tp0, .int isk, .ref r0, .ref t0, .ref sh0, .ref f0])), (f0, .inl (cI, 7, .inl fnd))] rfl rfl rfl (by decide +kernel) (ik_runV (st := []) (As := [.int x1]) C hM mv_X1_passHours wl_18_3 ⟨rfl, rfl, Nat.le_of_ble_eq_true rfl, Nat.le_of_ble_eq_true rfl⟩ [2, 3, 4, 5, 6, 7, 8, 9, 10, 11, 12, 13] rfl (by decide +kernel) 2 rfl rfl rfl rfl (Nat.le_of_ble_eq_true rfl) dX6_hours_37 ⟨Nat.zero_le _, Nat.zero_le _⟩) rfl ?_
      obtain ⟨rfl, rfl, rfl, rfl, rfl, rfl, rfl, rfl, rfl, rfl⟩ := ik_e10 hf
      exact ik_iretW C hr hlk dX6_hours_40
    · have hf := ik_pos hc hf
      refine ik_aload_n C 0 rfl rfl dX6_hours_25 ?_
      refine ik_ldc C wl_5_6 dX6_hours_26 ?_
      obtain ⟨r3, g4, hc4, hf⟩ := ik_b2s hf
      have hM := (c_X6_tell l D cI cS o0 np0 kp0 tp0 r0 t0 sh0 f0 isk fnd (-1000005 : Int32) r3 g4 hc4)
      refine ik_goW (v := (some (.int r3))) (wc := (wz_X6of cI cS o0 np0 kp0 tp0 r0 t0 sh0 f0 isk fnd)) (w1 := (wz_X6of cI cS o0 np0 kp0 tp0 r0 t0 sh0 f0 isk g4)) [0, 1] [2, 3, 4, 5, 6, 7, 8, 9, 10, 11, 12, 13] 14 rfl rfl (wz_X6ofn cI cS o0 np0 kp0 tp0 r0 t0 sh0 f0 nw0 nc0 np1 np2 np3 nw1 nw2 nw3 nw4 nc1 nc2 isk g4 nhour nair nrub nz nnb nkd ncl ngr noc nlit ncold nccell ncpow nsp nwm ndr) rfl [(np0, .inr (1, [.ref nw0, .ref nc0, .ref np1, .int nhour, .int nair, .int nrub, .int nz, .ref np2, .ref np3])), (nw0, .inr (5, [.int nnb, .ref nw1, .ref nw2, .ref nw3, .ref nw4])), (nw1, .inl (cI, 16, .inl nkd)), (nw2, .inl (cI, 16, .inl ncl)), (nw3, .inl (cI, 16, .inl ngr)), (nw4, .inl (cI, 48, .inl noc)), (nc0, .inr (0, [.ref nc1, .ref nc2, .int nlit, .int ncold])), (nc1, .inl (cI, 6, .inl nccell)), (nc2, .inl (cI, 6, .inl ncpow)), (np1, .inl (cI, 10, .inl nsp)), (np2, .inl (cI, 16, .inl nwm)), (np3, .inl (cI, 8, .inl ndr))] rfl rfl rfl (by decide +kernel) (ik_runV (st := []) (As := [.int (-1000005 : Int32)]) C hM mv_X6_tell wl_5_16 ⟨rfl, rfl, Nat.le_of_ble_eq_true rfl, Nat.le_of_ble_eq_true rfl⟩ [0, 1] rfl (by decide +kernel) 0 rfl rfl rfl rfl (Nat.le_of_ble_eq_true rfl) dX6_hours_28 ⟨Nat.zero_le _, Nat.zero_le _⟩) rfl ?_
      obtain ⟨rfl, rfl, rfl, rfl, rfl, rfl, rfl, rfl, rfl, rfl⟩ := ik_e10 hf
      exact ik_iretW C hr hlk dX6_hours_31
  · have hf := ik_pos hc hf
    refine ik_aload_n C 0 rfl rfl dX6_hours_10 ?_
    refine ik_ldc C wl_5_3 dX6_hours_11 ?_
    obtain ⟨r2, g3, hc3, hf⟩ := ik_b2s hf
    have hM := (c_X6_tell l D cI cS o0 np0 kp0 tp0 r0 t0 sh0 f0 isk fnd (-1000001 : Int32) r2 g3 hc3)
    refine ik_goW (v := (some (.int r2))) (wc := (wz_X6of cI cS o0 np0 kp0 tp0 r0 t0 sh0 f0 isk fnd)) (w1 := (wz_X6of cI cS o0 np0 kp0 tp0 r0 t0 sh0 f0 isk g3)) [0, 1] [2, 3, 4, 5, 6, 7, 8, 9, 10, 11, 12, 13] 14 rfl rfl (wz_X6ofn cI cS o0 np0 kp0 tp0 r0 t0 sh0 f0 nw0 nc0 np1 np2 np3 nw1 nw2 nw3 nw4 nc1 nc2 isk g3 nhour nair nrub nz nnb nkd ncl ngr noc nlit ncold nccell ncpow nsp nwm ndr) rfl [(np0, .inr (1, [.ref nw0, .ref nc0, .ref np1, .int nhour, .int nair, .int nrub, .int nz, .ref np2, .ref np3])), (nw0, .inr (5, [.int nnb, .ref nw1, .ref nw2, .ref nw3, .ref nw4])), (nw1, .inl (cI, 16, .inl nkd)), (nw2, .inl (cI, 16, .inl ncl)), (nw3, .inl (cI, 16, .inl ngr)), (nw4, .inl (cI, 48, .inl noc)), (nc0, .inr (0, [.ref nc1, .ref nc2, .int nlit, .int ncold])), (nc1, .inl (cI, 6, .inl nccell)), (nc2, .inl (cI, 6, .inl ncpow)), (np1, .inl (cI, 10, .inl nsp)), (np2, .inl (cI, 16, .inl nwm)), (np3, .inl (cI, 8, .inl ndr))] rfl rfl rfl (by decide +kernel) (ik_runV (st := []) (As := [.int (-1000001 : Int32)]) C hM mv_X6_tell wl_5_16 ⟨rfl, rfl, Nat.le_of_ble_eq_true rfl, Nat.le_of_ble_eq_true rfl⟩ [0, 1] rfl (by decide +kernel) 0 rfl rfl rfl rfl (Nat.le_of_ble_eq_true rfl) dX6_hours_13 ⟨Nat.zero_le _, Nat.zero_le _⟩) rfl ?_
    obtain ⟨rfl, rfl, rfl, rfl, rfl, rfl, rfl, rfl, rfl, rfl⟩ := ik_e10 hf
    exact ik_iretW C hr hlk dX6_hours_16
theorem mv_X6_ahead : ik_V yX6_ahead RX6 cX6_ahead 5 (some .int) 2 := ⟨wl_23_5, wl_23_6, wl_1_2, wl_23_7, by decide +kernel⟩
set_option maxHeartbeats 4000000 in
set_option maxRecDepth 100000 in
theorem c_X6_ahead (l : Launch) (D : va_G) (cI cS : ClassId) (o0 np0 kp0 tp0 r0 t0 sh0 f0 nw0 nc0 np1 np2 np3 nw1 nw2 nw3 nw4 nc1 nc2 tw0 tc0 tp1 tp2 tp3 tw1 tw2 tw3 tw4 tc1 tc2 : Nat) (isk : Int32) (fnd : Nat → Int32) (nhour : Int32) (nair : Int32) (nrub : Int32) (nz : Int32) (nnb : Int32) (nkd : Nat → Int32) (ncl : Nat → Int32) (ngr : Nat → Int32) (noc : Nat → Int32) (nlit : Int32) (ncold : Int32) (nccell : Nat → Int32) (ncpow : Nat → Int32) (nsp : Nat → Int32) (nwm : Nat → Int32) (ndr : Nat → Int32) (thour : Int32) (tair : Int32) (trub : Int32) (tz : Int32) (tnb : Int32) (tkd : Nat → Int32) (tcl : Nat → Int32) (tgr : Nat → Int32) (toc : Nat → Int32) (tlit : Int32) (tcold : Int32) (tccell : Nat → Int32) (tcpow : Nat → Int32) (tsp : Nat → Int32) (twm : Nat → Int32) (tdr : Nat → Int32) (x1 : Int32) (x2 : Int32) (R : Int32) (fnd_r : Nat → Int32) (thour_r : Int32) (tair_r : Int32) (trub_r : Int32) (tz_r : Int32) (tnb_r : Int32) (tkd_r : Nat → Int32) (tcl_r : Nat → Int32) (tgr_r : Nat → Int32) (toc_r : Nat → Int32) (tlit_r : Int32) (tcold_r : Int32) (tccell_r : Nat → Int32) (tcpow_r : Nat → Int32) (tsp_r : Nat → Int32) (twm_r : Nat → Int32) (tdr_r : Nat → Int32) (hf : f_X6_ahead fnd nhour nair nrub nz nnb nkd ncl ngr noc nlit ncold nccell ncpow nsp thour tair trub tz tnb tkd tcl tgr toc tlit tcold tccell tcpow tsp twm tdr x1 x2 = some (R, fnd_r, thour_r, tair_r, trub_r, tz_r, tnb_r, tkd_r, tcl_r, tgr_r, toc_r, tlit_r, tcold_r, tccell_r, tcpow_r, tsp_r, twm_r, tdr_r)) : Met l yX6_ahead (ik_ws yX6_ahead cX6_ahead 5 (some .int)) ({ frames := 6, cells := 0, slots := 0, locals := 145 } : Room) (ik_P D cI cS [.ref o0, .int x1, .int x2] (wz_X6ofnt cI cS o0 np0 kp0 tp0 r0 t0 sh0 f0 nw0 nc0 np1 np2 np3 nw1 nw2 nw3 nw4 nc1 nc2 tw0 tc0 tp1 tp2 tp3 tw1 tw2 tw3 tw4 tc1 tc2 isk fnd nhour nair nrub nz nnb nkd ncl ngr noc nlit ncold nccell ncpow nsp nwm ndr thour tair trub tz tnb tkd tcl tgr toc tlit tcold tccell tcpow tsp twm tdr)) (ik_Q (some (.int R)) D (wz_X6ofnt cI cS o0 np0 kp0 tp0 r0 t0 sh0 f0 nw0 nc0 np1 np2 np3 nw1 nw2 nw3 nw4 nc1 nc2 tw0 tc0 tp1 tp2 tp3 tw1 tw2 tw3 tw4 tc1 tc2 isk fnd_r nhour nair nrub nz nnb nkd ncl ngr noc nlit ncold nccell ncpow nsp nwm ndr thour_r tair_r trub_r tz_r tnb_r tkd_r tcl_r tgr_r toc_r tlit_r tcold_r tccell_r tcpow_r tsp_r twm_r tdr_r) (wz_X6ofnt cI cS o0 np0 kp0 tp0 r0 t0 sh0 f0 nw0 nc0 np1 np2 np3 nw1 nw2 nw3 nw4 nc1 nc2 tw0 tc0 tp1 tp2 tp3 tw1 tw2 tw3 tw4 tc1 tc2 isk fnd nhour nair nrub nz nnb nkd ncl ngr noc nlit ncold nccell ncpow nsp nwm ndr thour tair trub tz tnb tkd tcl tgr toc tlit tcold tccell tcpow tsp twm tdr)) 0 0 (ik_in (wz_X6ofnt cI cS o0 np0 kp0 tp0 r0 t0 sh0 f0 nw0 nc0 np1 np2 np3 nw1 nw2 nw3 nw4 nc1 nc2 tw0 tc0 tp1 tp2 tp3 tw1 tw2 tw3 tw4 tc1 tc2 isk fnd nhour nair nrub nz nnb nkd ncl ngr noc nlit ncold nccell ncpow nsp nwm ndr thour tair trub tz tnb tkd tcl tgr toc tlit tcold tccell tcpow tsp twm tdr)) := by
  refine ik_metW RX6 rfl (by decide) (Nat.le_of_ble_eq_true rfl) [(0, .ref o0), (1, .int x1), (2, .int x2)] rfl ?_
  intro p e s m below meth c C hr hlk
  unfold f_X6_ahead at hf
  refine ik_iload_n C 1 rfl rfl dX6_ahead_0 ?_
  refine ik_iconst (v := (0 : Int32)) C (by decide) dX6_ahead_1 ?_
  refine ik_bipush (v := (96 : Int32)) C (by decide) dX6_ahead_2 ?_
  obtain ⟨r1, hc1, hf⟩ := ik_b1s hf
  have hM := (c_X6_isWithin l D cI cS x1 (0 : Int32) (96 : Int32) r1 hc1)
  refine ik_goR (ik_runS (st := []) (As := [.int x1, .int (0 : Int32), .int (96 : Int32)]) C hM ms_X6_isWithin wl_5_10 ⟨rfl, rfl, Nat.le_of_ble_eq_true rfl, Nat.le_of_ble_eq_true rfl⟩ [] rfl (by decide +kernel) rfl rfl (Nat.le_of_ble_eq_true rfl) dX6_ahead_4 ⟨Nat.zero_le _, Nat.zero_le _⟩) rfl ?_
  refine ik_if_eq C 19 dX6_ahead_7 (by decide) (fun hc => ?_) (fun hc => ?_)
  · have hf := ik_pos hc hf
    refine ik_aload_n C 0 rfl rfl dX6_ahead_19 ?_
    refine ik_ldc C wl_5_3 dX6_ahead_20 ?_
    obtain ⟨r2, g3, hc3, hf⟩ := ik_b2s hf
    have hM := (c_X6_tell l D cI cS o0 np0 kp0 tp0 r0 t0 sh0 f0 isk fnd (-1000001 : Int32) r2 g3 hc3)
    refine ik_goW (v := (some (.int r2))) (wc := (wz_X6of cI cS o0 np0 kp0 tp0 r0 t0 sh0 f0 isk fnd)) (w1 := (wz_X6of cI cS o0 np0 kp0 tp0 r0 t0 sh0 f0 isk g3)) [0, 1] [2, 3, 4, 5, 6, 7, 8, 9, 10, 11, 12, 13, 14, 15, 16, 17, 18, 19, 20, 21, 22, 23, 24, 25] 26 rfl rfl (wz_X6ofnt cI cS o0 np0 kp0 tp0 r0 t0 sh0 f0 nw0 nc0 np1 np2 np3 nw1 nw2 nw3 nw4 nc1 nc2 tw0 tc0 tp1 tp2 tp3 tw1 tw2 tw3 tw4 tc1 tc2 isk g3 nhour nair nrub nz nnb nkd ncl ngr noc nlit ncold nccell ncpow nsp nwm ndr thour tair trub tz tnb tkd tcl tgr toc tlit tcold tccell tcpow tsp twm tdr) rfl [(np0, .inr (1, [.ref nw0, .ref nc0, .ref np1, .int nhour, .int nair, .int nrub, .int nz, .ref np2, .ref np3])), (nw0, .inr (5, [.int nnb, .ref nw1, .ref nw2, .ref nw3, .ref nw4])), (nw1, .inl (cI, 16, .inl nkd)), (nw2, .inl (cI, 16, .inl ncl)), (nw3, .inl (cI, 16, .inl ngr)), (nw4, .inl (cI, 48, .inl noc)), (nc0, .inr (0, [.ref nc1, .ref nc2, .int nlit, .int ncold])), (nc1, .inl (cI, 6, .inl nccell)), (nc2, .inl (cI, 6, .inl ncpow)), (np1, .inl (cI, 10, .inl nsp)), (np2, .inl (cI, 16, .inl nwm)), (np3, .inl (cI, 8, .inl ndr)), (tp0, .inr (1, [.ref tw0, .ref tc0, .ref tp1, .int thour, .int tair, .int trub, .int tz, .ref tp2, .ref tp3])), (tw0, .inr (5, [.int tnb, .ref tw1, .ref tw2, .ref tw3, .ref tw4])), (tw1, .inl (cI, 16, .inl tkd)), (tw2, .inl (cI, 16, .inl tcl)), (tw3, .inl (cI, 16, .inl tgr)), (tw4, .inl (cI, 48, .inl toc)), (tc0, .inr (0, [.ref tc1, .ref tc2, .int tlit, .int tcold])), (tc1, .inl (cI, 6, .inl tccell)), (tc2, .inl (cI, 6, .inl tcpow)), (tp1, .inl (cI, 10, .inl tsp)), (tp2, .inl (cI, 16, .inl twm)), (tp3, .inl (cI, 8, .inl tdr))] rfl rfl rfl (by decide +kernel) (ik_runV (st := []) (As := [.int (-1000001 : Int32)]) C hM mv_X6_tell wl_5_16 ⟨rfl, rfl, Nat.le_of_ble_eq_true rfl, Nat.le_of_ble_eq_true rfl⟩ [0, 1] rfl (by decide +kernel) 0 rfl rfl rfl rfl (Nat.le_of_ble_eq_true rfl) dX6_ahead_22 ⟨Nat.zero_le _, Nat.zero_le _⟩) rfl ?_
    obtain ⟨rfl, rfl, rfl, rfl, rfl, rfl, rfl, rfl, rfl, rfl, rfl, rfl, rfl, rfl, rfl, rfl, rfl, rfl⟩ := ik_e18 hf
    exact ik_iretW C hr hlk dX6_ahead_25
  · have hf := ik_neg hc hf
    refine ik_iload_n C 2 rfl rfl dX6_ahead_10 ?_
    refine ik_iconst (v := (0 : Int32)) C (by decide) dX6_ahead_11 ?_
    refine ik_iconst (v := (4 : Int32)) C (by decide) dX6_ahead_12 ?_
    obtain ⟨r2, hc2, hf⟩ := ik_b1s hf
    have hM := (c_X6_isWithin l D cI cS x2 (0 : Int32) (4 : Int32) r2 hc2)
    refine ik_goR (ik_runS (st := []) (As := [.int x2, .int (0 : Int32), .int (4 : Int32)]) C hM ms_X6_isWithin wl_5_10 ⟨rfl, rfl, Nat.le_of_ble_eq_true rfl, Nat.le_of_ble_eq_true rfl⟩ [] rfl (by decide +kernel) rfl rfl (Nat.le_of_ble_eq_true rfl) dX6_ahead_13 ⟨Nat.zero_le _, Nat.zero_le _⟩) rfl ?_
    refine ik_if_ne C 26 dX6_ahead_16 (by decide) (fun hc => ?_) (fun hc => ?_)
    · have hf := ik_neg hc hf
      refine ik_aload_n C 0 rfl rfl dX6_ahead_26 ?_
      refine ik_iload_n C 1 rfl rfl dX6_ahead_27 ?_
      obtain ⟨r3, hc3, hf⟩ := ik_b1s hf
      have hM := (c_X6_hasHours l D cI cS o0 np0 kp0 tp0 r0 t0 sh0 f0 nw0 nc0 np1 np2 np3 nw1 nw2 nw3 nw4 nc1 nc2 isk nhour nair nrub nz nnb nkd ncl ngr noc nlit ncold nccell ncpow nsp nwm ndr x1 r3 hc3)
      refine ik_goR (ik_runV (st := []) (As := [.int x1]) C hM mv_X6_hasHours wl_17_22 ⟨rfl, rfl, Nat.le_of_ble_eq_true rfl, Nat.le_of_ble_eq_true rfl⟩ [0, 2, 3, 4, 5, 6, 7, 8, 9, 10, 11, 12, 13] rfl (by decide +kernel) 0 rfl rfl rfl rfl (Nat.le_of_ble_eq_true rfl) dX6_ahead_28 ⟨Nat.zero_le _, Nat.zero_le _⟩) rfl ?_
      refine ik_if_ne C 41 dX6_ahead_31 (by decide) (fun hc => ?_) (fun hc => ?_)
      · have hf := ik_neg hc hf
        refine ik_aload_n C 0 rfl rfl dX6_ahead_41 ?_
        obtain ⟨g4, g5, g6, g7, g8, g9, g10, g11, g12, g13, g14, g15, g16, g17, hc17, hf⟩ := ik_b14s hf
        have hM := (c_X6_freshTrial l D cI cS o0 np0 kp0 tp0 r0 t0 sh0 f0 nw0 nc0 np1 np2 np3 nw1 nw2 nw3 nw4 nc1 nc2 tw0 tc0 tp1 tp2 tp3 tw1 tw2 tw3 tw4 tc1 tc2 isk nhour nair nrub nz nnb nkd ncl ngr noc nlit ncold nccell ncpow nsp nwm ndr thour tair trub tz tnb tkd tcl tgr toc tlit tcold tccell tcpow tsp twm tdr g4 g5 g6 g7 g8 g9 g10 g11 g12 g13 g14 g15 g16 g17 hc17)
        refine ik_goW (v := (some (.ref tp0))) (wc := (wz_X6ont cI cS o0 np0 kp0 tp0 r0 t0 sh0 f0 nw0 nc0 np1 np2 np3 nw1 nw2 nw3 nw4 nc1 nc2 tw0 tc0 tp1 tp2 tp3 tw1 tw2 tw3 tw4 tc1 tc2 isk nhour nair nrub nz nnb nkd ncl ngr noc nlit ncold nccell ncpow nsp nwm ndr thour tair trub tz tnb tkd tcl tgr toc tlit tcold tccell tcpow tsp twm tdr)) (w1 := (wz_X6ont cI cS o0 np0 kp0 tp0 r0 t0 sh0 f0 nw0 nc0 np1 np2 np3 nw1 nw2 nw3 nw4 nc1 nc2 tw0 tc0 tp1 tp2 tp3 tw1 tw2 tw3 tw4 tc1 tc2 isk nhour nair nrub nz nnb nkd ncl ngr noc nlit ncold nccell ncpow nsp nwm ndr g4 g5 g6 g7 g8 g9 g10 g11 g12 g13 g14 g15 g16 g17 twm tdr)) [0, 2, 3, 4, 5, 6, 7, 8, 9, 10, 11, 12, 13, 14, 15, 16, 17, 18, 19, 20, 21, 22, 23, 24, 25] [1] 26 rfl rfl (wz_X6ofnt cI cS o0 np0 kp0 tp0 r0 t0 sh0 f0 nw0 nc0 np1 np2 np3 nw1 nw2 nw3 nw4 nc1 nc2 tw0 tc0 tp1 tp2 tp3 tw1 tw2 tw3 tw4 tc1 tc2 isk fnd nhour nair nrub nz nnb nkd ncl ngr noc nlit ncold nccell ncpow nsp nwm ndr g4 g5 g6 g7 g8 g9 g10 g11 g12 g13 g14 g15 g16 g17 twm tdr) rfl [(f0, .inl (cI, 7, .inl fnd))] rfl rfl rfl (by decide +kernel) (ik_runV (st := []) (As := []) C hM mv_X6_freshTrial wl_23_10 ⟨rfl, rfl, Nat.le_of_ble_eq_true rfl, Nat.le_of_ble_eq_true rfl⟩ [0, 2, 3, 4, 5, 6, 7, 8, 9, 10, 11, 12, 13, 14, 15, 16, 17, 18, 19, 20, 21, 22, 23, 24, 25] rfl (by decide +kernel) 0 rfl rfl rfl rfl (Nat.le_of_ble_eq_true rfl) dX6_ahead_42 ⟨Nat.zero_le _, Nat.zero_le _⟩) rfl ?_
        refine ik_astore_n C [(3, .ref tp0), (0, .ref o0), (1, .int x1), (2, .int x2)] rfl (by decide) rfl dX6_ahead_45 ?_
        refine ik_aload_n C 0 rfl rfl dX6_ahead_46 ?_
        refine ik_iload_n C 2 rfl rfl dX6_ahead_47 ?_
        obtain ⟨r18, g19, g20, g21, g22, g23, g24, g25, g26, hc26, hf⟩ := ik_b9s hf
        have hM := (c_X1_passHours l D cI cS tp0 tw0 tc0 tp1 tp2 tp3 tw1 tw2 tw3 tw4 tc1 tc2 g4 g5 g6 g7 g8 g9 g10 g11 g12 g13 g14 g15 g16 g17 twm tdr x1 r18 g19 g20 g21 g22 g23 g24 g25 g26 hc26)
        refine ik_goW (v := (some (.int r18))) (wc := (wz_X1 cI cS tp0 tw0 tc0 tp1 tp2 tp3 tw1 tw2 tw3 tw4 tc1 tc2 g4 g5 g6 g7 g8 g9 g10 g11 g12 g13 g14 g15 g16 g17 twm tdr)) (w1 := (wz_X1 cI cS tp0 tw0 tc0 tp1 tp2 tp3 tw1 tw2 tw3 tw4 tc1 tc2 g19 g20 g21 g7 g8 g9 g22 g23 g24 g13 g14 g15 g16 g17 g25 g26)) [14, 15, 16, 17, 18, 19, 20, 21, 22, 23, 24, 25] [0, 1, 2, 3, 4, 5, 6, 7, 8, 9, 10, 11, 12, 13] 26 rfl rfl (wz_X6ofnt cI cS o0 np0 kp0 tp0 r0 t0 sh0 f0 nw0 nc0 np1 np2 np3 nw1 nw2 nw3 nw4 nc1 nc2 tw0 tc0 tp1 tp2 tp3 tw1 tw2 tw3 tw4 tc1 tc2 isk fnd nhour nair nrub nz nnb nkd ncl ngr noc nlit ncold nccell ncpow nsp nwm ndr g19 g20 g21 g7 g8 g9 g22 g23 g24 g13 g14 g15 g16 g17 g25 g26) rfl [(o0, .inr (6, [.ref np0, .ref kp0, .ref tp0, .int isk, .ref r0, .ref t0, .ref sh0, .ref f0])), (f0, .inl (cI, 7, .inl fnd)), (np0, .inr (1, [.ref nw0, .ref nc0, .ref np1, .int nhour, .int nair, .int nrub, .int nz, .ref np2, .ref np3])), (nw0, .inr (5, [.int nnb, .ref nw1, .ref nw2, .ref nw3, .ref nw4])), (nw1, .inl (cI, 16, .inl nkd)), (nw2, .inl (cI, 16, .inl ncl)), (nw3, .inl (cI, 16, .inl ngr)), (nw4, .inl (cI, 48, .inl noc)), (nc0, .inr (0, [.ref nc1, .ref nc2, .int nlit, .int ncold])), (nc1, .inl (cI, 6, .inl nccell)), (nc2, .inl (cI, 6, .inl ncpow)), (np1, .inl (cI, 10, .inl nsp)), (np2, .inl (cI, 16, .inl nwm)), (np3, .inl (cI, 8, .inl ndr))] rfl rfl rfl (by decide +kernel) (ik_runV (st := []) (As := [.int x1]) C hM mv_X1_passHours wl_18_3 ⟨rfl, rfl, Nat.le_of_ble_eq_true rfl, Nat.le_of_ble_eq_true rfl⟩ [14, 15, 16, 17, 18, 19, 20, 21, 22, 23, 24, 25] rfl (by decide +kernel) 14 rfl rfl rfl rfl (Nat.le_of_ble_eq_true rfl) dX6_ahead_48 ⟨Nat.zero_le _, Nat.zero_le _⟩) rfl ?_
        refine ik_istore C [(4, .int r18), (3, .ref tp0), (0, .ref o0), (1, .int x1), (2, .int x2)] (by decide) rfl dX6_ahead_51 ?_
        refine ik_iload_n C 4 rfl rfl dX6_ahead_53 ?_
        by_cases hn0 : x2 = (0 : Int32)
        · have hf := ik_pos hn0 hf
          refine ik_tcase C (0 : Int32) hn0 84 dX6_ahead_54 (by decide) (by decide) rfl (by decide) ?_
          refine ik_iload C 0 rfl dX6_ahead_84 ?_
          obtain ⟨rfl, rfl, rfl, rfl, rfl, rfl, rfl, rfl, rfl, rfl, rfl, rfl, rfl, rfl, rfl, rfl, rfl, rfl⟩ := ik_e18 hf
          exact ik_iretW C hr hlk dX6_ahead_86
        · have hf := ik_neg hn0 hf
          by_cases hn1 : x2 = (1 : Int32)
          · have hf := ik_pos hn1 hf
            refine ik_tcase C (1 : Int32) hn1 87 dX6_ahead_54 (by decide) (by decide) rfl (by decide) ?_
            refine ik_aload_n C 1 rfl rfl dX6_ahead_87 ?_
            refine ik_get C inlX1 14 rfl rfl 0 (by decide) wl_5_4 rfl (v := .ref tw0) rfl dX6_ahead_88 ?_
            obtain ⟨r27, hc27, hf⟩ := ik_b1s hf
            have hM := (c_X5_allGrains l D cI cS tw0 tw1 tw2 tw3 tw4 g8 g9 g22 g23 g24 r27 hc27)
            refine ik_goR (ik_runV (st := []) (As := []) C hM mv_X5_allGrains wl_24_8 ⟨rfl, rfl, Nat.le_of_ble_eq_true rfl, Nat.le_of_ble_eq_true rfl⟩ [15, 16, 17, 18, 19] rfl (by decide +kernel) 15 rfl rfl rfl rfl (Nat.le_of_ble_eq_true rfl) dX6_ahead_91 ⟨Nat.zero_le _, Nat.zero_le _⟩) rfl ?_
            obtain ⟨rfl, rfl, rfl, rfl, rfl, rfl, rfl, rfl, rfl, rfl, rfl, rfl, rfl, rfl, rfl, rfl, rfl, rfl⟩ := ik_e18 hf
            exact ik_iretW C hr hlk dX6_ahead_94
          · have hf := ik_neg hn1 hf
            by_cases hn2 : x2 = (2 : Int32)
            · have hf := ik_pos hn2 hf
              refine ik_tcase C (2 : Int32) hn2 95 dX6_ahead_54 (by decide) (by decide) rfl (by decide) ?_
              refine ik_aload_n C 1 rfl rfl dX6_ahead_95 ?_
              refine ik_get C inlX1 14 rfl rfl 4 (by decide) wl_23_8 rfl (v := .int g20) rfl dX6_ahead_96 ?_
              obtain ⟨rfl, rfl, rfl, rfl, rfl, rfl, rfl, rfl, rfl, rfl, rfl, rfl, rfl, rfl, rfl, rfl, rfl, rfl⟩ := ik_e18 hf
              exact ik_iretW C hr hlk dX6_ahead_99
            · have hf := ik_neg hn2 hf
              by_cases hn3 : x2 = (3 : Int32)
              · have hf := ik_pos hn3 hf
                refine ik_tcase C (3 : Int32) hn3 100 dX6_ahead_54 (by decide) (by decide) rfl (by decide) ?_
                refine ik_aload_n C 1 rfl rfl dX6_ahead_100 ?_
                refine ik_get C inlX1 14 rfl rfl 5 (by decide) wl_23_9 rfl (v := .int g21) rfl dX6_ahead_101 ?_
                obtain ⟨rfl, rfl, rfl, rfl, rfl, rfl, rfl, rfl, rfl, rfl, rfl, rfl, rfl, rfl, rfl, rfl, rfl, rfl⟩ := ik_e18 hf
                exact ik_iretW C hr hlk dX6_ahead_104
              · have hf := ik_neg hn3 hf
                refine ik_tout C 105 dX6_ahead_54 (by have ehn0 : (x2).toInt ≠ 0 := fun h => hn0 (Int32.toInt_inj.mp h); have ehn1 : (x2).toInt ≠ 1 := fun h => hn1 (Int32.toInt_inj.mp h); have ehn2 : (x2).toInt ≠ 2 := fun h => hn2 (Int32.toInt_inj.mp h); have ehn3 : (x2).toInt ≠ 3 := fun h => hn3 (Int32.toInt_inj.mp h); omega) (by decide) ?_
                refine ik_aload_n C 1 rfl rfl dX6_ahead_105 ?_
                refine ik_get C inlX1 14 rfl rfl 0 (by decide) wl_5_4 rfl (v := .ref tw0) rfl dX6_ahead_106 ?_
                obtain ⟨r27, hc27, hf⟩ := ik_b1s hf
                have hM := (c_X5_goneSet l D cI cS tw0 tw1 tw2 tw3 tw4 g8 g9 g22 g23 g24 r27 hc27)
                refine ik_goR (ik_runV (st := []) (As := []) C hM mv_X5_goneSet wl_24_12 ⟨rfl, rfl, Nat.le_of_ble_eq_true rfl, Nat.le_of_ble_eq_true rfl⟩ [15, 16, 17, 18, 19] rfl (by decide +kernel) 15 rfl rfl rfl rfl (Nat.le_of_ble_eq_true rfl) dX6_ahead_109 ⟨Nat.zero_le _, Nat.zero_le _⟩) rfl ?_
                obtain ⟨rfl, rfl, rfl, rfl, rfl, rfl, rfl, rfl, rfl, rfl, rfl, rfl, rfl, rfl, rfl, rfl, rfl, rfl⟩ := ik_e18 hf
                exact ik_iretW C hr hlk dX6_ahead_112
      · have hf := ik_pos hc hf
        refine ik_aload_n C 0 rfl rfl dX6_ahead_34 ?_
        refine ik_ldc C wl_5_6 dX6_ahead_35 ?_
        obtain ⟨r4, g5, hc5, hf⟩ := ik_b2s hf
        have hM := (c_X6_tell l D cI cS o0 np0 kp0 tp0 r0 t0 sh0 f0 isk fnd (-1000005 : Int32) r4 g5 hc5)
        refine ik_goW (v := (some (.int r4))) (wc := (wz_X6of cI cS o0 np0 kp0 tp0 r0 t0 sh0 f0 isk fnd)) (w1 := (wz_X6of cI cS o0 np0 kp0 tp0 r0 t0 sh0 f0 isk g5)) [0, 1] [2, 3, 4, 5, 6, 7, 8, 9, 10, 11, 12, 13, 14, 15, 16, 17, 18, 19, 20, 21, 22, 23, 24, 25] 26 rfl rfl (wz_X6ofnt cI cS o0 np0 kp0 tp0 r0 t0 sh0 f0 nw0 nc0 np1 np2 np3 nw1 nw2 nw3 nw4 nc1 nc2 tw0 tc0 tp1 tp2 tp3 tw1 tw2 tw3 tw4 tc1 tc2 isk g5 nhour nair nrub nz nnb nkd ncl ngr noc nlit ncold nccell ncpow nsp nwm ndr thour tair trub tz tnb tkd tcl tgr toc tlit tcold tccell tcpow tsp twm tdr) rfl [(np0, .inr (1, [.ref nw0, .ref nc0, .ref np1, .int nhour, .int nair, .int nrub, .int nz, .ref np2, .ref np3])), (nw0, .inr (5, [.int nnb, .ref nw1, .ref nw2, .ref nw3, .ref nw4])), (nw1, .inl (cI, 16, .inl nkd)), (nw2, .inl (cI, 16, .inl ncl)), (nw3, .inl (cI, 16, .inl ngr)), (nw4, .inl (cI, 48, .inl noc)), (nc0, .inr (0, [.ref nc1, .ref nc2, .int nlit, .int ncold])), (nc1, .inl (cI, 6, .inl nccell)), (nc2, .inl (cI, 6, .inl ncpow)), (np1, .inl (cI, 10, .inl nsp)), (np2, .inl (cI, 16, .inl nwm)), (np3, .inl (cI, 8, .inl ndr)), (tp0, .inr (1, [.ref tw0, .ref tc0, .ref tp1, .int thour, .int tair, .int trub, .int tz, .ref tp2, .ref tp3])), (tw0, .inr (5, [.int tnb, .ref tw1, .ref tw2, .ref tw3, .ref tw4])), (tw1, .inl (cI, 16, .inl tkd)), (tw2, .inl (cI, 16, .inl tcl)), (tw3, .inl (cI, 16, .inl tgr)), (tw4, .inl (cI, 48, .inl toc)), (tc0, .inr (0, [.ref tc1, .ref tc2, .int tlit, .int tcold])), (tc1, .inl (cI, 6, .inl tccell)), (tc2, .inl (cI, 6, .inl tcpow)), (tp1, .inl (cI, 10, .inl tsp)), (tp2, .inl (cI, 16, .inl twm)), (tp3, .inl (cI, 8, .inl tdr))] rfl rfl rfl (by decide +kernel) (ik_runV (st := []) (As := [.int (-1000005 : Int32)]) C hM mv_X6_tell wl_5_16 ⟨rfl, rfl, Nat.le_of_ble_eq_true rfl, Nat.le_of_ble_eq_true rfl⟩ [0, 1] rfl (by decide +kernel) 0 rfl rfl rfl rfl (Nat.le_of_ble_eq_true rfl) dX6_ahead_37 ⟨Nat.zero_le _, Nat.zero_le _⟩) rfl ?_
        obtain ⟨rfl, rfl, rfl, rfl, rfl, rfl, rfl, rfl, rfl, rfl, rfl, rfl, rfl, rfl, rfl, rfl, rfl, rfl⟩ := ik_e18 hf
        exact ik_iretW C hr hlk dX6_ahead_40
    · have hf := ik_pos hc hf
      refine ik_aload_n C 0 rfl rfl dX6_ahead_19 ?_
      refine ik_ldc C wl_5_3 dX6_ahead_20 ?_
      obtain ⟨r3, g4, hc4, hf⟩ := ik_b2s hf
      have hM := (c_X6_tell l D cI cS o0 np0 kp0 tp0 r0 t0 sh0 f0 isk fnd (-1000001 : Int32) r3 g4 hc4)
      refine ik_goW (v := (some (.int r3))) (wc := (wz_X6of cI cS o0 np0 kp0 tp0 r0 t0 sh0 f0 isk fnd)) (w1 := (wz_X6of cI cS o0 np0 kp0 tp0 r0 t0 sh0 f0 isk g4)) [0, 1] [2, 3, 4, 5, 6, 7, 8, 9, 10, 11, 12, 13, 14, 15, 16, 17, 18, 19, 20, 21, 22, 23, 24, 25] 26 rfl rfl (wz_X6ofnt cI cS o0 np0 kp0 tp0 r0 t0 sh0 f0 nw0 nc0 np1 np2 np3 nw1 nw2 nw3 nw4 nc1 nc2 tw0 tc0 tp1 tp2 tp3 tw1 tw2 tw3 tw4 tc1 tc2 isk g4 nhour nair nrub nz nnb nkd ncl ngr noc nlit ncold nccell ncpow nsp nwm ndr thour tair trub tz tnb tkd tcl tgr toc tlit tcold tccell tcpow tsp twm tdr) rfl [(np0, .inr (1, [.ref nw0, .ref nc0, .ref np1, .int nhour, .int nair, .int nrub, .int nz, .ref np2, .ref np3])), (nw0, .inr (5, [.int nnb, .ref nw1, .ref nw2, .ref nw3, .ref nw4])), (nw1, .inl (cI, 16, .inl nkd)), (nw2, .inl (cI, 16, .inl ncl)), (nw3, .inl (cI, 16, .inl ngr)), (nw4, .inl (cI, 48, .inl noc)), (nc0, .inr (0, [.ref nc1, .ref nc2, .int nlit, .int ncold])), (nc1, .inl (cI, 6, .inl nccell)), (nc2, .inl (cI, 6, .inl ncpow)), (np1, .inl (cI, 10, .inl nsp)), (np2, .inl (cI, 16, .inl nwm)), (np3, .inl (cI, 8, .inl ndr)), (tp0, .inr (1, [.ref tw0, .ref tc0, .ref tp1, .int thour, .int tair, .int trub, .int tz, .ref tp2, .ref tp3])), (tw0, .inr (5, [.int tnb, .ref tw1, .ref tw2, .ref tw3, .ref tw4])), (tw1, .inl (cI, 16, .inl tkd)), (tw2, .inl (cI, 16, .inl tcl)), (tw3, .inl (cI, 16, .inl tgr)), (tw4, .inl (cI, 48, .inl toc)), (tc0, .inr (0, [.ref tc1, .ref tc2, .int tlit, .int tcold])), (tc1, .inl (cI, 6, .inl tccell)), (tc2, .inl (cI, 6, .inl tcpow)), (tp1, .inl (cI, 10, .inl tsp)), (tp2, .inl (cI, 16, .inl twm)), (tp3, .inl (cI, 8, .inl tdr))] rfl rfl rfl (by decide +kernel) (ik_runV (st := []) (As := [.int (-1000001 : Int32)]) C hM mv_X6_tell wl_5_16 ⟨rfl, rfl, Nat.le_of_ble_eq_true rfl, Nat.le_of_ble_eq_true rfl⟩ [0, 1] rfl (by decide +kernel) 0 rfl rfl rfl rfl (Nat.le_of_ble_eq_true rfl) dX6_ahead_22 ⟨Nat.zero_le _, Nat.zero_le _⟩) rfl ?_
      obtain ⟨rfl, rfl, rfl, rfl, rfl, rfl, rfl, rfl, rfl, rfl, rfl, rfl, rfl, rfl, rfl, rfl, rfl, rfl⟩ := ik_e18 hf
      exact ik_iretW C hr hlk dX6_ahead_25
theorem mv_X6_goes : ik_V yX6_goes RX6 cX6_goes 3 (some .int) 1 := ⟨wl_25_6, wl_25_7, wl_1_2, wl_25_8, by decide +kernel⟩
set_option maxHeartbeats 4000000 in
set_option maxRecDepth 100000 in
theorem c_X6_goes (l : Launch) (D : va_G) (cI cS : ClassId) (o0 np0 kp0 tp0 r0 t0 sh0 f0 nw0 nc0 np1 np2 np3 nw1 nw2 nw3 nw4 nc1 nc2 tw0 tc0 tp1 tp2 tp3 tw1 tw2 tw3 tw4 tc1 tc2 : Nat) (isk : Int32) (fnd : Nat → Int32) (nhour : Int32) (nair : Int32) (nrub : Int32) (nz : Int32) (nnb : Int32) (nkd : Nat → Int32) (ncl : Nat → Int32) (ngr : Nat → Int32) (noc : Nat → Int32) (nlit : Int32) (ncold : Int32) (nccell : Nat → Int32) (ncpow : Nat → Int32) (nsp : Nat → Int32) (nwm : Nat → Int32) (ndr : Nat → Int32) (thour : Int32) (tair : Int32) (trub : Int32) (tz : Int32) (tnb : Int32) (tkd : Nat → Int32) (tcl : Nat → Int32) (tgr : Nat → Int32) (toc : Nat → Int32) (tlit : Int32) (tcold : Int32) (tccell : Nat → Int32) (tcpow : Nat → Int32) (tsp : Nat → Int32) (twm : Nat → Int32) (tdr : Nat → Int32) (x1 : Int32) (R : Int32) (fnd_r : Nat → Int32) (thour_r : Int32) (tair_r : Int32) (trub_r : Int32) (tz_r : Int32) (tnb_r : Int32) (tkd_r : Nat → Int32) (tcl_r : Nat → Int32) (tgr_r : Nat → Int32) (toc_r : Nat → Int32) (tlit_r : Int32) (tcold_r : Int32) (tccell_r : Nat → Int32) (tcpow_r : Nat → Int32) (tsp_r : Nat → Int32) (twm_r : Nat → Int32) (tdr_r : Nat → Int32) (hf : f_X6_goes fnd nhour nair nrub nz nnb nkd ncl ngr noc nlit ncold nccell ncpow nsp thour tair trub tz tnb tkd tcl tgr toc tlit tcold tccell tcpow tsp twm tdr x1 = some (R, fnd_r, thour_r, tair_r, trub_r, tz_r, tnb_r, tkd_r, tcl_r, tgr_r, toc_r, tlit_r, tcold_r, tccell_r, tcpow_r, tsp_r, twm_r, tdr_r)) : Met l yX6_goes (ik_ws yX6_goes cX6_goes 3 (some .int)) ({ frames := 6, cells := 0, slots := 0, locals := 145 } : Room) (ik_P D cI cS [.ref o0, .int x1] (wz_X6ofnt cI cS o0 np0 kp0 tp0 r0 t0 sh0 f0 nw0 nc0 np1 np2 np3 nw1 nw2 nw3 nw4 nc1 nc2 tw0 tc0 tp1 tp2 tp3 tw1 tw2 tw3 tw4 tc1 tc2 isk fnd nhour nair nrub nz nnb nkd ncl ngr noc nlit ncold nccell ncpow nsp nwm ndr thour tair trub tz tnb tkd tcl tgr toc tlit tcold tccell tcpow tsp twm tdr)) (ik_Q (some (.int R)) D (wz_X6ofnt cI cS o0 np0 kp0 tp0 r0 t0 sh0 f0 nw0 nc0 np1 np2 np3 nw1 nw2 nw3 nw4 nc1 nc2 tw0 tc0 tp1 tp2 tp3 tw1 tw2 tw3 tw4 tc1 tc2 isk fnd_r nhour nair nrub nz nnb nkd ncl ngr noc nlit ncold nccell ncpow nsp nwm ndr thour_r tair_r trub_r tz_r tnb_r tkd_r tcl_r tgr_r toc_r tlit_r tcold_r tccell_r tcpow_r tsp_r twm_r tdr_r) (wz_X6ofnt cI cS o0 np0 kp0 tp0 r0 t0 sh0 f0 nw0 nc0 np1 np2 np3 nw1 nw2 nw3 nw4 nc1 nc2 tw0 tc0 tp1 tp2 tp3 tw1 tw2 tw3 tw4 tc1 tc2 isk fnd nhour nair nrub nz nnb nkd ncl ngr noc nlit ncold nccell ncpow nsp nwm ndr thour tair trub tz tnb tkd tcl tgr toc tlit tcold tccell tcpow tsp twm tdr)) 0 0 (ik_in (wz_X6ofnt cI cS o0 np0 kp0 tp0 r0 t0 sh0 f0 nw0 nc0 np1 np2 np3 nw1 nw2 nw3 nw4 nc1 nc2 tw0 tc0 tp1 tp2 tp3 tw1 tw2 tw3 tw4 tc1 tc2 isk fnd nhour nair nrub nz nnb nkd ncl ngr noc nlit ncold nccell ncpow nsp nwm ndr thour tair trub tz tnb tkd tcl tgr toc tlit tcold tccell tcpow tsp twm tdr)) := by
  refine ik_metW RX6 rfl (by decide) (Nat.le_of_ble_eq_true rfl) [(0, .ref o0), (1, .int x1)] rfl ?_
  intro p e s m below meth c C hr hlk
  unfold f_X6_goes at hf
  refine ik_aload_n C 0 rfl rfl dX6_goes_0 ?_
  refine ik_get C inlX6 0 rfl rfl 0 (by decide) wl_1_15 rfl (v := .ref np0) rfl dX6_goes_1 ?_
  refine ik_get C inlX1 2 rfl rfl 0 (by decide) wl_5_4 rfl (v := .ref nw0) rfl dX6_goes_4 ?_
  refine ik_iload_n C 1 rfl rfl dX6_goes_7 ?_
  obtain ⟨r1, hc1, hf⟩ := ik_b1s hf
  have hM := (c_X5_isBlock l D cI cS nw0 nw1 nw2 nw3 nw4 nnb nkd ncl ngr noc x1 r1 hc1)
  refine ik_goR (ik_runV (st := []) (As := [.int x1]) C hM mv_X5_isBlock wl_8_7 ⟨rfl, rfl, Nat.le_of_ble_eq_true rfl, Nat.le_of_ble_eq_true rfl⟩ [3, 4, 5, 6, 7] rfl (by decide +kernel) 3 rfl rfl rfl rfl (Nat.le_of_ble_eq_true rfl) dX6_goes_8 ⟨Nat.zero_le _, Nat.zero_le _⟩) rfl ?_
  refine ik_if_ne C 21 dX6_goes_11 (by decide) (fun hc => ?_) (fun hc => ?_)
  · have hf := ik_neg hc hf
    refine ik_aload_n C 0 rfl rfl dX6_goes_21 ?_
    refine ik_get C inlX6 0 rfl rfl 0 (by decide) wl_1_15 rfl (v := .ref np0) rfl dX6_goes_22 ?_
    refine ik_get C inlX1 2 rfl rfl 0 (by decide) wl_5_4 rfl (v := .ref nw0) rfl dX6_goes_25 ?_
    refine ik_iload_n C 1 rfl rfl dX6_goes_28 ?_
    obtain ⟨r2, hc2, hf⟩ := ik_b1s hf
    have hM := (c_X5_isGone l D cI cS nw0 nw1 nw2 nw3 nw4 nnb nkd ncl ngr noc x1 r2 hc2)
    refine ik_goR (ik_runV (st := []) (As := [.int x1]) C hM mv_X5_isGone wl_8_11 ⟨rfl, rfl, Nat.le_of_ble_eq_true rfl, Nat.le_of_ble_eq_true rfl⟩ [3, 4, 5, 6, 7] rfl (by decide +kernel) 3 rfl rfl rfl rfl (Nat.le_of_ble_eq_true rfl) dX6_goes_29 ⟨Nat.zero_le _, Nat.zero_le _⟩) rfl ?_
    refine ik_if_ne C 44 dX6_goes_32 (by decide) (fun hc => ?_) (fun hc => ?_)
    · have hf := ik_neg hc hf
      refine ik_aload_n C 0 rfl rfl dX6_goes_44 ?_
      refine ik_ldc C wl_5_6 dX6_goes_45 ?_
      obtain ⟨r3, g4, hc4, hf⟩ := ik_b2s hf
      have hM := (c_X6_tell l D cI cS o0 np0 kp0 tp0 r0 t0 sh0 f0 isk fnd (-1000005 : Int32) r3 g4 hc4)
      refine ik_goW (v := (some (.int r3))) (wc := (wz_X6of cI cS o0 np0 kp0 tp0 r0 t0 sh0 f0 isk fnd)) (w1 := (wz_X6of cI cS o0 np0 kp0 tp0 r0 t0 sh0 f0 isk g4)) [0, 1] [2, 3, 4, 5, 6, 7, 8, 9, 10, 11, 12, 13, 14, 15, 16, 17, 18, 19, 20, 21, 22, 23, 24, 25] 26 rfl rfl (wz_X6ofnt cI cS o0 np0 kp0 tp0 r0 t0 sh0 f0 nw0 nc0 np1 np2 np3 nw1 nw2 nw3 nw4 nc1 nc2 tw0 tc0 tp1 tp2 tp3 tw1 tw2 tw3 tw4 tc1 tc2 isk g4 nhour nair nrub nz nnb nkd ncl ngr noc nlit ncold nccell ncpow nsp nwm ndr thour tair trub tz tnb tkd tcl tgr toc tlit tcold tccell tcpow tsp twm tdr) rfl [(np0, .inr (1, [.ref nw0, .ref nc0, .ref np1, .int nhour, .int nair, .int nrub, .int nz, .ref np2, .ref np3])), (nw0, .inr (5, [.int nnb, .ref nw1, .ref nw2, .ref nw3, .ref nw4])), (nw1, .inl (cI, 16, .inl nkd)), (nw2, .inl (cI, 16, .inl ncl)), (nw3, .inl (cI, 16, .inl ngr)), (nw4, .inl (cI, 48, .inl noc)), (nc0, .inr (0, [.ref nc1, .ref nc2, .int nlit, .int ncold])), (nc1, .inl (cI, 6, .inl nccell)), (nc2, .inl (cI, 6, .inl ncpow)), (np1, .inl (cI, 10, .inl nsp)), (np2, .inl (cI, 16, .inl nwm)), (np3, .inl (cI, 8, .inl ndr)), (tp0, .inr (1, [.ref tw0, .ref tc0, .ref tp1, .int thour, .int tair, .int trub, .int tz, .ref tp2, .ref tp3])), (tw0, .inr (5, [.int tnb, .ref tw1, .ref tw2, .ref tw3, .ref tw4])), (tw1, .inl (cI, 16, .inl tkd)), (tw2, .inl (cI, 16, .inl tcl)), (tw3, .inl (cI, 16, .inl tgr)), (tw4, .inl (cI, 48, .inl toc)), (tc0, .inr (0, [.ref tc1, .ref tc2, .int tlit, .int tcold])), (tc1, .inl (cI, 6, .inl tccell)), (tc2, .inl (cI, 6, .inl tcpow)), (tp1, .inl (cI, 10, .inl tsp)), (tp2, .inl (cI, 16, .inl twm)), (tp3, .inl (cI, 8, .inl tdr))] rfl rfl rfl (by decide +kernel) (ik_runV (st := []) (As := [.int (-1000005 : Int32)]) C hM mv_X6_tell wl_5_16 ⟨rfl, rfl, Nat.le_of_ble_eq_true rfl, Nat.le_of_ble_eq_true rfl⟩ [0, 1] rfl (by decide +kernel) 0 rfl rfl rfl rfl (Nat.le_of_ble_eq_true rfl) dX6_goes_47 ⟨Nat.zero_le _, Nat.zero_le _⟩) rfl ?_
      obtain ⟨rfl, rfl, rfl, rfl, rfl, rfl, rfl, rfl, rfl, rfl, rfl, rfl, rfl, rfl, rfl, rfl, rfl, rfl⟩ := ik_e18 hf
      exact ik_iretW C hr hlk dX6_goes_50
    · have hf := ik_pos hc hf
      refine ik_aload_n C 0 rfl rfl dX6_goes_35 ?_
      refine ik_bipush (v := (96 : Int32)) C (by decide) dX6_goes_36 ?_
      obtain ⟨r3, hc3, hf⟩ := ik_b1s hf
      have hM := (c_X6_hasHours l D cI cS o0 np0 kp0 tp0 r0 t0 sh0 f0 nw0 nc0 np1 np2 np3 nw1 nw2 nw3 nw4 nc1 nc2 isk nhour nair nrub nz nnb nkd ncl ngr noc nlit ncold nccell ncpow nsp nwm ndr (96 : Int32) r3 hc3)
      refine ik_goR (ik_runV (st := []) (As := [.int (96 : Int32)]) C hM mv_X6_hasHours wl_17_22 ⟨rfl, rfl, Nat.le_of_ble_eq_true rfl, Nat.le_of_ble_eq_true rfl⟩ [0, 2, 3, 4, 5, 6, 7, 8, 9, 10, 11, 12, 13] rfl (by decide +kernel) 0 rfl rfl rfl rfl (Nat.le_of_ble_eq_true rfl) dX6_goes_38 ⟨Nat.zero_le _, Nat.zero_le _⟩) rfl ?_
      refine ik_if_ne C 51 dX6_goes_41 (by decide) (fun hc => ?_) (fun hc => ?_)
      · have hf := ik_neg hc hf
        refine ik_aload_n C 0 rfl rfl dX6_goes_51 ?_
        obtain ⟨g4, g5, g6, g7, g8, g9, g10, g11, g12, g13, g14, g15, g16, g17, hc17, hf⟩ := ik_b14s hf
        have hM := (c_X6_freshTrial l D cI cS o0 np0 kp0 tp0 r0 t0 sh0 f0 nw0 nc0 np1 np2 np3 nw1 nw2 nw3 nw4 nc1 nc2 tw0 tc0 tp1 tp2 tp3 tw1 tw2 tw3 tw4 tc1 tc2 isk nhour nair nrub nz nnb nkd ncl ngr noc nlit ncold nccell ncpow nsp nwm ndr thour tair trub tz tnb tkd tcl tgr toc tlit tcold tccell tcpow tsp twm tdr g4 g5 g6 g7 g8 g9 g10 g11 g12 g13 g14 g15 g16 g17 hc17)
        refine ik_goW (v := (some (.ref tp0))) (wc := (wz_X6ont cI cS o0 np0 kp0 tp0 r0 t0 sh0 f0 nw0 nc0 np1 np2 np3 nw1 nw2 nw3 nw4 nc1 nc2 tw0 tc0 tp1 tp2 tp3 tw1 tw2 tw3 tw4 tc1 tc2 isk nhour nair nrub nz nnb nkd ncl ngr noc nlit ncold nccell ncpow nsp nwm ndr thour tair trub tz tnb tkd tcl tgr toc tlit tcold tccell tcpow tsp twm tdr)) (w1 := (wz_X6ont cI cS o0 np0 kp0 tp0 r0 t0 sh0 f0 nw0 nc0 np1 np2 np3 nw1 nw2 nw3 nw4 nc1 nc2 tw0 tc0 tp1 tp2 tp3 tw1 tw2 tw3 tw4 tc1 tc2 isk nhour nair nrub nz nnb nkd ncl ngr noc nlit ncold nccell ncpow nsp nwm ndr g4 g5 g6 g7 g8 g9 g10 g11 g12 g13 g14 g15 g16 g17 twm tdr)) [0, 2, 3, 4, 5, 6, 7, 8, 9, 10, 11, 12, 13, 14, 15, 16, 17, 18, 19, 20, 21, 22, 23, 24, 25] [1] 26 rfl rfl (wz_X6ofnt cI cS o0 np0 kp0 tp0 r0 t0 sh0 f0 nw0 nc0 np1 np2 np3 nw1 nw2 nw3 nw4 nc1 nc2 tw0 tc0 tp1 tp2 tp3 tw1 tw2 tw3 tw4 tc1 tc2 isk fnd nhour nair nrub nz nnb nkd ncl ngr noc nlit ncold nccell ncpow nsp nwm ndr g4 g5 g6 g7 g8 g9 g10 g11 g12 g13 g14 g15 g16 g17 twm tdr) rfl [(f0, .inl (cI, 7, .inl fnd))] rfl rfl rfl (by decide +kernel) (ik_runV (st := []) (As := []) C hM mv_X6_freshTrial wl_23_10 ⟨rfl, rfl, Nat.le_of_ble_eq_true rfl, Nat.le_of_ble_eq_true rfl⟩ [0, 2, 3, 4, 5, 6, 7, 8, 9, 10, 11, 12, 13, 14, 15, 16, 17, 18, 19, 20, 21, 22, 23, 24, 25] rfl (by decide +kernel) 0 rfl rfl rfl rfl (Nat.le_of_ble_eq_true rfl) dX6_goes_52 ⟨Nat.zero_le _, Nat.zero_le _⟩) rfl ?_
        refine ik_iload_n C 1 rfl rfl dX6_goes_55 ?_
        refine ik_bipush (v := (96 : Int32)) C (by decide) dX6_goes_56 ?_
        obtain ⟨r18, g19, g20, g21, g22, g23, g24, g25, g26, hc26, hf⟩ := ik_b9s hf
        have hM := (c_X1_goneIn l D cI cS tp0 tw0 tc0 tp1 tp2 tp3 tw1 tw2 tw3 tw4 tc1 tc2 g4 g5 g6 g7 g8 g9 g10 g11 g12 g13 g14 g15 g16 g17 twm tdr x1 (96 : Int32) r18 g19 g20 g21 g22 g23 g24 g25 g26 hc26)
        refine ik_goW (v := (some (.int r18))) (wc := (wz_X1 cI cS tp0 tw0 tc0 tp1 tp2 tp3 tw1 tw2 tw3 tw4 tc1 tc2 g4 g5 g6 g7 g8 g9 g10 g11 g12 g13 g14 g15 g16 g17 twm tdr)) (w1 := (wz_X1 cI cS tp0 tw0 tc0 tp1 tp2 tp3 tw1 tw2 tw3 tw4 tc1 tc2 g19 g20 g21 g7 g8 g9 g22 g23 g24 g13 g14 g15 g16 g17 g25 g26)) [14, 15, 16, 17, 18, 19, 20, 21, 22, 23, 24, 25] [0, 1, 2, 3, 4, 5, 6, 7, 8, 9, 10, 11, 12, 13] 26 rfl rfl (wz_X6ofnt cI cS o0 np0 kp0 tp0 r0 t0 sh0 f0 nw0 nc0 np1 np2 np3 nw1 nw2 nw3 nw4 nc1 nc2 tw0 tc0 tp1 tp2 tp3 tw1 tw2 tw3 tw4 tc1 tc2 isk fnd nhour nair nrub nz nnb nkd ncl ngr noc nlit ncold nccell ncpow nsp nwm ndr g19 g20 g21 g7 g8 g9 g22 g23 g24 g13 g14 g15 g16 g17 g25 g26) rfl [(o0, .inr (6, [.ref np0, .ref kp0, .ref tp0, .int isk, .ref r0, .ref t0, .ref sh0, .ref f0])), (f0, .inl (cI, 7, .inl fnd)), (np0, .inr (1, [.ref nw0, .ref nc0, .ref np1, .int nhour, .int nair, .int nrub, .int nz, .ref np2, .ref np3])), (nw0, .inr (5, [.int nnb, .ref nw1, .ref nw2, .ref nw3, .ref nw4])), (nw1, .inl (cI, 16, .inl nkd)), (nw2, .inl (cI, 16, .inl ncl)), (nw3, .inl (cI, 16, .inl ngr)), (nw4, .inl (cI, 48, .inl noc)), (nc0, .inr (0, [.ref nc1, .ref nc2, .int nlit, .int ncold])), (nc1, .inl (cI, 6, .inl nccell)), (nc2, .inl (cI, 6, .inl ncpow)), (np1, .inl (cI, 10, .inl nsp)), (np2, .inl (cI, 16, .inl nwm)), (np3, .inl (cI, 8, .inl ndr))] rfl rfl rfl (by decide +kernel) (ik_runV (st := []) (As := [.int x1, .int (96 : Int32)]) C hM mv_X1_goneIn wl_25_10 ⟨rfl, rfl, Nat.le_of_ble_eq_true rfl, Nat.le_of_ble_eq_true rfl⟩ [14, 15, 16, 17, 18, 19, 20, 21, 22, 23, 24, 25] rfl (by decide +kernel) 14 rfl rfl rfl rfl (Nat.le_of_ble_eq_true rfl) dX6_goes_58 ⟨Nat.zero_le _, Nat.zero_le _⟩) rfl ?_
        refine ik_istore_n C [(2, .int r18), (0, .ref o0), (1, .int x1)] rfl (by decide) rfl dX6_goes_61 ?_
        refine ik_iload_n C 0 rfl rfl dX6_goes_62 ?_
        refine ik_bipush (v := (96 : Int32)) C (by decide) dX6_goes_63 ?_
        refine ik_icmp_le C 77 dX6_goes_65 (by decide) (fun hc => ?_) (fun hc => ?_)
        · have hf := ik_pos hc hf
          refine ik_iload_n C 0 rfl rfl dX6_goes_77 ?_
          obtain ⟨rfl, rfl, rfl, rfl, rfl, rfl, rfl, rfl, rfl, rfl, rfl, rfl, rfl, rfl, rfl, rfl, rfl, rfl⟩ := ik_e18 hf
          exact ik_iretW C hr hlk dX6_goes_78
        · have hf := ik_neg hc hf
          refine ik_aload_n C 1 rfl rfl dX6_goes_68 ?_
          refine ik_ldc C wl_25_9 dX6_goes_69 ?_
          obtain ⟨r27, g28, hc28, hf⟩ := ik_b2s hf
          have hM := (c_X6_tell l D cI cS o0 np0 kp0 tp0 r0 t0 sh0 f0 isk fnd (-1000004 : Int32) r27 g28 hc28)
          refine ik_goW (v := (some (.int r27))) (wc := (wz_X6of cI cS o0 np0 kp0 tp0 r0 t0 sh0 f0 isk fnd)) (w1 := (wz_X6of cI cS o0 np0 kp0 tp0 r0 t0 sh0 f0 isk g28)) [0, 1] [2, 3, 4, 5, 6, 7, 8, 9, 10, 11, 12, 13, 14, 15, 16, 17, 18, 19, 20, 21, 22, 23, 24, 25] 26 rfl rfl (wz_X6ofnt cI cS o0 np0 kp0 tp0 r0 t0 sh0 f0 nw0 nc0 np1 np2 np3 nw1 nw2 nw3 nw4 nc1 nc2 tw0 tc0 tp1 tp2 tp3 tw1 tw2 tw3 tw4 tc1 tc2 isk g28 nhour nair nrub nz nnb nkd ncl ngr noc nlit ncold nccell ncpow nsp nwm ndr g19 g20 g21 g7 g8 g9 g22 g23 g24 g13 g14 g15 g16 g17 g25 g26) rfl [(np0, .inr (1, [.ref nw0, .ref nc0, .ref np1, .int nhour, .int nair, .int nrub, .int nz, .ref np2, .ref np3])), (nw0, .inr (5, [.int nnb, .ref nw1, .ref nw2, .ref nw3, .ref nw4])), (nw1, .inl (cI, 16, .inl nkd)), (nw2, .inl (cI, 16, .inl ncl)), (nw3, .inl (cI, 16, .inl ngr)), (nw4, .inl (cI, 48, .inl noc)), (nc0, .inr (0, [.ref nc1, .ref nc2, .int nlit, .int ncold])), (nc1, .inl (cI, 6, .inl nccell)), (nc2, .inl (cI, 6, .inl ncpow)), (np1, .inl (cI, 10, .inl nsp)), (np2, .inl (cI, 16, .inl nwm)), (np3, .inl (cI, 8, .inl ndr)), (tp0, .inr (1, [.ref tw0, .ref tc0, .ref tp1, .int g19, .int g20, .int g21, .int g7, .ref tp2, .ref tp3])), (tw0, .inr (5, [.int g8, .ref tw1, .ref tw2, .ref tw3, .ref tw4])), (tw1, .inl (cI, 16, .inl g9)), (tw2, .inl (cI, 16, .inl g22)), (tw3, .inl (cI, 16, .inl g23)), (tw4, .inl (cI, 48, .inl g24)), (tc0, .inr (0, [.ref tc1, .ref tc2, .int g13, .int g14])), (tc1, .inl (cI, 6, .inl g15)), (tc2, .inl (cI, 6, .inl g16)), (tp1, .inl (cI, 10, .inl g17)), (tp2, .inl (cI, 16, .inl g25)), (tp3, .inl (cI, 8, .inl g26))] rfl rfl rfl (by decide +kernel) (ik_runV (st := []) (As := [.int (-1000004 : Int32)]) C hM mv_X6_tell wl_5_16 ⟨rfl, rfl, Nat.le_of_ble_eq_true rfl, Nat.le_of_ble_eq_true rfl⟩ [0, 1] rfl (by decide +kernel) 0 rfl rfl rfl rfl (Nat.le_of_ble_eq_true rfl) dX6_goes_71 ⟨Nat.zero_le _, Nat.zero_le _⟩) rfl ?_
          refine ik_goto C 78 dX6_goes_74 (by decide) ?_
          obtain ⟨rfl, rfl, rfl, rfl, rfl, rfl, rfl, rfl, rfl, rfl, rfl, rfl, rfl, rfl, rfl, rfl, rfl, rfl⟩ := ik_e18 hf
          exact ik_iretW C hr hlk dX6_goes_78
      · have hf := ik_pos hc hf
        refine ik_aload_n C 0 rfl rfl dX6_goes_44 ?_
        refine ik_ldc C wl_5_6 dX6_goes_45 ?_
        obtain ⟨r4, g5, hc5, hf⟩ := ik_b2s hf
        have hM := (c_X6_tell l D cI cS o0 np0 kp0 tp0 r0 t0 sh0 f0 isk fnd (-1000005 : Int32) r4 g5 hc5)
        refine ik_goW (v := (some (.int r4))) (wc := (wz_X6of cI cS o0 np0 kp0 tp0 r0 t0 sh0 f0 isk fnd)) (w1 := (wz_X6of cI cS o0 np0 kp0 tp0 r0 t0 sh0 f0 isk g5)) [0, 1] [2, 3, 4, 5, 6, 7, 8, 9, 10, 11, 12, 13, 14, 15, 16, 17, 18, 19, 20, 21, 22, 23, 24, 25] 26 rfl rfl (wz_X6ofnt cI cS o0 np0 kp0 tp0 r0 t0 sh0 f0 nw0 nc0 np1 np2 np3 nw1 nw2 nw3 nw4 nc1 nc2 tw0 tc0 tp1 tp2 tp3 tw1 tw2 tw3 tw4 tc1 tc2 isk g5 nhour nair nrub nz nnb nkd ncl ngr noc nlit ncold nccell ncpow nsp nwm ndr thour tair trub tz tnb tkd tcl tgr toc tlit tcold tccell tcpow tsp twm tdr) rfl [(np0, .inr (1, [.ref nw0, .ref nc0, .ref np1, .int nhour, .int nair, .int nrub, .int nz, .ref np2, .ref np3])), (nw0, .inr (5, [.int nnb, .ref nw1, .ref nw2, .ref nw3, .ref nw4])), (nw1, .inl (cI, 16, .inl nkd)), (nw2, .inl (cI, 16, .inl ncl)), (nw3, .inl (cI, 16, .inl ngr)), (nw4, .inl (cI, 48, .inl noc)), (nc0, .inr (0, [.ref nc1, .ref nc2, .int nlit, .int ncold])), (nc1, .inl (cI, 6, .inl nccell)), (nc2, .inl (cI, 6, .inl ncpow)), (np1, .inl (cI, 10, .inl nsp)), (np2, .inl (cI, 16, .inl nwm)), (np3, .inl (cI, 8, .inl ndr)), (tp0, .inr (1, [.ref tw0, .ref tc0, .ref tp1, .int thour, .int tair, .int trub, .int tz, .ref tp2, .ref tp3])), (tw0, .inr (5, [.int tnb, .ref tw1, .ref tw2, .ref tw3, .ref tw4])), (tw1, .inl (cI, 16, .inl tkd)), (tw2, .inl (cI, 16, .inl tcl)), (tw3, .inl (cI, 16, .inl tgr)), (tw4, .inl (cI, 48, .inl toc)), (tc0, .inr (0, [.ref tc1, .ref tc2, .int tlit, .int tcold])), (tc1, .inl (cI, 6, .inl tccell)), (tc2, .inl (cI, 6, .inl tcpow)), (tp1, .inl (cI, 10, .inl tsp)), (tp2, .inl (cI, 16, .inl twm)), (tp3, .inl (cI, 8, .inl tdr))] rfl rfl rfl (by decide +kernel) (ik_runV (st := []) (As := [.int (-1000005 : Int32)]) C hM mv_X6_tell wl_5_16 ⟨rfl, rfl, Nat.le_of_ble_eq_true rfl, Nat.le_of_ble_eq_true rfl⟩ [0, 1] rfl (by decide +kernel) 0 rfl rfl rfl rfl (Nat.le_of_ble_eq_true rfl) dX6_goes_47 ⟨Nat.zero_le _, Nat.zero_le _⟩) rfl ?_
        obtain ⟨rfl, rfl, rfl, rfl, rfl, rfl, rfl, rfl, rfl, rfl, rfl, rfl, rfl, rfl, rfl, rfl, rfl, rfl⟩ := ik_e18 hf
        exact ik_iretW C hr hlk dX6_goes_50
  · have hf := ik_pos hc hf
    refine ik_aload_n C 0 rfl rfl dX6_goes_14 ?_
    refine ik_ldc C wl_5_3 dX6_goes_15 ?_
    obtain ⟨r2, g3, hc3, hf⟩ := ik_b2s hf
    have hM := (c_X6_tell l D cI cS o0 np0 kp0 tp0 r0 t0 sh0 f0 isk fnd (-1000001 : Int32) r2 g3 hc3)
    refine ik_goW (v := (some (.int r2))) (wc := (wz_X6of cI cS o0 np0 kp0 tp0 r0 t0 sh0 f0 isk fnd)) (w1 := (wz_X6of cI cS o0 np0 kp0 tp0 r0 t0 sh0 f0 isk g3)) [0, 1] [2, 3, 4, 5, 6, 7, 8, 9, 10, 11, 12, 13, 14, 15, 16, 17, 18, 19, 20, 21, 22, 23, 24, 25] 26 rfl rfl (wz_X6ofnt cI cS o0 np0 kp0 tp0 r0 t0 sh0 f0 nw0 nc0 np1 np2 np3 nw1 nw2 nw3 nw4 nc1 nc2 tw0 tc0 tp1 tp2 tp3 tw1 tw2 tw3 tw4 tc1 tc2 isk g3 nhour nair nrub nz nnb nkd ncl ngr noc nlit ncold nccell ncpow nsp nwm ndr thour tair trub tz tnb tkd tcl tgr toc tlit tcold tccell tcpow tsp twm tdr) rfl [(np0, .inr (1, [.ref nw0, .ref nc0, .ref np1, .int nhour, .int nair, .int nrub, .int nz, .ref np2, .ref np3])), (nw0, .inr (5, [.int nnb, .ref nw1, .ref nw2, .ref nw3, .ref nw4])), (nw1, .inl (cI, 16, .inl nkd)), (nw2, .inl (cI, 16, .inl ncl)), (nw3, .inl (cI, 16, .inl ngr)), (nw4, .inl (cI, 48, .inl noc)), (nc0, .inr (0, [.ref nc1, .ref nc2, .int nlit, .int ncold])), (nc1, .inl (cI, 6, .inl nccell)), (nc2, .inl (cI, 6, .inl ncpow)), (np1, .inl (cI, 10, .inl nsp)), (np2, .inl (cI, 16, .inl nwm)), (np3, .inl (cI, 8, .inl ndr)), (tp0, .inr (1, [.ref tw0, .ref tc0, .ref tp1, .int thour, .int tair, .int trub, .int tz, .ref tp2, .ref tp3])), (tw0, .inr (5, [.int tnb, .ref tw1, .ref tw2, .ref tw3, .ref tw4])), (tw1, .inl (cI, 16, .inl tkd)), (tw2, .inl (cI, 16, .inl tcl)), (tw3, .inl (cI, 16, .inl tgr)), (tw4, .inl (cI, 48, .inl toc)), (tc0, .inr (0, [.ref tc1, .ref tc2, .int tlit, .int tcold])), (tc1, .inl (cI, 6, .inl tccell)), (tc2, .inl (cI, 6, .inl tcpow)), (tp1, .inl (cI, 10, .inl tsp)), (tp2, .inl (cI, 16, .inl twm)), (tp3, .inl (cI, 8, .inl tdr))] rfl rfl rfl (by decide +kernel) (ik_runV (st := []) (As := [.int (-1000001 : Int32)]) C hM mv_X6_tell wl_5_16 ⟨rfl, rfl, Nat.le_of_ble_eq_true rfl, Nat.le_of_ble_eq_true rfl⟩ [0, 1] rfl (by decide +kernel) 0 rfl rfl rfl rfl (Nat.le_of_ble_eq_true rfl) dX6_goes_17 ⟨Nat.zero_le _, Nat.zero_le _⟩) rfl ?_
    obtain ⟨rfl, rfl, rfl, rfl, rfl, rfl, rfl, rfl, rfl, rfl, rfl, rfl, rfl, rfl, rfl, rfl, rfl, rfl⟩ := ik_e18 hf
    exact ik_iretW C hr hlk dX6_goes_20
theorem mv_X6_holds : ik_V yX6_holds RX6 cX6_holds 1 (some .int) 0 := ⟨wl_26_4, wl_26_5, wl_1_2, wl_26_6, by decide +kernel⟩
set_option maxHeartbeats 4000000 in
set_option maxRecDepth 100000 in
theorem c_X6_holds (l : Launch) (D : va_G) (cI cS : ClassId) (o0 np0 kp0 tp0 r0 t0 sh0 f0 nw0 nc0 np1 np2 np3 nw1 nw2 nw3 nw4 nc1 nc2 tw0 tc0 tp1 tp2 tp3 tw1 tw2 tw3 tw4 tc1 tc2 : Nat) (isk : Int32) (fnd : Nat → Int32) (nhour : Int32) (nair : Int32) (nrub : Int32) (nz : Int32) (nnb : Int32) (nkd : Nat → Int32) (ncl : Nat → Int32) (ngr : Nat → Int32) (noc : Nat → Int32) (nlit : Int32) (ncold : Int32) (nccell : Nat → Int32) (ncpow : Nat → Int32) (nsp : Nat → Int32) (nwm : Nat → Int32) (ndr : Nat → Int32) (thour : Int32) (tair : Int32) (trub : Int32) (tz : Int32) (tnb : Int32) (tkd : Nat → Int32) (tcl : Nat → Int32) (tgr : Nat → Int32) (toc : Nat → Int32) (tlit : Int32) (tcold : Int32) (tccell : Nat → Int32) (tcpow : Nat → Int32) (tsp : Nat → Int32) (twm : Nat → Int32) (tdr : Nat → Int32) (R : Int32) (fnd_r : Nat → Int32) (thour_r : Int32) (tair_r : Int32) (trub_r : Int32) (tz_r : Int32) (tnb_r : Int32) (tkd_r : Nat → Int32) (tcl_r : Nat → Int32) (tgr_r : Nat → Int32) (toc_r : Nat → Int32) (tlit_r : Int32) (tcold_r : Int32) (tccell_r : Nat → Int32) (tcpow_r : Nat → Int32) (tsp_r : Nat → Int32) (twm_r : Nat → Int32) (tdr_r : Nat → Int32) (hf : f_X6_holds fnd nhour nair nrub nz nnb nkd ncl ngr noc nlit ncold nccell ncpow nsp thour tair trub tz tnb tkd tcl tgr toc tlit tcold tccell tcpow tsp twm tdr = some (R, fnd_r, thour_r, tair_r, trub_r, tz_r, tnb_r, tkd_r, tcl_r, tgr_r, toc_r, tlit_r, tcold_r, tccell_r, tcpow_r, tsp_r, twm_r, tdr_r)) : Met l yX6_holds (ik_ws yX6_holds cX6_holds 1 (some .int)) ({ frames := 6, cells := 0, slots := 0, locals := 144 } : Room) (ik_P D cI cS [.ref o0] (wz_X6ofnt cI cS o0 np0 kp0 tp0 r0 t0 sh0 f0 nw0 nc0 np1 np2 np3 nw1 nw2 nw3 nw4 nc1 nc2 tw0 tc0 tp1 tp2 tp3 tw1 tw2 tw3 tw4 tc1 tc2 isk fnd nhour nair nrub nz nnb nkd ncl ngr noc nlit ncold nccell ncpow nsp nwm ndr thour tair trub tz tnb tkd tcl tgr toc tlit tcold tccell tcpow tsp twm tdr)) (ik_Q (some (.int R)) D (wz_X6ofnt cI cS o0 np0 kp0 tp0 r0 t0 sh0 f0 nw0 nc0 np1 np2 np3 nw1 nw2 nw3 nw4 nc1 nc2 tw0 tc0 tp1 tp2 tp3 tw1 tw2 tw3 tw4 tc1 tc2 isk fnd_r nhour nair nrub nz nnb nkd ncl ngr noc nlit ncold nccell ncpow nsp nwm ndr thour_r tair_r trub_r tz_r tnb_r tkd_r tcl_r tgr_r toc_r tlit_r tcold_r tccell_r tcpow_r tsp_r twm_r tdr_r) (wz_X6ofnt cI cS o0 np0 kp0 tp0 r0 t0 sh0 f0 nw0 nc0 np1 np2 np3 nw1 nw2 nw3 nw4 nc1 nc2 tw0 tc0 tp1 tp2 tp3 tw1 tw2 tw3 tw4 tc1 tc2 isk fnd nhour nair nrub nz nnb nkd ncl ngr noc nlit ncold nccell ncpow nsp nwm ndr thour tair trub tz tnb tkd tcl tgr toc tlit tcold tccell tcpow tsp twm tdr)) 0 0 (ik_in (wz_X6ofnt cI cS o0 np0 kp0 tp0 r0 t0 sh0 f0 nw0 nc0 np1 np2 np3 nw1 nw2 nw3 nw4 nc1 nc2 tw0 tc0 tp1 tp2 tp3 tw1 tw2 tw3 tw4 tc1 tc2 isk fnd nhour nair nrub nz nnb nkd ncl ngr noc nlit ncold nccell ncpow nsp nwm ndr thour tair trub tz tnb tkd tcl tgr toc tlit tcold tccell tcpow tsp twm tdr)) := by
  refine ik_metW RX6 rfl (by decide) (Nat.le_of_ble_eq_true rfl) [(0, .ref o0)] rfl ?_
  intro p e s m below meth c C hr hlk
  unfold f_X6_holds at hf
  refine ik_aload_n C 0 rfl rfl dX6_holds_0 ?_
  refine ik_bipush (v := (96 : Int32)) C (by decide) dX6_holds_1 ?_
  obtain ⟨r1, hc1, hf⟩ := ik_b1s hf
  have hM := (c_X6_hasHours l D cI cS o0 np0 kp0 tp0 r0 t0 sh0 f0 nw0 nc0 np1 np2 np3 nw1 nw2 nw3 nw4 nc1 nc2 isk nhour nair nrub nz nnb nkd ncl ngr noc nlit ncold nccell ncpow nsp nwm ndr (96 : Int32) r1 hc1)
  refine ik_goR (ik_runV (st := []) (As := [.int (96 : Int32)]) C hM mv_X6_hasHours wl_17_22 ⟨rfl, rfl, Nat.le_of_ble_eq_true rfl, Nat.le_of_ble_eq_true rfl⟩ [0, 2, 3, 4, 5, 6, 7, 8, 9, 10, 11, 12, 13] rfl (by decide +kernel) 0 rfl rfl rfl rfl (Nat.le_of_ble_eq_true rfl) dX6_holds_3 ⟨Nat.zero_le _, Nat.zero_le _⟩) rfl ?_
  refine ik_if_ne C 16 dX6_holds_6 (by decide) (fun hc => ?_) (fun hc => ?_)
  · have hf := ik_neg hc hf
    refine ik_aload_n C 0 rfl rfl dX6_holds_16 ?_
    obtain ⟨g2, g3, g4, g5, g6, g7, g8, g9, g10, g11, g12, g13, g14, g15, hc15, hf⟩ := ik_b14s hf
    have hM := (c_X6_freshTrial l D cI cS o0 np0 kp0 tp0 r0 t0 sh0 f0 nw0 nc0 np1 np2 np3 nw1 nw2 nw3 nw4 nc1 nc2 tw0 tc0 tp1 tp2 tp3 tw1 tw2 tw3 tw4 tc1 tc2 isk nhour nair nrub nz nnb nkd ncl ngr noc nlit ncold nccell ncpow nsp nwm ndr thour tair trub tz tnb tkd tcl tgr toc tlit tcold tccell tcpow tsp twm tdr g2 g3 g4 g5 g6 g7 g8 g9 g10 g11 g12 g13 g14 g15 hc15)
    refine ik_goW (v := (some (.ref tp0))) (wc := (wz_X6ont cI cS o0 np0 kp0 tp0 r0 t0 sh0 f0 nw0 nc0 np1 np2 np3 nw1 nw2 nw3 nw4 nc1 nc2 tw0 tc0 tp1 tp2 tp3 tw1 tw2 tw3 tw4 tc1 tc2 isk nhour nair nrub nz nnb nkd ncl ngr noc nlit ncold nccell ncpow nsp nwm ndr thour tair trub tz tnb tkd tcl tgr toc tlit tcold tccell tcpow tsp twm tdr)) (w1 := (wz_X6ont cI cS o0 np0 kp0 tp0 r0 t0 sh0 f0 nw0 nc0 np1 np2 np3 nw1 nw2 nw3 nw4 nc1 nc2 tw0 tc0 tp1 tp2 tp3 tw1 tw2 tw3 tw4 tc1 tc2 isk nhour nair nrub nz nnb nkd ncl ngr noc nlit ncold nccell ncpow nsp nwm ndr g2 g3 g4 g5 g6 g7 g8 g9 g10 g11 g12 g13 g14 g15 twm tdr)) [0, 2, 3, 4, 5, 6, 7, 8, 9, 10, 11, 12, 13, 14, 15, 16, 17, 18, 19, 20, 21, 22, 23, 24, 25] [1] 26 rfl rfl (wz_X6ofnt cI cS o0 np0 kp0 tp0 r0 t0 sh0 f0 nw0 nc0 np1 np2 np3 nw1 nw2 nw3 nw4 nc1 nc2 tw0 tc0 tp1 tp2 tp3 tw1 tw2 tw3 tw4 tc1 tc2 isk fnd nhour nair nrub nz nnb nkd ncl ngr noc nlit ncold nccell ncpow nsp nwm ndr g2 g3 g4 g5 g6 g7 g8 g9 g10 g11 g12 g13 g14 g15 twm tdr) rfl [(f0, .inl (cI, 7, .inl fnd))] rfl rfl rfl (by decide +kernel) (ik_runV (st := []) (As := []) C hM mv_X6_freshTrial wl_23_10 ⟨rfl, rfl, Nat.le_of_ble_eq_true rfl, Nat.le_of_ble_eq_true rfl⟩ [0, 2, 3, 4, 5, 6, 7, 8, 9, 10, 11, 12, 13, 14, 15, 16, 17, 18, 19, 20, 21, 22, 23, 24, 25] rfl (by decide +kernel) 0 rfl rfl rfl rfl (Nat.le_of_ble_eq_true rfl) dX6_holds_17 ⟨Nat.zero_le _, Nat.zero_le _⟩) rfl ?_
    refine ik_bipush (v := (96 : Int32)) C (by decide) dX6_holds_20 ?_
    obtain ⟨r16, g17, g18, g19, g20, g21, g22, g23, g24, hc24, hf⟩ := ik_b9s hf
    have hM := (c_X1_hoursHeld l D cI cS tp0 tw0 tc0 tp1 tp2 tp3 tw1 tw2 tw3 tw4 tc1 tc2 g2 g3 g4 g5 g6 g7 g8 g9 g10 g11 g12 g13 g14 g15 twm tdr (96 : Int32) r16 g17 g18 g19 g20 g21 g22 g23 g24 hc24)
    refine ik_goW (v := (some (.int r16))) (wc := (wz_X1 cI cS tp0 tw0 tc0 tp1 tp2 tp3 tw1 tw2 tw3 tw4 tc1 tc2 g2 g3 g4 g5 g6 g7 g8 g9 g10 g11 g12 g13 g14 g15 twm tdr)) (w1 := (wz_X1 cI cS tp0 tw0 tc0 tp1 tp2 tp3 tw1 tw2 tw3 tw4 tc1 tc2 g17 g18 g19 g5 g6 g7 g20 g21 g22 g11 g12 g13 g14 g15 g23 g24)) [14, 15, 16, 17, 18, 19, 20, 21, 22, 23, 24, 25] [0, 1, 2, 3, 4, 5, 6, 7, 8, 9, 10, 11, 12, 13] 26 rfl rfl (wz_X6ofnt cI cS o0 np0 kp0 tp0 r0 t0 sh0 f0 nw0 nc0 np1 np2 np3 nw1 nw2 nw3 nw4 nc1 nc2 tw0 tc0 tp1 tp2 tp3 tw1 tw2 tw3 tw4 tc1 tc2 isk fnd nhour nair nrub nz nnb nkd ncl ngr noc nlit ncold nccell ncpow nsp nwm ndr g17 g18 g19 g5 g6 g7 g20 g21 g22 g11 g12 g13 g14 g15 g23 g24) rfl [(o0, .inr (6, [.ref np0, .ref kp0, .ref tp0, .int isk, .ref r0, .ref t0, .ref sh0, .ref f0])), (f0, .inl (cI, 7, .inl fnd)), (np0, .inr (1, [.ref nw0, .ref nc0, .ref np1, .int nhour, .int nair, .int nrub, .int nz, .ref np2, .ref np3])), (nw0, .inr (5, [.int nnb, .ref nw1, .ref nw2, .ref nw3, .ref nw4])), (nw1, .inl (cI, 16, .inl nkd)), (nw2, .inl (cI, 16, .inl ncl)), (nw3, .inl (cI, 16, .inl ngr)), (nw4, .inl (cI, 48, .inl noc)), (nc0, .inr (0, [.ref nc1, .ref nc2, .int nlit, .int ncold])), (nc1, .inl (cI, 6, .inl nccell)), (nc2, .inl (cI, 6, .inl ncpow)), (np1, .inl (cI, 10, .inl nsp)), (np2, .inl (cI, 16, .inl nwm)), (np3, .inl (cI, 8, .inl ndr))] rfl rfl rfl (by decide +kernel) (ik_runV (st := []) (As := [.int (96 : Int32)]) C hM mv_X1_hoursHeld wl_26_7 ⟨rfl, rfl, Nat.le_of_ble_eq_true rfl, Nat.le_of_ble_eq_true rfl⟩ [14, 15, 16, 17, 18, 19, 20, 21, 22, 23, 24, 25] rfl (by decide +kernel) 14 rfl rfl rfl rfl (Nat.le_of_ble_eq_true rfl) dX6_holds_22 ⟨Nat.zero_le _, Nat.zero_le _⟩) rfl ?_
    obtain ⟨rfl, rfl, rfl, rfl, rfl, rfl, rfl, rfl, rfl, rfl, rfl, rfl, rfl, rfl, rfl, rfl, rfl, rfl⟩ := ik_e18 hf
    exact ik_iretW C hr hlk dX6_holds_25
  · have hf := ik_pos hc hf
    refine ik_aload_n C 0 rfl rfl dX6_holds_9 ?_
    refine ik_ldc C wl_5_6 dX6_holds_10 ?_
    obtain ⟨r2, g3, hc3, hf⟩ := ik_b2s hf
    have hM := (c_X6_tell l D cI cS o0 np0 kp0 tp0 r0 t0 sh0 f0 isk fnd (-1000005 : Int32) r2 g3 hc3)
    refine ik_goW (v := (some (.int r2))) (wc := (wz_X6of cI cS o0 np0 kp0 tp0 r0 t0 sh0 f0 isk fnd)) (w1 := (wz_X6of cI cS o0 np0 kp0 tp0 r0 t0 sh0 f0 isk g3)) [0, 1] [2, 3, 4, 5, 6, 7, 8, 9, 10, 11, 12, 13, 14, 15, 16, 17, 18, 19, 20, 21, 22, 23, 24, 25] 26 rfl rfl (wz_X6ofnt cI cS o0 np0 kp0 tp0 r0 t0 sh0 f0 nw0 nc0 np1 np2 np3 nw1 nw2 nw3 nw4 nc1 nc2 tw0 tc0 tp1 tp2 tp3 tw1 tw2 tw3 tw4 tc1 tc2 isk g3 nhour nair nrub nz nnb nkd ncl ngr noc nlit ncold nccell ncpow nsp nwm ndr thour tair trub tz tnb tkd tcl tgr toc tlit tcold tccell tcpow tsp twm tdr) rfl [(np0, .inr (1, [.ref nw0, .ref nc0, .ref np1, .int nhour, .int nair, .int nrub, .int nz, .ref np2, .ref np3])), (nw0, .inr (5, [.int nnb, .ref nw1, .ref nw2, .ref nw3, .ref nw4])), (nw1, .inl (cI, 16, .inl nkd)), (nw2, .inl (cI, 16, .inl ncl)), (nw3, .inl (cI, 16, .inl ngr)), (nw4, .inl (cI, 48, .inl noc)), (nc0, .inr (0, [.ref nc1, .ref nc2, .int nlit, .int ncold])), (nc1, .inl (cI, 6, .inl nccell)), (nc2, .inl (cI, 6, .inl ncpow)), (np1, .inl (cI, 10, .inl nsp)), (np2, .inl (cI, 16, .inl nwm)), (np3, .inl (cI, 8, .inl ndr)), (tp0, .inr (1, [.ref tw0, .ref tc0, .ref tp1, .int thour, .int tair, .int trub, .int tz, .ref tp2, .ref tp3])), (tw0, .inr (5, [.int tnb, .ref tw1, .ref tw2, .ref tw3, .ref tw4])), (tw1, .inl (cI, 16, .inl tkd)), (tw2, .inl (cI, 16, .inl tcl)), (tw3, .inl (cI, 16, .inl tgr)), (tw4, .inl (cI, 48, .inl toc)), (tc0, .inr (0, [.ref tc1, .ref tc2, .int tlit, .int tcold])), (tc1, .inl (cI, 6, .inl tccell)), (tc2, .inl (cI, 6, .inl tcpow)), (tp1, .inl (cI, 10, .inl tsp)), (tp2, .inl (cI, 16, .inl twm)), (tp3, .inl (cI, 8, .inl tdr))] rfl rfl rfl (by decide +kernel) (ik_runV (st := []) (As := [.int (-1000005 : Int32)]) C hM mv_X6_tell wl_5_16 ⟨rfl, rfl, Nat.le_of_ble_eq_true rfl, Nat.le_of_ble_eq_true rfl⟩ [0, 1] rfl (by decide +kernel) 0 rfl rfl rfl rfl (Nat.le_of_ble_eq_true rfl) dX6_holds_12 ⟨Nat.zero_le _, Nat.zero_le _⟩) rfl ?_
    obtain ⟨rfl, rfl, rfl, rfl, rfl, rfl, rfl, rfl, rfl, rfl, rfl, rfl, rfl, rfl, rfl, rfl, rfl, rfl⟩ := ik_e18 hf
    exact ik_iretW C hr hlk dX6_holds_15
