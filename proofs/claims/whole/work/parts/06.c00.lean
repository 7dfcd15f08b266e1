theorem mv_X0_copyFrom : ik_V yX0_copyFrom RX0 cX0_copyFrom 2 none 1 := ⟨wl_24_4, wl_24_5, wl_2_16, wl_24_6, by decide +kernel⟩
set_option maxHeartbeats 4000000 in
set_option maxRecDepth 100000 in
theorem c_X0_copyFrom (l : Launch) (D : va_G) (cI cS : ClassId) (c0 c1 c2 oc0 oc1 oc2 : Nat) (lit : Int32) (cold : Int32) (ccell : Nat → Int32) (cpow : Nat → Int32) (olit : Int32) (ocold : Int32) (occell : Nat → Int32) (ocpow : Nat → Int32) (lit_r : Int32) (cold_r : Int32) (ccell_r : Nat → Int32) (cpow_r : Nat → Int32) (hf : f_X0_copyFrom lit cold ccell cpow olit ocold occell ocpow = some (lit_r, cold_r, ccell_r, cpow_r)) : Met l yX0_copyFrom (ik_ws yX0_copyFrom cX0_copyFrom 2 none) ({ frames := 1, cells := 0, slots := 0, locals := 60 } : Room) (ik_P D cI cS [.ref c0, .ref oc0] (wz_X0d cI cS c0 c1 c2 oc0 oc1 oc2 lit cold ccell cpow olit ocold occell ocpow)) (ik_Q none D (wz_X0d cI cS c0 c1 c2 oc0 oc1 oc2 lit_r cold_r ccell_r cpow_r olit ocold occell ocpow) (wz_X0d cI cS c0 c1 c2 oc0 oc1 oc2 lit cold ccell cpow olit ocold occell ocpow)) 0 0 (ik_in (wz_X0d cI cS c0 c1 c2 oc0 oc1 oc2 lit cold ccell cpow olit ocold occell ocpow)) := by
  refine ik_metW RX0 rfl (by decide) (Nat.le_of_ble_eq_true rfl) [(0, .ref c0), (1, .ref oc0)] rfl ?_
  intro p e s m below meth c C hr hlk
  unfold f_X0_copyFrom at hf
  refine ik_aload_n C 1 rfl rfl dX0_copyFrom_0 ?_
  refine ik_get C inlX0 3 rfl rfl 0 (by decide) wl_3_13 rfl (v := .ref oc1) rfl dX0_copyFrom_1 ?_
  refine ik_iconst (v := (0 : Int32)) C (by decide) dX0_copyFrom_4 ?_
  refine ik_aload_n C 0 rfl rfl dX0_copyFrom_5 ?_
  refine ik_get C inlX0 0 rfl rfl 0 (by decide) wl_3_13 rfl (v := .ref c1) rfl dX0_copyFrom_6 ?_
  refine ik_iconst (v := (0 : Int32)) C (by decide) dX0_copyFrom_9 ?_
  refine ik_bipush (v := (6 : Int32)) C (by decide) dX0_copyFrom_10 ?_
  refine ik_copy C wl_24_7 wl_23_19 wl_23_20 wl_23_21 4 1 rfl rfl (ik_cpl (by decide)) (Nat.le_of_ble_eq_true rfl) (Nat.le_of_ble_eq_true rfl) (wz_X0d cI cS c0 c1 c2 oc0 oc1 oc2 lit cold (va_cpy occell ccell ((0 : Int32)).toNatClampNeg ((0 : Int32)).toNatClampNeg ((6 : Int32)).toNatClampNeg) cpow olit ocold occell ocpow) rfl dX0_copyFrom_12 ?_
  refine ik_aload_n C 1 rfl rfl dX0_copyFrom_15 ?_
  refine ik_get C inlX0 3 rfl rfl 1 (by decide) wl_3_14 rfl (v := .ref oc2) rfl dX0_copyFrom_16 ?_
  refine ik_iconst (v := (0 : Int32)) C (by decide) dX0_copyFrom_19 ?_
  refine ik_aload_n C 0 rfl rfl dX0_copyFrom_20 ?_
  refine ik_get C inlX0 0 rfl rfl 1 (by decide) wl_3_14 rfl (v := .ref c2) rfl dX0_copyFrom_21 ?_
  refine ik_iconst (v := (0 : Int32)) C (by decide) dX0_copyFrom_24 ?_
  refine ik_bipush (v := (6 : Int32)) C (by decide) dX0_copyFrom_25 ?_
  refine ik_copy C wl_24_7 wl_23_19 wl_23_20 wl_23_21 5 2 rfl rfl (ik_cpl (by decide)) (Nat.le_of_ble_eq_true rfl) (Nat.le_of_ble_eq_true rfl) (wz_X0d cI cS c0 c1 c2 oc0 oc1 oc2 lit cold (va_cpy occell ccell ((0 : Int32)).toNatClampNeg ((0 : Int32)).toNatClampNeg ((6 : Int32)).toNatClampNeg) (va_cpy ocpow cpow ((0 : Int32)).toNatClampNeg ((0 : Int32)).toNatClampNeg ((6 : Int32)).toNatClampNeg) olit ocold occell ocpow) rfl dX0_copyFrom_27 ?_
  refine ik_aload_n C 0 rfl rfl dX0_copyFrom_30 ?_
  refine ik_aload_n C 1 rfl rfl dX0_copyFrom_31 ?_
  refine ik_get C inlX0 3 rfl rfl 2 (by decide) wl_13_17 rfl (v := .int olit) rfl dX0_copyFrom_32 ?_
  refine ik_put C inlX0 tyX0 tyX0_ok nmX0 0 rfl rfl 2 (by decide) wl_13_17 rfl (by decide) rfl rfl (Nat.le_of_ble_eq_true rfl) (wz_X0d cI cS c0 c1 c2 oc0 oc1 oc2 olit cold (va_cpy occell ccell ((0 : Int32)).toNatClampNeg ((0 : Int32)).toNatClampNeg ((6 : Int32)).toNatClampNeg) (va_cpy ocpow cpow ((0 : Int32)).toNatClampNeg ((0 : Int32)).toNatClampNeg ((6 : Int32)).toNatClampNeg) olit ocold occell ocpow) rfl dX0_copyFrom_35 ?_
  refine ik_aload_n C 0 rfl rfl dX0_copyFrom_38 ?_
  refine ik_aload_n C 1 rfl rfl dX0_copyFrom_39 ?_
  refine ik_get C inlX0 3 rfl rfl 3 (by decide) wl_3_15 rfl (v := .int ocold) rfl dX0_copyFrom_40 ?_
  refine ik_put C inlX0 tyX0 tyX0_ok nmX0 0 rfl rfl 3 (by decide) wl_3_15 rfl (by decide) rfl rfl (Nat.le_of_ble_eq_true rfl) (wz_X0d cI cS c0 c1 c2 oc0 oc1 oc2 olit ocold (va_cpy occell ccell ((0 : Int32)).toNatClampNeg ((0 : Int32)).toNatClampNeg ((6 : Int32)).toNatClampNeg) (va_cpy ocpow cpow ((0 : Int32)).toNatClampNeg ((0 : Int32)).toNatClampNeg ((6 : Int32)).toNatClampNeg) olit ocold occell ocpow) rfl dX0_copyFrom_43 ?_
  obtain ⟨rfl, rfl, rfl, rfl⟩ := ik_e4 hf
  exact ik_vretW C hr hlk dX0_copyFrom_46
theorem mv_X0_isLit : ik_V yX0_isLit RX0 cX0_isLit 2 (some .boolean) 1 := ⟨wl_13_14, wl_13_15, wl_2_16, wl_13_16, by decide +kernel⟩
set_option maxHeartbeats 4000000 in
set_option maxRecDepth 100000 in
theorem c_X0_isLit (l : Launch) (D : va_G) (cI cS : ClassId) (c0 c1 c2 : Nat) (lit : Int32) (cold : Int32) (ccell : Nat → Int32) (cpow : Nat → Int32) (x1 : Int32) (R : Int32) (hf : f_X0_isLit lit x1 = some (R)) : Met l yX0_isLit (ik_ws yX0_isLit cX0_isLit 2 (some .boolean)) ({ frames := 0, cells := 0, slots := 0, locals := 0 } : Room) (ik_P D cI cS [.ref c0, .int x1] (wz_X0 cI cS c0 c1 c2 lit cold ccell cpow)) (ik_R (some (.int R))) 0 0 ik_no := by
  refine ik_metR RX0 rfl (by decide) (Nat.le_of_ble_eq_true rfl) [(0, .ref c0), (1, .int x1)] rfl ?_
  intro p e s m below meth c C hr hlk
  unfold f_X0_isLit at hf
  refine ik_aload_n C 0 rfl rfl dX0_isLit_0 ?_
  refine ik_get C inlX0 0 rfl rfl 2 (by decide) wl_13_17 rfl (v := .int lit) rfl dX0_isLit_1 ?_
  refine ik_iload_n C 1 rfl rfl dX0_isLit_4 ?_
  refine ik_iushr C dX0_isLit_5 ?_
  refine ik_iconst (v := (1 : Int32)) C (by decide) dX0_isLit_6 ?_
  refine ik_iand C dX0_isLit_7 ?_
  refine ik_if_eq C 15 dX0_isLit_8 (by decide) (fun hc => ?_) (fun hc => ?_)
  · have hf := ik_pos hc hf
    refine ik_iconst (v := (0 : Int32)) C (by decide) dX0_isLit_15 ?_
    obtain rfl := Option.some.inj hf
    exact ik_zretR C hr (by decide) hlk dX0_isLit_16
  · have hf := ik_neg hc hf
    refine ik_iconst (v := (1 : Int32)) C (by decide) dX0_isLit_11 ?_
    refine ik_goto C 16 dX0_isLit_12 (by decide) ?_
    obtain rfl := Option.some.inj hf
    exact ik_zretR C hr (by decide) hlk dX0_isLit_16
theorem mv_X0_setLit : ik_V yX0_setLit RX0 cX0_setLit 4 none 2 := ⟨wl_16_3, wl_16_4, wl_2_16, wl_16_5, by decide +kernel⟩
set_option maxHeartbeats 4000000 in
set_option maxRecDepth 100000 in
theorem c_X0_setLit (l : Launch) (D : va_G) (cI cS : ClassId) (c0 c1 c2 : Nat) (lit : Int32) (cold : Int32) (ccell : Nat → Int32) (cpow : Nat → Int32) (x1 : Int32) (x2 : Int32) (lit_r : Int32) (hf : f_X0_setLit lit x1 x2 = some (lit_r)) : Met l yX0_setLit (ik_ws yX0_setLit cX0_setLit 4 none) ({ frames := 0, cells := 0, slots := 0, locals := 0 } : Room) (ik_P D cI cS [.ref c0, .int x1, .int x2] (wz_X0 cI cS c0 c1 c2 lit cold ccell cpow)) (ik_Q none D (wz_X0 cI cS c0 c1 c2 lit_r cold ccell cpow) (wz_X0 cI cS c0 c1 c2 lit cold ccell cpow)) 0 0 (ik_in (wz_X0 cI cS c0 c1 c2 lit cold ccell cpow)) := by
  refine ik_metW RX0 rfl (by decide) (Nat.le_of_ble_eq_true rfl) [(0, .ref c0), (1, .int x1), (2, .int x2)] rfl ?_
  intro p e s m below meth c C hr hlk
  unfold f_X0_setLit at hf
  refine ik_iconst (v := (1 : Int32)) C (by decide) dX0_setLit_0 ?_
  refine ik_iload_n C 1 rfl rfl dX0_setLit_1 ?_
  refine ik_ishl C dX0_setLit_2 ?_
  refine ik_istore_n C [(3, .int ((1 : Int32) <<< (x1 &&& 31))), (0, .ref c0), (1, .int x1), (2, .int x2)] rfl (by decide) rfl dX0_setLit_3 ?_
  refine ik_aload_n C 1 rfl rfl dX0_setLit_4 ?_
  refine ik_iload_n C 3 rfl rfl dX0_setLit_5 ?_
  refine ik_if_eq C 18 dX0_setLit_6 (by decide) (fun hc => ?_) (fun hc => ?_)
  · have hf := ik_pos hc hf
    refine ik_aload_n C 1 rfl rfl dX0_setLit_18 ?_
    refine ik_get C inlX0 0 rfl rfl 2 (by decide) wl_13_17 rfl (v := .int lit) rfl dX0_setLit_19 ?_
    refine ik_iload_n C 0 rfl rfl dX0_setLit_22 ?_
    refine ik_iconst (v := (-1 : Int32)) C (by decide) dX0_setLit_23 ?_
    refine ik_ixor C dX0_setLit_24 ?_
    refine ik_iand C dX0_setLit_25 ?_
    refine ik_put C inlX0 tyX0 tyX0_ok nmX0 0 rfl rfl 2 (by decide) wl_13_17 rfl (by decide) rfl rfl (Nat.le_of_ble_eq_true rfl) (wz_X0 cI cS c0 c1 c2 (lit &&& (((1 : Int32) <<< (x1 &&& 31)) ^^^ (-1 : Int32))) cold ccell cpow) rfl dX0_setLit_26 ?_
    obtain rfl := Option.some.inj hf
    exact ik_vretW C hr hlk dX0_setLit_29
  · have hf := ik_neg hc hf
    refine ik_aload_n C 1 rfl rfl dX0_setLit_9 ?_
    refine ik_get C inlX0 0 rfl rfl 2 (by decide) wl_13_17 rfl (v := .int lit) rfl dX0_setLit_10 ?_
    refine ik_iload_n C 0 rfl rfl dX0_setLit_13 ?_
    refine ik_ior C dX0_setLit_14 ?_
    refine ik_goto C 26 dX0_setLit_15 (by decide) ?_
    refine ik_put C inlX0 tyX0 tyX0_ok nmX0 0 rfl rfl 2 (by decide) wl_13_17 rfl (by decide) rfl rfl (Nat.le_of_ble_eq_true rfl) (wz_X0 cI cS c0 c1 c2 (lit ||| ((1 : Int32) <<< (x1 &&& 31))) cold ccell cpow) rfl dX0_setLit_26 ?_
    obtain rfl := Option.some.inj hf
    exact ik_vretW C hr hlk dX0_setLit_29
theorem mv_X0_lightOf : ik_V yX0_lightOf RX0 cX0_lightOf 4 (some .int) 1 := ⟨wl_17_11, wl_17_12, wl_2_16, wl_17_13, by decide +kernel⟩
set_option maxHeartbeats 4000000 in
set_option maxRecDepth 100000 in
theorem c_X0_lightOf (l : Launch) (D : va_G) (cI cS : ClassId) (c0 c1 c2 : Nat) (lit : Int32) (cold : Int32) (ccell : Nat → Int32) (cpow : Nat → Int32) (x1 : Int32) (R : Int32) (hf : f_X0_lightOf cpow x1 = some (R)) : Met l yX0_lightOf (ik_ws yX0_lightOf cX0_lightOf 4 (some .int)) ({ frames := 0, cells := 0, slots := 0, locals := 0 } : Room) (ik_P D cI cS [.ref c0, .int x1] (wz_X0 cI cS c0 c1 c2 lit cold ccell cpow)) (ik_R (some (.int R))) 0 0 ik_no := by
  refine ik_metR RX0 rfl (by decide) (Nat.le_of_ble_eq_true rfl) [(0, .ref c0), (1, .int x1)] rfl ?_
  intro p e s m below meth c C hr hlk
  unfold f_X0_lightOf at hf
  refine ik_iconst (v := (0 : Int32)) C (by decide) dX0_lightOf_0 ?_
  refine ik_istore_n C [(2, .int (0 : Int32)), (0, .ref c0), (1, .int x1)] rfl (by decide) rfl dX0_lightOf_1 ?_
  refine ik_iconst (v := (0 : Int32)) C (by decide) dX0_lightOf_2 ?_
  refine ik_istore_n C [(3, .int (0 : Int32)), (2, .int (0 : Int32)), (0, .ref c0), (1, .int x1)] rfl (by decide) rfl dX0_lightOf_3 ?_
  have hL_4 : ∀ (n_4 : Nat) (x2_4 : Int32) (x3_4 : Int32), ik_lp2 (b_X0_lightOf_4 cpow x1) n_4 x2_4 x3_4 = some (R) → ik_G p l e ({ frames := 0, cells := 0, slots := 0, locals := 0 } : Room) s m ([.ref c0, .int x1] : List Value).toArray below meth c D ik_no (fun _ => True) 4 0 0 (MQ below (ik_R (some (.int R))) ([.ref c0, .int x1] : List Value).toArray s 0 0 ik_no) 4 [(3, .int x3_4), (2, .int x2_4), (0, .ref c0), (1, .int x1)] [] (wz_X0 cI cS c0 c1 c2 lit cold ccell cpow) := by
    intro n_4
    induction n_4 with
    | zero => intro _ _ hf; exact nomatch hf
    | succ n_4 ih_4 =>
      intro x2_4 x3_4 hf
      replace hf : b_X0_lightOf_4 cpow x1 (ik_lp2 (b_X0_lightOf_4 cpow x1) n_4) x2_4 x3_4 = some (R) := hf
      unfold b_X0_lightOf_4 at hf
      refine ik_iload_n C 0 rfl rfl dX0_lightOf_4 ?_
      refine ik_bipush (v := (6 : Int32)) C (by decide) dX0_lightOf_5 ?_
      refine ik_icmp_ge C 33 dX0_lightOf_7 (by decide) (fun hc => ?_) (fun hc => ?_)
      · have hf := ik_pos hc hf
        refine ik_iload_n C 1 rfl rfl dX0_lightOf_33 ?_
        obtain rfl := Option.some.inj hf
        exact ik_iretR C hr hlk dX0_lightOf_34
      · have hf := ik_neg hc hf
        refine ik_iload_n C 3 rfl rfl dX0_lightOf_10 ?_
        refine ik_iload_n C 0 rfl rfl dX0_lightOf_11 ?_
        refine ik_iushr C dX0_lightOf_12 ?_
        refine ik_iconst (v := (1 : Int32)) C (by decide) dX0_lightOf_13 ?_
        refine ik_iand C dX0_lightOf_14 ?_
        refine ik_if_eq C 27 dX0_lightOf_15 (by decide) (fun hc => ?_) (fun hc => ?_)
        · have hf := ik_pos hc hf
          refine ik_iinc C [(3, .int (x3_4 + (1 : Int32))), (2, .int x2_4), (0, .ref c0), (1, .int x1)] 0 rfl rfl (by decide) rfl dX0_lightOf_27 ?_
          refine ik_goto C 4 dX0_lightOf_30 (by decide) ?_
          exact ik_sub [0, 1, 2, 3] [(3, .int (x3_4 + (1 : Int32))), (2, .int x2_4), (0, .ref c0), (1, .int x1)] rfl (ih_4 x2_4 (x3_4 + (1 : Int32)) hf)
        · have hf := ik_neg hc hf
          refine ik_iload_n C 1 rfl rfl dX0_lightOf_18 ?_
          refine ik_aload_n C 2 rfl rfl dX0_lightOf_19 ?_
          refine ik_get C inlX0 0 rfl rfl 1 (by decide) wl_3_14 rfl (v := .ref c2) rfl dX0_lightOf_20 ?_
          refine ik_iload_n C 0 rfl rfl dX0_lightOf_23 ?_
          have hg := ik_gdi hf
          have hf := ik_gdk hf
          refine ik_iald C 2 rfl hg dX0_lightOf_24 ?_
          refine ik_iadd C dX0_lightOf_25 ?_
          refine ik_istore_n C [(2, .int (x2_4 + (cpow (x3_4).toNatClampNeg))), (3, .int x3_4), (0, .ref c0), (1, .int x1)] rfl (by decide) rfl dX0_lightOf_26 ?_
          refine ik_iinc C [(3, .int (x3_4 + (1 : Int32))), (2, .int (x2_4 + (cpow (x3_4).toNatClampNeg))), (0, .ref c0), (1, .int x1)] 1 rfl rfl (by decide) rfl dX0_lightOf_27 ?_
          refine ik_goto C 4 dX0_lightOf_30 (by decide) ?_
          exact ik_sub [0, 1, 2, 3] [(3, .int (x3_4 + (1 : Int32))), (2, .int (x2_4 + (cpow (x3_4).toNatClampNeg))), (0, .ref c0), (1, .int x1)] rfl (ih_4 (x2_4 + (cpow (x3_4).toNatClampNeg)) (x3_4 + (1 : Int32)) hf)
  exact hL_4 ik_fu (0 : Int32) (0 : Int32) hf
theorem ms_X0_far : ik_S yX0_far RX0 cX0_far 2 (some .int) 2 := ⟨wl_13_19, wl_2_16, wl_13_20, by decide +kernel⟩
set_option maxHeartbeats 4000000 in
set_option maxRecDepth 100000 in
theorem c_X0_far (l : Launch) (D : va_G) (cI cS : ClassId) (x0 : Int32) (x1 : Int32) (R : Int32) (hf : f_X0_far x0 x1 = some (R)) : Met l yX0_far (ik_ws yX0_far cX0_far 2 (some .int)) ({ frames := 1, cells := 0, slots := 0, locals := 21 } : Room) (ik_P D cI cS [.int x0, .int x1] (wz_none cI cS)) (ik_R (some (.int R))) 0 0 ik_no := by
  refine ik_metR RX0 rfl (by decide) (Nat.le_of_ble_eq_true rfl) [(0, .int x0), (1, .int x1)] rfl ?_
  intro p e s m below meth c C hr hlk
  unfold f_X0_far at hf
  refine ik_iload_n C 0 rfl rfl dX0_far_0 ?_
  refine ik_bipush (v := (8 : Int32)) C (by decide) dX0_far_1 ?_
  refine ik_idiv C (by decide) dX0_far_3 ?_
  refine ik_iload_n C 1 rfl rfl dX0_far_4 ?_
  refine ik_bipush (v := (8 : Int32)) C (by decide) dX0_far_5 ?_
  refine ik_idiv C (by decide) dX0_far_7 ?_
  refine ik_isub C dX0_far_8 ?_
  refine ik_mabs C wl_13_21 wl_13_22 wl_13_23 wl_14_0 (Nat.le_of_ble_eq_true rfl) (Nat.le_of_ble_eq_true rfl) dX0_far_9 ?_
  refine ik_iload_n C 0 rfl rfl dX0_far_12 ?_
  refine ik_bipush (v := (8 : Int32)) C (by decide) dX0_far_13 ?_
  refine ik_irem C (by decide) dX0_far_15 ?_
  refine ik_iload_n C 1 rfl rfl dX0_far_16 ?_
  refine ik_bipush (v := (8 : Int32)) C (by decide) dX0_far_17 ?_
  refine ik_irem C (by decide) dX0_far_19 ?_
  refine ik_isub C dX0_far_20 ?_
  refine ik_mabs C wl_13_21 wl_13_22 wl_13_23 wl_14_0 (Nat.le_of_ble_eq_true rfl) (Nat.le_of_ble_eq_true rfl) dX0_far_21 ?_
  refine ik_iadd C dX0_far_24 ?_
  obtain rfl := Option.some.inj hf
  exact ik_iretR C hr hlk dX0_far_25
theorem mv_X1_draw : ik_V yX1_draw RX1 cX1_draw 1 (some .int) 0 := ⟨wl_33_15, wl_33_16, wl_1_14, wl_33_17, by decide +kernel⟩
set_option maxHeartbeats 4000000 in
set_option maxRecDepth 100000 in
theorem c_X1_draw (l : Launch) (D : va_G) (cI cS : ClassId) (p0 w0 c0 p1 p2 p3 w1 w2 w3 w4 c1 c2 : Nat) (hour : Int32) (air : Int32) (rub : Int32) (z : Int32) (nb : Int32) (kd : Nat → Int32) (cl : Nat → Int32) (gr : Nat → Int32) (oc : Nat → Int32) (lit : Int32) (cold : Int32) (ccell : Nat → Int32) (cpow : Nat → Int32) (sp : Nat → Int32) (wm : Nat → Int32) (dr : Nat → Int32) (R : Int32) (z_r : Int32) (hf : f_X1_draw z = some (R, z_r)) : Met l yX1_draw (ik_ws yX1_draw cX1_draw 1 (some .int)) ({ frames := 0, cells := 0, slots := 0, locals := 0 } : Room) (ik_P D cI cS [.ref p0] (wz_X1 cI cS p0 w0 c0 p1 p2 p3 w1 w2 w3 w4 c1 c2 hour air rub z nb kd cl gr oc lit cold ccell cpow sp wm dr)) (ik_Q (some (.int R)) D (wz_X1 cI cS p0 w0 c0 p1 p2 p3 w1 w2 w3 w4 c1 c2 hour air rub z_r nb kd cl gr oc lit cold ccell cpow sp wm dr) (wz_X1 cI cS p0 w0 c0 p1 p2 p3 w1 w2 w3 w4 c1 c2 hour air rub z nb kd cl gr oc lit cold ccell cpow sp wm dr)) 0 0 (ik_in (wz_X1 cI cS p0 w0 c0 p1 p2 p3 w1 w2 w3 w4 c1 c2 hour air rub z nb kd cl gr oc lit cold ccell cpow sp wm dr)) := by
  refine ik_metW RX1 rfl (by decide) (Nat.le_of_ble_eq_true rfl) [(0, .ref p0)] rfl ?_
  intro p e s m below meth c C hr hlk
  unfold f_X1_draw at hf
  refine ik_aload_n C 0 rfl rfl dX1_draw_0 ?_
  refine ik_aload_n C 0 rfl rfl dX1_draw_1 ?_
  refine ik_get C inlX1 0 rfl rfl 6 (by decide) wl_2_19 rfl (v := .int z) rfl dX1_draw_2 ?_
  refine ik_ldc C wl_33_18 dX1_draw_5 ?_
  refine ik_imul C dX1_draw_7 ?_
  refine ik_sipush (v := (12345 : Int32)) C (by decide) dX1_draw_8 ?_
  refine ik_iadd C dX1_draw_11 ?_
  refine ik_put C inlX1 tyX1 tyX1_ok nmX1 0 rfl rfl 6 (by decide) wl_2_19 rfl (by decide) rfl rfl (Nat.le_of_ble_eq_true rfl) (wz_X1 cI cS p0 w0 c0 p1 p2 p3 w1 w2 w3 w4 c1 c2 hour air rub ((z * (1103515245 : Int32)) + (12345 : Int32)) nb kd cl gr oc lit cold ccell cpow sp wm dr) rfl dX1_draw_12 ?_
  refine ik_aload_n C 0 rfl rfl dX1_draw_15 ?_
  refine ik_get C inlX1 0 rfl rfl 6 (by decide) wl_2_19 rfl (v := .int ((z * (1103515245 : Int32)) + (12345 : Int32))) rfl dX1_draw_16 ?_
  refine ik_bipush (v := (8 : Int32)) C (by decide) dX1_draw_19 ?_
  refine ik_iushr C dX1_draw_21 ?_
  obtain ⟨rfl, rfl⟩ := ik_e2 hf
  exact ik_iretW C hr hlk dX1_draw_22
theorem mv_X2_isMissing : ik_V yX2_isMissing RX2 cX2_isMissing 1 (some .boolean) 0 := ⟨wl_45_10, wl_45_11, wl_2_5, wl_45_12, by decide +kernel⟩
set_option maxHeartbeats 4000000 in
set_option maxRecDepth 100000 in
theorem c_X2_isMissing (l : Launch) (D : va_G) (cI cS : ClassId) (s0 s1 : Nat) (sbits : Int32) (ssize : Int32) (snum : Nat → Int32) (R : Int32) (hf : f_X2_isMissing sbits = some (R)) : Met l yX2_isMissing (ik_ws yX2_isMissing cX2_isMissing 1 (some .boolean)) ({ frames := 0, cells := 0, slots := 0, locals := 0 } : Room) (ik_P D cI cS [.ref s0] (wz_X2 cI cS s0 s1 sbits ssize snum)) (ik_R (some (.int R))) 0 0 ik_no := by
  refine ik_metR RX2 rfl (by decide) (Nat.le_of_ble_eq_true rfl) [(0, .ref s0)] rfl ?_
  intro p e s m below meth c C hr hlk
  unfold f_X2_isMissing at hf
  refine ik_aload_n C 0 rfl rfl dX2_isMissing_0 ?_
  refine ik_get C inlX2 0 rfl rfl 0 (by decide) wl_44_16 rfl (v := .int sbits) rfl dX2_isMissing_1 ?_
  refine ik_if_ne C 11 dX2_isMissing_4 (by decide) (fun hc => ?_) (fun hc => ?_)
  · have hf := ik_neg hc hf
    refine ik_iconst (v := (0 : Int32)) C (by decide) dX2_isMissing_11 ?_
    obtain rfl := Option.some.inj hf
    exact ik_zretR C hr (by decide) hlk dX2_isMissing_12
  · have hf := ik_pos hc hf
    refine ik_iconst (v := (1 : Int32)) C (by decide) dX2_isMissing_7 ?_
    refine ik_goto C 12 dX2_isMissing_8 (by decide) ?_
    obtain rfl := Option.some.inj hf
    exact ik_zretR C hr (by decide) hlk dX2_isMissing_12
theorem mv_X2_put : ik_V yX2_put RX2 cX2_put 3 none 2 := ⟨wl_45_14, wl_45_15, wl_2_5, wl_45_16, by decide +kernel⟩
set_option maxHeartbeats 4000000 in
set_option maxRecDepth 100000 in
theorem c_X2_put (l : Launch) (D : va_G) (cI cS : ClassId) (s0 s1 : Nat) (sbits : Int32) (ssize : Int32) (snum : Nat → Int32) (x1 : Int32) (x2 : Int32) (snum_r : Nat → Int32) (hf : f_X2_put sbits snum x1 x2 = some (snum_r)) : Met l yX2_put (ik_ws yX2_put cX2_put 3 none) ({ frames := 0, cells := 0, slots := 0, locals := 0 } : Room) (ik_P D cI cS [.ref s0, .int x1, .int x2] (wz_X2 cI cS s0 s1 sbits ssize snum)) (ik_Q none D (wz_X2 cI cS s0 s1 sbits ssize snum_r) (wz_X2 cI cS s0 s1 sbits ssize snum)) 0 0 (ik_in (wz_X2 cI cS s0 s1 sbits ssize snum)) := by
  refine ik_metW RX2 rfl (by decide) (Nat.le_of_ble_eq_true rfl) [(0, .ref s0), (1, .int x1), (2, .int x2)] rfl ?_
  intro p e s m below meth c C hr hlk
  unfold f_X2_put at hf
  refine ik_aload_n C 0 rfl rfl dX2_put_0 ?_
  refine ik_get C inlX2 0 rfl rfl 0 (by decide) wl_44_16 rfl (v := .int sbits) rfl dX2_put_1 ?_
  refine ik_bipush (v := (8 : Int32)) C (by decide) dX2_put_4 ?_
  refine ik_icmp_ne C 20 dX2_put_6 (by decide) (fun hc => ?_) (fun hc => ?_)
  · have hf := ik_neg hc hf
    refine ik_aload_n C 0 rfl rfl dX2_put_20 ?_
    refine ik_get C inlX2 0 rfl rfl 0 (by decide) wl_44_16 rfl (v := .int sbits) rfl dX2_put_21 ?_
    refine ik_bipush (v := (16 : Int32)) C (by decide) dX2_put_24 ?_
    refine ik_icmp_ne C 40 dX2_put_26 (by decide) (fun hc => ?_) (fun hc => ?_)
    · have hf := ik_neg hc hf
      refine ik_aload_n C 0 rfl rfl dX2_put_40 ?_
      refine ik_get C inlX2 0 rfl rfl 2 (by decide) wl_4_7 rfl (v := .ref s1) rfl dX2_put_41 ?_
      refine ik_iload_n C 1 rfl rfl dX2_put_44 ?_
      refine ik_iload_n C 2 rfl rfl dX2_put_45 ?_
      have hg := ik_gdi hf
      have hf := ik_gdk hf
      refine ik_iast C 1 rfl hg (wz_X2 cI cS s0 s1 sbits ssize (upd snum (x1).toNatClampNeg x2)) rfl dX2_put_46 ?_
      obtain rfl := Option.some.inj hf
      exact ik_vretW C hr hlk dX2_put_47
    · have hf := ik_pos hc hf
      refine ik_aload_n C 0 rfl rfl dX2_put_29 ?_
      refine ik_get C inlX2 0 rfl rfl 2 (by decide) wl_4_7 rfl (v := .ref s1) rfl dX2_put_30 ?_
      refine ik_iload_n C 1 rfl rfl dX2_put_33 ?_
      refine ik_iload_n C 2 rfl rfl dX2_put_34 ?_
      refine ik_i2s C dX2_put_35 ?_
      have hg := ik_gdi hf
      have hf := ik_gdk hf
      refine ik_iast C 1 rfl hg (wz_X2 cI cS s0 s1 sbits ssize (upd snum (x1).toNatClampNeg (x2).toInt16.toInt32)) rfl dX2_put_36 ?_
      refine ik_goto C 47 dX2_put_37 (by decide) ?_
      obtain rfl := Option.some.inj hf
      exact ik_vretW C hr hlk dX2_put_47
  · have hf := ik_pos hc hf
    refine ik_aload_n C 0 rfl rfl dX2_put_9 ?_
    refine ik_get C inlX2 0 rfl rfl 2 (by decide) wl_4_7 rfl (v := .ref s1) rfl dX2_put_10 ?_
    refine ik_iload_n C 1 rfl rfl dX2_put_13 ?_
    refine ik_iload_n C 2 rfl rfl dX2_put_14 ?_
    refine ik_i2b C dX2_put_15 ?_
    have hg := ik_gdi hf
    have hf := ik_gdk hf
    refine ik_iast C 1 rfl hg (wz_X2 cI cS s0 s1 sbits ssize (upd snum (x1).toNatClampNeg (x2).toInt8.toInt32)) rfl dX2_put_16 ?_
    refine ik_goto C 47 dX2_put_17 (by decide) ?_
    obtain rfl := Option.some.inj hf
    exact ik_vretW C hr hlk dX2_put_47
theorem mv_X2_hasRange : ik_V yX2_hasRange RX2 cX2_hasRange 3 (some .boolean) 2 := ⟨wl_46_5, wl_46_6, wl_2_5, wl_46_7, by decide +kernel⟩
set_option maxHeartbeats 4000000 in
set_option maxRecDepth 100000 in
theorem c_X2_hasRange (l : Launch) (D : va_G) (cI cS : ClassId) (s0 s1 : Nat) (sbits : Int32) (ssize : Int32) (snum : Nat → Int32) (x1 : Int32) (x2 : Int32) (R : Int32) (hf : f_X2_hasRange ssize x1 x2 = some (R)) : Met l yX2_hasRange (ik_ws yX2_hasRange cX2_hasRange 3 (some .boolean)) ({ frames := 0, cells := 0, slots := 0, locals := 0 } : Room) (ik_P D cI cS [.ref s0, .int x1, .int x2] (wz_X2 cI cS s0 s1 sbits ssize snum)) (ik_R (some (.int R))) 0 0 ik_no := by
  refine ik_metR RX2 rfl (by decide) (Nat.le_of_ble_eq_true rfl) [(0, .ref s0), (1, .int x1), (2, .int x2)] rfl ?_
  intro p e s m below meth c C hr hlk
  unfold f_X2_hasRange at hf
  refine ik_iload_n C 1 rfl rfl dX2_hasRange_0 ?_
  refine ik_if_lt C 30 dX2_hasRange_1 (by decide) (fun hc => ?_) (fun hc => ?_)
  · have hf := ik_pos hc hf
    refine ik_iconst (v := (0 : Int32)) C (by decide) dX2_hasRange_30 ?_
    obtain rfl := Option.some.inj hf
    exact ik_zretR C hr (by decide) hlk dX2_hasRange_31
  · have hf := ik_neg hc hf
    refine ik_iload_n C 2 rfl rfl dX2_hasRange_4 ?_
    refine ik_if_lt C 30 dX2_hasRange_5 (by decide) (fun hc => ?_) (fun hc => ?_)
    · have hf := ik_pos hc hf
      refine ik_iconst (v := (0 : Int32)) C (by decide) dX2_hasRange_30 ?_
      obtain rfl := Option.some.inj hf
      exact ik_zretR C hr (by decide) hlk dX2_hasRange_31
    · have hf := ik_neg hc hf
      refine ik_iload_n C 2 rfl rfl dX2_hasRange_8 ?_
      refine ik_aload_n C 0 rfl rfl dX2_hasRange_9 ?_
      refine ik_get C inlX2 0 rfl rfl 1 (by decide) wl_44_17 rfl (v := .int ssize) rfl dX2_hasRange_10 ?_
      refine ik_icmp_gt C 30 dX2_hasRange_13 (by decide) (fun hc => ?_) (fun hc => ?_)
      · have hf := ik_pos hc hf
        refine ik_iconst (v := (0 : Int32)) C (by decide) dX2_hasRange_30 ?_
        obtain rfl := Option.some.inj hf
        exact ik_zretR C hr (by decide) hlk dX2_hasRange_31
      · have hf := ik_neg hc hf
        refine ik_iload_n C 1 rfl rfl dX2_hasRange_16 ?_
        refine ik_aload_n C 0 rfl rfl dX2_hasRange_17 ?_
        refine ik_get C inlX2 0 rfl rfl 1 (by decide) wl_44_17 rfl (v := .int ssize) rfl dX2_hasRange_18 ?_
        refine ik_iload_n C 2 rfl rfl dX2_hasRange_21 ?_
        refine ik_isub C dX2_hasRange_22 ?_
        refine ik_icmp_gt C 30 dX2_hasRange_23 (by decide) (fun hc => ?_) (fun hc => ?_)
        · have hf := ik_pos hc hf
          refine ik_iconst (v := (0 : Int32)) C (by decide) dX2_hasRange_30 ?_
          obtain rfl := Option.some.inj hf
          exact ik_zretR C hr (by decide) hlk dX2_hasRange_31
        · have hf := ik_neg hc hf
          refine ik_iconst (v := (1 : Int32)) C (by decide) dX2_hasRange_26 ?_
          refine ik_goto C 31 dX2_hasRange_27 (by decide) ?_
          obtain rfl := Option.some.inj hf
          exact ik_zretR C hr (by decide) hlk dX2_hasRange_31
theorem mv_X3_append : ik_V yX3_append RX3 cX3_append 2 none 1 := ⟨wl_34_19, wl_34_20, wl_3_22, wl_34_21, by decide +kernel⟩
set_option maxHeartbeats 4000000 in
set_option maxRecDepth 100000 in
theorem c_X3_append (l : Launch) (D : va_G) (cI cS : ClassId) (t0 t1 : Nat) (tsize : Int32) (tby : Nat → Int32) (x1 : Int32) (tsize_r : Int32) (tby_r : Nat → Int32) (hf : f_X3_append tsize tby x1 = some (tsize_r, tby_r)) : Met l yX3_append (ik_ws yX3_append cX3_append 2 none) ({ frames := 0, cells := 0, slots := 0, locals := 0 } : Room) (ik_P D cI cS [.ref t0, .int x1] (wz_X3 cI cS t0 t1 tsize tby)) (ik_Q none D (wz_X3 cI cS t0 t1 tsize_r tby_r) (wz_X3 cI cS t0 t1 tsize tby)) 0 0 (ik_in (wz_X3 cI cS t0 t1 tsize tby)) := by
  refine ik_metW RX3 rfl (by decide) (Nat.le_of_ble_eq_true rfl) [(0, .ref t0), (1, .int x1)] rfl ?_
  intro p e s m below meth c C hr hlk
  unfold f_X3_append at hf
  refine ik_aload_n C 0 rfl rfl dX3_append_0 ?_
  refine ik_get C inlX3 0 rfl rfl 1 (by decide) wl_34_22 rfl (v := .int tsize) rfl dX3_append_1 ?_
  refine ik_bipush (v := (120 : Int32)) C (by decide) dX3_append_4 ?_
  refine ik_icmp_ge C 29 dX3_append_6 (by decide) (fun hc => ?_) (fun hc => ?_)
  · have hf := ik_pos hc hf
    obtain ⟨rfl, rfl⟩ := ik_e2 hf
    exact ik_vretW C hr hlk dX3_append_29
  · have hf := ik_neg hc hf
    refine ik_aload_n C 0 rfl rfl dX3_append_9 ?_
    refine ik_get C inlX3 0 rfl rfl 0 (by decide) wl_4_3 rfl (v := .ref t1) rfl dX3_append_10 ?_
    refine ik_aload_n C 0 rfl rfl dX3_append_13 ?_
    refine ik_get C inlX3 0 rfl rfl 1 (by decide) wl_34_22 rfl (v := .int tsize) rfl dX3_append_14 ?_
    refine ik_iload_n C 1 rfl rfl dX3_append_17 ?_
    have hg := ik_gdi hf
    have hf := ik_gdk hf
    refine ik_iast C 1 rfl hg (wz_X3 cI cS t0 t1 tsize (upd tby (tsize).toNatClampNeg x1)) rfl dX3_append_18 ?_
    refine ik_aload_n C 0 rfl rfl dX3_append_19 ?_
    refine ik_dup C rfl dX3_append_20 ?_
    refine ik_get C inlX3 0 rfl rfl 1 (by decide) wl_34_22 rfl (v := .int tsize) rfl dX3_append_21 ?_
    refine ik_iconst (v := (1 : Int32)) C (by decide) dX3_append_24 ?_
    refine ik_iadd C dX3_append_25 ?_
    refine ik_put C inlX3 tyX3 tyX3_ok nmX3 0 rfl rfl 1 (by decide) wl_34_22 rfl (by decide) rfl rfl (Nat.le_of_ble_eq_true rfl) (wz_X3 cI cS t0 t1 (tsize + (1 : Int32)) (upd tby (tsize).toNatClampNeg x1)) rfl dX3_append_26 ?_
    obtain ⟨rfl, rfl⟩ := ik_e2 hf
    exact ik_vretW C hr hlk dX3_append_29
theorem mv_X3_byteAt : ik_V yX3_byteAt RX3 cX3_byteAt 2 (some .int) 1 := ⟨wl_36_5, wl_36_6, wl_3_22, wl_36_7, by decide +kernel⟩
set_option maxHeartbeats 4000000 in
set_option maxRecDepth 100000 in
theorem c_X3_byteAt (l : Launch) (D : va_G) (cI cS : ClassId) (t0 t1 : Nat) (tsize : Int32) (tby : Nat → Int32) (x1 : Int32) (R : Int32) (hf : f_X3_byteAt tsize tby x1 = some (R)) : Met l yX3_byteAt (ik_ws yX3_byteAt cX3_byteAt 2 (some .int)) ({ frames := 0, cells := 0, slots := 0, locals := 0 } : Room) (ik_P D cI cS [.ref t0, .int x1] (wz_X3 cI cS t0 t1 tsize tby)) (ik_R (some (.int R))) 0 0 ik_no := by
  refine ik_metR RX3 rfl (by decide) (Nat.le_of_ble_eq_true rfl) [(0, .ref t0), (1, .int x1)] rfl ?_
  intro p e s m below meth c C hr hlk
  unfold f_X3_byteAt at hf
  refine ik_iload_n C 1 rfl rfl dX3_byteAt_0 ?_
  refine ik_if_lt C 21 dX3_byteAt_1 (by decide) (fun hc => ?_) (fun hc => ?_)
  · have hf := ik_pos hc hf
    refine ik_iconst (v := (-1 : Int32)) C (by decide) dX3_byteAt_21 ?_
    obtain rfl := Option.some.inj hf
    exact ik_iretR C hr hlk dX3_byteAt_22
  · have hf := ik_neg hc hf
    refine ik_iload_n C 1 rfl rfl dX3_byteAt_4 ?_
    refine ik_aload_n C 0 rfl rfl dX3_byteAt_5 ?_
    refine ik_get C inlX3 0 rfl rfl 1 (by decide) wl_34_22 rfl (v := .int tsize) rfl dX3_byteAt_6 ?_
    refine ik_icmp_ge C 21 dX3_byteAt_9 (by decide) (fun hc => ?_) (fun hc => ?_)
    · have hf := ik_pos hc hf
      refine ik_iconst (v := (-1 : Int32)) C (by decide) dX3_byteAt_21 ?_
      obtain rfl := Option.some.inj hf
      exact ik_iretR C hr hlk dX3_byteAt_22
    · have hf := ik_neg hc hf
      refine ik_aload_n C 0 rfl rfl dX3_byteAt_12 ?_
      refine ik_get C inlX3 0 rfl rfl 0 (by decide) wl_4_3 rfl (v := .ref t1) rfl dX3_byteAt_13 ?_
      refine ik_iload_n C 1 rfl rfl dX3_byteAt_16 ?_
      have hg := ik_gdi hf
      have hf := ik_gdk hf
      refine ik_iald C 1 rfl hg dX3_byteAt_17 ?_
      refine ik_goto C 22 dX3_byteAt_18 (by decide) ?_
      obtain rfl := Option.some.inj hf
      exact ik_iretR C hr hlk dX3_byteAt_22
theorem mv_X4_isWord : ik_V yX4_isWord RX4 cX4_isWord 3 (some .boolean) 1 := ⟨wl_37_7, wl_37_8, wl_1_20, wl_37_9, by decide +kernel⟩
set_option maxHeartbeats 4000000 in
set_option maxRecDepth 100000 in
theorem c_X4_isWord (l : Launch) (D : va_G) (cI cS : ClassId) (aK aV : Nat → Nat) (ka : Nat) (wi : Nat) (hwi : wi < 26) (r0 t0 t1 : Nat) (tok : Int32) (sta : Int32) (en : Int32) (val : Int32) (tsize : Int32) (tby : Nat → Int32) (R : Int32) (hf : f_X4_isWord tok sta en tsize tby wi = some (R)) : Met l yX4_isWord (ik_ws yX4_isWord cX4_isWord 3 (some .boolean)) ({ frames := 4, cells := 0, slots := 0, locals := 111 } : Room) (ik_PZ D cI cS aK aV ka [.ref r0, .ref (aK wi)] (wz_X4 cI cS r0 t0 t1 tok sta en val tsize tby)) (ik_R (some (.int R))) 0 0 ik_no := by
  refine ik_metRZ RX4 rfl (by decide) (Nat.le_of_ble_eq_true rfl) [(0, .ref r0), (1, .ref (aK wi))] rfl ?_
  intro p e s m below meth c C hr hlk hZ
  unfold f_X4_isWord at hf
  refine ik_aload_n C 0 rfl rfl dX4_isWord_0 ?_
  refine ik_get C inlX4 0 rfl rfl 1 (by decide) wl_35_21 rfl (v := .int tok) rfl dX4_isWord_1 ?_
  refine ik_iconst (v := (1 : Int32)) C (by decide) dX4_isWord_4 ?_
  refine ik_icmp_ne C 24 dX4_isWord_5 (by decide) (fun hc => ?_) (fun hc => ?_)
  · have hf := ik_neg hc hf
    refine ik_iconst (v := (0 : Int32)) C (by decide) dX4_isWord_24 ?_
    obtain rfl := Option.some.inj hf
    exact ik_zretR C hr (by decide) hlk dX4_isWord_25
  · have hf := ik_pos hc hf
    refine ik_aload_n C 0 rfl rfl dX4_isWord_8 ?_
    refine ik_get C inlX4 0 rfl rfl 3 (by decide) wl_35_20 rfl (v := .int en) rfl dX4_isWord_9 ?_
    refine ik_aload_n C 0 rfl rfl dX4_isWord_12 ?_
    refine ik_get C inlX4 0 rfl rfl 2 (by decide) wl_35_22 rfl (v := .int sta) rfl dX4_isWord_13 ?_
    refine ik_isub C dX4_isWord_16 ?_
    refine ik_aload_n C 1 rfl rfl dX4_isWord_17 ?_
    have hM := c_J0_length_8abf5 l D cI cS aK aV ka wi hwi
    refine ik_goR (ik_runT (st := [.int (en - sta)]) (As := []) C hZ ik_noA wi hwi hM mv_J0_length_8abf5 wl_37_10 ⟨rfl, rfl, Nat.le_of_ble_eq_true rfl, Nat.le_of_ble_eq_true rfl⟩ rfl rfl (Nat.le_of_ble_eq_true rfl) dX4_isWord_18 ⟨Nat.zero_le _, Nat.zero_le _⟩) rfl ?_
    refine ik_icmp_eq C 26 dX4_isWord_21 (by decide) (fun hc => ?_) (fun hc => ?_)
    · have hf := ik_pos hc hf
      refine ik_iconst (v := (0 : Int32)) C (by decide) dX4_isWord_26 ?_
      refine ik_istore_n C [(2, .int (0 : Int32)), (0, .ref r0), (1, .ref (aK wi))] rfl (by decide) rfl dX4_isWord_27 ?_
      have hL_28 : ∀ (n_28 : Nat) (x2_28 : Int32), ik_lp1 (b_X4_isWord_28 sta tsize tby wi) n_28 x2_28 = some (R) → ik_G p l e ({ frames := 4, cells := 0, slots := 0, locals := 111 } : Room) s m ([.ref r0, .ref (aK wi)] : List Value).toArray below meth c D ik_no (fun _ => True) 3 0 0 (MQ below (ik_R (some (.int R))) ([.ref r0, .ref (aK wi)] : List Value).toArray s 0 0 ik_no) 28 [(2, .int x2_28), (0, .ref r0), (1, .ref (aK wi))] [] (wz_X4 cI cS r0 t0 t1 tok sta en val tsize tby) := by
        intro n_28
        induction n_28 with
        | zero => intro _ hf; exact nomatch hf
        | succ n_28 ih_28 =>
          intro x2_28 hf
          replace hf : b_X4_isWord_28 sta tsize tby wi (ik_lp1 (b_X4_isWord_28 sta tsize tby wi) n_28) x2_28 = some (R) := hf
          unfold b_X4_isWord_28 at hf
          refine ik_iload_n C 0 rfl rfl dX4_isWord_28 ?_
          refine ik_aload_n C 2 rfl rfl dX4_isWord_29 ?_
          have hM := c_J0_length_8abf5 l D cI cS aK aV ka wi hwi
          refine ik_goR (ik_runT (st := [.int x2_28]) (As := []) C hZ ik_noA wi hwi hM mv_J0_length_8abf5 wl_37_10 ⟨rfl, rfl, Nat.le_of_ble_eq_true rfl, Nat.le_of_ble_eq_true rfl⟩ rfl rfl (Nat.le_of_ble_eq_true rfl) dX4_isWord_30 ⟨Nat.zero_le _, Nat.zero_le _⟩) rfl ?_
          refine ik_icmp_ge C 65 dX4_isWord_33 (by decide) (fun hc => ?_) (fun hc => ?_)
          · have hf := ik_pos hc hf
            refine ik_iconst (v := (1 : Int32)) C (by decide) dX4_isWord_65 ?_
            obtain rfl := Option.some.inj hf
            exact ik_zretR C hr (by decide) hlk dX4_isWord_66
          · have hf := ik_neg hc hf
            refine ik_aload_n C 1 rfl rfl dX4_isWord_36 ?_
            refine ik_get C inlX4 0 rfl rfl 0 (by decide) wl_3_23 rfl (v := .ref t0) rfl dX4_isWord_37 ?_
            refine ik_aload_n C 1 rfl rfl dX4_isWord_40 ?_
            refine ik_get C inlX4 0 rfl rfl 2 (by decide) wl_35_22 rfl (v := .int sta) rfl dX4_isWord_41 ?_
            refine ik_iload_n C 0 rfl rfl dX4_isWord_44 ?_
            refine ik_iadd C dX4_isWord_45 ?_
            obtain ⟨r1, hc1, hf⟩ := ik_b1s hf
            have hM := (c_X3_byteAt l D cI cS t0 t1 tsize tby (sta + x2_28) r1 hc1)
            refine ik_goR (ik_runV (st := []) (As := [.int (sta + x2_28)]) C hM mv_X3_byteAt wl_36_4 ⟨rfl, rfl, Nat.le_of_ble_eq_true rfl, Nat.le_of_ble_eq_true rfl⟩ [1, 2] rfl (by decide +kernel) 1 rfl rfl rfl rfl (Nat.le_of_ble_eq_true rfl) dX4_isWord_46 ⟨Nat.zero_le _, Nat.zero_le _⟩) rfl ?_
            refine ik_aload_n C 2 rfl rfl dX4_isWord_49 ?_
            refine ik_iload_n C 0 rfl rfl dX4_isWord_50 ?_
            have hg := ik_gsi hf
            have hf := ik_gsk hf
            have hM := c_J0_charAt_5068e l D cI cS aK aV ka wi hwi x2_28 hg.1 hg.2
            refine ik_goR (ik_runT (st := [.int r1]) (As := [.int x2_28]) C hZ ik_noA wi hwi hM mv_J0_charAt_5068e wl_37_22 ⟨rfl, rfl, Nat.le_of_ble_eq_true rfl, Nat.le_of_ble_eq_true rfl⟩ rfl rfl (Nat.le_of_ble_eq_true rfl) dX4_isWord_51 ⟨Nat.zero_le _, Nat.zero_le _⟩) rfl ?_
            refine ik_icmp_eq C 59 dX4_isWord_54 (by decide) (fun hc => ?_) (fun hc => ?_)
            · have hf := ik_pos hc hf
              refine ik_iinc C [(2, .int (x2_28 + (1 : Int32))), (0, .ref r0), (1, .ref (aK wi))] 0 rfl rfl (by decide) rfl dX4_isWord_59 ?_
              refine ik_goto C 28 dX4_isWord_62 (by decide) ?_
              exact ik_sub [0, 1, 2] [(2, .int (x2_28 + (1 : Int32))), (0, .ref r0), (1, .ref (aK wi))] rfl (ih_28 (x2_28 + (1 : Int32)) hf)
            · have hf := ik_neg hc hf
              refine ik_iconst (v := (0 : Int32)) C (by decide) dX4_isWord_57 ?_
              obtain rfl := Option.some.inj hf
              exact ik_zretR C hr (by decide) hlk dX4_isWord_58
      exact hL_28 ik_fu (0 : Int32) hf
    · have hf := ik_neg hc hf
      refine ik_iconst (v := (0 : Int32)) C (by decide) dX4_isWord_24 ?_
      obtain rfl := Option.some.inj hf
      exact ik_zretR C hr (by decide) hlk dX4_isWord_25
theorem ms_X4_isLetter : ik_S yX4_isLetter RX4 cX4_isLetter 1 (some .boolean) 1 := ⟨wl_36_9, wl_1_20, wl_36_10, by decide +kernel⟩
set_option maxHeartbeats 4000000 in
set_option maxRecDepth 100000 in
theorem c_X4_isLetter (l : Launch) (D : va_G) (cI cS : ClassId) (x0 : Int32) (R : Int32) (hf : f_X4_isLetter x0 = some (R)) : Met l yX4_isLetter (ik_ws yX4_isLetter cX4_isLetter 1 (some .boolean)) ({ frames := 0, cells := 0, slots := 0, locals := 0 } : Room) (ik_P D cI cS [.int x0] (wz_none cI cS)) (ik_R (some (.int R))) 0 0 ik_no := by
  refine ik_metR RX4 rfl (by decide) (Nat.le_of_ble_eq_true rfl) [(0, .int x0)] rfl ?_
  intro p e s m below meth c C hr hlk
  unfold f_X4_isLetter at hf
  refine ik_iload_n C 0 rfl rfl dX4_isLetter_0 ?_
  refine ik_bipush (v := (97 : Int32)) C (by decide) dX4_isLetter_1 ?_
  refine ik_icmp_lt C 16 dX4_isLetter_3 (by decide) (fun hc => ?_) (fun hc => ?_)
  · have hf := ik_pos hc hf
    refine ik_iconst (v := (0 : Int32)) C (by decide) dX4_isLetter_16 ?_
    obtain rfl := Option.some.inj hf
    exact ik_zretR C hr (by decide) hlk dX4_isLetter_17
  · have hf := ik_neg hc hf
    refine ik_iload_n C 0 rfl rfl dX4_isLetter_6 ?_
    refine ik_bipush (v := (122 : Int32)) C (by decide) dX4_isLetter_7 ?_
    refine ik_icmp_gt C 16 dX4_isLetter_9 (by decide) (fun hc => ?_) (fun hc => ?_)
    · have hf := ik_pos hc hf
      refine ik_iconst (v := (0 : Int32)) C (by decide) dX4_isLetter_16 ?_
      obtain rfl := Option.some.inj hf
      exact ik_zretR C hr (by decide) hlk dX4_isLetter_17
    · have hf := ik_neg hc hf
      refine ik_iconst (v := (1 : Int32)) C (by decide) dX4_isLetter_12 ?_
      refine ik_goto C 17 dX4_isLetter_13 (by decide) ?_
      obtain rfl := Option.some.inj hf
      exact ik_zretR C hr (by decide) hlk dX4_isLetter_17
theorem ms_X4_isDigit : ik_S yX4_isDigit RX4 cX4_isDigit 1 (some .boolean) 1 := ⟨wl_36_12, wl_1_20, wl_36_13, by decide +kernel⟩
set_option maxHeartbeats 4000000 in
set_option maxRecDepth 100000 in
theorem c_X4_isDigit (l : Launch) (D : va_G) (cI cS : ClassId) (x0 : Int32) (R : Int32) (hf : f_X4_isDigit x0 = some (R)) : Met l yX4_isDigit (ik_ws yX4_isDigit cX4_isDigit 1 (some .boolean)) ({ frames := 0, cells := 0, slots := 0, locals := 0 } : Room) (ik_P D cI cS [.int x0] (wz_none cI cS)) (ik_R (some (.int R))) 0 0 ik_no := by
  refine ik_metR RX4 rfl (by decide) (Nat.le_of_ble_eq_true rfl) [(0, .int x0)] rfl ?_
  intro p e s m below meth c C hr hlk
  unfold f_X4_isDigit at hf
  refine ik_iload_n C 0 rfl rfl dX4_isDigit_0 ?_
  refine ik_bipush (v := (48 : Int32)) C (by decide) dX4_isDigit_1 ?_
  refine ik_icmp_lt C 16 dX4_isDigit_3 (by decide) (fun hc => ?_) (fun hc => ?_)
  · have hf := ik_pos hc hf
    refine ik_iconst (v := (0 : Int32)) C (by decide) dX4_isDigit_16 ?_
    obtain rfl := Option.some.inj hf
    exact ik_zretR C hr (by decide) hlk dX4_isDigit_17
  · have hf := ik_neg hc hf
    refine ik_iload_n C 0 rfl rfl dX4_isDigit_6 ?_
    refine ik_bipush (v := (57 : Int32)) C (by decide) dX4_isDigit_7 ?_
    refine ik_icmp_gt C 16 dX4_isDigit_9 (by decide) (fun hc => ?_) (fun hc => ?_)
    · have hf := ik_pos hc hf
      refine ik_iconst (v := (0 : Int32)) C (by decide) dX4_isDigit_16 ?_
      obtain rfl := Option.some.inj hf
      exact ik_zretR C hr (by decide) hlk dX4_isDigit_17
    · have hf := ik_neg hc hf
      refine ik_iconst (v := (1 : Int32)) C (by decide) dX4_isDigit_12 ?_
      refine ik_goto C 17 dX4_isDigit_13 (by decide) ?_
      obtain rfl := Option.some.inj hf
      exact ik_zretR C hr (by decide) hlk dX4_isDigit_17
theorem mv_X5_copyFrom : ik_V yX5_copyFrom RX5 cX5_copyFrom 2 none 1 := ⟨wl_23_23, wl_24_0, wl_2_12, wl_24_1, by decide +kernel⟩
set_option maxHeartbeats 4000000 in
set_option maxRecDepth 100000 in
theorem c_X5_copyFrom (l : Launch) (D : va_G) (cI cS : ClassId) (w0 w1 w2 w3 w4 ow0 ow1 ow2 ow3 ow4 : Nat) (nb : Int32) (kd : Nat → Int32) (cl : Nat → Int32) (gr : Nat → Int32) (oc : Nat → Int32) (onb : Int32) (okd : Nat → Int32) (ocl : Nat → Int32) (ogr : Nat → Int32) (ooc : Nat → Int32) (nb_r : Int32) (kd_r : Nat → Int32) (cl_r : Nat → Int32) (gr_r : Nat → Int32) (oc_r : Nat → Int32) (hf : f_X5_copyFrom nb kd cl gr oc onb okd ocl ogr ooc = some (nb_r, kd_r, cl_r, gr_r, oc_r)) : Met l yX5_copyFrom (ik_ws yX5_copyFrom cX5_copyFrom 2 none) ({ frames := 1, cells := 0, slots := 0, locals := 60 } : Room) (ik_P D cI cS [.ref w0, .ref ow0] (wz_X5d cI cS w0 w1 w2 w3 w4 ow0 ow1 ow2 ow3 ow4 nb kd cl gr oc onb okd ocl ogr ooc)) (ik_Q none D (wz_X5d cI cS w0 w1 w2 w3 w4 ow0 ow1 ow2 ow3 ow4 nb_r kd_r cl_r gr_r oc_r onb okd ocl ogr ooc) (wz_X5d cI cS w0 w1 w2 w3 w4 ow0 ow1 ow2 ow3 ow4 nb kd cl gr oc onb okd ocl ogr ooc)) 0 0 (ik_in (wz_X5d cI cS w0 w1 w2 w3 w4 ow0 ow1 ow2 ow3 ow4 nb kd cl gr oc onb okd ocl ogr ooc)) := by
  refine ik_metW RX5 rfl (by decide) (Nat.le_of_ble_eq_true rfl) [(0, .ref w0), (1, .ref ow0)] rfl ?_
  intro p e s m below meth c C hr hlk
  unfold f_X5_copyFrom at hf
  refine ik_aload_n C 0 rfl rfl dX5_copyFrom_0 ?_
  refine ik_aload_n C 1 rfl rfl dX5_copyFrom_1 ?_
  refine ik_get C inlX5 5 rfl rfl 0 (by decide) wl_6_0 rfl (v := .int onb) rfl dX5_copyFrom_2 ?_
  refine ik_put C inlX5 tyX5 tyX5_ok nmX5 0 rfl rfl 0 (by decide) wl_6_0 rfl (by decide) rfl rfl (Nat.le_of_ble_eq_true rfl) (wz_X5d cI cS w0 w1 w2 w3 w4 ow0 ow1 ow2 ow3 ow4 onb kd cl gr oc onb okd ocl ogr ooc) rfl dX5_copyFrom_5 ?_
  refine ik_aload_n C 1 rfl rfl dX5_copyFrom_8 ?_
  refine ik_get C inlX5 5 rfl rfl 1 (by decide) wl_3_2 rfl (v := .ref ow1) rfl dX5_copyFrom_9 ?_
  refine ik_iconst (v := (0 : Int32)) C (by decide) dX5_copyFrom_12 ?_
  refine ik_aload_n C 0 rfl rfl dX5_copyFrom_13 ?_
  refine ik_get C inlX5 0 rfl rfl 1 (by decide) wl_3_2 rfl (v := .ref w1) rfl dX5_copyFrom_14 ?_
  refine ik_iconst (v := (0 : Int32)) C (by decide) dX5_copyFrom_17 ?_
  refine ik_bipush (v := (16 : Int32)) C (by decide) dX5_copyFrom_18 ?_
  refine ik_copy C wl_24_2 wl_23_19 wl_23_20 wl_23_21 6 1 rfl rfl (ik_cpl (by decide)) (Nat.le_of_ble_eq_true rfl) (Nat.le_of_ble_eq_true rfl) (wz_X5d cI cS w0 w1 w2 w3 w4 ow0 ow1 ow2 ow3 ow4 onb (va_cpy okd kd ((0 : Int32)).toNatClampNeg ((0 : Int32)).toNatClampNeg ((16 : Int32)).toNatClampNeg) cl gr oc onb okd ocl ogr ooc) rfl dX5_copyFrom_20 ?_
  refine ik_aload_n C 1 rfl rfl dX5_copyFrom_23 ?_
  refine ik_get C inlX5 5 rfl rfl 2 (by decide) wl_3_3 rfl (v := .ref ow2) rfl dX5_copyFrom_24 ?_
  refine ik_iconst (v := (0 : Int32)) C (by decide) dX5_copyFrom_27 ?_
  refine ik_aload_n C 0 rfl rfl dX5_copyFrom_28 ?_
  refine ik_get C inlX5 0 rfl rfl 2 (by decide) wl_3_3 rfl (v := .ref w2) rfl dX5_copyFrom_29 ?_
  refine ik_iconst (v := (0 : Int32)) C (by decide) dX5_copyFrom_32 ?_
  refine ik_bipush (v := (16 : Int32)) C (by decide) dX5_copyFrom_33 ?_
  refine ik_copy C wl_24_2 wl_23_19 wl_23_20 wl_23_21 7 2 rfl rfl (ik_cpl (by decide)) (Nat.le_of_ble_eq_true rfl) (Nat.le_of_ble_eq_true rfl) (wz_X5d cI cS w0 w1 w2 w3 w4 ow0 ow1 ow2 ow3 ow4 onb (va_cpy okd kd ((0 : Int32)).toNatClampNeg ((0 : Int32)).toNatClampNeg ((16 : Int32)).toNatClampNeg) (va_cpy ocl cl ((0 : Int32)).toNatClampNeg ((0 : Int32)).toNatClampNeg ((16 : Int32)).toNatClampNeg) gr oc onb okd ocl ogr ooc) rfl dX5_copyFrom_35 ?_
  refine ik_aload_n C 1 rfl rfl dX5_copyFrom_38 ?_
  refine ik_get C inlX5 5 rfl rfl 3 (by decide) wl_3_4 rfl (v := .ref ow3) rfl dX5_copyFrom_39 ?_
  refine ik_iconst (v := (0 : Int32)) C (by decide) dX5_copyFrom_42 ?_
  refine ik_aload_n C 0 rfl rfl dX5_copyFrom_43 ?_
  refine ik_get C inlX5 0 rfl rfl 3 (by decide) wl_3_4 rfl (v := .ref w3) rfl dX5_copyFrom_44 ?_
  refine ik_iconst (v := (0 : Int32)) C (by decide) dX5_copyFrom_47 ?_
  refine ik_bipush (v := (16 : Int32)) C (by decide) dX5_copyFrom_48 ?_
  refine ik_copy C wl_24_2 wl_23_19 wl_23_20 wl_23_21 8 3 rfl rfl (ik_cpl (by decide)) (Nat.le_of_ble_eq_true rfl) (Nat.le_of_ble_eq_true rfl) (wz_X5d cI cS w0 w1 w2 w3 w4 ow0 ow1 ow2 ow3 ow4 onb (va_cpy okd kd ((0 : Int32)).toNatClampNeg ((0 : Int32)).toNatClampNeg ((16 : Int32)).toNatClampNeg) (va_cpy ocl cl ((0 : Int32)).toNatClampNeg ((0 : Int32)).toNatClampNeg ((16 : Int32)).toNatClampNeg) (va_cpy ogr gr ((0 : Int32)).toNatClampNeg ((0 : Int32)).toNatClampNeg ((16 : Int32)).toNatClampNeg) oc onb okd ocl ogr ooc) rfl dX5_copyFrom_50 ?_
  refine ik_aload_n C 1 rfl rfl dX5_copyFrom_53 ?_
  refine ik_get C inlX5 5 rfl rfl 4 (by decide) wl_3_5 rfl (v := .ref ow4) rfl dX5_copyFrom_54 ?_
  refine ik_iconst (v := (0 : Int32)) C (by decide) dX5_copyFrom_57 ?_
  refine ik_aload_n C 0 rfl rfl dX5_copyFrom_58 ?_
  refine ik_get C inlX5 0 rfl rfl 4 (by decide) wl_3_5 rfl (v := .ref w4) rfl dX5_copyFrom_59 ?_
  refine ik_iconst (v := (0 : Int32)) C (by decide) dX5_copyFrom_62 ?_
  refine ik_bipush (v := (48 : Int32)) C (by decide) dX5_copyFrom_63 ?_
  refine ik_copy C wl_24_2 wl_23_19 wl_23_20 wl_23_21 9 4 rfl rfl (ik_cpl (by decide)) (Nat.le_of_ble_eq_true rfl) (Nat.le_of_ble_eq_true rfl) (wz_X5d cI cS w0 w1 w2 w3 w4 ow0 ow1 ow2 ow3 ow4 onb (va_cpy okd kd ((0 : Int32)).toNatClampNeg ((0 : Int32)).toNatClampNeg ((16 : Int32)).toNatClampNeg) (va_cpy ocl cl ((0 : Int32)).toNatClampNeg ((0 : Int32)).toNatClampNeg ((16 : Int32)).toNatClampNeg) (va_cpy ogr gr ((0 : Int32)).toNatClampNeg ((0 : Int32)).toNatClampNeg ((16 : Int32)).toNatClampNeg) (va_cpy ooc oc ((0 : Int32)).toNatClampNeg ((0 : Int32)).toNatClampNeg ((48 : Int32)).toNatClampNeg) onb okd ocl ogr ooc) rfl dX5_copyFrom_65 ?_
  obtain ⟨rfl, rfl, rfl, rfl, rfl⟩ := ik_e5 hf
  exact ik_vretW C hr hlk dX5_copyFrom_68
theorem mv_X5_isBlock : ik_V yX5_isBlock RX5 cX5_isBlock 2 (some .boolean) 1 := ⟨wl_8_8, wl_8_9, wl_2_12, wl_8_10, by decide +kernel⟩
set_option maxHeartbeats 4000000 in
set_option maxRecDepth 100000 in
theorem c_X5_isBlock (l : Launch) (D : va_G) (cI cS : ClassId) (w0 w1 w2 w3 w4 : Nat) (nb : Int32) (kd : Nat → Int32) (cl : Nat → Int32) (gr : Nat → Int32) (oc : Nat → Int32) (x1 : Int32) (R : Int32) (hf : f_X5_isBlock nb x1 = some (R)) : Met l yX5_isBlock (ik_ws yX5_isBlock cX5_isBlock 2 (some .boolean)) ({ frames := 0, cells := 0, slots := 0, locals := 0 } : Room) (ik_P D cI cS [.ref w0, .int x1] (wz_X5 cI cS w0 w1 w2 w3 w4 nb kd cl gr oc)) (ik_R (some (.int R))) 0 0 ik_no := by
  refine ik_metR RX5 rfl (by decide) (Nat.le_of_ble_eq_true rfl) [(0, .ref w0), (1, .int x1)] rfl ?_
  intro p e s m below meth c C hr hlk
  unfold f_X5_isBlock at hf
  refine ik_iload_n C 1 rfl rfl dX5_isBlock_0 ?_
  refine ik_if_lt C 16 dX5_isBlock_1 (by decide) (fun hc => ?_) (fun hc => ?_)
  · have hf := ik_pos hc hf
    refine ik_iconst (v := (0 : Int32)) C (by decide) dX5_isBlock_16 ?_
    obtain rfl := Option.some.inj hf
    exact ik_zretR C hr (by decide) hlk dX5_isBlock_17
  · have hf := ik_neg hc hf
    refine ik_iload_n C 1 rfl rfl dX5_isBlock_4 ?_
    refine ik_aload_n C 0 rfl rfl dX5_isBlock_5 ?_
    refine ik_get C inlX5 0 rfl rfl 0 (by decide) wl_6_0 rfl (v := .int nb) rfl dX5_isBlock_6 ?_
    refine ik_icmp_ge C 16 dX5_isBlock_9 (by decide) (fun hc => ?_) (fun hc => ?_)
    · have hf := ik_pos hc hf
      refine ik_iconst (v := (0 : Int32)) C (by decide) dX5_isBlock_16 ?_
      obtain rfl := Option.some.inj hf
      exact ik_zretR C hr (by decide) hlk dX5_isBlock_17
    · have hf := ik_neg hc hf
      refine ik_iconst (v := (1 : Int32)) C (by decide) dX5_isBlock_12 ?_
      refine ik_goto C 17 dX5_isBlock_13 (by decide) ?_
      obtain rfl := Option.some.inj hf
      exact ik_zretR C hr (by decide) hlk dX5_isBlock_17
theorem mv_X5_isFull : ik_V yX5_isFull RX5 cX5_isFull 1 (some .boolean) 0 := ⟨wl_5_21, wl_5_22, wl_2_12, wl_5_23, by decide +kernel⟩
set_option maxHeartbeats 4000000 in
set_option maxRecDepth 100000 in
theorem c_X5_isFull (l : Launch) (D : va_G) (cI cS : ClassId) (w0 w1 w2 w3 w4 : Nat) (nb : Int32) (kd : Nat → Int32) (cl : Nat → Int32) (gr : Nat → Int32) (oc : Nat → Int32) (R : Int32) (hf : f_X5_isFull nb = some (R)) : Met l yX5_isFull (ik_ws yX5_isFull cX5_isFull 1 (some .boolean)) ({ frames := 0, cells := 0, slots := 0, locals := 0 } : Room) (ik_P D cI cS [.ref w0] (wz_X5 cI cS w0 w1 w2 w3 w4 nb kd cl gr oc)) (ik_R (some (.int R))) 0 0 ik_no := by
  refine ik_metR RX5 rfl (by decide) (Nat.le_of_ble_eq_true rfl) [(0, .ref w0)] rfl ?_
  intro p e s m below meth c C hr hlk
  unfold f_X5_isFull at hf
  refine ik_aload_n C 0 rfl rfl dX5_isFull_0 ?_
  refine ik_get C inlX5 0 rfl rfl 0 (by decide) wl_6_0 rfl (v := .int nb) rfl dX5_isFull_1 ?_
  refine ik_bipush (v := (16 : Int32)) C (by decide) dX5_isFull_4 ?_
  refine ik_icmp_lt C 13 dX5_isFull_6 (by decide) (fun hc => ?_) (fun hc => ?_)
  · have hf := ik_pos hc hf
    refine ik_iconst (v := (0 : Int32)) C (by decide) dX5_isFull_13 ?_
    obtain rfl := Option.some.inj hf
    exact ik_zretR C hr (by decide) hlk dX5_isFull_14
  · have hf := ik_neg hc hf
    refine ik_iconst (v := (1 : Int32)) C (by decide) dX5_isFull_9 ?_
    refine ik_goto C 14 dX5_isFull_10 (by decide) ?_
    obtain rfl := Option.some.inj hf
    exact ik_zretR C hr (by decide) hlk dX5_isFull_14
theorem mv_X5_isGone : ik_V yX5_isGone RX5 cX5_isGone 2 (some .boolean) 1 := ⟨wl_8_12, wl_8_13, wl_2_12, wl_8_14, by decide +kernel⟩
set_option maxHeartbeats 4000000 in
set_option maxRecDepth 100000 in
theorem c_X5_isGone (l : Launch) (D : va_G) (cI cS : ClassId) (w0 w1 w2 w3 w4 : Nat) (nb : Int32) (kd : Nat → Int32) (cl : Nat → Int32) (gr : Nat → Int32) (oc : Nat → Int32) (x1 : Int32) (R : Int32) (hf : f_X5_isGone cl x1 = some (R)) : Met l yX5_isGone (ik_ws yX5_isGone cX5_isGone 2 (some .boolean)) ({ frames := 0, cells := 0, slots := 0, locals := 0 } : Room) (ik_P D cI cS [.ref w0, .int x1] (wz_X5 cI cS w0 w1 w2 w3 w4 nb kd cl gr oc)) (ik_R (some (.int R))) 0 0 ik_no := by
  refine ik_metR RX5 rfl (by decide) (Nat.le_of_ble_eq_true rfl) [(0, .ref w0), (1, .int x1)] rfl ?_
  intro p e s m below meth c C hr hlk
  unfold f_X5_isGone at hf
  refine ik_aload_n C 0 rfl rfl dX5_isGone_0 ?_
  refine ik_get C inlX5 0 rfl rfl 2 (by decide) wl_3_3 rfl (v := .ref w2) rfl dX5_isGone_1 ?_
  refine ik_iload_n C 1 rfl rfl dX5_isGone_4 ?_
  have hg := ik_gdi hf
  have hf := ik_gdk hf
  refine ik_iald C 2 rfl hg dX5_isGone_5 ?_
  refine ik_if_ge C 13 dX5_isGone_6 (by decide) (fun hc => ?_) (fun hc => ?_)
  · have hf := ik_pos hc hf
    refine ik_iconst (v := (0 : Int32)) C (by decide) dX5_isGone_13 ?_
    obtain rfl := Option.some.inj hf
    exact ik_zretR C hr (by decide) hlk dX5_isGone_14
  · have hf := ik_neg hc hf
    refine ik_iconst (v := (1 : Int32)) C (by decide) dX5_isGone_9 ?_
    refine ik_goto C 14 dX5_isGone_10 (by decide) ?_
    obtain rfl := Option.some.inj hf
    exact ik_zretR C hr (by decide) hlk dX5_isGone_14
theorem mv_X5_cellBit : ik_V yX5_cellBit RX5 cX5_cellBit 2 (some .long) 1 := ⟨wl_9_0, wl_9_1, wl_2_12, wl_9_2, by decide +kernel⟩
set_option maxHeartbeats 4000000 in
set_option maxRecDepth 100000 in
theorem c_X5_cellBit (l : Launch) (D : va_G) (cI cS : ClassId) (w0 w1 w2 w3 w4 : Nat) (nb : Int32) (kd : Nat → Int32) (cl : Nat → Int32) (gr : Nat → Int32) (oc : Nat → Int32) (x1 : Int32) (R : Int64) (hf : f_X5_cellBit cl x1 = some (R)) : Met l yX5_cellBit (ik_ws yX5_cellBit cX5_cellBit 2 (some .long)) ({ frames := 0, cells := 0, slots := 0, locals := 0 } : Room) (ik_P D cI cS [.ref w0, .int x1] (wz_X5 cI cS w0 w1 w2 w3 w4 nb kd cl gr oc)) (ik_R (some (.long R))) 0 0 ik_no := by
  refine ik_metR RX5 rfl (by decide) (Nat.le_of_ble_eq_true rfl) [(0, .ref w0), (1, .int x1)] rfl ?_
  intro p e s m below meth c C hr hlk
  unfold f_X5_cellBit at hf
  refine ik_aload_n C 0 rfl rfl dX5_cellBit_0 ?_
  refine ik_get C inlX5 0 rfl rfl 2 (by decide) wl_3_3 rfl (v := .ref w2) rfl dX5_cellBit_1 ?_
  refine ik_iload_n C 1 rfl rfl dX5_cellBit_4 ?_
  have hg := ik_gdi hf
  have hf := ik_gdk hf
  refine ik_iald C 2 rfl hg dX5_cellBit_5 ?_
  refine ik_if_ge C 13 dX5_cellBit_6 (by decide) (fun hc => ?_) (fun hc => ?_)
  · have hf := ik_pos hc hf
    refine ik_lconst (v := (1 : Int64)) C (by decide) dX5_cellBit_13 ?_
    refine ik_aload_n C 0 rfl rfl dX5_cellBit_14 ?_
    refine ik_get C inlX5 0 rfl rfl 2 (by decide) wl_3_3 rfl (v := .ref w2) rfl dX5_cellBit_15 ?_
    refine ik_iload_n C 1 rfl rfl dX5_cellBit_18 ?_
    have hg := ik_gdi hf
    have hf := ik_gdk hf
    refine ik_iald C 2 rfl hg dX5_cellBit_19 ?_
    refine ik_lshl C dX5_cellBit_20 ?_
    obtain rfl := Option.some.inj hf
    exact ik_lretR C hr hlk dX5_cellBit_21
  · have hf := ik_neg hc hf
    refine ik_lconst (v := (0 : Int64)) C (by decide) dX5_cellBit_9 ?_
    refine ik_goto C 21 dX5_cellBit_10 (by decide) ?_
    obtain rfl := Option.some.inj hf
    exact ik_lretR C hr hlk dX5_cellBit_21
theorem mv_X5_thicken : ik_V yX5_thicken RX5 cX5_thicken 4 (some .int) 2 := ⟨wl_14_2, wl_14_3, wl_2_12, wl_14_4, by decide +kernel⟩
set_option maxHeartbeats 4000000 in
set_option maxRecDepth 100000 in
theorem c_X5_thicken (l : Launch) (D : va_G) (cI cS : ClassId) (w0 w1 w2 w3 w4 : Nat) (nb : Int32) (kd : Nat → Int32) (cl : Nat → Int32) (gr : Nat → Int32) (oc : Nat → Int32) (x1 : Int32) (x2 : Int32) (R : Int32) (gr_r : Nat → Int32) (hf : f_X5_thicken gr x1 x2 = some (R, gr_r)) : Met l yX5_thicken (ik_ws yX5_thicken cX5_thicken 4 (some .int)) ({ frames := 1, cells := 0, slots := 0, locals := 21 } : Room) (ik_P D cI cS [.ref w0, .int x1, .int x2] (wz_X5 cI cS w0 w1 w2 w3 w4 nb kd cl gr oc)) (ik_Q (some (.int R)) D (wz_X5 cI cS w0 w1 w2 w3 w4 nb kd cl gr_r oc) (wz_X5 cI cS w0 w1 w2 w3 w4 nb kd cl gr oc)) 0 0 (ik_in (wz_X5 cI cS w0 w1 w2 w3 w4 nb kd cl gr oc)) := by
  refine ik_metW RX5 rfl (by decide) (Nat.le_of_ble_eq_true rfl) [(0, .ref w0), (1, .int x1), (2, .int x2)] rfl ?_
  intro p e s m below meth c C hr hlk
  unfold f_X5_thicken at hf
  refine ik_iload_n C 2 rfl rfl dX5_thicken_0 ?_
  refine ik_bipush (v := (99 : Int32)) C (by decide) dX5_thicken_1 ?_
  refine ik_aload_n C 0 rfl rfl dX5_thicken_3 ?_
  refine ik_get C inlX5 0 rfl rfl 3 (by decide) wl_3_4 rfl (v := .ref w3) rfl dX5_thicken_4 ?_
  refine ik_iload_n C 1 rfl rfl dX5_thicken_7 ?_
  have hg := ik_gdi hf
  have hf := ik_gdk hf
  refine ik_iald C 3 rfl hg dX5_thicken_8 ?_
  refine ik_isub C dX5_thicken_9 ?_
  refine ik_mmin C wl_14_5 wl_14_6 wl_13_23 wl_14_7 (Nat.le_of_ble_eq_true rfl) (Nat.le_of_ble_eq_true rfl) dX5_thicken_10 ?_
  refine ik_istore_n C [(3, .int (ik_min x2 ((99 : Int32) - (gr (x1).toNatClampNeg)))), (0, .ref w0), (1, .int x1), (2, .int x2)] rfl (by decide) rfl dX5_thicken_13 ?_
  refine ik_aload_n C 1 rfl rfl dX5_thicken_14 ?_
  refine ik_get C inlX5 0 rfl rfl 3 (by decide) wl_3_4 rfl (v := .ref w3) rfl dX5_thicken_15 ?_
  refine ik_iload_n C 2 rfl rfl dX5_thicken_18 ?_
  refine ik_dup2 C rfl rfl dX5_thicken_19 ?_
  have hg := ik_gdi hf
  have hf := ik_gdk hf
  refine ik_iald C 3 rfl hg dX5_thicken_20 ?_
  refine ik_iload_n C 0 rfl rfl dX5_thicken_21 ?_
  refine ik_iadd C dX5_thicken_22 ?_
  have hg := ik_gdi hf
  have hf := ik_gdk hf
  refine ik_iast C 3 rfl hg (wz_X5 cI cS w0 w1 w2 w3 w4 nb kd cl (upd gr (x1).toNatClampNeg ((gr (x1).toNatClampNeg) + (ik_min x2 ((99 : Int32) - (gr (x1).toNatClampNeg))))) oc) rfl dX5_thicken_23 ?_
  refine ik_iload_n C 0 rfl rfl dX5_thicken_24 ?_
  obtain ⟨rfl, rfl⟩ := ik_e2 hf
  exact ik_iretW C hr hlk dX5_thicken_25
theorem mv_X5_allGrains : ik_V yX5_allGrains RX5 cX5_allGrains 3 (some .int) 0 := ⟨wl_24_9, wl_24_10, wl_2_12, wl_24_11, by decide +kernel⟩
set_option maxHeartbeats 4000000 in
set_option maxRecDepth 100000 in
theorem c_X5_allGrains (l : Launch) (D : va_G) (cI cS : ClassId) (w0 w1 w2 w3 w4 : Nat) (nb : Int32) (kd : Nat → Int32) (cl : Nat → Int32) (gr : Nat → Int32) (oc : Nat → Int32) (R : Int32) (hf : f_X5_allGrains nb gr = some (R)) : Met l yX5_allGrains (ik_ws yX5_allGrains cX5_allGrains 3 (some .int)) ({ frames := 0, cells := 0, slots := 0, locals := 0 } : Room) (ik_P D cI cS [.ref w0] (wz_X5 cI cS w0 w1 w2 w3 w4 nb kd cl gr oc)) (ik_R (some (.int R))) 0 0 ik_no := by
  refine ik_metR RX5 rfl (by decide) (Nat.le_of_ble_eq_true rfl) [(0, .ref w0)] rfl ?_
  intro p e s m below meth c C hr hlk
  unfold f_X5_allGrains at hf
  refine ik_iconst (v := (0 : Int32)) C (by decide) dX5_allGrains_0 ?_
  refine ik_istore_n C [(1, .int (0 : Int32)), (0, .ref w0)] rfl (by decide) rfl dX5_allGrains_1 ?_
  refine ik_iconst (v := (0 : Int32)) C (by decide) dX5_allGrains_2 ?_
  refine ik_istore_n C [(2, .int (0 : Int32)), (1, .int (0 : Int32)), (0, .ref w0)] rfl (by decide) rfl dX5_allGrains_3 ?_
  have hL_4 : ∀ (n_4 : Nat) (x1_4 : Int32) (x2_4 : Int32), ik_lp2 (b_X5_allGrains_4 nb gr) n_4 x1_4 x2_4 = some (R) → ik_G p l e ({ frames := 0, cells := 0, slots := 0, locals := 0 } : Room) s m ([.ref w0] : List Value).toArray below meth c D ik_no (fun _ => True) 3 0 0 (MQ below (ik_R (some (.int R))) ([.ref w0] : List Value).toArray s 0 0 ik_no) 4 [(2, .int x2_4), (1, .int x1_4), (0, .ref w0)] [] (wz_X5 cI cS w0 w1 w2 w3 w4 nb kd cl gr oc) := by
    intro n_4
    induction n_4 with
    | zero => intro _ _ hf; exact nomatch hf
    | succ n_4 ih_4 =>
      intro x1_4 x2_4 hf
      replace hf : b_X5_allGrains_4 nb gr (ik_lp2 (b_X5_allGrains_4 nb gr) n_4) x1_4 x2_4 = some (R) := hf
      unfold b_X5_allGrains_4 at hf
      refine ik_iload_n C 0 rfl rfl dX5_allGrains_4 ?_
      refine ik_aload_n C 2 rfl rfl dX5_allGrains_5 ?_
      refine ik_get C inlX5 0 rfl rfl 0 (by decide) wl_6_0 rfl (v := .int nb) rfl dX5_allGrains_6 ?_
      refine ik_icmp_ge C 27 dX5_allGrains_9 (by decide) (fun hc => ?_) (fun hc => ?_)
      · have hf := ik_pos hc hf
        refine ik_iload_n C 1 rfl rfl dX5_allGrains_27 ?_
        obtain rfl := Option.some.inj hf
        exact ik_iretR C hr hlk dX5_allGrains_28
      · have hf := ik_neg hc hf
        refine ik_iload_n C 1 rfl rfl dX5_allGrains_12 ?_
        refine ik_aload_n C 2 rfl rfl dX5_allGrains_13 ?_
        refine ik_get C inlX5 0 rfl rfl 3 (by decide) wl_3_4 rfl (v := .ref w3) rfl dX5_allGrains_14 ?_
        refine ik_iload_n C 0 rfl rfl dX5_allGrains_17 ?_
        have hg := ik_gdi hf
        have hf := ik_gdk hf
        refine ik_iald C 3 rfl hg dX5_allGrains_18 ?_
        refine ik_iadd C dX5_allGrains_19 ?_
        refine ik_istore_n C [(1, .int (x1_4 + (gr (x2_4).toNatClampNeg))), (2, .int x2_4), (0, .ref w0)] rfl (by decide) rfl dX5_allGrains_20 ?_
        refine ik_iinc C [(2, .int (x2_4 + (1 : Int32))), (1, .int (x1_4 + (gr (x2_4).toNatClampNeg))), (0, .ref w0)] 1 rfl rfl (by decide) rfl dX5_allGrains_21 ?_
        refine ik_goto C 4 dX5_allGrains_24 (by decide) ?_
        exact ik_sub [0, 1, 2] [(2, .int (x2_4 + (1 : Int32))), (1, .int (x1_4 + (gr (x2_4).toNatClampNeg))), (0, .ref w0)] rfl (ih_4 (x1_4 + (gr (x2_4).toNatClampNeg)) (x2_4 + (1 : Int32)) hf)
  exact hL_4 ik_fu (0 : Int32) (0 : Int32) hf
theorem mv_X5_goneSet : ik_V yX5_goneSet RX5 cX5_goneSet 3 (some .int) 0 := ⟨wl_24_13, wl_24_14, wl_2_12, wl_24_15, by decide +kernel⟩
set_option maxHeartbeats 4000000 in
set_option maxRecDepth 100000 in
theorem c_X5_goneSet (l : Launch) (D : va_G) (cI cS : ClassId) (w0 w1 w2 w3 w4 : Nat) (nb : Int32) (kd : Nat → Int32) (cl : Nat → Int32) (gr : Nat → Int32) (oc : Nat → Int32) (R : Int32) (hf : f_X5_goneSet nb cl = some (R)) : Met l yX5_goneSet (ik_ws yX5_goneSet cX5_goneSet 3 (some .int)) ({ frames := 1, cells := 0, slots := 0, locals := 21 } : Room) (ik_P D cI cS [.ref w0] (wz_X5 cI cS w0 w1 w2 w3 w4 nb kd cl gr oc)) (ik_R (some (.int R))) 0 0 ik_no := by
  refine ik_metR RX5 rfl (by decide) (Nat.le_of_ble_eq_true rfl) [(0, .ref w0)] rfl ?_
  intro p e s m below meth c C hr hlk
  unfold f_X5_goneSet at hf
  refine ik_iconst (v := (0 : Int32)) C (by decide) dX5_goneSet_0 ?_
  refine ik_istore_n C [(1, .int (0 : Int32)), (0, .ref w0)] rfl (by decide) rfl dX5_goneSet_1 ?_
  refine ik_iconst (v := (0 : Int32)) C (by decide) dX5_goneSet_2 ?_
  refine ik_istore_n C [(2, .int (0 : Int32)), (1, .int (0 : Int32)), (0, .ref w0)] rfl (by decide) rfl dX5_goneSet_3 ?_
  have hL_4 : ∀ (n_4 : Nat) (x1_4 : Int32) (x2_4 : Int32), ik_lp2 (b_X5_goneSet_4 nb cl) n_4 x1_4 x2_4 = some (R) → ik_G p l e ({ frames := 1, cells := 0, slots := 0, locals := 21 } : Room) s m ([.ref w0] : List Value).toArray below meth c D ik_no (fun _ => True) 3 0 0 (MQ below (ik_R (some (.int R))) ([.ref w0] : List Value).toArray s 0 0 ik_no) 4 [(2, .int x2_4), (1, .int x1_4), (0, .ref w0)] [] (wz_X5 cI cS w0 w1 w2 w3 w4 nb kd cl gr oc) := by
    intro n_4
    induction n_4 with
    | zero => intro _ _ hf; exact nomatch hf
    | succ n_4 ih_4 =>
      intro x1_4 x2_4 hf
      replace hf : b_X5_goneSet_4 nb cl (ik_lp2 (b_X5_goneSet_4 nb cl) n_4) x1_4 x2_4 = some (R) := hf
      unfold b_X5_goneSet_4 at hf
      refine ik_iload_n C 0 rfl rfl dX5_goneSet_4 ?_
      refine ik_aload_n C 2 rfl rfl dX5_goneSet_5 ?_
      refine ik_get C inlX5 0 rfl rfl 0 (by decide) wl_6_0 rfl (v := .int nb) rfl dX5_goneSet_6 ?_
      refine ik_icmp_ge C 32 dX5_goneSet_9 (by decide) (fun hc => ?_) (fun hc => ?_)
      · have hf := ik_pos hc hf
        refine ik_iload_n C 1 rfl rfl dX5_goneSet_32 ?_
        obtain rfl := Option.some.inj hf
        exact ik_iretR C hr hlk dX5_goneSet_33
      · have hf := ik_neg hc hf
        refine ik_aload_n C 2 rfl rfl dX5_goneSet_12 ?_
        refine ik_iload_n C 0 rfl rfl dX5_goneSet_13 ?_
        obtain ⟨r1, hc1, hf⟩ := ik_b1s hf
        have hM := (c_X5_isGone l D cI cS w0 w1 w2 w3 w4 nb kd cl gr oc x2_4 r1 hc1)
        refine ik_goR (ik_runV (st := []) (As := [.int x2_4]) C hM mv_X5_isGone wl_9_8 ⟨rfl, rfl, Nat.le_of_ble_eq_true rfl, Nat.le_of_ble_eq_true rfl⟩ [0, 1, 2, 3, 4] rfl (by decide +kernel) 0 rfl rfl rfl rfl (Nat.le_of_ble_eq_true rfl) dX5_goneSet_14 ⟨Nat.zero_le _, Nat.zero_le _⟩) rfl ?_
        refine ik_if_eq C 26 dX5_goneSet_17 (by decide) (fun hc => ?_) (fun hc => ?_)
        · have hf := ik_pos hc hf
          refine ik_iinc C [(2, .int (x2_4 + (1 : Int32))), (1, .int x1_4), (0, .ref w0)] 0 rfl rfl (by decide) rfl dX5_goneSet_26 ?_
          refine ik_goto C 4 dX5_goneSet_29 (by decide) ?_
          exact ik_sub [0, 1, 2] [(2, .int (x2_4 + (1 : Int32))), (1, .int x1_4), (0, .ref w0)] rfl (ih_4 x1_4 (x2_4 + (1 : Int32)) hf)
        · have hf := ik_neg hc hf
          refine ik_iload_n C 1 rfl rfl dX5_goneSet_20 ?_
          refine ik_iconst (v := (1 : Int32)) C (by decide) dX5_goneSet_21 ?_
          refine ik_iload_n C 0 rfl rfl dX5_goneSet_22 ?_
          refine ik_ishl C dX5_goneSet_23 ?_
          refine ik_ior C dX5_goneSet_24 ?_
          refine ik_istore_n C [(1, .int (x1_4 ||| ((1 : Int32) <<< (x2_4 &&& 31)))), (2, .int x2_4), (0, .ref w0)] rfl (by decide) rfl dX5_goneSet_25 ?_
          refine ik_iinc C [(2, .int (x2_4 + (1 : Int32))), (1, .int (x1_4 ||| ((1 : Int32) <<< (x2_4 &&& 31)))), (0, .ref w0)] 1 rfl rfl (by decide) rfl dX5_goneSet_26 ?_
          refine ik_goto C 4 dX5_goneSet_29 (by decide) ?_
          exact ik_sub [0, 1, 2] [(2, .int (x2_4 + (1 : Int32))), (1, .int (x1_4 ||| ((1 : Int32) <<< (x2_4 &&& 31)))), (0, .ref w0)] rfl (ih_4 (x1_4 ||| ((1 : Int32) <<< (x2_4 &&& 31))) (x2_4 + (1 : Int32)) hf)
  exact hL_4 ik_fu (0 : Int32) (0 : Int32) hf
theorem mv_X5_occupied : ik_V yX5_occupied RX5 cX5_occupied 4 (some .long) 0 := ⟨wl_29_23, wl_30_0, wl_2_12, wl_30_1, by decide +kernel⟩
set_option maxHeartbeats 4000000 in
set_option maxRecDepth 100000 in
theorem c_X5_occupied (l : Launch) (D : va_G) (cI cS : ClassId) (w0 w1 w2 w3 w4 : Nat) (nb : Int32) (kd : Nat → Int32) (cl : Nat → Int32) (gr : Nat → Int32) (oc : Nat → Int32) (R : Int64) (hf : f_X5_occupied nb cl = some (R)) : Met l yX5_occupied (ik_ws yX5_occupied cX5_occupied 4 (some .long)) ({ frames := 1, cells := 0, slots := 0, locals := 21 } : Room) (ik_P D cI cS [.ref w0] (wz_X5 cI cS w0 w1 w2 w3 w4 nb kd cl gr oc)) (ik_R (some (.long R))) 0 0 ik_no := by
  refine ik_metR RX5 rfl (by decide) (Nat.le_of_ble_eq_true rfl) [(0, .ref w0)] rfl ?_
  intro p e s m below meth c C hr hlk
  unfold f_X5_occupied at hf
  refine ik_lconst (v := (0 : Int64)) C (by decide) dX5_occupied_0 ?_
  refine ik_lstore_n C [(1, .long (0 : Int64)), (0, .ref w0)] rfl (by decide) rfl dX5_occupied_1 ?_
  refine ik_iconst (v := (0 : Int32)) C (by decide) dX5_occupied_2 ?_
  refine ik_istore_n C [(3, .int (0 : Int32)), (1, .long (0 : Int64)), (0, .ref w0)] rfl (by decide) rfl dX5_occupied_3 ?_
  have hL_4 : ∀ (n_4 : Nat) (x1_4 : Int64) (x3_4 : Int32), ik_lp2 (b_X5_occupied_4 nb cl) n_4 x1_4 x3_4 = some (R) → ik_G p l e ({ frames := 1, cells := 0, slots := 0, locals := 21 } : Room) s m ([.ref w0] : List Value).toArray below meth c D ik_no (fun _ => True) 4 0 0 (MQ below (ik_R (some (.long R))) ([.ref w0] : List Value).toArray s 0 0 ik_no) 4 [(3, .int x3_4), (1, .long x1_4), (0, .ref w0)] [] (wz_X5 cI cS w0 w1 w2 w3 w4 nb kd cl gr oc) := by
    intro n_4
    induction n_4 with
    | zero => intro _ _ hf; exact nomatch hf
    | succ n_4 ih_4 =>
      intro x1_4 x3_4 hf
      replace hf : b_X5_occupied_4 nb cl (ik_lp2 (b_X5_occupied_4 nb cl) n_4) x1_4 x3_4 = some (R) := hf
      unfold b_X5_occupied_4 at hf
      refine ik_iload_n C 0 rfl rfl dX5_occupied_4 ?_
      refine ik_aload_n C 2 rfl rfl dX5_occupied_5 ?_
      refine ik_get C inlX5 0 rfl rfl 0 (by decide) wl_6_0 rfl (v := .int nb) rfl dX5_occupied_6 ?_
      refine ik_icmp_ge C 26 dX5_occupied_9 (by decide) (fun hc => ?_) (fun hc => ?_)
      · have hf := ik_pos hc hf
        refine ik_lload_n C 1 rfl rfl dX5_occupied_26 ?_
        obtain rfl := Option.some.inj hf
        exact ik_lretR C hr hlk dX5_occupied_27
      · have hf := ik_neg hc hf
        refine ik_lload_n C 1 rfl rfl dX5_occupied_12 ?_
        refine ik_aload_n C 2 rfl rfl dX5_occupied_13 ?_
        refine ik_iload_n C 0 rfl rfl dX5_occupied_14 ?_
        obtain ⟨r1, hc1, hf⟩ := ik_b1s hf
        have hM := (c_X5_cellBit l D cI cS w0 w1 w2 w3 w4 nb kd cl gr oc x3_4 r1 hc1)
        refine ik_goR (ik_runV (st := [.long x1_4]) (As := [.int x3_4]) C hM mv_X5_cellBit wl_8_23 ⟨rfl, rfl, Nat.le_of_ble_eq_true rfl, Nat.le_of_ble_eq_true rfl⟩ [0, 1, 2, 3, 4] rfl (by decide +kernel) 0 rfl rfl rfl rfl (Nat.le_of_ble_eq_true rfl) dX5_occupied_15 ⟨Nat.zero_le _, Nat.zero_le _⟩) rfl ?_
        refine ik_lor C dX5_occupied_18 ?_
        refine ik_lstore_n C [(1, .long (x1_4 ||| r1)), (3, .int x3_4), (0, .ref w0)] rfl (by decide) rfl dX5_occupied_19 ?_
        refine ik_iinc C [(3, .int (x3_4 + (1 : Int32))), (1, .long (x1_4 ||| r1)), (0, .ref w0)] 1 rfl rfl (by decide) rfl dX5_occupied_20 ?_
        refine ik_goto C 4 dX5_occupied_23 (by decide) ?_
        exact ik_sub [0, 1, 2] [(3, .int (x3_4 + (1 : Int32))), (1, .long (x1_4 ||| r1)), (0, .ref w0)] rfl (ih_4 (x1_4 ||| r1) (x3_4 + (1 : Int32)) hf)
  exact hL_4 ik_fu (0 : Int64) (0 : Int32) hf
theorem mv_X5_standsBy : ik_V yX5_standsBy RX5 cX5_standsBy 8 (some .boolean) 2 := ⟨wl_8_20, wl_8_21, wl_2_12, wl_8_22, by decide +kernel⟩
set_option maxHeartbeats 4000000 in
set_option maxRecDepth 100000 in
theorem c_X5_standsBy (l : Launch) (D : va_G) (cI cS : ClassId) (w0 w1 w2 w3 w4 : Nat) (nb : Int32) (kd : Nat → Int32) (cl : Nat → Int32) (gr : Nat → Int32) (oc : Nat → Int32) (x1 : Int32) (y2 : Int64) (R : Int32) (hf : f_X5_standsBy kd cl x1 y2 = some (R)) : Met l yX5_standsBy (ik_ws yX5_standsBy cX5_standsBy 8 (some .boolean)) ({ frames := 0, cells := 0, slots := 0, locals := 0 } : Room) (ik_P D cI cS [.ref w0, .int x1, .long y2] (wz_X5 cI cS w0 w1 w2 w3 w4 nb kd cl gr oc)) (ik_R (some (.int R))) 0 0 ik_no := by
  refine ik_metR RX5 rfl (by decide) (Nat.le_of_ble_eq_true rfl) [(0, .ref w0), (1, .int x1), (2, .long y2)] rfl ?_
  intro p e s m below meth c C hr hlk
  unfold f_X5_standsBy at hf
  refine ik_aload_n C 0 rfl rfl dX5_standsBy_0 ?_
  refine ik_get C inlX5 0 rfl rfl 2 (by decide) wl_3_3 rfl (v := .ref w2) rfl dX5_standsBy_1 ?_
  refine ik_iload_n C 1 rfl rfl dX5_standsBy_4 ?_
  have hg := ik_gdi hf
  have hf := ik_gdk hf
  refine ik_iald C 2 rfl hg dX5_standsBy_5 ?_
  refine ik_istore C [(4, .int (cl (x1).toNatClampNeg)), (0, .ref w0), (1, .int x1), (2, .long y2)] (by decide) rfl dX5_standsBy_6 ?_
  refine ik_iload C 0 rfl dX5_standsBy_8 ?_
  refine ik_bipush (v := (8 : Int32)) C (by decide) dX5_standsBy_10 ?_
  refine ik_icmp_ge C 26 dX5_standsBy_12 (by decide) (fun hc => ?_) (fun hc => ?_)
  · have hf := ik_pos hc hf
    have hJ_45 : ∀ (v0_45 : Int32), j_X5_standsBy_45 kd cl x1 y2 v0_45 = some (R) → ik_G p l e ({ frames := 0, cells := 0, slots := 0, locals := 0 } : Room) s m ([.ref w0, .int x1, .long y2] : List Value).toArray below meth c D ik_no (fun _ => True) 8 0 0 (MQ below (ik_R (some (.int R))) ([.ref w0, .int x1, .long y2] : List Value).toArray s 0 0 ik_no) 45 [(4, .int (cl (x1).toNatClampNeg)), (0, .ref w0), (1, .int x1), (2, .long y2)] [.int v0_45] (wz_X5 cI cS w0 w1 w2 w3 w4 nb kd cl gr oc) := by
      intro v0_45 hf
      unfold j_X5_standsBy_45 at hf
      refine ik_istore C [(5, .int v0_45), (4, .int (cl (x1).toNatClampNeg)), (0, .ref w0), (1, .int x1), (2, .long y2)] (by decide) rfl dX5_standsBy_45 ?_
      have hJ_73 : ∀ (v0_73 : Int32), j_X5_standsBy_73 kd cl x1 y2 v0_45 v0_73 = some (R) → ik_G p l e ({ frames := 0, cells := 0, slots := 0, locals := 0 } : Room) s m ([.ref w0, .int x1, .long y2] : List Value).toArray below meth c D ik_no (fun _ => True) 8 0 0 (MQ below (ik_R (some (.int R))) ([.ref w0, .int x1, .long y2] : List Value).toArray s 0 0 ik_no) 73 [(5, .int v0_45), (4, .int (cl (x1).toNatClampNeg)), (0, .ref w0), (1, .int x1), (2, .long y2)] [.int v0_73] (wz_X5 cI cS w0 w1 w2 w3 w4 nb kd cl gr oc) := by
        intro v0_73 hf
        unfold j_X5_standsBy_73 at hf
        refine ik_istore C [(6, .int v0_73), (5, .int v0_45), (4, .int (cl (x1).toNatClampNeg)), (0, .ref w0), (1, .int x1), (2, .long y2)] (by decide) rfl dX5_standsBy_73 ?_
        have hJ_103 : ∀ (v0_103 : Int32), j_X5_standsBy_103 kd cl x1 y2 v0_45 v0_73 v0_103 = some (R) → ik_G p l e ({ frames := 0, cells := 0, slots := 0, locals := 0 } : Room) s m ([.ref w0, .int x1, .long y2] : List Value).toArray below meth c D ik_no (fun _ => True) 8 0 0 (MQ below (ik_R (some (.int R))) ([.ref w0, .int x1, .long y2] : List Value).toArray s 0 0 ik_no) 103 [(6, .int v0_73), (5, .int v0_45), (4, .int (cl (x1).toNatClampNeg)), (0, .ref w0), (1, .int x1), (2, .long y2)] [.int v0_103] (wz_X5 cI cS w0 w1 w2 w3 w4 nb kd cl gr oc) := by
          intro v0_103 hf
          unfold j_X5_standsBy_103 at hf
          refine ik_istore C [(7, .int v0_103), (6, .int v0_73), (5, .int v0_45), (4, .int (cl (x1).toNatClampNeg)), (0, .ref w0), (1, .int x1), (2, .long y2)] (by decide) rfl dX5_standsBy_103 ?_
          refine ik_aload_n C 4 rfl rfl dX5_standsBy_105 ?_
          refine ik_get C inlX5 0 rfl rfl 1 (by decide) wl_3_2 rfl (v := .ref w1) rfl dX5_standsBy_106 ?_
          refine ik_iload_n C 5 rfl rfl dX5_standsBy_109 ?_
          have hg := ik_gdi hf
          have hf := ik_gdk hf
          refine ik_iald C 1 rfl hg dX5_standsBy_110 ?_
          by_cases hn1 : (kd (x1).toNatClampNeg) = (1 : Int32)
          · have hf := ik_pos hn1 hf
            refine ik_tcase C (1 : Int32) hn1 148 dX5_standsBy_111 (by decide) (by decide) rfl (by decide) ?_
            refine ik_iload C 2 rfl dX5_standsBy_148 ?_
            refine ik_if_ne C 163 dX5_standsBy_150 (by decide) (fun hc => ?_) (fun hc => ?_)
            · have hf := ik_neg hc hf
              refine ik_iconst (v := (1 : Int32)) C (by decide) dX5_standsBy_163 ?_
              refine ik_goto C 168 dX5_standsBy_164 (by decide) ?_
              obtain rfl := Option.some.inj hf
              exact ik_zretR C hr (by decide) hlk dX5_standsBy_168
            · have hf := ik_pos hc hf
              refine ik_iload C 1 rfl dX5_standsBy_153 ?_
              refine ik_if_eq C 167 dX5_standsBy_155 (by decide) (fun hc => ?_) (fun hc => ?_)
              · have hf := ik_pos hc hf
                refine ik_iconst (v := (0 : Int32)) C (by decide) dX5_standsBy_167 ?_
                obtain rfl := Option.some.inj hf
                exact ik_zretR C hr (by decide) hlk dX5_standsBy_168
              · have hf := ik_neg hc hf
                refine ik_iload C 0 rfl dX5_standsBy_158 ?_
                refine ik_if_eq C 167 dX5_standsBy_160 (by decide) (fun hc => ?_) (fun hc => ?_)
                · have hf := ik_pos hc hf
                  refine ik_iconst (v := (0 : Int32)) C (by decide) dX5_standsBy_167 ?_
                  obtain rfl := Option.some.inj hf
                  exact ik_zretR C hr (by decide) hlk dX5_standsBy_168
                · have hf := ik_neg hc hf
                  refine ik_iconst (v := (1 : Int32)) C (by decide) dX5_standsBy_163 ?_
                  refine ik_goto C 168 dX5_standsBy_164 (by decide) ?_
                  obtain rfl := Option.some.inj hf
                  exact ik_zretR C hr (by decide) hlk dX5_standsBy_168
          · have hf := ik_neg hn1 hf
            by_cases hn2 : (kd (x1).toNatClampNeg) = (2 : Int32)
            · have hf := ik_pos hn2 hf
              refine ik_tcase C (2 : Int32) hn2 169 dX5_standsBy_111 (by decide) (by decide) rfl (by decide) ?_
              refine ik_iload C 2 rfl dX5_standsBy_169 ?_
              refine ik_if_ne C 184 dX5_standsBy_171 (by decide) (fun hc => ?_) (fun hc => ?_)
              · have hf := ik_neg hc hf
                refine ik_iconst (v := (1 : Int32)) C (by decide) dX5_standsBy_184 ?_
                refine ik_goto C 189 dX5_standsBy_185 (by decide) ?_
                obtain rfl := Option.some.inj hf
                exact ik_zretR C hr (by decide) hlk dX5_standsBy_189
              · have hf := ik_pos hc hf
                refine ik_iload C 1 rfl dX5_standsBy_174 ?_
                refine ik_if_ne C 184 dX5_standsBy_176 (by decide) (fun hc => ?_) (fun hc => ?_)
                · have hf := ik_neg hc hf
                  refine ik_iconst (v := (1 : Int32)) C (by decide) dX5_standsBy_184 ?_
                  refine ik_goto C 189 dX5_standsBy_185 (by decide) ?_
                  obtain rfl := Option.some.inj hf
                  exact ik_zretR C hr (by decide) hlk dX5_standsBy_189
                · have hf := ik_pos hc hf
                  refine ik_iload C 0 rfl dX5_standsBy_179 ?_
                  refine ik_if_eq C 188 dX5_standsBy_181 (by decide) (fun hc => ?_) (fun hc => ?_)
                  · have hf := ik_pos hc hf
                    refine ik_iconst (v := (0 : Int32)) C (by decide) dX5_standsBy_188 ?_
                    obtain rfl := Option.some.inj hf
                    exact ik_zretR C hr (by decide) hlk dX5_standsBy_189
                  · have hf := ik_neg hc hf
                    refine ik_iconst (v := (1 : Int32)) C (by decide) dX5_standsBy_184 ?_
                    refine ik_goto C 189 dX5_standsBy_185 (by decide) ?_
                    obtain rfl := Option.some.inj hf
                    exact ik_zretR C hr (by decide) hlk dX5_standsBy_189
            · have hf := ik_neg hn2 hf
              by_cases hn3 : (kd (x1).toNatClampNeg) = (3 : Int32)
              · have hf := ik_pos hn3 hf
                refine ik_tcase C (3 : Int32) hn3 148 dX5_standsBy_111 (by decide) (by decide) rfl (by decide) ?_
                refine ik_iload C 2 rfl dX5_standsBy_148 ?_
                refine ik_if_ne C 163 dX5_standsBy_150 (by decide) (fun hc => ?_) (fun hc => ?_)
                · have hf := ik_neg hc hf
                  refine ik_iconst (v := (1 : Int32)) C (by decide) dX5_standsBy_163 ?_
                  refine ik_goto C 168 dX5_standsBy_164 (by decide) ?_
                  obtain rfl := Option.some.inj hf
                  exact ik_zretR C hr (by decide) hlk dX5_standsBy_168
                · have hf := ik_pos hc hf
                  refine ik_iload C 1 rfl dX5_standsBy_153 ?_
                  refine ik_if_eq C 167 dX5_standsBy_155 (by decide) (fun hc => ?_) (fun hc => ?_)
                  · have hf := ik_pos hc hf
                    refine ik_iconst (v := (0 : Int32)) C (by decide) dX5_standsBy_167 ?_
                    obtain rfl := Option.some.inj hf
                    exact ik_zretR C hr (by decide) hlk dX5_standsBy_168
                  · have hf := ik_neg hc hf
                    refine ik_iload C 0 rfl dX5_standsBy_158 ?_
                    refine ik_if_eq C 167 dX5_standsBy_160 (by decide) (fun hc => ?_) (fun hc => ?_)
                    · have hf := ik_pos hc hf
                      refine ik_iconst (v := (0 : Int32)) C (by decide) dX5_standsBy_167 ?_
                      obtain rfl := Option.some.inj hf
                      exact ik_zretR C hr (by decide) hlk dX5_standsBy_168
                    · have hf := ik_neg hc hf
                      refine ik_iconst (v := (1 : Int32)) C (by decide) dX5_standsBy_163 ?_
                      refine ik_goto C 168 dX5_standsBy_164 (by decide) ?_
                      obtain rfl := Option.some.inj hf
                      exact ik_zretR C hr (by decide) hlk dX5_standsBy_168
              · have hf := ik_neg hn3 hf
                by_cases hn4 : (kd (x1).toNatClampNeg) = (4 : Int32)
                · have hf := ik_pos hn4 hf
                  refine ik_tcase C (4 : Int32) hn4 210 dX5_standsBy_111 (by decide) (by decide) rfl (by decide) ?_
                  refine ik_iload C 2 rfl dX5_standsBy_210 ?_
                  have hz := ik_gzi hf
                  have hf := ik_gzk hf
                  obtain rfl := Option.some.inj hf
                  exact ik_zretR C hr hz.1 hlk dX5_standsBy_212
                · have hf := ik_neg hn4 hf
                  by_cases hn5 : (kd (x1).toNatClampNeg) = (5 : Int32)
                  · have hf := ik_pos hn5 hf
                    refine ik_tcase C (5 : Int32) hn5 169 dX5_standsBy_111 (by decide) (by decide) rfl (by decide) ?_
                    refine ik_iload C 2 rfl dX5_standsBy_169 ?_
                    refine ik_if_ne C 184 dX5_standsBy_171 (by decide) (fun hc => ?_) (fun hc => ?_)
                    · have hf := ik_neg hc hf
                      refine ik_iconst (v := (1 : Int32)) C (by decide) dX5_standsBy_184 ?_
                      refine ik_goto C 189 dX5_standsBy_185 (by decide) ?_
                      obtain rfl := Option.some.inj hf
                      exact ik_zretR C hr (by decide) hlk dX5_standsBy_189
                    · have hf := ik_pos hc hf
                      refine ik_iload C 1 rfl dX5_standsBy_174 ?_
                      refine ik_if_ne C 184 dX5_standsBy_176 (by decide) (fun hc => ?_) (fun hc => ?_)
                      · have hf := ik_neg hc hf
                        refine ik_iconst (v := (1 : Int32)) C (by decide) dX5_standsBy_184 ?_
                        refine ik_goto C 189 dX5_standsBy_185 (by decide) ?_
                        obtain rfl := Option.some.inj hf
                        exact ik_zretR C hr (by decide) hlk dX5_standsBy_189
                      · have hf := ik_pos hc hf
                        refine ik_iload C 0 rfl dX5_standsBy_179 ?_
                        refine ik_if_eq C 188 dX5_standsBy_181 (by decide) (fun hc => ?_) (fun hc => ?_)
                        · have hf := ik_pos hc hf
                          refine ik_iconst (v := (0 : Int32)) C (by decide) dX5_standsBy_188 ?_
                          obtain rfl := Option.some.inj hf
                          exact ik_zretR C hr (by decide) hlk dX5_standsBy_189
                        · have hf := ik_neg hc hf
                          refine ik_iconst (v := (1 : Int32)) C (by decide) dX5_standsBy_184 ?_
                          refine ik_goto C 189 dX5_standsBy_185 (by decide) ?_
                          obtain rfl := Option.some.inj hf
                          exact ik_zretR C hr (by decide) hlk dX5_standsBy_189
                  · have hf := ik_neg hn5 hf
                    by_cases hn6 : (kd (x1).toNatClampNeg) = (6 : Int32)
                    · have hf := ik_pos hn6 hf
                      refine ik_tcase C (6 : Int32) hn6 190 dX5_standsBy_111 (by decide) (by decide) rfl (by decide) ?_
                      refine ik_lload_n C 6 rfl rfl dX5_standsBy_190 ?_
                      refine ik_iload C 3 rfl dX5_standsBy_191 ?_
                      refine ik_bipush (v := (8 : Int32)) C (by decide) dX5_standsBy_193 ?_
                      refine ik_iadd C dX5_standsBy_195 ?_
                      refine ik_lushr C dX5_standsBy_196 ?_
                      refine ik_lconst (v := (1 : Int64)) C (by decide) dX5_standsBy_197 ?_
                      refine ik_land C dX5_standsBy_198 ?_
                      refine ik_lconst (v := (0 : Int64)) C (by decide) dX5_standsBy_199 ?_
                      refine ik_lcmp C dX5_standsBy_200 ?_
                      refine ik_if_eq C 208 dX5_standsBy_201 (by decide) (fun hc => ?_) (fun hc => ?_)
                      · have hf := ik_pos hc hf
                        refine ik_iconst (v := (0 : Int32)) C (by decide) dX5_standsBy_208 ?_
                        obtain rfl := Option.some.inj hf
                        exact ik_zretR C hr (by decide) hlk dX5_standsBy_209
                      · have hf := ik_neg hc hf
                        refine ik_iconst (v := (1 : Int32)) C (by decide) dX5_standsBy_204 ?_
                        refine ik_goto C 209 dX5_standsBy_205 (by decide) ?_
                        obtain rfl := Option.some.inj hf
                        exact ik_zretR C hr (by decide) hlk dX5_standsBy_209
                    · have hf := ik_neg hn6 hf
                      refine ik_tout C 210 dX5_standsBy_111 (by have ehn1 : ((kd (x1).toNatClampNeg)).toInt ≠ 1 := fun h => hn1 (Int32.toInt_inj.mp h); have ehn2 : ((kd (x1).toNatClampNeg)).toInt ≠ 2 := fun h => hn2 (Int32.toInt_inj.mp h); have ehn3 : ((kd (x1).toNatClampNeg)).toInt ≠ 3 := fun h => hn3 (Int32.toInt_inj.mp h); have ehn4 : ((kd (x1).toNatClampNeg)).toInt ≠ 4 := fun h => hn4 (Int32.toInt_inj.mp h); have ehn5 : ((kd (x1).toNatClampNeg)).toInt ≠ 5 := fun h => hn5 (Int32.toInt_inj.mp h); have ehn6 : ((kd (x1).toNatClampNeg)).toInt ≠ 6 := fun h => hn6 (Int32.toInt_inj.mp h); omega) (by decide) ?_
                      refine ik_iload C 2 rfl dX5_standsBy_210 ?_
                      have hz := ik_gzi hf
                      have hf := ik_gzk hf
                      obtain rfl := Option.some.inj hf
                      exact ik_zretR C hr hz.1 hlk dX5_standsBy_212
        refine ik_iload C 2 rfl dX5_standsBy_75 ?_
        refine ik_bipush (v := (8 : Int32)) C (by decide) dX5_standsBy_77 ?_
        refine ik_irem C (by decide) dX5_standsBy_79 ?_
        refine ik_bipush (v := (7 : Int32)) C (by decide) dX5_standsBy_80 ?_
        refine ik_icmp_ge C 102 dX5_standsBy_82 (by decide) (fun hc => ?_) (fun hc => ?_)
        · have hf := ik_pos hc hf
          refine ik_iconst (v := (0 : Int32)) C (by decide) dX5_standsBy_102 ?_
          exact ik_sub [0, 1, 2, 3, 4, 5] [(6, .int v0_73), (5, .int v0_45), (4, .int (cl (x1).toNatClampNeg)), (0, .ref w0), (1, .int x1), (2, .long y2)] rfl (hJ_103 (0 : Int32) hf)
        · have hf := ik_neg hc hf
          refine ik_lload_n C 5 rfl rfl dX5_standsBy_85 ?_
          refine ik_iload C 2 rfl dX5_standsBy_86 ?_
          refine ik_iconst (v := (1 : Int32)) C (by decide) dX5_standsBy_88 ?_
          refine ik_iadd C dX5_standsBy_89 ?_
          refine ik_lushr C dX5_standsBy_90 ?_
          refine ik_lconst (v := (1 : Int64)) C (by decide) dX5_standsBy_91 ?_
          refine ik_land C dX5_standsBy_92 ?_
          refine ik_lconst (v := (0 : Int64)) C (by decide) dX5_standsBy_93 ?_
          refine ik_lcmp C dX5_standsBy_94 ?_
          refine ik_if_eq C 102 dX5_standsBy_95 (by decide) (fun hc => ?_) (fun hc => ?_)
          · have hf := ik_pos hc hf
            refine ik_iconst (v := (0 : Int32)) C (by decide) dX5_standsBy_102 ?_
            exact ik_sub [0, 1, 2, 3, 4, 5] [(6, .int v0_73), (5, .int v0_45), (4, .int (cl (x1).toNatClampNeg)), (0, .ref w0), (1, .int x1), (2, .long y2)] rfl (hJ_103 (0 : Int32) hf)
          · have hf := ik_neg hc hf
            refine ik_iconst (v := (1 : Int32)) C (by decide) dX5_standsBy_98 ?_
            refine ik_goto C 103 dX5_standsBy_99 (by decide) ?_
            exact ik_sub [0, 1, 2, 3, 4, 5] [(6, .int v0_73), (5, .int v0_45), (4, .int (cl (x1).toNatClampNeg)), (0, .ref w0), (1, .int x1), (2, .long y2)] rfl (hJ_103 (1 : Int32) hf)
      refine ik_iload C 1 rfl dX5_standsBy_47 ?_
      refine ik_bipush (v := (8 : Int32)) C (by decide) dX5_standsBy_49 ?_
      refine ik_irem C (by decide) dX5_standsBy_51 ?_
      refine ik_if_le C 72 dX5_standsBy_52 (by decide) (fun hc => ?_) (fun hc => ?_)
      · have hf := ik_pos hc hf
        refine ik_iconst (v := (0 : Int32)) C (by decide) dX5_standsBy_72 ?_
        exact ik_sub [0, 1, 2, 3, 4] [(5, .int v0_45), (4, .int (cl (x1).toNatClampNeg)), (0, .ref w0), (1, .int x1), (2, .long y2)] rfl (hJ_73 (0 : Int32) hf)
      · have hf := ik_neg hc hf
        refine ik_lload_n C 4 rfl rfl dX5_standsBy_55 ?_
        refine ik_iload C 1 rfl dX5_standsBy_56 ?_
        refine ik_iconst (v := (1 : Int32)) C (by decide) dX5_standsBy_58 ?_
        refine ik_isub C dX5_standsBy_59 ?_
        refine ik_lushr C dX5_standsBy_60 ?_
        refine ik_lconst (v := (1 : Int64)) C (by decide) dX5_standsBy_61 ?_
        refine ik_land C dX5_standsBy_62 ?_
        refine ik_lconst (v := (0 : Int64)) C (by decide) dX5_standsBy_63 ?_
        refine ik_lcmp C dX5_standsBy_64 ?_
        refine ik_if_eq C 72 dX5_standsBy_65 (by decide) (fun hc => ?_) (fun hc => ?_)
        · have hf := ik_pos hc hf
          refine ik_iconst (v := (0 : Int32)) C (by decide) dX5_standsBy_72 ?_
          exact ik_sub [0, 1, 2, 3, 4] [(5, .int v0_45), (4, .int (cl (x1).toNatClampNeg)), (0, .ref w0), (1, .int x1), (2, .long y2)] rfl (hJ_73 (0 : Int32) hf)
        · have hf := ik_neg hc hf
          refine ik_iconst (v := (1 : Int32)) C (by decide) dX5_standsBy_68 ?_
          refine ik_goto C 73 dX5_standsBy_69 (by decide) ?_
          exact ik_sub [0, 1, 2, 3, 4] [(5, .int v0_45), (4, .int (cl (x1).toNatClampNeg)), (0, .ref w0), (1, .int x1), (2, .long y2)] rfl (hJ_73 (1 : Int32) hf)
    refine ik_lload_n C 3 rfl rfl dX5_standsBy_26 ?_
    refine ik_iload C 0 rfl dX5_standsBy_27 ?_
    refine ik_bipush (v := (8 : Int32)) C (by decide) dX5_standsBy_29 ?_
    refine ik_isub C dX5_standsBy_31 ?_
    refine ik_lushr C dX5_standsBy_32 ?_
    refine ik_lconst (v := (1 : Int64)) C (by decide) dX5_standsBy_33 ?_
    refine ik_land C dX5_standsBy_34 ?_
    refine ik_lconst (v := (0 : Int64)) C (by decide) dX5_standsBy_35 ?_
    refine ik_lcmp C dX5_standsBy_36 ?_
    refine ik_if_eq C 44 dX5_standsBy_37 (by decide) (fun hc => ?_) (fun hc => ?_)
    · have hf := ik_pos hc hf
      refine ik_iconst (v := (0 : Int32)) C (by decide) dX5_standsBy_44 ?_
      exact ik_sub [0, 1, 2, 3] [(4, .int (cl (x1).toNatClampNeg)), (0, .ref w0), (1, .int x1), (2, .long y2)] rfl (hJ_45 (0 : Int32) hf)
    · have hf := ik_neg hc hf
      refine ik_iconst (v := (1 : Int32)) C (by decide) dX5_standsBy_40 ?_
      refine ik_goto C 45 dX5_standsBy_41 (by decide) ?_
      exact ik_sub [0, 1, 2, 3] [(4, .int (cl (x1).toNatClampNeg)), (0, .ref w0), (1, .int x1), (2, .long y2)] rfl (hJ_45 (1 : Int32) hf)
  · have hf := ik_neg hc hf
    refine ik_iload C 0 rfl dX5_standsBy_15 ?_
    refine ik_if_lt C 24 dX5_standsBy_17 (by decide) (fun hc => ?_) (fun hc => ?_)
    · have hf := ik_pos hc hf
      refine ik_iconst (v := (0 : Int32)) C (by decide) dX5_standsBy_24 ?_
      obtain rfl := Option.some.inj hf
      exact ik_zretR C hr (by decide) hlk dX5_standsBy_25
    · have hf := ik_neg hc hf
      refine ik_iconst (v := (1 : Int32)) C (by decide) dX5_standsBy_20 ?_
      refine ik_goto C 25 dX5_standsBy_21 (by decide) ?_
      obtain rfl := Option.some.inj hf
      exact ik_zretR C hr (by decide) hlk dX5_standsBy_25
