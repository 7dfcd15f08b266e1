theorem mv_X0_copyFrom : ik_V yX0_copyFrom RX0 cX0_copyFrom 2 none 1 := ⟨wl_24_4, wl_24_5, wl_2_16, wl_24_6, by decide +kernel⟩
set_option maxHeartbeats 4000000 in
set_option maxRecDepth 100000 in
theorem c_X0_copyFrom (l : Launch) (D : va_G) (cI cS : ClassId) (c0 c1 c2 oc0 oc1 oc2 : Nat) (lit : Int32) (cold : Int32) (ccell : Nat → Int32) (cpow : Nat → Int32) (olit : Int32) (ocold : Int32) (occell : Nat → Int32) (ocpow : Nat → Int32) (lit_r : Int32) (cold_r : Int32) (ccell_r : Nat → Int32) (cpow_r : Nat → Int32) (hf : f_X0_copyFrom lit cold ccell cpow olit ocold occell ocpow = some (lit_r, cold_r, ccell_r, cpow_r)) : Met l yX0_copyFrom (ik_ws yX0_copyFrom cX0_copyFrom 2 none) ({ frames := 1, cells := 0, slots := 0, locals := 60 } : Room) (ik_P D cI cS [.ref c0, .ref oc0] (wz_X0d cI cS c0 c1 c2 oc0 oc1 oc2 lit cold ccell cpow olit ocold occell ocpow)) (ik_Q none D (wz_X0d cI cS c0 c1 c2 oc0 oc1 oc2 lit_r cold_r ccell_r cpow_r olit ocold occell ocpow) (wz_X0d cI cS c0 c1 c2 oc0 oc1 oc2 lit cold ccell cpow olit ocold occell ocpow)) 0 0 (ik_in (wz_X0d cI cS c0 c1 c2 oc0 oc1 oc2 lit cold ccell cpow olit ocold occell ocpow)) := by
  refine ik_metW RX0 rfl (by decide) (Nat.le_of_ble_eq_true rfl) [(0, .ref c0), (1, .ref oc0)] rfl ?_
  intro p e s m below meth c C hr hlk
  unfold f_X0_copyFrom at hf
  refine ik_aload_n C 1 rfl rfl dX0_copyFrom_0 ?_
  refine ik_get C inlX0 3 rfl rfl 0 (by decide) wl_3_13 rfl (v := .ref oc1) rfl dX0_copyFrom_1 ?_
  refine ik_iconst (v := (0 : Int32)) C (by decide) dX0_copyFrom_4 ?_
  refine ik_aload_n C 0 rfl rfl dX0_copyFrom_5 ?_
  refine ik_get C inlX0 0 rfl rfl 0 (by decide) wl_3_13 rfl (v := .ref c1) rfl dX0_copyFrom_6 ?_
  refine ik_iconst (v := (0 : Int32)) C (by decide) dX0_copyFrom_9 ?_
  refine ik_bipush (v := (6 : Int32)) C (by decide) dX0_copyFrom_10 ?_
  refine ik_copy C wl_24_7 wl_23_19 wl_23_20 wl_23_21 4 1 rfl rfl (ik_cpl (by decide)) (Nat.le_of_ble_eq_true rfl) (Nat.le_of_ble_eq_true rfl) (wz_X0d cI cS c0 c1 c2 oc0 oc1 oc2 lit cold (va_cpy occell ccell ((0 : Int32)).toNatClampNeg ((0 : Int32)).toNatClampNeg ((6 : Int32)).toNatClampNeg) cpow olit ocold occell ocpow) rfl dX0_copyFrom_12 ?_
  refine ik_aload_n C 1 rfl rfl dX0_copyFrom_15 ?_
  refine ik_get C inlX0 3 rfl rfl 1 (by decide) wl_3_14 rfl (v := .ref oc2) rfl dX0_copyFrom_16 ?_
  refine ik_iconst (v := (0 : Int32)) C (by decide) dX0_copyFrom_19 ?_
  refine ik_aload_n C 0 rfl rfl dX0_copyFrom_20 ?_
  refine ik_get C inlX0 0 rfl rfl 1 (by decide) wl_3_14 rfl (v := .ref c2) rfl dX0_copyFrom_21 ?_
  refine ik_iconst (v := (0 : Int32)) C (by decide) dX0_copyFrom_24 ?_
  refine ik_bipush (v := (6 : Int32)) C (by decide) dX0_copyFrom_25 ?_
  refine ik_copy C wl_24_7 wl_23_19 wl_23_20 wl_23_21 5 2 rfl rfl (ik_cpl (by decide)) (Nat.le_of_ble_eq_true rfl) (Nat.le_of_ble_eq_true rfl) (wz_X0d cI cS c0 c1 c2 oc0 oc1 oc2 lit cold (va_cpy occell ccell ((0 : Int32)).toNatClampNeg ((0 : Int32)).toNatClampNeg ((6 : Int32)).toNatClampNeg) (va_cpy ocpow cpow ((0 : Int32)).toNatClampNeg ((0 : Int32)).toNatClampNeg ((6 : Int32)).toNatClampNeg) olit ocold occell ocpow) rfl dX0_copyFrom_27 ?_
  refine ik_aload_n C 0 rfl rfl dX0_copyFrom_30 ?_
  refine ik_aload_n C 1 rfl rfl dX0_copyFrom_31 ?_
  refine ik_get C inlX0 3 rfl rfl 2 (by decide) wl_13_17 rfl (v := .int olit) rfl dX0_copyFrom_32 ?_
  refine ik_put C inlX0 tyX0 tyX0_ok nmX0 0 rfl rfl 2 (by decide) wl_13_17 rfl (by decide) rfl rfl (Nat.le_of_ble_eq_true rfl) (wz_X0d cI cS c0 c1 c2 oc0 oc1 oc2 olit cold (va_cpy occell ccell ((0 : Int32)).toNatClampNeg ((0 : Int32)).toNatClampNeg ((6 : Int32)).toNatClampNeg) (va_cpy ocpow cpow ((0 : Int32)).toNatClampNeg ((0 : Int32)).toNatClampNeg ((6 : Int32)).toNatClampNeg) olit ocold occell ocpow) rfl dX0_copyFrom_35 ?_
  refine ik_aload_n C 0 rfl rfl dX0_copyFrom_38 ?_
  refine ik_aload_n C 1 rfl rfl dX0_copyFrom_39 ?_
  refine ik_get C inlX0 3 rfl rfl 3 (by decide) wl_3_15 rfl (v := .int ocold) rfl dX0_copyFrom_40 ?_
  refine ik_put C inlX0 tyX0 tyX0_ok nmX0 0 rfl rfl 3 (by decide) wl_3_15 rfl (by decide) rfl rfl (Nat.le_of_ble_eq_true rfl) (wz_X0d cI cS c0 c1 c2 oc0 oc1 oc2 olit ocold (va_cpy occell ccell ((0 : Int32)).toNatClampNeg ((0 : Int32)).toNatClampNeg ((6 : Int32)).toNatClampNeg) (va_cpy ocpow cpow ((0 : Int32)).toNatClampNeg ((0 : Int32)).toNatClampNeg ((6 : Int32)).toNatClampNeg) olit ocold occell ocpow) rfl dX0_copyFrom_43 ?_
  cases hf
  exact ik_vretW C hr hlk dX0_copyFrom_46
theorem mv_X0_isLit : ik_V yX0_isLit RX0 cX0_isLit 2 (some .boolean) 1 := ⟨wl_13_14, wl_13_15, wl_2_16, wl_13_16, by decide +kernel⟩
set_option maxHeartbeats 4000000 in
set_option maxRecDepth 100000 in
theorem c_X0_isLit (l : Launch) (D : va_G) (cI cS : ClassId) (c0 c1 c2 : Nat) (lit : Int32) (cold : Int32) (ccell : Nat → Int32) (cpow : Nat → Int32) (x1 : Int32) (R : Int32) (hf : f_X0_isLit lit x1 = some (R)) : Met l yX0_isLit (ik_ws yX0_isLit cX0_isLit 2 (some .boolean)) ({ frames := 0, cells := 0, slots := 0, locals := 0 } : Room) (ik_P D cI cS [.ref c0, .int x1] (wz_X0 cI cS c0 c1 c2 lit cold ccell cpow)) (ik_R (some (.int R))) 0 0 ik_no := by
  refine ik_metR RX0 rfl (by decide) (Nat.le_of_ble_eq_true rfl) [(0, .ref c0), (1, .int x1)] rfl ?_
  intro p e s m below meth c C hr hlk
  unfold f_X0_isLit at hf
  refine ik_aload_n C 0 rfl rfl dX0_isLit_0 ?_
  refine ik_get C inlX0 0 rfl rfl 2 (by decide) wl_13_17 rfl (v := .int lit) rfl dX0_isLit_1 ?_
  refine ik_iload_n C 1 rfl rfl dX0_isLit_4 ?_
  refine ik_iushr C dX0_isLit_5 ?_
  refine ik_iconst (v := (1 : Int32)) C (by decide) dX0_isLit_6 ?_
  refine ik_iand C dX0_isLit_7 ?_
  refine ik_if_eq C 15 dX0_isLit_8 (by decide) (fun hc => ?_) (fun hc => ?_)
  · have hf := ik_pos hc hf
    refine ik_iconst (v := (0 : Int32)) C (by decide) dX0_isLit_15 ?_
    cases hf
    exact ik_zretR C hr (by decide) hlk dX0_isLit_16
  · have hf := ik_neg hc hf
    refine ik_iconst (v := (1 : Int32)) C (by decide) dX0_isLit_11 ?_
    refine ik_goto C 16 dX0_isLit_12 (by decide) ?_
    cases hf
    exact ik_zretR C hr (by decide) hlk dX0_isLit_16
theorem mv_X0_setLit : ik_V yX0_setLit RX0 cX0_setLit 4 none 2 := ⟨wl_16_3, wl_16_4, wl_2_16, wl_16_5, by decide +kernel⟩
set_option maxHeartbeats 4000000 in
set_option maxRecDepth 100000 in
theorem c_X0_setLit (l : Launch) (D : va_G) (cI cS : ClassId) (c0 c1 c2 : Nat) (lit : Int32) (cold : Int32) (ccell : Nat → Int32) (cpow : Nat → Int32) (x1 : Int32) (x2 : Int32) (lit_r : Int32) (hf : f_X0_setLit lit x1 x2 = some (lit_r)) : Met l yX0_setLit (ik_ws yX0_setLit cX0_setLit 4 none) ({ frames := 0, cells := 0, slots := 0, locals := 0 } : Room) (ik_P D cI cS [.ref c0, .int x1, .int x2] (wz_X0 cI cS c0 c1 c2 lit cold ccell cpow)) (ik_Q none D (wz_X0 cI cS c0 c1 c2 lit_r cold ccell cpow) (wz_X0 cI cS c0 c1 c2 lit cold ccell cpow)) 0 0 (ik_in (wz_X0 cI cS c0 c1 c2 lit cold ccell cpow)) := by
  refine ik_metW RX0 rfl (by decide) (Nat.le_of_ble_eq_true rfl) [(0, .ref c0), (1, .int x1), (2, .int x2)] rfl ?_
  intro p e s m below meth c C hr hlk
  unfold f_X0_setLit at hf
  refine ik_iconst (v := (1 : Int32)) C (by decide) dX0_setLit_0 ?_
  refine ik_iload_n C 1 rfl rfl dX0_setLit_1 ?_
  refine ik_ishl C dX0_setLit_2 ?_
  refine ik_istore_n C [(3, .int ((1 : Int32) <<< (x1 &&& 31))), (0, .ref c0), (1, .int x1), (2, .int x2)] rfl (by decide) rfl dX0_setLit_3 ?_
  refine ik_aload_n C 1 rfl rfl dX0_setLit_4 ?_
  refine ik_iload_n C 3 rfl rfl dX0_setLit_5 ?_
  refine ik_if_eq C 18 dX0_setLit_6 (by decide) (fun hc => ?_) (fun hc => ?_)
  · have hf := ik_pos hc hf
    refine ik_aload_n C 1 rfl rfl dX0_setLit_18 ?_
    refine ik_get C inlX0 0 rfl rfl 2 (by decide) wl_13_17 rfl (v := .int lit) rfl dX0_setLit_19 ?_
    refine ik_iload_n C 0 rfl rfl dX0_setLit_22 ?_
    refine ik_iconst (v := (-1 : Int32)) C (by decide) dX0_setLit_23 ?_
    refine ik_ixor C dX0_setLit_24 ?_
    refine ik_iand C dX0_setLit_25 ?_
    refine ik_put C inlX0 tyX0 tyX0_ok nmX0 0 rfl rfl 2 (by decide) wl_13_17 rfl (by decide) rfl rfl (Nat.le_of_ble_eq_true rfl) (wz_X0 cI cS c0 c1 c2 (lit &&& (((1 : Int32) <<< (x1 &&& 31)) ^^^ (-1 : Int32))) cold ccell cpow) rfl dX0_setLit_26 ?_
    cases hf
    exact ik_vretW C hr hlk dX0_setLit_29
  · have hf := ik_neg hc hf
    refine ik_aload_n C 1 rfl rfl dX0_setLit_9 ?_
    refine ik_get C inlX0 0 rfl rfl 2 (by decide) wl_13_17 rfl (v := .int lit) rfl dX0_setLit_10 ?_
    refine ik_iload_n C 0 rfl rfl dX0_setLit_13 ?_
    refine ik_ior C dX0_setLit_14 ?_
    refine ik_goto C 26 dX0_setLit_15 (by decide) ?_
    refine ik_put C inlX0 tyX0 tyX0_ok nmX0 0 rfl rfl 2 (by decide) wl_13_17 rfl (by decide) rfl rfl (Nat.le_of_ble_eq_true rfl) (wz_X0 cI cS c0 c1 c2 (lit ||| ((1 : Int32) <<< (x1 &&& 31))) cold ccell cpow) rfl dX0_setLit_26 ?_
    cases hf
    exact ik_vretW C hr hlk dX0_setLit_29
theorem mv_X0_lightOf : ik_V yX0_lightOf RX0 cX0_lightOf 4 (some .int) 1 := ⟨wl_17_11, wl_17_12, wl_2_16, wl_17_13, by decide +kernel⟩
set_option maxHeartbeats 4000000 in
set_option maxRecDepth 100000 in
theorem c_X0_lightOf (l : Launch) (D : va_G) (cI cS : ClassId) (c0 c1 c2 : Nat) (lit : Int32) (cold : Int32) (ccell : Nat → Int32) (cpow : Nat → Int32) (x1 : Int32) (R : Int32) (hf : f_X0_lightOf cpow x1 = some (R)) : Met l yX0_lightOf (ik_ws yX0_lightOf cX0_lightOf 4 (some .int)) ({ frames := 0, cells := 0, slots := 0, locals := 0 } : Room) (ik_P D cI cS [.ref c0, .int x1] (wz_X0 cI cS c0 c1 c2 lit cold ccell cpow)) (ik_R (some (.int R))) 0 0 ik_no := by
  refine ik_metR RX0 rfl (by decide) (Nat.le_of_ble_eq_true rfl) [(0, .ref c0), (1, .int x1)] rfl ?_
  intro p e s m below meth c C hr hlk
  unfold f_X0_lightOf at hf
  refine ik_iconst (v := (0 : Int32)) C (by decide) dX0_lightOf_0 ?_
  refine ik_istore_n C [(2, .int (0 : Int32)), (0, .ref c0), (1, .int x1)] rfl (by decide) rfl dX0_lightOf_1 ?_
  refine ik_iconst (v := (0 : Int32)) C (by decide) dX0_lightOf_2 ?_
  refine ik_istore_n C [(3, .int (0 : Int32)), (2, .int (0 : Int32)), (0, .ref c0), (1, .int x1)] rfl (by decide) rfl dX0_lightOf_3 ?_
  have hL_4 : ∀ (n_4 : Nat) (x2_4 : Int32) (x3_4 : Int32), ik_lp2 (b_X0_lightOf_4 cpow x1) n_4 x2_4 x3_4 = some (R) → ik_G p l e ({ frames := 0, cells := 0, slots := 0, locals := 0 } : Room) s m ([.ref c0, .int x1] : List Value).toArray below meth c D ik_no (fun _ => True) 4 (MQ below (ik_R (some (.int R))) ([.ref c0, .int x1] : List Value).toArray s 0 0 ik_no) 4 [(3, .int x3_4), (2, .int x2_4), (0, .ref c0), (1, .int x1)] [] (wz_X0 cI cS c0 c1 c2 lit cold ccell cpow) := by
    intro n_4
    induction n_4 with
    | zero => intro _ _ hf; exact nomatch hf
    | succ n_4 ih_4 =>
      intro x2_4 x3_4 hf
      replace hf : b_X0_lightOf_4 cpow x1 (ik_lp2 (b_X0_lightOf_4 cpow x1) n_4) x2_4 x3_4 = some (R) := hf
      unfold b_X0_lightOf_4 at hf
      refine ik_iload_n C 0 rfl rfl dX0_lightOf_4 ?_
      refine ik_bipush (v := (6 : Int32)) C (by decide) dX0_lightOf_5 ?_
      refine ik_icmp_ge C 33 dX0_lightOf_7 (by decide) (fun hc => ?_) (fun hc => ?_)
      · have hf := ik_pos hc hf
        refine ik_iload_n C 1 rfl rfl dX0_lightOf_33 ?_
        cases hf
        exact ik_iretR C hr hlk dX0_lightOf_34
      · have hf := ik_neg hc hf
        refine ik_iload_n C 3 rfl rfl dX0_lightOf_10 ?_
        refine ik_iload_n C 0 rfl rfl dX0_lightOf_11 ?_
        refine ik_iushr C dX0_lightOf_12 ?_
        refine ik_iconst (v := (1 : Int32)) C (by decide) dX0_lightOf_13 ?_
        refine ik_iand C dX0_lightOf_14 ?_
        refine ik_if_eq C 27 dX0_lightOf_15 (by decide) (fun hc => ?_) (fun hc => ?_)
        · have hf := ik_pos hc hf
          refine ik_iinc C [(3, .int (x3_4 + (1 : Int32))), (2, .int x2_4), (0, .ref c0), (1, .int x1)] 0 rfl rfl (by decide) rfl dX0_lightOf_27 ?_
          refine ik_goto C 4 dX0_lightOf_30 (by decide) ?_
          exact ik_sub [0, 1, 2, 3] [(3, .int (x3_4 + (1 : Int32))), (2, .int x2_4), (0, .ref c0), (1, .int x1)] rfl (ih_4 x2_4 (x3_4 + (1 : Int32)) hf)
        · have hf := ik_neg hc hf
          refine ik_iload_n C 1 rfl rfl dX0_lightOf_18 ?_
          refine ik_aload_n C 2 rfl rfl dX0_lightOf_19 ?_
          refine ik_get C inlX0 0 rfl rfl 1 (by decide) wl_3_14 rfl (v := .ref c2) rfl dX0_lightOf_20 ?_
          refine ik_iload_n C 0 rfl rfl dX0_lightOf_23 ?_
          have hg := ik_gdi hf
          have hf := ik_gdk hf
          refine ik_iald C 2 rfl hg dX0_lightOf_24 ?_
          refine ik_iadd C dX0_lightOf_25 ?_
          refine ik_istore_n C [(2, .int (x2_4 + (cpow (x3_4).toNatClampNeg))), (3, .int x3_4), (0, .ref c0), (1, .int x1)] rfl (by decide) rfl dX0_lightOf_26 ?_
          refine ik_iinc C [(3, .int (x3_4 + (1 : Int32))), (2, .int (x2_4 + (cpow (x3_4).toNatClampNeg))), (0, .ref c0), (1, .int x1)] 1 rfl rfl (by decide) rfl dX0_lightOf_27 ?_
          refine ik_goto C 4 dX0_lightOf_30 (by decide) ?_
          exact ik_sub [0, 1, 2, 3] [(3, .int (x3_4 + (1 : Int32))), (2, .int (x2_4 + (cpow (x3_4).toNatClampNeg))), (0, .ref c0), (1, .int x1)] rfl (ih_4 (x2_4 + (cpow (x3_4).toNatClampNeg)) (x3_4 + (1 : Int32)) hf)
  exact hL_4 ik_fu (0 : Int32) (0 : Int32) hf
theorem ms_X0_far : ik_S yX0_far RX0 cX0_far 2 (some .int) 2 := ⟨wl_13_19, wl_2_16, wl_13_20, by decide +kernel⟩
set_option maxHeartbeats 4000000 in
set_option maxRecDepth 100000 in
theorem c_X0_far (l : Launch) (D : va_G) (cI cS : ClassId) (x0 : Int32) (x1 : Int32) (R : Int32) (hf : f_X0_far x0 x1 = some (R)) : Met l yX0_far (ik_ws yX0_far cX0_far 2 (some .int)) ({ frames := 1, cells := 0, slots := 0, locals := 21 } : Room) (ik_P D cI cS [.int x0, .int x1] (wz_none cI cS)) (ik_R (some (.int R))) 0 0 ik_no := by
  refine ik_metR RX0 rfl (by decide) (Nat.le_of_ble_eq_true rfl) [(0, .int x0), (1, .int x1)] rfl ?_
  intro p e s m below meth c C hr hlk
  unfold f_X0_far at hf
  refine ik_iload_n C 0 rfl rfl dX0_far_0 ?_
  refine ik_bipush (v := (8 : Int32)) C (by decide) dX0_far_1 ?_
  refine ik_idiv C (by decide) dX0_far_3 ?_
  refine ik_iload_n C 1 rfl rfl dX0_far_4 ?_
  refine ik_bipush (v := (8 : Int32)) C (by decide) dX0_far_5 ?_
  refine ik_idiv C (by decide) dX0_far_7 ?_
  refine ik_isub C dX0_far_8 ?_
  refine ik_mabs C wl_13_21 wl_13_22 wl_13_23 wl_14_0 (Nat.le_of_ble_eq_true rfl) (Nat.le_of_ble_eq_true rfl) dX0_far_9 ?_
  refine ik_iload_n C 0 rfl rfl dX0_far_12 ?_
  refine ik_bipush (v := (8 : Int32)) C (by decide) dX0_far_13 ?_
  refine ik_irem C (by decide) dX0_far_15 ?_
  refine ik_iload_n C 1 rfl rfl dX0_far_16 ?_
  refine ik_bipush (v := (8 : Int32)) C (by decide) dX0_far_17 ?_
  refine ik_irem C (by decide) dX0_far_19 ?_
  refine ik_isub C dX0_far_20 ?_
  refine ik_mabs C wl_13_21 wl_13_22 wl_13_23 wl_14_0 (Nat.le_of_ble_eq_true rfl) (Nat.le_of_ble_eq_true rfl) dX0_far_21 ?_
  refine ik_iadd C dX0_far_24 ?_
  cases hf
  exact ik_iretR C hr hlk dX0_far_25
theorem mv_X1_draw : ik_V yX1_draw RX1 cX1_draw 1 (some .int) 0 := ⟨wl_33_15, wl_33_16, wl_1_14, wl_33_17, by decide +kernel⟩
set_option maxHeartbeats 4000000 in
set_option maxRecDepth 100000 in
theorem c_X1_draw (l : Launch) (D : va_G) (cI cS : ClassId) (p0 w0 c0 p1 p2 p3 w1 w2 w3 w4 c1 c2 : Nat) (hour : Int32) (air : Int32) (rub : Int32) (z : Int32) (nb : Int32) (kd : Nat → Int32) (cl : Nat → Int32) (gr : Nat → Int32) (oc : Nat → Int32) (lit : Int32) (cold : Int32) (ccell : Nat → Int32) (cpow : Nat → Int32) (sp : Nat → Int32) (wm : Nat → Int32) (dr : Nat → Int32) (R : Int32) (z_r : Int32) (hf : f_X1_draw z = some (R, z_r)) : Met l yX1_draw (ik_ws yX1_draw cX1_draw 1 (some .int)) ({ frames := 0, cells := 0, slots := 0, locals := 0 } : Room) (ik_P D cI cS [.ref p0] (wz_X1 cI cS p0 w0 c0 p1 p2 p3 w1 w2 w3 w4 c1 c2 hour air rub z nb kd cl gr oc lit cold ccell cpow sp wm dr)) (ik_Q (some (.int R)) D (wz_X1 cI cS p0 w0 c0 p1 p2 p3 w1 w2 w3 w4 c1 c2 hour air rub z_r nb kd cl gr oc lit cold ccell cpow sp wm dr) (wz_X1 cI cS p0 w0 c0 p1 p2 p3 w1 w2 w3 w4 c1 c2 hour air rub z nb kd cl gr oc lit cold ccell cpow sp wm dr)) 0 0 (ik_in (wz_X1 cI cS p0 w0 c0 p1 p2 p3 w1 w2 w3 w4 c1 c2 hour air rub z nb kd cl gr oc lit cold ccell cpow sp wm dr)) := by
  refine ik_metW RX1 rfl (by decide) (Nat.le_of_ble_eq_true rfl) [(0, .ref p0)] rfl ?_
  intro p e s m below meth c C hr hlk
  unfold f_X1_draw at hf
  refine ik_aload_n C 0 rfl rfl dX1_draw_0 ?_
  refine ik_aload_n C 0 rfl rfl dX1_draw_1 ?_
  refine ik_get C inlX1 0 rfl rfl 6 (by decide) wl_2_19 rfl (v := .int z) rfl dX1_draw_2 ?_
  refine ik_ldc C wl_33_18 dX1_draw_5 ?_
  refine ik_imul C dX1_draw_7 ?_
  refine ik_sipush (v := (12345 : Int32)) C (by decide) dX1_draw_8 ?_
  refine ik_iadd C dX1_draw_11 ?_
  refine ik_put C inlX1 tyX1 tyX1_ok nmX1 0 rfl rfl 6 (by decide) wl_2_19 rfl (by decide) rfl rfl (Nat.le_of_ble_eq_true rfl) (wz_X1 cI cS p0 w0 c0 p1 p2 p3 w1 w2 w3 w4 c1 c2 hour air rub ((z * (1103515245 : Int32)) + (12345 : Int32)) nb kd cl gr oc lit cold ccell cpow sp wm dr) rfl dX1_draw_12 ?_
  refine ik_aload_n C 0 rfl rfl dX1_draw_15 ?_
  refine ik_get C inlX1 0 rfl rfl 6 (by decide) wl_2_19 rfl (v := .int ((z * (1103515245 : Int32)) + (12345 : Int32))) rfl dX1_draw_16 ?_
  refine ik_bipush (v := (8 : Int32)) C (by decide) dX1_draw_19 ?_
  refine ik_iushr C dX1_draw_21 ?_
  cases hf
  exact ik_iretW C hr hlk dX1_draw_22
theorem mv_X2_isMissing : ik_V yX2_isMissing RX2 cX2_isMissing 1 (some .boolean) 0 := ⟨wl_45_10, wl_45_11, wl_2_5, wl_45_12, by decide +kernel⟩
set_option maxHeartbeats 4000000 in
set_option maxRecDepth 100000 in
theorem c_X2_isMissing (l : Launch) (D : va_G) (cI cS : ClassId) (s0 s1 : Nat) (sbits : Int32) (ssize : Int32) (snum : Nat → Int32) (R : Int32) (hf : f_X2_isMissing sbits = some (R)) : Met l yX2_isMissing (ik_ws yX2_isMissing cX2_isMissing 1 (some .boolean)) ({ frames := 0, cells := 0, slots := 0, locals := 0 } : Room) (ik_P D cI cS [.ref s0] (wz_X2 cI cS s0 s1 sbits ssize snum)) (ik_R (some (.int R))) 0 0 ik_no := by
  refine ik_metR RX2 rfl (by decide) (Nat.le_of_ble_eq_true rfl) [(0, .ref s0)] rfl ?_
  intro p e s m below meth c C hr hlk
  unfold f_X2_isMissing at hf
  refine ik_aload_n C 0 rfl rfl dX2_isMissing_0 ?_
  refine ik_get C inlX2 0 rfl rfl 0 (by decide) wl_44_16 rfl (v := .int sbits) rfl dX2_isMissing_1 ?_
  refine ik_if_ne C 11 dX2_isMissing_4 (by decide) (fun hc => ?_) (fun hc => ?_)
  · have hf := ik_neg hc hf
    refine ik_iconst (v := (0 : Int32)) C (by decide) dX2_isMissing_11 ?_
    cases hf
    exact ik_zretR C hr (by decide) hlk dX2_isMissing_12
  · have hf := ik_pos hc hf
    refine ik_iconst (v := (1 : Int32)) C (by decide) dX2_isMissing_7 ?_
    refine ik_goto C 12 dX2_isMissing_8 (by decide) ?_
    cases hf
    exact ik_zretR C hr (by decide) hlk dX2_isMissing_12
theorem mv_X2_put : ik_V yX2_put RX2 cX2_put 3 none 2 := ⟨wl_45_14, wl_45_15, wl_2_5, wl_45_16, by decide +kernel⟩
set_option maxHeartbeats 4000000 in
set_option maxRecDepth 100000 in
theorem c_X2_put (l : Launch) (D : va_G) (cI cS : ClassId) (s0 s1 : Nat) (sbits : Int32) (ssize : Int32) (snum : Nat → Int32) (x1 : Int32) (x2 : Int32) (snum_r : Nat → Int32) (hf : f_X2_put sbits snum x1 x2 = some (snum_r)) : Met l yX2_put (ik_ws yX2_put cX2_put 3 none) ({ frames := 0, cells := 0, slots := 0, locals := 0 } : Room) (ik_P D cI cS [.ref s0, .int x1, .int x2] (wz_X2 cI cS s0 s1 sbits ssize snum)) (ik_Q none D (wz_X2 cI cS s0 s1 sbits ssize snum_r) (wz_X2 cI cS s0 s1 sbits ssize snum)) 0 0 (ik_in (wz_X2 cI cS s0 s1 sbits ssize snum)) := by
  refine ik_metW RX2 rfl (by decide) (Nat.le_of_ble_eq_true rfl) [(0, .ref s0), (1, .int x1), (2, .int x2)] rfl ?_
  intro p e s m below meth c C hr hlk
  unfold f_X2_put at hf
  refine ik_aload_n C 0 rfl rfl dX2_put_0 ?_
  refine ik_get C inlX2 0 rfl rfl 0 (by decide) wl_44_16 rfl (v := .int sbits) rfl dX2_put_1 ?_
  refine ik_bipush (v := (8 : Int32)) C (by decide) dX2_put_4 ?_
  refine ik_icmp_ne C 20 dX2_put_6 (by decide) (fun hc => ?_) (fun hc => ?_)
  · have hf := ik_neg hc hf
    refine ik_aload_n C 0 rfl rfl dX2_put_20 ?_
    refine ik_get C inlX2 0 rfl rfl 0 (by decide) wl_44_16 rfl (v := .int sbits) rfl dX2_put_21 ?_
    refine ik_bipush (v := (16 : Int32)) C (by decide) dX2_put_24 ?_
    refine ik_icmp_ne C 40 dX2_put_26 (by decide) (fun hc => ?_) (fun hc => ?_)
    · have hf := ik_neg hc hf
      refine ik_aload_n C 0 rfl rfl dX2_put_40 ?_
      refine ik_get C inlX2 0 rfl rfl 2 (by decide) wl_4_7 rfl (v := .ref s1) rfl dX2_put_41 ?_
      refine ik_iload_n C 1 rfl rfl dX2_put_44 ?_
      refine ik_iload_n C 2 rfl rfl dX2_put_45 ?_
      have hg := ik_gdi hf
      have hf := ik_gdk hf
      refine ik_iast C 1 rfl hg (wz_X2 cI cS s0 s1 sbits ssize (upd snum (x1).toNatClampNeg x2)) rfl dX2_put_46 ?_
      cases hf
      exact ik_vretW C hr hlk dX2_put_47
    · have hf := ik_pos hc hf
      refine ik_aload_n C 0 rfl rfl dX2_put_29 ?_
      refine ik_get C inlX2 0 rfl rfl 2 (by decide) wl_4_7 rfl (v := .ref s1) rfl dX2_put_30 ?_
      refine ik_iload_n C 1 rfl rfl dX2_put_33 ?_
      refine ik_iload_n C 2 rfl rfl dX2_put_34 ?_
      refine ik_i2s C dX2_put_35 ?_
      have hg := ik_gdi hf
      have hf := ik_gdk hf
      refine ik_iast C 1 rfl hg (wz_X2 cI cS s0 s1 sbits ssize (upd snum (x1).toNatClampNeg (x2).toInt16.toInt32)) rfl dX2_put_36 ?_
      refine ik_goto C 47 dX2_put_37 (by decide) ?_
      cases hf
      exact ik_vretW C hr hlk dX2_put_47
  · have hf := ik_pos hc hf
    refine ik_aload_n C 0 rfl rfl dX2_put_9 ?_
    refine ik_get C inlX2 0 rfl rfl 2 (by decide) wl_4_7 rfl (v := .ref s1) rfl dX2_put_10 ?_
    refine ik_iload_n C 1 rfl rfl dX2_put_13 ?_
    refine ik_iload_n C 2 rfl rfl dX2_put_14 ?_
    refine ik_i2b C dX2_put_15 ?_
    have hg := ik_gdi hf
    have hf := ik_gdk hf
    refine ik_iast C 1 rfl hg (wz_X2 cI cS s0 s1 sbits ssize (upd snum (x1).toNatClampNeg (x2).toInt8.toInt32)) rfl dX2_put_16 ?_
    refine ik_goto C 47 dX2_put_17 (by decide) ?_
    cases hf
    exact ik_vretW C hr hlk dX2_put_47
theorem mv_X2_hasRange : ik_V yX2_hasRange RX2 cX2_hasRange 3 (some .boolean) 2 := ⟨wl_46_5, wl_46_6, wl_2_5, wl_46_7, by decide +kernel⟩
set_option maxHeartbeats 4000000 in
set_option maxRecDepth 100000 in
theorem c_X2_hasRange (l : Launch) (D : va_G) (cI cS : ClassId) (s0 s1 : Nat) (sbits : Int32) (ssize : Int32) (snum : Nat → Int32) (x1 : Int32) (x2 : Int32) (R : Int32) (hf : f_X2_hasRange ssize x1 x2 = some (R)) : Met l yX2_hasRange (ik_ws yX2_hasRange cX2_hasRange 3 (some .boolean)) ({ frames := 0, cells := 0, slots := 0, locals := 0 } : Room) (ik_P D cI cS [.ref s0, .int x1, .int x2] (wz_X2 cI cS s0 s1 sbits ssize snum)) (ik_R (some (.int R))) 0 0 ik_no := by
  refine ik_metR RX2 rfl (by decide) (Nat.le_of_ble_eq_true rfl) [(0, .ref s0), (1, .int x1), (2, .int x2)] rfl ?_
  intro p e s m below meth c C hr hlk
  unfold f_X2_hasRange at hf
  refine ik_iload_n C 1 rfl rfl dX2_hasRange_0 ?_
  refine ik_if_lt C 30 dX2_hasRange_1 (by decide) (fun hc => ?_) (fun hc => ?_)
  · have hf := ik_pos hc hf
    refine ik_iconst (v := (0 : Int32)) C (by decide) dX2_hasRange_30 ?_
    cases hf
    exact ik_zretR C hr (by decide) hlk dX2_hasRange_31
  · have hf := ik_neg hc hf
    refine ik_iload_n C 2 rfl rfl dX2_hasRange_4 ?_
    refine ik_if_lt C 30 dX2_hasRange_5 (by decide) (fun hc => ?_) (fun hc => ?_)
    · have hf := ik_pos hc hf
      refine ik_iconst (v := (0 : Int32)) C (by decide) dX2_hasRange_30 ?_
      cases hf
      exact ik_zretR C hr (by decide) hlk dX2_hasRange_31
    · have hf := ik_neg hc hf
      refine ik_iload_n C 2 rfl rfl dX2_hasRange_8 ?_
      refine ik_aload_n C 0 rfl rfl dX2_hasRange_9 ?_
      refine ik_get C inlX2 0 rfl rfl 1 (by decide) wl_44_17 rfl (v := .int ssize) rfl dX2_hasRange_10 ?_
      refine ik_icmp_gt C 30 dX2_hasRange_13 (by decide) (fun hc => ?_) (fun hc => ?_)
      · have hf := ik_pos hc hf
        refine ik_iconst (v := (0 : Int32)) C (by decide) dX2_hasRange_30 ?_
        cases hf
        exact ik_zretR C hr (by decide) hlk dX2_hasRange_31
      · have hf := ik_neg hc hf
        refine ik_iload_n C 1 rfl rfl dX2_hasRange_16 ?_
        refine ik_aload_n C 0 rfl rfl dX2_hasRange_17 ?_
        refine ik_get C inlX2 0 rfl rfl 1 (by decide) wl_44_17 rfl (v := .int ssize) rfl dX2_hasRange_18 ?_
        refine ik_iload_n C 2 rfl rfl dX2_hasRange_21 ?_
        refine ik_isub C dX2_hasRange_22 ?_
        refine ik_icmp_gt C 30 dX2_hasRange_23 (by decide) (fun hc => ?_) (fun hc => ?_)
        · have hf := ik_pos hc hf
          refine ik_iconst (v := (0 : Int32)) C (by decide) dX2_hasRange_30 ?_
          cases hf
          exact ik_zretR C hr (by decide) hlk dX2_hasRange_31
        · have hf := ik_neg hc hf
          refine ik_iconst (v := (1 : Int32)) C (by decide) dX2_hasRange_26 ?_
          refine ik_goto C 31 dX2_hasRange_27 (by decide) ?_
          cases hf
          exact ik_zretR C hr (by decide) hlk dX2_hasRange_31
theorem mv_X3_append : ik_V yX3_append RX3 cX3_append 2 none 1 := ⟨wl_34_19, wl_34_20, wl_3_22, wl_34_21, by decide +kernel⟩
set_option maxHeartbeats 4000000 in
set_option maxRecDepth 100000 in
theorem c_X3_append (l : Launch) (D : va_G) (cI cS : ClassId) (t0 t1 : Nat) (tsize : Int32) (tby : Nat → Int32) (x1 : Int32) (tsize_r : Int32) (tby_r : Nat → Int32) (hf : f_X3_append tsize tby x1 = some (tsize_r, tby_r)) : Met l yX3_append (ik_ws yX3_append cX3_append 2 none) ({ frames := 0, cells := 0, slots := 0, locals := 0 } : Room) (ik_P D cI cS [.ref t0, .int x1] (wz_X3 cI cS t0 t1 tsize tby)) (ik_Q none D (wz_X3 cI cS t0 t1 tsize_r tby_r) (wz_X3 cI cS t0 t1 tsize tby)) 0 0 (ik_in (wz_X3 cI cS t0 t1 tsize tby)) := by
  refine ik_metW RX3 rfl (by decide) (Nat.le_of_ble_eq_true rfl) [(0, .ref t0), (1, .int x1)] rfl ?_
  intro p e s m below meth c C hr hlk
  unfold f_X3_append at hf
  refine ik_aload_n C 0 rfl rfl dX3_append_0 ?_
  refine ik_get C inlX3 0 rfl rfl 1 (by decide) wl_34_22 rfl (v := .int tsize) rfl dX3_append_1 ?_
  refine ik_bipush (v := (120 : Int32)) C (by decide) dX3_append_4 ?_
  refine ik_icmp_ge C 29 dX3_append_6 (by decide) (fun hc => ?_) (fun hc => ?_)
  · have hf := ik_pos hc hf
    cases hf
    exact ik_vretW C hr hlk dX3_append_29
  · have hf := ik_neg hc hf
    refine ik_aload_n C 0 rfl rfl dX3_append_9 ?_
    refine ik_get C inlX3 0 rfl rfl 0 (by decide) wl_4_3 rfl (v := .ref t1) rfl dX3_append_10 ?_
    refine ik_aload_n C 0 rfl rfl dX3_append_13 ?_
    refine ik_get C inlX3 0 rfl rfl 1 (by decide) wl_34_22 rfl (v := .int tsize) rfl dX3_append_14 ?_
    refine ik_iload_n C 1 rfl rfl dX3_append_17 ?_
    have hg := ik_gdi hf
    have hf := ik_gdk hf
    refine ik_iast C 1 rfl hg (wz_X3 cI cS t0 t1 tsize (upd tby (tsize).toNatClampNeg x1)) rfl dX3_append_18 ?_
    refine ik_aload_n C 0 rfl rfl dX3_append_19 ?_
    refine ik_dup C rfl dX3_append_20 ?_
    refine ik_get C inlX3 0 rfl rfl 1 (by decide) wl_34_22 rfl (v := .int tsize) rfl dX3_append_21 ?_
    refine ik_iconst (v := (1 : Int32)) C (by decide) dX3_append_24 ?_
    refine ik_iadd C dX3_append_25 ?_
    refine ik_put C inlX3 tyX3 tyX3_ok nmX3 0 rfl rfl 1 (by decide) wl_34_22 rfl (by decide) rfl rfl (Nat.le_of_ble_eq_true rfl) (wz_X3 cI cS t0 t1 (tsize + (1 : Int32)) (upd tby (tsize).toNatClampNeg x1)) rfl dX3_append_26 ?_
    cases hf
    exact ik_vretW C hr hlk dX3_append_29
theorem mv_X3_byteAt : ik_V yX3_byteAt RX3 cX3_byteAt 2 (some .int) 1 := ⟨wl_36_5, wl_36_6, wl_3_22, wl_36_7, by decide +kernel⟩
set_option maxHeartbeats 4000000 in
set_option maxRecDepth 100000 in
theorem c_X3_byteAt (l : Launch) (D : va_G) (cI cS : ClassId) (t0 t1 : Nat) (tsize : Int32) (tby : Nat → Int32) (x1 : Int32) (R : Int32) (hf : f_X3_byteAt tsize tby x1 = some (R)) : Met l yX3_byteAt (ik_ws yX3_byteAt cX3_byteAt 2 (some .int)) ({ frames := 0, cells := 0, slots := 0, locals := 0 } : Room) (ik_P D cI cS [.ref t0, .int x1] (wz_X3 cI cS t0 t1 tsize tby)) (ik_R (some (.int R))) 0 0 ik_no := by
  refine ik_metR RX3 rfl (by decide) (Nat.le_of_ble_eq_true rfl) [(0, .ref t0), (1, .int x1)] rfl ?_
  intro p e s m below meth c C hr hlk
  unfold f_X3_byteAt at hf
  refine ik_iload_n C 1 rfl rfl dX3_byteAt_0 ?_
  refine ik_if_lt C 21 dX3_byteAt_1 (by decide) (fun hc => ?_) (fun hc => ?_)
  · have hf := ik_pos hc hf
    refine ik_iconst (v := (-1 : Int32)) C (by decide) dX3_byteAt_21 ?_
    cases hf
    exact ik_iretR C hr hlk dX3_byteAt_22
  · have hf := ik_neg hc hf
    refine ik_iload_n C 1 rfl rfl dX3_byteAt_4 ?_
    refine ik_aload_n C 0 rfl rfl dX3_byteAt_5 ?_
    refine ik_get C inlX3 0 rfl rfl 1 (by decide) wl_34_22 rfl (v := .int tsize) rfl dX3_byteAt_6 ?_
    refine ik_icmp_ge C 21 dX3_byteAt_9 (by decide) (fun hc => ?_) (fun hc => ?_)
    · have hf := ik_pos hc hf
      refine ik_iconst (v := (-1 : Int32)) C (by decide) dX3_byteAt_21 ?_
      cases hf
      exact ik_iretR C hr hlk dX3_byteAt_22
    · have hf := ik_neg hc hf
      refine ik_aload_n C 0 rfl rfl dX3_byteAt_12 ?_
      refine ik_get C inlX3 0 rfl rfl 0 (by decide) wl_4_3 rfl (v := .ref t1) rfl dX3_byteAt_13 ?_
      refine ik_iload_n C 1 rfl rfl dX3_byteAt_16 ?_
      have hg := ik_gdi hf
      have hf := ik_gdk hf
      refine ik_iald C 1 rfl hg dX3_byteAt_17 ?_
      refine ik_goto C 22 dX3_byteAt_18 (by decide) ?_
      cases hf
      exact ik_iretR C hr hlk dX3_byteAt_22
theorem ms_X4_isLetter : ik_S yX4_isLetter RX4 cX4_isLetter 1 (some .boolean) 1 := ⟨wl_36_9, wl_1_20, wl_36_10, by decide +kernel⟩
set_option maxHeartbeats 4000000 in
set_option maxRecDepth 100000 in
theorem c_X4_isLetter (l : Launch) (D : va_G) (cI cS : ClassId) (x0 : Int32) (R : Int32) (hf : f_X4_isLetter x0 = some (R)) : Met l yX4_isLetter (ik_ws yX4_isLetter cX4_isLetter 1 (some .boolean)) ({ frames := 0, cells := 0, slots := 0, locals := 0 } : Room) (ik_P D cI cS [.int x0] (wz_none cI cS)) (ik_R (some (.int R))) 0 0 ik_no := by
  refine ik_metR RX4 rfl (by decide) (Nat.le_of_ble_eq_true rfl) [(0, .int x0)] rfl ?_
  intro p e s m below meth c C hr hlk
  unfold f_X4_isLetter at hf
  refine ik_iload_n C 0 rfl rfl dX4_isLetter_0 ?_
  refine ik_bipush (v := (97 : Int32)) C (by decide) dX4_isLetter_1 ?_
  refine ik_icmp_lt C 16 dX4_isLetter_3 (by decide) (fun hc => ?_) (fun hc => ?_)
  · have hf := ik_pos hc hf
    refine ik_iconst (v := (0 : Int32)) C (by decide) dX4_isLetter_16 ?_
    cases hf
    exact ik_zretR C hr (by decide) hlk dX4_isLetter_17
  · have hf := ik_neg hc hf
    refine ik_iload_n C 0 rfl rfl dX4_isLetter_6 ?_
    refine ik_bipush (v := (122 : Int32)) C (by decide) dX4_isLetter_7 ?_
    refine ik_icmp_gt C 16 dX4_isLetter_9 (by decide) (fun hc => ?_) (fun hc => ?_)
    · have hf := ik_pos hc hf
      refine ik_iconst (v := (0 : Int32)) C (by decide) dX4_isLetter_16 ?_
      cases hf
      exact ik_zretR C hr (by decide) hlk dX4_isLetter_17
    · have hf := ik_neg hc hf
      refine ik_iconst (v := (1 : Int32)) C (by decide) dX4_isLetter_12 ?_
      refine ik_goto C 17 dX4_isLetter_13 (by decide) ?_
      cases hf
      exact ik_zretR C hr (by decide) hlk dX4_isLetter_17
theorem ms_X4_isDigit : ik_S yX4_isDigit RX4 cX4_isDigit 1 (some .boolean) 1 := ⟨wl_36_12, wl_1_20, wl_36_13, by decide +kernel⟩
set_option maxHeartbeats 4000000 in
set_option maxRecDepth 100000 in
theorem c_X4_isDigit (l : Launch) (D : va_G) (cI cS : ClassId) (x0 : Int32) (R : Int32) (hf : f_X4_isDigit x0 = some (R)) : Met l yX4_isDigit (ik_ws yX4_isDigit cX4_isDigit 1 (some .boolean)) ({ frames := 0, cells := 0, slots := 0, locals := 0 } : Room) (ik_P D cI cS [.int x0] (wz_none cI cS)) (ik_R (some (.int R))) 0 0 ik_no := by
  refine ik_metR RX4 rfl (by decide) (Nat.le_of_ble_eq_true rfl) [(0, .int x0)] rfl ?_
  intro p e s m below meth c C hr hlk
  unfold f_X4_isDigit at hf
  refine ik_iload_n C 0 rfl rfl dX4_isDigit_0 ?_
  refine ik_bipush (v := (48 : Int32)) C (by decide) dX4_isDigit_1 ?_
  refine ik_icmp_lt C 16 dX4_isDigit_3 (by decide) (fun hc => ?_) (fun hc => ?_)
  · have hf := ik_pos hc hf
    refine ik_iconst (v := (0 : Int32)) C (by decide) dX4_isDigit_16 ?_
    cases hf
    exact ik_zretR C hr (by decide) hlk dX4_isDigit_17
  · have hf := ik_neg hc hf
    refine ik_iload_n C 0 rfl rfl dX4_isDigit_6 ?_
    refine ik_bipush (v := (57 : Int32)) C (by decide) dX4_isDigit_7 ?_
    refine ik_icmp_gt C 16 dX4_isDigit_9 (by decide) (fun hc => ?_) (fun hc => ?_)
    · have hf := ik_pos hc hf
      refine ik_iconst (v := (0 : Int32)) C (by decide) dX4_isDigit_16 ?_
      cases hf
      exact ik_zretR C hr (by decide) hlk dX4_isDigit_17
    · have hf := ik_neg hc hf
      refine ik_iconst (v := (1 : Int32)) C (by decide) dX4_isDigit_12 ?_
      refine ik_goto C 17 dX4_isDigit_13 (by decide) ?_
      cases hf
      exact ik_zretR C hr (by decide) hlk dX4_isDigit_17
theorem mv_X5_copyFrom : ik_V yX5_copyFrom RX5 cX5_copyFrom 2 none 1 := ⟨wl_23_23, wl_24_0, wl_2_12, wl_24_1, by decide +kernel⟩
set_option maxHeartbeats 4000000 in
set_option maxRecDepth 100000 in
theorem c_X5_copyFrom (l : Launch) (D : va_G) (cI cS : ClassId) (w0 w1 w2 w3 w4 ow0 ow1 ow2 ow3 ow4 : Nat) (nb : Int32) (kd : Nat → Int32) (cl : Nat → Int32) (gr : Nat → Int32) (oc : Nat → Int32) (onb : Int32) (okd : Nat → Int32) (ocl : Nat → Int32) (ogr : Nat → Int32) (ooc : Nat → Int32) (nb_r : Int32) (kd_r : Nat → Int32) (cl_r : Nat → Int32) (gr_r : Nat → Int32) (oc_r : Nat → Int32) (hf : f_X5_copyFrom nb kd cl gr oc onb okd ocl ogr ooc = some (nb_r, kd_r, cl_r, gr_r, oc_r)) : Met l yX5_copyFrom (ik_ws yX5_copyFrom cX5_copyFrom 2 none) ({ frames := 1, cells := 0, slots := 0, locals := 60 } : Room) (ik_P D cI cS [.ref w0, .ref ow0] (wz_X5d cI cS w0 w1 w2 w3 w4 ow0 ow1 ow2 ow3 ow4 nb kd cl gr oc onb okd ocl ogr ooc)) (ik_Q none D (wz_X5d cI cS w0 w1 w2 w3 w4 ow0 ow1 ow2 ow3 ow4 nb_r kd_r cl_r gr_r oc_r onb okd ocl ogr ooc) (wz_X5d cI cS w0 w1 w2 w3 w4 ow0 ow1 ow2 ow3 ow4 nb kd cl gr oc onb okd ocl ogr ooc)) 0 0 (ik_in (wz_X5d cI cS w0 w1 w2 w3 w4 ow0 ow1 ow2 ow3 ow4 nb kd cl gr oc onb okd ocl ogr ooc)) := by
  refine ik_metW RX5 rfl (by decide) (Nat.le_of_ble_eq_true rfl) [(0, .ref w0), (1, .ref ow0)] rfl ?_
  intro p e s m below meth c C hr hlk
  unfold f_X5_copyFrom at hf
  refine ik_aload_n C 0 rfl rfl dX5_copyFrom_0 ?_
  refine ik_aload_n C 1 rfl rfl dX5_copyFrom_1 ?_
  refine ik_get C inlX5 5 rfl rfl 0 (by decide) wl_6_0 rfl (v := .int onb) rfl dX5_copyFrom_2 ?_
  refine ik_put C inlX5 tyX5 tyX5_ok nmX5 0 rfl rfl 0 (by decide) wl_6_0 rfl (by decide) rfl rfl (Nat.le_of_ble_eq_true rfl) (wz_X5d cI cS w0 w1 w2 w3 w4 ow0 ow1 ow2 ow3 ow4 onb kd cl gr oc onb okd ocl ogr ooc) rfl dX5_copyFrom_5 ?_
  refine ik_aload_n C 1 rfl rfl dX5_copyFrom_8 ?_
  refine ik_get C inlX5 5 rfl rfl 1 (by decide) wl_3_2 rfl (v := .ref ow1) rfl dX5_copyFrom_9 ?_
  refine ik_iconst (v := (0 : Int32)) C (by decide) dX5_copyFrom_12 ?_
  refine ik_aload_n C 0 rfl rfl dX5_copyFrom_13 ?_
  refine ik_get C inlX5 0 rfl rfl 1 (by decide) wl_3_2 rfl (v := .ref w1) rfl dX5_copyFrom_14 ?_
  refine ik_iconst (v := (0 : Int32)) C (by decide) dX5_copyFrom_17 ?_
  refine ik_bipush (v := (16 : Int32)) C (by decide) dX5_copyFrom_18 ?_
  refine ik_copy C wl_24_2 wl_23_19 wl_23_20 wl_23_21 6 1 rfl rfl (ik_cpl (by decide)) (Nat.le_of_ble_eq_true rfl) (Nat.le_of_ble_eq_true rfl) (wz_X5d cI cS w0 w1 w2 w3 w4 ow0 ow1 ow2 ow3 ow4 onb (va_cpy okd kd ((0 : Int32)).toNatClampNeg ((0 : Int32)).toNatClampNeg ((16 : Int32)).toNatClampNeg) cl gr oc onb okd ocl ogr ooc) rfl dX5_copyFrom_20 ?_
  refine ik_aload_n C 1 rfl rfl dX5_copyFrom_23 ?_
  refine ik_get C inlX5 5 rfl rfl 2 (by decide) wl_3_3 rfl (v := .ref ow2) rfl dX5_copyFrom_24 ?_
  refine ik_iconst (v := (0 : Int32)) C (by decide) dX5_copyFrom_27 ?_
  refine ik_aload_n C 0 rfl rfl dX5_copyFrom_28 ?_
  refine ik_get C inlX5 0 rfl rfl 2 (by decide) wl_3_3 rfl (v := .ref w2) rfl dX5_copyFrom_29 ?_
  refine ik_iconst (v := (0 : Int32)) C (by decide) dX5_copyFrom_32 ?_
  refine ik_bipush (v := (16 : Int32)) C (by decide) dX5_copyFrom_33 ?_
  refine ik_copy C wl_24_2 wl_23_19 wl_23_20 wl_23_21 7 2 rfl rfl (ik_cpl (by decide)) (Nat.le_of_ble_eq_true rfl) (Nat.le_of_ble_eq_true rfl) (wz_X5d cI cS w0 w1 w2 w3 w4 ow0 ow1 ow2 ow3 ow4 onb (va_cpy okd kd ((0 : Int32)).toNatClampNeg ((0 : Int32)).toNatClampNeg ((16 : Int32)).toNatClampNeg) (va_cpy ocl cl ((0 : Int32)).toNatClampNeg ((0 : Int32)).toNatClampNeg ((16 : Int32)).toNatClampNeg) gr oc onb okd ocl ogr ooc) rfl dX5_copyFrom_35 ?_
  refine ik_aload_n C 1 rfl rfl dX5_copyFrom_38 ?_
  refine ik_get C inlX5 5 rfl rfl 3 (by decide) wl_3_4 rfl (v := .ref ow3) rfl dX5_copyFrom_39 ?_
  refine ik_iconst (v := (0 : Int32)) C (by decide) dX5_copyFrom_42 ?_
  refine ik_aload_n C 0 rfl rfl dX5_copyFrom_43 ?_
  refine ik_get C inlX5 0 rfl rfl 3 (by decide) wl_3_4 rfl (v := .ref w3) rfl dX5_copyFrom_44 ?_
  refine ik_iconst (v := (0 : Int32)) C (by decide) dX5_copyFrom_47 ?_
  refine ik_bipush (v := (16 : Int32)) C (by decide) dX5_copyFrom_48 ?_
  refine ik_copy C wl_24_2 wl_23_19 wl_23_20 wl_23_21 8 3 rfl rfl (ik_cpl (by decide)) (Nat.le_of_ble_eq_true rfl) (Nat.le_of_ble_eq_true rfl) (wz_X5d cI cS w0 w1 w2 w3 w4 ow0 ow1 ow2 ow3 ow4 onb (va_cpy okd kd ((0 : Int32)).toNatClampNeg ((0 : Int32)).toNatClampNeg ((16 : Int32)).toNatClampNeg) (va_cpy ocl cl ((0 : Int32)).toNatClampNeg ((0 : Int32)).toNatClampNeg ((16 : Int32)).toNatClampNeg) (va_cpy ogr gr ((0 : Int32)).toNatClampNeg ((0 : Int32)).toNatClampNeg ((16 : Int32)).toNatClampNeg) oc onb okd ocl ogr ooc) rfl dX5_copyFrom_50 ?_
  refine ik_aload_n C 1 rfl rfl dX5_copyFrom_53 ?_
  refine ik_get C inlX5 5 rfl rfl 4 (by decide) wl_3_5 rfl (v := .ref ow4) rfl dX5_copyFrom_54 ?_
  refine ik_iconst (v := (0 : Int32)) C (by decide) dX5_copyFrom_57 ?_
  refine ik_aload_n C 0 rfl rfl dX5_copyFrom_58 ?_
  refine ik_get C inlX5 0 rfl rfl 4 (by decide) wl_3_5 rfl (v := .ref w4) rfl dX5_copyFrom_59 ?_
  refine ik_iconst (v := (0 : Int32)) C (by decide) dX5_copyFrom_62 ?_
  refine ik_bipush (v := (48 : Int32)) C (by decide) dX5_copyFrom_63 ?_
  refine ik_copy C wl_24_2 wl_23_19 wl_23_20 wl_23_21 9 4 rfl rfl (ik_cpl (by decide)) (Nat.le_of_ble_eq_true rfl) (Nat.le_of_ble_eq_true rfl) (wz_X5d cI cS w0 w1 w2 w3 w4 ow0 ow1 ow2 ow3 ow4 onb (va_cpy okd kd ((0 : Int32)).toNatClampNeg ((0 : Int32)).toNatClampNeg ((16 : Int32)).toNatClampNeg) (va_cpy ocl cl ((0 : Int32)).toNatClampNeg ((0 : Int32)).toNatClampNeg ((16 : Int32)).toNatClampNeg) (va_cpy ogr gr ((0 : Int32)).toNatClampNeg ((0 : Int32)).toNatClampNeg ((16 : Int32)).toNatClampNeg) (va_cpy ooc oc ((0 : Int32)).toNatClampNeg ((0 : Int32)).toNatClampNeg ((48 : Int32)).toNatClampNeg) onb okd ocl ogr ooc) rfl dX5_copyFrom_65 ?_
  cases hf
  exact ik_vretW C hr hlk dX5_copyFrom_68
theorem mv_X5_isBlock : ik_V yX5_isBlock RX5 cX5_isBlock 2 (some .boolean) 1 := ⟨wl_8_8, wl_8_9, wl_2_12, wl_8_10, by decide +kernel⟩
set_option maxHeartbeats 4000000 in
set_option maxRecDepth 100000 in
theorem c_X5_isBlock (l : Launch) (D : va_G) (cI cS : ClassId) (w0 w1 w2 w3 w4 : Nat) (nb : Int32) (kd : Nat → Int32) (cl : Nat → Int32) (gr : Nat → Int32) (oc : Nat → Int32) (x1 : Int32) (R : Int32) (hf : f_X5_isBlock nb x1 = some (R)) : Met l yX5_isBlock (ik_ws yX5_isBlock cX5_isBlock 2 (some .boolean)) ({ frames := 0, cells := 0, slots := 0, locals := 0 } : Room) (ik_P D cI cS [.ref w0, .int x1] (wz_X5 cI cS w0 w1 w2 w3 w4 nb kd cl gr oc)) (ik_R (some (.int R))) 0 0 ik_no := by
  refine ik_metR RX5 rfl (by decide) (Nat.le_of_ble_eq_true rfl) [(0, .ref w0), (1, .int x1)] rfl ?_
  intro p e s m below meth c C hr hlk
  unfold f_X5_isBlock at hf
  refine ik_iload_n C 1 rfl rfl dX5_isBlock_0 ?_
  refine ik_if_lt C 16 dX5_isBlock_1 (by decide) (fun hc => ?_) (fun hc => ?_)
  · have hf := ik_pos hc hf
    refine ik_iconst (v := (0 : Int32)) C (by decide) dX5_isBlock_16 ?_
    cases hf
    exact ik_zretR C hr (by decide) hlk dX5_isBlock_17
  · have hf := ik_neg hc hf
    refine ik_iload_n C 1 rfl rfl dX5_isBlock_4 ?_
    refine ik_aload_n C 0 rfl rfl dX5_isBlock_5 ?_
    refine ik_get C inlX5 0 rfl rfl 0 (by decide) wl_6_0 rfl (v := .int nb) rfl dX5_isBlock_6 ?_
    refine ik_icmp_ge C 16 dX5_isBlock_9 (by decide) (fun hc => ?_) (fun hc => ?_)
    · have hf := ik_pos hc hf
      refine ik_iconst (v := (0 : Int32)) C (by decide) dX5_isBlock_16 ?_
      cases hf
      exact ik_zretR C hr (by decide) hlk dX5_isBlock_17
    · have hf := ik_neg hc hf
      refine ik_iconst (v := (1 : Int32)) C (by decide) dX5_isBlock_12 ?_
      refine ik_goto C 17 dX5_isBlock_13 (by decide) ?_
      cases hf
      exact ik_zretR C hr (by decide) hlk dX5_isBlock_17
theorem mv_X5_isFull : ik_V yX5_isFull RX5 cX5_isFull 1 (some .boolean) 0 := ⟨wl_5_21, wl_5_22, wl_2_12, wl_5_23, by decide +kernel⟩
set_option maxHeartbeats 4000000 in
set_option maxRecDepth 100000 in
theorem c_X5_isFull (l : Launch) (D : va_G) (cI cS : ClassId) (w0 w1 w2 w3 w4 : Nat) (nb : Int32) (kd : Nat → Int32) (cl : Nat → Int32) (gr : Nat → Int32) (oc : Nat → Int32) (R : Int32) (hf : f_X5_isFull nb = some (R)) : Met l yX5_isFull (ik_ws yX5_isFull cX5_isFull 1 (some .boolean)) ({ frames := 0, cells := 0, slots := 0, locals := 0 } : Room) (ik_P D cI cS [.ref w0] (wz_X5 cI cS w0 w1 w2 w3 w4 nb kd cl gr oc)) (ik_R (some (.int R))) 0 0 ik_no := by
  refine ik_metR RX5 rfl (by decide) (Nat.le_of_ble_eq_true rfl) [(0, .ref w0)] rfl ?_
  intro p e s m below meth c C hr hlk
  unfold f_X5_isFull at hf
  refine ik_aload_n C 0 rfl rfl dX5_isFull_0 ?_
  refine ik_get C inlX5 0 rfl rfl 0 (by decide) wl_6_0 rfl (v := .int nb) rfl dX5_isFull_1 ?_
  refine ik_bipush (v := (16 : Int32)) C (by decide) dX5_isFull_4 ?_
  refine ik_icmp_lt C 13 dX5_isFull_6 (by decide) (fun hc => ?_) (fun hc => ?_)
  · have hf := ik_pos hc hf
    refine ik_iconst (v := (0 : Int32)) C (by decide) dX5_isFull_13 ?_
    cases hf
    exact ik_zretR C hr (by decide) hlk dX5_isFull_14
  · have hf := ik_neg hc hf
    refine ik_iconst (v := (1 : Int32)) C (by decide) dX5_isFull_9 ?_
    refine ik_goto C 14 dX5_isFull_10 (by decide) ?_
    cases hf
    exact ik_zretR C hr (by decide) hlk dX5_isFull_14
theorem mv_X5_isGone : ik_V yX5_isGone RX5 cX5_isGone 2 (some .boolean) 1 := ⟨wl_8_12, wl_8_13, wl_2_12, wl_8_14, by decide +kernel⟩
set_option maxHeartbeats 4000000 in
set_option maxRecDepth 100000 in
theorem c_X5_isGone (l : Launch) (D : va_G) (cI cS : ClassId) (w0 w1 w2 w3 w4 : Nat) (nb : Int32) (kd : Nat → Int32) (cl : Nat → Int32) (gr : Nat → Int32) (oc : Nat → Int32) (x1 : Int32) (R : Int32) (hf : f_X5_isGone cl x1 = some (R)) : Met l yX5_isGone (ik_ws yX5_isGone cX5_isGone 2 (some .boolean)) ({ frames := 0, cells := 0, slots := 0, locals := 0 } : Room) (ik_P D cI cS [.ref w0, .int x1] (wz_X5 cI cS w0 w1 w2 w3 w4 nb kd cl gr oc)) (ik_R (some (.int R))) 0 0 ik_no := by
  refine ik_metR RX5 rfl (by decide) (Nat.le_of_ble_eq_true rfl) [(0, .ref w0), (1, .int x1)] rfl ?_
  intro p e s m below meth c C hr hlk
  unfold f_X5_isGone at hf
  refine ik_aload_n C 0 rfl rfl dX5_isGone_0 ?_
  refine ik_get C inlX5 0 rfl rfl 2 (by decide) wl_3_3 rfl (v := .ref w2) rfl dX5_isGone_1 ?_
  refine ik_iload_n C 1 rfl rfl dX5_isGone_4 ?_
  have hg := ik_gdi hf
  have hf := ik_gdk hf
  refine ik_iald C 2 rfl hg dX5_isGone_5 ?_
  refine ik_if_ge C 13 dX5_isGone_6 (by decide) (fun hc => ?_) (fun hc => ?_)
  · have hf := ik_pos hc hf
    refine ik_iconst (v := (0 : Int32)) C (by decide) dX5_isGone_13 ?_
    cases hf
    exact ik_zretR C hr (by decide) hlk dX5_isGone_14
  · have hf := ik_neg hc hf
    refine ik_iconst (v := (1 : Int32)) C (by decide) dX5_isGone_9 ?_
    refine ik_goto C 14 dX5_isGone_10 (by decide) ?_
    cases hf
    exact ik_zretR C hr (by decide) hlk dX5_isGone_14
theorem mv_X5_cellBit : ik_V yX5_cellBit RX5 cX5_cellBit 2 (some .long) 1 := ⟨wl_9_0, wl_9_1, wl_2_12, wl_9_2, by decide +kernel⟩
set_option maxHeartbeats 4000000 in
set_option maxRecDepth 100000 in
theorem c_X5_cellBit (l : Launch) (D : va_G) (cI cS : ClassId) (w0 w1 w2 w3 w4 : Nat) (nb : Int32) (kd : Nat → Int32) (cl : Nat → Int32) (gr : Nat → Int32) (oc : Nat → Int32) (x1 : Int32) (R : Int64) (hf : f_X5_cellBit cl x1 = some (R)) : Met l yX5_cellBit (ik_ws yX5_cellBit cX5_cellBit 2 (some .long)) ({ frames := 0, cells := 0, slots := 0, locals := 0 } : Room) (ik_P D cI cS [.ref w0, .int x1] (wz_X5 cI cS w0 w1 w2 w3 w4 nb kd cl gr oc)) (ik_R (some (.long R))) 0 0 ik_no := by
  refine ik_metR RX5 rfl (by decide) (Nat.le_of_ble_eq_true rfl) [(0, .ref w0), (1, .int x1)] rfl ?_
  intro p e s m below meth c C hr hlk
  unfold f_X5_cellBit at hf
  refine ik_aload_n C 0 rfl rfl dX5_cellBit_0 ?_
  refine ik_get C inlX5 0 rfl rfl 2 (by decide) wl_3_3 rfl (v := .ref w2) rfl dX5_cellBit_1 ?_
  refine ik_iload_n C 1 rfl rfl dX5_cellBit_4 ?_
  have hg := ik_gdi hf
  have hf := ik_gdk hf
  refine ik_iald C 2 rfl hg dX5_cellBit_5 ?_
  refine ik_if_ge C 13 dX5_cellBit_6 (by decide) (fun hc => ?_) (fun hc => ?_)
  · have hf := ik_pos hc hf
    refine ik_lconst (v := (1 : Int64)) C (by decide) dX5_cellBit_13 ?_
    refine ik_aload_n C 0 rfl rfl dX5_cellBit_14 ?_
    refine ik_get C inlX5 0 rfl rfl 2 (by decide) wl_3_3 rfl (v := .ref w2) rfl dX5_cellBit_15 ?_
    refine ik_iload_n C 1 rfl rfl dX5_cellBit_18 ?_
    have hg := ik_gdi hf
    have hf := ik_gdk hf
    refine ik_iald C 2 rfl hg dX5_cellBit_19 ?_
    refine ik_lshl C dX5_cellBit_20 ?_
    cases hf
    exact ik_lretR C hr hlk dX5_cellBit_21
  · have hf := ik_neg hc hf
    refine ik_lconst (v := (0 : Int64)) C (by decide) dX5_cellBit_9 ?_
    refine ik_goto C 21 dX5_cellBit_10 (by decide) ?_
    cases hf
    exact ik_lretR C hr hlk dX5_cellBit_21
theorem mv_X5_thicken : ik_V yX5_thicken RX5 cX5_thicken 4 (some .int) 2 := ⟨wl_14_2, wl_14_3, wl_2_12, wl_14_4, by decide +kernel⟩
set_option maxHeartbeats 4000000 in
set_option maxRecDepth 100000 in
theorem c_X5_thicken (l : Launch) (D : va_G) (cI cS : ClassId) (w0 w1 w2 w3 w4 : Nat) (nb : Int32) (kd : Nat → Int32) (cl : Nat → Int32) (gr : Nat → Int32) (oc : Nat → Int32) (x1 : Int32) (x2 : Int32) (R : Int32) (gr_r : Nat → Int32) (hf : f_X5_thicken gr x1 x2 = some (R, gr_r)) : Met l yX5_thicken (ik_ws yX5_thicken cX5_thicken 4 (some .int)) ({ frames := 1, cells := 0, slots := 0, locals := 21 } : Room) (ik_P D cI cS [.ref w0, .int x1, .int x2] (wz_X5 cI cS w0 w1 w2 w3 w4 nb kd cl gr oc)) (ik_Q (some (.int R)) D (wz_X5 cI cS w0 w1 w2 w3 w4 nb kd cl gr_r oc) (wz_X5 cI cS w0 w1 w2 w3 w4 nb kd cl gr oc)) 0 0 (ik_in (wz_X5 cI cS w0 w1 w2 w3 w4 nb kd cl gr oc)) := by
  refine ik_metW RX5 rfl (by decide) (Nat.le_of_ble_eq_true rfl) [(0, .ref w0), (1, .int x1), (2, .int x2)] rfl ?_
  intro p e s m below meth c C hr hlk
  unfold f_X5_thicken at hf
  refine ik_iload_n C 2 rfl rfl dX5_thicken_0 ?_
  refine ik_bipush (v := (99 : Int32)) C (by decide) dX5_thicken_1 ?_
  refine ik_aload_n C 0 rfl rfl dX5_thicken_3 ?_
  refine ik_get C inlX5 0 rfl rfl 3 (by decide) wl_3_4 rfl (v := .ref w3) rfl dX5_thicken_4 ?_
  refine ik_iload_n C 1 rfl rfl dX5_thicken_7 ?_
  have hg := ik_gdi hf
  have hf := ik_gdk hf
  refine ik_iald C 3 rfl hg dX5_thicken_8 ?_
  refine ik_isub C dX5_thicken_9 ?_
  refine ik_mmin C wl_14_5 wl_14_6 wl_13_23 wl_14_7 (Nat.le_of_ble_eq_true rfl) (Nat.le_of_ble_eq_true rfl) dX5_thicken_10 ?_
  refine ik_istore_n C [(3, .int (ik_min x2 ((99 : Int32) - (gr (x1).toNatClampNeg)))), (0, .ref w0), (1, .int x1), (2, .int x2)] rfl (by decide) rfl dX5_thicken_13 ?_
  refine ik_aload_n C 1 rfl rfl dX5_thicken_14 ?_
  refine ik_get C inlX5 0 rfl rfl 3 (by decide) wl_3_4 rfl (v := .ref w3) rfl dX5_thicken_15 ?_
  refine ik_iload_n C 2 rfl rfl dX5_thicken_18 ?_
  refine ik_dup2 C rfl rfl dX5_thicken_19 ?_
  have hg := ik_gdi hf
  have hf := ik_gdk hf
  refine ik_iald C 3 rfl hg dX5_thicken_20 ?_
  refine ik_iload_n C 0 rfl rfl dX5_thicken_21 ?_
  refine ik_iadd C dX5_thicken_22 ?_
  have hg := ik_gdi hf
  have hf := ik_gdk hf
  refine ik_iast C 3 rfl hg (wz_X5 cI cS w0 w1 w2 w3 w4 nb kd cl (upd gr (x1).toNatClampNeg ((gr (x1).toNatClampNeg) + (ik_min x2 ((99 : Int32) - (gr (x1).toNatClampNeg))))) oc) rfl dX5_thicken_23 ?_
  refine ik_iload_n C 0 rfl rfl dX5_thicken_24 ?_
  cases hf
  exact ik_iretW C hr hlk dX5_thicken_25
theorem mv_X5_allGrains : ik_V yX5_allGrains RX5 cX5_allGrains 3 (some .int) 0 := ⟨wl_24_9, wl_24_10, wl_2_12, wl_24_11, by decide +kernel⟩
set_option maxHeartbeats 4000000 in
set_option maxRecDepth 100000 in
theorem c_X5_allGrains (l : Launch) (D : va_G) (cI cS : ClassId) (w0 w1 w2 w3 w4 : Nat) (nb : Int32) (kd : Nat → Int32) (cl : Nat → Int32) (gr : Nat → Int32) (oc : Nat → Int32) (R : Int32) (hf : f_X5_allGrains nb gr = some (R)) : Met l yX5_allGrains (ik_ws yX5_allGrains cX5_allGrains 3 (some .int)) ({ frames := 0, cells := 0, slots := 0, locals := 0 } : Room) (ik_P D cI cS [.ref w0] (wz_X5 cI cS w0 w1 w2 w3 w4 nb kd cl gr oc)) (ik_R (some (.int R))) 0 0 ik_no := by
  refine ik_metR RX5 rfl (by decide) (Nat.le_of_ble_eq_true rfl) [(0, .ref w0)] rfl ?_
  intro p e s m below meth c C hr hlk
  unfold f_X5_allGrains at hf
  refine ik_iconst (v := (0 : Int32)) C (by decide) dX5_allGrains_0 ?_
  refine ik_istore_n C [(1, .int (0 : Int32)), (0, .ref w0)] rfl (by decide) rfl dX5_allGrains_1 ?_
  refine ik_iconst (v := (0 : Int32)) C (by decide) dX5_allGrains_2 ?_
  refine ik_istore_n C [(2, .int (0 : Int32)), (1, .int (0 : Int32)), (0, .ref w0)] rfl (by decide) rfl dX5_allGrains_3 ?_
  have hL_4 : ∀ (n_4 : Nat) (x1_4 : Int32) (x2_4 : Int32), ik_lp2 (b_X5_allGrains_4 nb gr) n_4 x1_4 x2_4 = some (R) → ik_G p l e ({ frames := 0, cells := 0, slots := 0, locals := 0 } : Room) s m ([.ref w0] : List Value).toArray below meth c D ik_no (fun _ => True) 3 (MQ below (ik_R (some (.int R))) ([.ref w0] : List Value).toArray s 0 0 ik_no) 4 [(2, .int x2_4), (1, .int x1_4), (0, .ref w0)] [] (wz_X5 cI cS w0 w1 w2 w3 w4 nb kd cl gr oc) := by
    intro n_4
    induction n_4 with
    | zero => intro _ _ hf; exact nomatch hf
    | succ n_4 ih_4 =>
      intro x1_4 x2_4 hf
      replace hf : b_X5_allGrains_4 nb gr (ik_lp2 (b_X5_allGrains_4 nb gr) n_4) x1_4 x2_4 = some (R) := hf
      unfold b_X5_allGrains_4 at hf
      refine ik_iload_n C 0 rfl rfl dX5_allGrains_4 ?_
      refine ik_aload_n C 2 rfl rfl dX5_allGrains_5 ?_
      refine ik_get C inlX5 0 rfl rfl 0 (by decide) wl_6_0 rfl (v := .int nb) rfl dX5_allGrains_6 ?_
      refine ik_icmp_ge C 27 dX5_allGrains_9 (by decide) (fun hc => ?_) (fun hc => ?_)
      · have hf := ik_pos hc hf
        refine ik_iload_n C 1 rfl rfl dX5_allGrains_27 ?_
        cases hf
        exact ik_iretR C hr hlk dX5_allGrains_28
      · have hf := ik_neg hc hf
        refine ik_iload_n C 1 rfl rfl dX5_allGrains_12 ?_
        refine ik_aload_n C 2 rfl rfl dX5_allGrains_13 ?_
        refine ik_get C inlX5 0 rfl rfl 3 (by decide) wl_3_4 rfl (v := .ref w3) rfl dX5_allGrains_14 ?_
        refine ik_iload_n C 0 rfl rfl dX5_allGrains_17 ?_
        have hg := ik_gdi hf
        have hf := ik_gdk hf
        refine ik_iald C 3 rfl hg dX5_allGrains_18 ?_
        refine ik_iadd C dX5_allGrains_19 ?_
        refine ik_istore_n C [(1, .int (x1_4 + (gr (x2_4).toNatClampNeg))), (2, .int x2_4), (0, .ref w0)] rfl (by decide) rfl dX5_allGrains_20 ?_
        refine ik_iinc C [(2, .int (x2_4 + (1 : Int32))), (1, .int (x1_4 + (gr (x2_4).toNatClampNeg))), (0, .ref w0)] 1 rfl rfl (by decide) rfl dX5_allGrains_21 ?_
        refine ik_goto C 4 dX5_allGrains_24 (by decide) ?_
        exact ik_sub [0, 1, 2] [(2, .int (x2_4 + (1 : Int32))), (1, .int (x1_4 + (gr (x2_4).toNatClampNeg))), (0, .ref w0)] rfl (ih_4 (x1_4 + (gr (x2_4).toNatClampNeg)) (x2_4 + (1 : Int32)) hf)
  exact hL_4 ik_fu (0 : Int32) (0 : Int32) hf
theorem mv_X5_goneSet : ik_V yX5_goneSet RX5 cX5_goneSet 3 (some .int) 0 := ⟨wl_24_13, wl_24_14, wl_2_12, wl_24_15, by decide +kernel⟩
set_option maxHeartbeats 4000000 in
set_option maxRecDepth 100000 in
theorem c_X5_goneSet (l : Launch) (D : va_G) (cI cS : ClassId) (w0 w1 w2 w3 w4 : Nat) (nb : Int32) (kd : Nat → Int32) (cl : Nat → Int32) (gr : Nat → Int32) (oc : Nat → Int32) (R : Int32) (hf : f_X5_goneSet nb cl = some (R)) : Met l yX5_goneSet (ik_ws yX5_goneSet cX5_goneSet 3 (some .int)) ({ frames := 1, cells := 0, slots := 0, locals := 21 } : Room) (ik_P D cI cS [.ref w0] (wz_X5 cI cS w0 w1 w2 w3 w4 nb kd cl gr oc)) (ik_R (some (.int R))) 0 0 ik_no := by
  refine ik_metR RX5 rfl (by decide) (Nat.le_of_ble_eq_true rfl) [(0, .ref w0)] rfl ?_
  intro p e s m below meth c C hr hlk
  unfold f_X5_goneSet at hf
  refine ik_iconst (v := (0 : Int32)) C (by decide) dX5_goneSet_0 ?_
  refine ik_istore_n C [(1, .int (0 : Int32)), (0, .ref w0)] rfl (by decide) rfl dX5_goneSet_1 ?_
  refine ik_iconst (v := (0 : Int32)) C (by decide) dX5_goneSet_2 ?_
  refine ik_istore_n C [(2, .int (0 : Int32)), (1, .int (0 : Int32)), (0, .ref w0)] rfl (by decide) rfl dX5_goneSet_3 ?_
  have hL_4 : ∀ (n_4 : Nat) (x1_4 : Int32) (x2_4 : Int32), ik_lp2 (b_X5_goneSet_4 nb cl) n_4 x1_4 x2_4 = some (R) → ik_G p l e ({ frames := 1, cells := 0, slots := 0, locals := 21 } : Room) s m ([.ref w0] : List Value).toArray below meth c D ik_no (fun _ => True) 3 (MQ below (ik_R (some (.int R))) ([.ref w0] : List Value).toArray s 0 0 ik_no) 4 [(2, .int x2_4), (1, .int x1_4), (0, .ref w0)] [] (wz_X5 cI cS w0 w1 w2 w3 w4 nb kd cl gr oc) := by
    intro n_4
    induction n_4 with
    | zero => intro _ _ hf; exact nomatch hf
    | succ n_4 ih_4 =>
      intro x1_4 x2_4 hf
      replace hf : b_X5_goneSet_4 nb cl (ik_lp2 (b_X5_goneSet_4 nb cl) n_4) x1_4 x2_4 = some (R) := hf
      unfold b_X5_goneSet_4 at hf
      refine ik_iload_n C 0 rfl rfl dX5_goneSet_4 ?_
      refine ik_aload_n C 2 rfl rfl dX5_goneSet_5 ?_
      refine ik_get C inlX5 0 rfl rfl 0 (by decide) wl_6_0 rfl (v := .int nb) rfl dX5_goneSet_6 ?_
      refine ik_icmp_ge C 32 dX5_goneSet_9 (by decide) (fun hc => ?_) (fun hc => ?_)
      · have hf := ik_pos hc hf
        refine ik_iload_n C 1 rfl rfl dX5_goneSet_32 ?_
        cases hf
        exact ik_iretR C hr hlk dX5_goneSet_33
      · have hf := ik_neg hc hf
        refine ik_aload_n C 2 rfl rfl dX5_goneSet_12 ?_
        refine ik_iload_n C 0 rfl rfl dX5_goneSet_13 ?_
        obtain ⟨r1, hc1, hf⟩ := ik_b1s hf
        refine ik_goR (ik_runV C (c_X5_isGone l D cI cS w0 w1 w2 w3 w4 nb kd cl gr oc x2_4 r1 hc1) mv_X5_isGone wl_9_8 ⟨rfl, rfl, Nat.le_of_ble_eq_true rfl, Nat.le_of_ble_eq_true rfl⟩ [0, 1, 2, 3, 4] rfl (by decide) 0 rfl rfl rfl rfl (Nat.le_of_ble_eq_true rfl) dX5_goneSet_14) rfl ?_
        refine ik_if_eq C 26 dX5_goneSet_17 (by decide) (fun hc => ?_) (fun hc => ?_)
        · have hf := ik_pos hc hf
          refine ik_iinc C [(2, .int (x2_4 + (1 : Int32))), (1, .int x1_4), (0, .ref w0)] 0 rfl rfl (by decide) rfl dX5_goneSet_26 ?_
          refine ik_goto C 4 dX5_goneSet_29 (by decide) ?_
          exact ik_sub [0, 1, 2] [(2, .int (x2_4 + (1 : Int32))), (1, .int x1_4), (0, .ref w0)] rfl (ih_4 x1_4 (x2_4 + (1 : Int32)) hf)
        · have hf := ik_neg hc hf
          refine ik_iload_n C 1 rfl rfl dX5_goneSet_20 ?_
          refine ik_iconst (v := (1 : Int32)) C (by decide) dX5_goneSet_21 ?_
          refine ik_iload_n C 0 rfl rfl dX5_goneSet_22 ?_
          refine ik_ishl C dX5_goneSet_23 ?_
          refine ik_ior C dX5_goneSet_24 ?_
          refine ik_istore_n C [(1, .int (x1_4 ||| ((1 : Int32) <<< (x2_4 &&& 31)))), (2, .int x2_4), (0, .ref w0)] rfl (by decide) rfl dX5_goneSet_25 ?_
          refine ik_iinc C [(2, .int (x2_4 + (1 : Int32))), (1, .int (x1_4 ||| ((1 : Int32) <<< (x2_4 &&& 31)))), (0, .ref w0)] 1 rfl rfl (by decide) rfl dX5_goneSet_26 ?_
          refine ik_goto C 4 dX5_goneSet_29 (by decide) ?_
          exact ik_sub [0, 1, 2] [(2, .int (x2_4 + (1 : Int32))), (1, .int (x1_4 ||| ((1 : Int32) <<< (x2_4 &&& 31)))), (0, .ref w0)] rfl (ih_4 (x1_4 ||| ((1 : Int32) <<< (x2_4 &&& 31))) (x2_4 + (1 : Int32)) hf)
  exact hL_4 ik_fu (0 : Int32) (0 : Int32) hf
theorem mv_X5_occupied : ik_V yX5_occupied RX5 cX5_occupied 4 (some .long) 0 := ⟨wl_29_23, wl_30_0, wl_2_12, wl_30_1, by decide +kernel⟩
set_option maxHeartbeats 4000000 in
set_option maxRecDepth 100000 in
theorem c_X5_occupied (l : Launch) (D : va_G) (cI cS : ClassId) (w0 w1 w2 w3 w4 : Nat) (nb : Int32) (kd : Nat → Int32) (cl : Nat → Int32) (gr : Nat → Int32) (oc : Nat → Int32) (R : Int64) (hf : f_X5_occupied nb cl = some (R)) : Met l yX5_occupied (ik_ws yX5_occupied cX5_occupied 4 (some .long)) ({ frames := 1, cells := 0, slots := 0, locals := 21 } : Room) (ik_P D cI cS [.ref w0] (wz_X5 cI cS w0 w1 w2 w3 w4 nb kd cl gr oc)) (ik_R (some (.long R))) 0 0 ik_no := by
  refine ik_metR RX5 rfl (by decide) (Nat.le_of_ble_eq_true rfl) [(0, .ref w0)] rfl ?_
  intro p e s m below meth c C hr hlk
  unfold f_X5_occupied at hf
  refine ik_lconst (v := (0 : Int64)) C (by decide) dX5_occupied_0 ?_
  refine ik_lstore_n C [(1, .long (0 : Int64)), (0, .ref w0)] rfl (by decide) rfl dX5_occupied_1 ?_
  refine ik_iconst (v := (0 : Int32)) C (by decide) dX5_occupied_2 ?_
  refine ik_istore_n C [(3, .int (0 : Int32)), (1, .long (0 : Int64)), (0, .ref w0)] rfl (by decide) rfl dX5_occupied_3 ?_
  have hL_4 : ∀ (n_4 : Nat) (x1_4 : Int64) (x3_4 : Int32), ik_lp2 (b_X5_occupied_4 nb cl) n_4 x1_4 x3_4 = some (R) → ik_G p l e ({ frames := 1, cells := 0, slots := 0, locals := 21 } : Room) s m ([.ref w0] : List Value).toArray below meth c D ik_no (fun _ => True) 4 (MQ below (ik_R (some (.long R))) ([.ref w0] : List Value).toArray s 0 0 ik_no) 4 [(3, .int x3_4), (1, .long x1_4), (0, .ref w0)] [] (wz_X5 cI cS w0 w1 w2 w3 w4 nb kd cl gr oc) := by
    intro n_4
    induction n_4 with
    | zero => intro _ _ hf; exact nomatch hf
    | succ n_4 ih_4 =>
      intro x1_4 x3_4 hf
      replace hf : b_X5_occupied_4 nb cl (ik_lp2 (b_X5_occupied_4 nb cl) n_4) x1_4 x3_4 = some (R) := hf
      unfold b_X5_occupied_4 at hf
      refine ik_iload_n C 0 rfl rfl dX5_occupied_4 ?_
      refine ik_aload_n C 2 rfl rfl dX5_occupied_5 ?_
      refine ik_get C inlX5 0 rfl rfl 0 (by decide) wl_6_0 rfl (v := .int nb) rfl dX5_occupied_6 ?_
      refine ik_icmp_ge C 26 dX5_occupied_9 (by decide) (fun hc => ?_) (fun hc => ?_)
      · have hf := ik_pos hc hf
        refine ik_lload_n C 1 rfl rfl dX5_occupied_26 ?_
        cases hf
        exact ik_lretR C hr hlk dX5_occupied_27
      · have hf := ik_neg hc hf
        refine ik_lload_n C 1 rfl rfl dX5_occupied_12 ?_
        refine ik_aload_n C 2 rfl rfl dX5_occupied_13 ?_
        refine ik_iload_n C 0 rfl rfl dX5_occupied_14 ?_
        obtain ⟨r1, hc1, hf⟩ := ik_b1s hf
        refine ik_goR (ik_runV C (c_X5_cellBit l D cI cS w0 w1 w2 w3 w4 nb kd cl gr oc x3_4 r1 hc1) mv_X5_cellBit wl_8_23 ⟨rfl, rfl, Nat.le_of_ble_eq_true rfl, Nat.le_of_ble_eq_true rfl⟩ [0, 1, 2, 3, 4] rfl (by decide) 0 rfl rfl rfl rfl (Nat.le_of_ble_eq_true rfl) dX5_occupied_15) rfl ?_
        refine ik_lor C dX5_occupied_18 ?_
        refine ik_lstore_n C [(1, .long (x1_4 ||| r1)), (3, .int x3_4), (0, .ref w0)] rfl (by decide) rfl dX5_occupied_19 ?_
        refine ik_iinc C [(3, .int (x3_4 + (1 : Int32))), (1, .long (x1_4 ||| r1)), (0, .ref w0)] 1 rfl rfl (by decide) rfl dX5_occupied_20 ?_
        refine ik_goto C 4 dX5_occupied_23 (by decide) ?_
        exact ik_sub [0, 1, 2] [(3, .int (x3_4 + (1 : Int32))), (1, .long (x1_4 ||| r1)), (0, .ref w0)] rfl (ih_4 (x1_4 ||| r1) (x3_4 + (1 : Int32)) hf)
  exact hL_4 ik_fu (0 : Int64) (0 : Int32) hf
theorem mv_X5_standsBy : ik_V yX5_standsBy RX5 cX5_standsBy 8 (some .boolean) 2 := ⟨wl_8_20, wl_8_21, wl_2_12, wl_8_22, by decide +kernel⟩
set_option maxHeartbeats 4000000 in
set_option maxRecDepth 100000 in
theorem c_X5_standsBy (l : Launch) (D : va_G) (cI cS : ClassId) (w0 w1 w2 w3 w4 : Nat) (nb : Int32) (kd : Nat → Int32) (cl : Nat → Int32) (gr : Nat → Int32) (oc : Nat → Int32) (x1 : Int32) (y2 : Int64) (R : Int32) (hf : f_X5_standsBy kd cl x1 y2 = some (R)) : Met l yX5_standsBy (ik_ws yX5_standsBy cX5_standsBy 8 (some .boolean)) ({ frames := 0, cells := 0, slots := 0, locals := 0 } : Room) (ik_P D cI cS [.ref w0, .int x1, .long y2] (wz_X5 cI cS w0 w1 w2 w3 w4 nb kd cl gr oc)) (ik_R (some (.int R))) 0 0 ik_no := by
  refine ik_metR RX5 rfl (by decide) (Nat.le_of_ble_eq_true rfl) [(0, .ref w0), (1, .int x1), (2, .long y2)] rfl ?_
  intro p e s m below meth c C hr hlk
  unfold f_X5_standsBy at hf
  refine ik_aload_n C 0 rfl rfl dX5_standsBy_0 ?_
  refine ik_get C inlX5 0 rfl rfl 2 (by decide) wl_3_3 rfl (v := .ref w2) rfl dX5_standsBy_1 ?_
  refine ik_iload_n C 1 rfl rfl dX5_standsBy_4 ?_
  have hg := ik_gdi hf
  have hf := ik_gdk hf
  refine ik_iald C 2 rfl hg dX5_standsBy_5 ?_
  refine ik_istore C [(4, .int (cl (x1).toNatClampNeg)), (0, .ref w0), (1, .int x1), (2, .long y2)] (by decide) rfl dX5_standsBy_6 ?_
  refine ik_iload C 0 rfl dX5_standsBy_8 ?_
  refine ik_bipush (v := (8 : Int32)) C (by decide) dX5_standsBy_10 ?_
  refine ik_icmp_ge C 26 dX5_standsBy_12 (by decide) (fun hc => ?_) (fun hc => ?_)
  · have hf := ik_pos hc hf
    have hJ_45 : ∀ (v0_45 : Int32), j_X5_standsBy_45 kd cl x1 y2 v0_45 = some (R) → ik_G p l e ({ frames := 0, cells := 0, slots := 0, locals := 0 } : Room) s m ([.ref w0, .int x1, .long y2] : List Value).toArray below meth c D ik_no (fun _ => True) 8 (MQ below (ik_R (some (.int R))) ([.ref w0, .int x1, .long y2] : List Value).toArray s 0 0 ik_no) 45 [(4, .int (cl (x1).toNatClampNeg)), (0, .ref w0), (1, .int x1), (2, .long y2)] [.int v0_45] (wz_X5 cI cS w0 w1 w2 w3 w4 nb kd cl gr oc) := by
      intro v0_45 hf
      unfold j_X5_standsBy_45 at hf
      refine ik_istore C [(5, .int v0_45), (4, .int (cl (x1).toNatClampNeg)), (0, .ref w0), (1, .int x1), (2, .long y2)] (by decide) rfl dX5_standsBy_45 ?_
      have hJ_73 : ∀ (v0_73 : Int32), j_X5_standsBy_73 kd cl x1 y2 v0_45 v0_73 = some (R) → ik_G p l e ({ frames := 0, cells := 0, slots := 0, locals := 0 } : Room) s m ([.ref w0, .int x1, .long y2] : List Value).toArray below meth c D ik_no (fun _ => True) 8 (MQ below (ik_R (some (.int R))) ([.ref w0, .int x1, .long y2] : List Value).toArray s 0 0 ik_no) 73 [(5, .int v0_45), (4, .int (cl (x1).toNatClampNeg)), (0, .ref w0), (1, .int x1), (2, .long y2)] [.int v0_73] (wz_X5 cI cS w0 w1 w2 w3 w4 nb kd cl gr oc) := by
        intro v0_73 hf
        unfold j_X5_standsBy_73 at hf
        refine ik_istore C [(6, .int v0_73), (5, .int v0_45), (4, .int (cl (x1).toNatClampNeg)), (0, .ref w0), (1, .int x1), (2, .long y2)] (by decide) rfl dX5_standsBy_73 ?_
        have hJ_103 : ∀ (v0_103 : Int32), j_X5_standsBy_103 kd cl x1 y2 v0_45 v0_73 v0_103 = some (R) → ik_G p l e ({ frames := 0, cells := 0, slots := 0, locals := 0 } : Room) s m ([.ref w0, .int x1, .long y2] : List Value).toArray below meth c D ik_no (fun _ => True) 8 (MQ below (ik_R (some (.int R))) ([.ref w0, .int x1, .long y2] : List Value).toArray s 0 0 ik_no) 103 [(6, .int v0_73), (5, .int v0_45), (4, .int (cl (x1).toNatClampNeg)), (0, .ref w0), (1, .int x1), (2, .long y2)] [.int v0_103] (wz_X5 cI cS w0 w1 w2 w3 w4 nb kd cl gr oc) := by
          intro v0_103 hf
          unfold j_X5_standsBy_103 at hf
          refine ik_istore C [(7, .int v0_103), (6, .int v0_73), (5, .int v0_45), (4, .int (cl (x1).toNatClampNeg)), (0, .ref w0), (1, .int x1), (2, .long y2)] (by decide) rfl dX5_standsBy_103 ?_
          refine ik_aload_n C 4 rfl rfl dX5_standsBy_105 ?_
          refine ik_get C inlX5 0 rfl rfl 1 (by decide) wl_3_2 rfl (v := .ref w1) rfl dX5_standsBy_106 ?_
          refine ik_iload_n C 5 rfl rfl dX5_standsBy_109 ?_
          have hg := ik_gdi hf
          have hf := ik_gdk hf
          refine ik_iald C 1 rfl hg dX5_standsBy_110 ?_
          by_cases hn1 : (kd (x1).toNatClampNeg) = (1 : Int32)
          · have hf := ik_pos hn1 hf
            refine ik_tcase C (1 : Int32) hn1 148 dX5_standsBy_111 (by decide) (by decide) rfl (by decide) ?_
            refine ik_iload C 2 rfl dX5_standsBy_148 ?_
            refine ik_if_ne C 163 dX5_standsBy_150 (by decide) (fun hc => ?_) (fun hc => ?_)
            · have hf := ik_neg hc hf
              refine ik_iconst (v := (1 : Int32)) C (by decide) dX5_standsBy_163 ?_
              refine ik_goto C 168 dX5_standsBy_164 (by decide) ?_
              cases hf
              exact ik_zretR C hr (by decide) hlk dX5_standsBy_168
            · have hf := ik_pos hc hf
              refine ik_iload C 1 rfl dX5_standsBy_153 ?_
              refine ik_if_eq C 167 dX5_standsBy_155 (by decide) (fun hc => ?_) (fun hc => ?_)
              · have hf := ik_pos hc hf
                refine ik_iconst (v := (0 : Int32)) C (by decide) dX5_standsBy_167 ?_
                cases hf
                exact ik_zretR C hr (by decide) hlk dX5_standsBy_168
              · have hf := ik_neg hc hf
                refine ik_iload C 0 rfl dX5_standsBy_158 ?_
                refine ik_if_eq C 167 dX5_standsBy_160 (by decide) (fun hc => ?_) (fun hc => ?_)
                · have hf := ik_pos hc hf
                  refine ik_iconst (v := (0 : Int32)) C (by decide) dX5_standsBy_167 ?_
                  cases hf
                  exact ik_zretR C hr (by decide) hlk dX5_standsBy_168
                · have hf := ik_neg hc hf
                  refine ik_iconst (v := (1 : Int32)) C (by decide) dX5_standsBy_163 ?_
                  refine ik_goto C 168 dX5_standsBy_164 (by decide) ?_
                  cases hf
                  exact ik_zretR C hr (by decide) hlk dX5_standsBy_168
          · have hf := ik_neg hn1 hf
            by_cases hn2 : (kd (x1).toNatClampNeg) = (2 : Int32)
            · have hf := ik_pos hn2 hf
              refine ik_tcase C (2 : Int32) hn2 169 dX5_standsBy_111 (by decide) (by decide) rfl (by decide) ?_
              refine ik_iload C 2 rfl dX5_standsBy_169 ?_
              refine ik_if_ne C 184 dX5_standsBy_171 (by decide) (fun hc => ?_) (fun hc => ?_)
              · have hf := ik_neg hc hf
                refine ik_iconst (v := (1 : Int32)) C (by decide) dX5_standsBy_184 ?_
                refine ik_goto C 189 dX5_standsBy_185 (by decide) ?_
                cases hf
                exact ik_zretR C hr (by decide) hlk dX5_standsBy_189
              · have hf := ik_pos hc hf
                refine ik_iload C 1 rfl dX5_standsBy_174 ?_
                refine ik_if_ne C 184 dX5_standsBy_176 (by decide) (fun hc => ?_) (fun hc => ?_)
                · have hf := ik_neg hc hf
                  refine ik_iconst (v := (1 : Int32)) C (by decide) dX5_standsBy_184 ?_
                  refine ik_goto C 189 dX5_standsBy_185 (by decide) ?_
                  cases hf
                  exact ik_zretR C hr (by decide) hlk dX5_standsBy_189
                · have hf := ik_pos hc hf
                  refine ik_iload C 0 rfl dX5_standsBy_179 ?_
                  refine ik_if_eq C 188 dX5_standsBy_181 (by decide) (fun hc => ?_) (fun hc => ?_)
                  · have hf := ik_pos hc hf
                    refine ik_iconst (v := (0 : Int32)) C (by decide) dX5_standsBy_188 ?_
                    cases hf
                    exact ik_zretR C hr (by decide) hlk dX5_standsBy_189
                  · have hf := ik_neg hc hf
                    refine ik_iconst (v := (1 : Int32)) C (by decide) dX5_standsBy_184 ?_
                    refine ik_goto C 189 dX5_standsBy_185 (by decide) ?_
                    cases hf
                    exact ik_zretR C hr (by decide) hlk dX5_standsBy_189
            · have hf := ik_neg hn2 hf
              by_cases hn3 : (kd (x1).toNatClampNeg) = (3 : Int32)
              · have hf := ik_pos hn3 hf
                refine ik_tcase C (3 : Int32) hn3 148 dX5_standsBy_111 (by decide) (by decide) rfl (by decide) ?_
                refine ik_iload C 2 rfl dX5_standsBy_148 ?_
                refine ik_if_ne C 163 dX5_standsBy_150 (by decide) (fun hc => ?_) (fun hc => ?_)
                · have hf := ik_neg hc hf
                  refine ik_iconst (v := (1 : Int32)) C (by decide) dX5_standsBy_163 ?_
                  refine ik_goto C 168 dX5_standsBy_164 (by decide) ?_
                  cases hf
                  exact ik_zretR C hr (by decide) hlk dX5_standsBy_168
                · have hf := ik_pos hc hf
                  refine ik_iload C 1 rfl dX5_standsBy_153 ?_
                  refine ik_if_eq C 167 dX5_standsBy_155 (by decide) (fun hc => ?_) (fun hc => ?_)
                  · have hf := ik_pos hc hf
                    refine ik_iconst (v := (0 : Int32)) C (by decide) dX5_standsBy_167 ?_
                    cases hf
                    exact ik_zretR C hr (by decide) hlk dX5_standsBy_168
                  · have hf := ik_neg hc hf
                    refine ik_iload C 0 rfl dX5_standsBy_158 ?_
                    refine ik_if_eq C 167 dX5_standsBy_160 (by decide) (fun hc => ?_) (fun hc => ?_)
                    · have hf := ik_pos hc hf
                      refine ik_iconst (v := (0 : Int32)) C (by decide) dX5_standsBy_167 ?_
                      cases hf
                      exact ik_zretR C hr (by decide) hlk dX5_standsBy_168
                    · have hf := ik_neg hc hf
                      refine ik_iconst (v := (1 : Int32)) C (by decide) dX5_standsBy_163 ?_
                      refine ik_goto C 168 dX5_standsBy_164 (by decide) ?_
                      cases hf
                      exact ik_zretR C hr (by decide) hlk dX5_standsBy_168
              · have hf := ik_neg hn3 hf
                by_cases hn4 : (kd (x1).toNatClampNeg) = (4 : Int32)
                · have hf := ik_pos hn4 hf
                  refine ik_tcase C (4 : Int32) hn4 210 dX5_standsBy_111 (by decide) (by decide) rfl (by decide) ?_
                  refine ik_iload C 2 rfl dX5_standsBy_210 ?_
                  have hz := ik_gzi hf
                  have hf := ik_gzk hf
                  cases hf
                  exact ik_zretR C hr hz.1 hlk dX5_standsBy_212
                · have hf := ik_neg hn4 hf
                  by_cases hn5 : (kd (x1).toNatClampNeg) = (5 : Int32)
                  · have hf := ik_pos hn5 hf
                    refine ik_tcase C (5 : Int32) hn5 169 dX5_standsBy_111 (by decide) (by decide) rfl (by decide) ?_
                    refine ik_iload C 2 rfl dX5_standsBy_169 ?_
                    refine ik_if_ne C 184 dX5_standsBy_171 (by decide) (fun hc => ?_) (fun hc => ?_)
                    · have hf := ik_neg hc hf
                      refine ik_iconst (v := (1 : Int32)) C (by decide) dX5_standsBy_184 ?_
                      refine ik_goto C 189 dX5_standsBy_185 (by decide) ?_
                      cases hf
                      exact ik_zretR C hr (by decide) hlk dX5_standsBy_189
                    · have hf := ik_pos hc hf
                      refine ik_iload C 1 rfl dX5_standsBy_174 ?_
                      refine ik_if_ne C 184 dX5_standsBy_176 (by decide) (fun hc => ?_) (fun hc => ?_)
                      · have hf := ik_neg hc hf
                        refine ik_iconst (v := (1 : Int32)) C (by decide) dX5_standsBy_184 ?_
                        refine ik_goto C 189 dX5_standsBy_185 (by decide) ?_
                        cases hf
                        exact ik_zretR C hr (by decide) hlk dX5_standsBy_189
                      · have hf := ik_pos hc hf
                        refine ik_iload C 0 rfl dX5_standsBy_179 ?_
                        refine ik_if_eq C 188 dX5_standsBy_181 (by decide) (fun hc => ?_) (fun hc => ?_)
                        · have hf := ik_pos hc hf
                          refine ik_iconst (v := (0 : Int32)) C (by decide) dX5_standsBy_188 ?_
                          cases hf
                          exact ik_zretR C hr (by decide) hlk dX5_standsBy_189
                        · have hf := ik_neg hc hf
                          refine ik_iconst (v := (1 : Int32)) C (by decide) dX5_standsBy_184 ?_
                          refine ik_goto C 189 dX5_standsBy_185 (by decide) ?_
                          cases hf
                          exact ik_zretR C hr (by decide) hlk dX5_standsBy_189
                  · have hf := ik_neg hn5 hf
                    by_cases hn6 : (kd (x1).toNatClampNeg) = (6 : Int32)
                    · have hf := ik_pos hn6 hf
                      refine ik_tcase C (6 : Int32) hn6 190 dX5_standsBy_111 (by decide) (by decide) rfl (by decide) ?_
                      refine ik_lload_n C 6 rfl rfl dX5_standsBy_190 ?_
                      refine ik_iload C 3 rfl dX5_standsBy_191 ?_
                      refine ik_bipush (v := (8 : Int32)) C (by decide) dX5_standsBy_193 ?_
                      refine ik_iadd C dX5_standsBy_195 ?_
                      refine ik_lushr C dX5_standsBy_196 ?_
                      refine ik_lconst (v := (1 : Int64)) C (by decide) dX5_standsBy_197 ?_
                      refine ik_land C dX5_standsBy_198 ?_
                      refine ik_lconst (v := (0 : Int64)) C (by decide) dX5_standsBy_199 ?_
                      refine ik_lcmp C dX5_standsBy_200 ?_
                      refine ik_if_eq C 208 dX5_standsBy_201 (by decide) (fun hc => ?_) (fun hc => ?_)
                      · have hf := ik_pos hc hf
                        refine ik_iconst (v := (0 : Int32)) C (by decide) dX5_standsBy_208 ?_
                        cases hf
                        exact ik_zretR C hr (by decide) hlk dX5_standsBy_209
                      · have hf := ik_neg hc hf
                        refine ik_iconst (v := (1 : Int32)) C (by decide) dX5_standsBy_204 ?_
                        refine ik_goto C 209 dX5_standsBy_205 (by decide) ?_
                        cases hf
                        exact ik_zretR C hr (by decide) hlk dX5_standsBy_209
                    · have hf := ik_neg hn6 hf
                      refine ik_tout C 210 dX5_standsBy_111 (by have ehn1 : ((kd (x1).toNatClampNeg)).toInt ≠ 1 := fun h => hn1 (Int32.toInt_inj.mp h); have ehn2 : ((kd (x1).toNatClampNeg)).toInt ≠ 2 := fun h => hn2 (Int32.toInt_inj.mp h); have ehn3 : ((kd (x1).toNatClampNeg)).toInt ≠ 3 := fun h => hn3 (Int32.toInt_inj.mp h); have ehn4 : ((kd (x1).toNatClampNeg)).toInt ≠ 4 := fun h => hn4 (Int32.toInt_inj.mp h); have ehn5 : ((kd (x1).toNatClampNeg)).toInt ≠ 5 := fun h => hn5 (Int32.toInt_inj.mp h); have ehn6 : ((kd (x1).toNatClampNeg)).toInt ≠ 6 := fun h => hn6 (Int32.toInt_inj.mp h); omega) (by decide) ?_
                      refine ik_iload C 2 rfl dX5_standsBy_210 ?_
                      have hz := ik_gzi hf
                      have hf := ik_gzk hf
                      cases hf
                      exact ik_zretR C hr hz.1 hlk dX5_standsBy_212
        refine ik_iload C 2 rfl dX5_standsBy_75 ?_
        refine ik_bipush (v := (8 : Int32)) C (by decide) dX5_standsBy_77 ?_
        refine ik_irem C (by decide) dX5_standsBy_79 ?_
        refine ik_bipush (v := (7 : Int32)) C (by decide) dX5_standsBy_80 ?_
        refine ik_icmp_ge C 102 dX5_standsBy_82 (by decide) (fun hc => ?_) (fun hc => ?_)
        · have hf := ik_pos hc hf
          refine ik_iconst (v := (0 : Int32)) C (by decide) dX5_standsBy_102 ?_
          exact ik_sub [0, 1, 2, 3, 4, 5] [(6, .int v0_73), (5, .int v0_45), (4, .int (cl (x1).toNatClampNeg)), (0, .ref w0), (1, .int x1), (2, .long y2)] rfl (hJ_103 (0 : Int32) hf)
        · have hf := ik_neg hc hf
          refine ik_lload_n C 5 rfl rfl dX5_standsBy_85 ?_
          refine ik_iload C 2 rfl dX5_standsBy_86 ?_
          refine ik_iconst (v := (1 : Int32)) C (by decide) dX5_standsBy_88 ?_
          refine ik_iadd C dX5_standsBy_89 ?_
          refine ik_lushr C dX5_standsBy_90 ?_
          refine ik_lconst (v := (1 : Int64)) C (by decide) dX5_standsBy_91 ?_
          refine ik_land C dX5_standsBy_92 ?_
          refine ik_lconst (v := (0 : Int64)) C (by decide) dX5_standsBy_93 ?_
          refine ik_lcmp C dX5_standsBy_94 ?_
          refine ik_if_eq C 102 dX5_standsBy_95 (by decide) (fun hc => ?_) (fun hc => ?_)
          · have hf := ik_pos hc hf
            refine ik_iconst (v := (0 : Int32)) C (by decide) dX5_standsBy_102 ?_
            exact ik_sub [0, 1, 2, 3, 4, 5] [(6, .int v0_73), (5, .int v0_45), (4, .int (cl (x1).toNatClampNeg)), (0, .ref w0), (1, .int x1), (2, .long y2)] rfl (hJ_103 (0 : Int32) hf)
          · have hf := ik_neg hc hf
            refine ik_iconst (v := (1 : Int32)) C (by decide) dX5_standsBy_98 ?_
            refine ik_goto C 103 dX5_standsBy_99 (by decide) ?_
            exact ik_sub [0, 1, 2, 3, 4, 5] [(6, .int v0_73), (5, .int v0_45), (4, .int (cl (x1).toNatClampNeg)), (0, .ref w0), (1, .int x1), (2, .long y2)] rfl (hJ_103 (1 : Int32) hf)
      refine ik_iload C 1 rfl dX5_standsBy_47 ?_
      refine ik_bipush (v := (8 : Int32)) C (by decide) dX5_standsBy_49 ?_
      refine ik_irem C (by decide) dX5_standsBy_51 ?_
      refine ik_if_le C 72 dX5_standsBy_52 (by decide) (fun hc => ?_) (fun hc => ?_)
      · have hf := ik_pos hc hf
        refine ik_iconst (v := (0 : Int32)) C (by decide) dX5_standsBy_72 ?_
        exact ik_sub [0, 1, 2, 3, 4] [(5, .int v0_45), (4, .int (cl (x1).toNatClampNeg)), (0, .ref w0), (1, .int x1), (2, .long y2)] rfl (hJ_73 (0 : Int32) hf)
      · have hf := ik_neg hc hf
        refine ik_lload_n C 4 rfl rfl dX5_standsBy_55 ?_
        refine ik_iload C 1 rfl dX5_standsBy_56 ?_
        refine ik_iconst (v := (1 : Int32)) C (by decide) dX5_standsBy_58 ?_
        refine ik_isub C dX5_standsBy_59 ?_
        refine ik_lushr C dX5_standsBy_60 ?_
        refine ik_lconst (v := (1 : Int64)) C (by decide) dX5_standsBy_61 ?_
        refine ik_land C dX5_standsBy_62 ?_
        refine ik_lconst (v := (0 : Int64)) C (by decide) dX5_standsBy_63 ?_
        refine ik_lcmp C dX5_standsBy_64 ?_
        refine ik_if_eq C 72 dX5_standsBy_65 (by decide) (fun hc => ?_) (fun hc => ?_)
        · have hf := ik_pos hc hf
          refine ik_iconst (v := (0 : Int32)) C (by decide) dX5_standsBy_72 ?_
          exact ik_sub [0, 1, 2, 3, 4] [(5, .int v0_45), (4, .int (cl (x1).toNatClampNeg)), (0, .ref w0), (1, .int x1), (2, .long y2)] rfl (hJ_73 (0 : Int32) hf)
        · have hf := ik_neg hc hf
          refine ik_iconst (v := (1 : Int32)) C (by decide) dX5_standsBy_68 ?_
          refine ik_goto C 73 dX5_standsBy_69 (by decide) ?_
          exact ik_sub [0, 1, 2, 3, 4] [(5, .int v0_45), (4, .int (cl (x1).toNatClampNeg)), (0, .ref w0), (1, .int x1), (2, .long y2)] rfl (hJ_73 (1 : Int32) hf)
    refine ik_lload_n C 3 rfl rfl dX5_standsBy_26 ?_
    refine ik_iload C 0 rfl dX5_standsBy_27 ?_
    refine ik_bipush (v := (8 : Int32)) C (by decide) dX5_standsBy_29 ?_
    refine ik_isub C dX5_standsBy_31 ?_
    refine ik_lushr C dX5_standsBy_32 ?_
    refine ik_lconst (v := (1 : Int64)) C (by decide) dX5_standsBy_33 ?_
    refine ik_land C dX5_standsBy_34 ?_
    refine ik_lconst (v := (0 : Int64)) C (by decide) dX5_standsBy_35 ?_
    refine ik_lcmp C dX5_standsBy_36 ?_
    refine ik_if_eq C 44 dX5_standsBy_37 (by decide) (fun hc => ?_) (fun hc => ?_)
    · have hf := ik_pos hc hf
      refine ik_iconst (v := (0 : Int32)) C (by decide) dX5_standsBy_44 ?_
      exact ik_sub [0, 1, 2, 3] [(4, .int (cl (x1).toNatClampNeg)), (0, .ref w0), (1, .int x1), (2, .long y2)] rfl (hJ_45 (0 : Int32) hf)
    · have hf := ik_neg hc hf
      refine ik_iconst (v := (1 : Int32)) C (by decide) dX5_standsBy_40 ?_
      refine ik_goto C 45 dX5_standsBy_41 (by decide) ?_
      exact ik_sub [0, 1, 2, 3] [(4, .int (cl (x1).toNatClampNeg)), (0, .ref w0), (1, .int x1), (2, .long y2)] rfl (hJ_45 (1 : Int32) hf)
  · have hf := ik_neg hc hf
    refine ik_iload C 0 rfl dX5_standsBy_15 ?_
    refine ik_if_lt C 24 dX5_standsBy_17 (by decide) (fun hc => ?_) (fun hc => ?_)
    · have hf := ik_pos hc hf
      refine ik_iconst (v := (0 : Int32)) C (by decide) dX5_standsBy_24 ?_
      cases hf
      exact ik_zretR C hr (by decide) hlk dX5_standsBy_25
    · have hf := ik_neg hc hf
      refine ik_iconst (v := (1 : Int32)) C (by decide) dX5_standsBy_20 ?_
      refine ik_goto C 25 dX5_standsBy_21 (by decide) ?_
      cases hf
      exact ik_zretR C hr (by decide) hlk dX5_standsBy_25
theorem mv_X5_standing : ik_V yX5_standing RX5 cX5_standing 7 (some .long) 0 := ⟨wl_8_16, wl_8_17, wl_2_12, wl_8_18, by decide +kernel⟩
set_option maxHeartbeats 4000000 in
set_option maxRecDepth 100000 in
theorem c_X5_standing (l : Launch) (D : va_G) (cI cS : ClassId) (w0 w1 w2 w3 w4 : Nat) (nb : Int32) (kd : Nat → Int32) (cl : Nat → Int32) (gr : Nat → Int32) (oc : Nat → Int32) (R : Int64) (hf : f_X5_standing nb kd cl = some (R)) : Met l yX5_standing (ik_ws yX5_standing cX5_standing 7 (some .long)) ({ frames := 1, cells := 0, slots := 0, locals := 27 } : Room) (ik_P D cI cS [.ref w0] (wz_X5 cI cS w0 w1 w2 w3 w4 nb kd cl gr oc)) (ik_R (some (.long R))) 0 0 ik_no := by
  refine ik_metR RX5 rfl (by decide) (Nat.le_of_ble_eq_true rfl) [(0, .ref w0)] rfl ?_
  intro p e s m below meth c C hr hlk
  unfold f_X5_standing at hf
  refine ik_lconst (v := (0 : Int64)) C (by decide) dX5_standing_0 ?_
  refine ik_lstore_n C [(1, .long (0 : Int64)), (0, .ref w0)] rfl (by decide) rfl dX5_standing_1 ?_
  refine ik_iconst (v := (0 : Int32)) C (by decide) dX5_standing_2 ?_
  refine ik_istore_n C [(3, .int (0 : Int32)), (1, .long (0 : Int64)), (0, .ref w0)] rfl (by decide) rfl dX5_standing_3 ?_
  have hL_4 : ∀ (n_4 : Nat) (x1_4 : Int64) (x3_4 : Int32), ik_lp2 (b_X5_standing_4 nb kd cl) n_4 x1_4 x3_4 = some (R) → ik_G p l e ({ frames := 1, cells := 0, slots := 0, locals := 27 } : Room) s m ([.ref w0] : List Value).toArray below meth c D ik_no (fun _ => True) 7 (MQ below (ik_R (some (.long R))) ([.ref w0] : List Value).toArray s 0 0 ik_no) 4 [(3, .int x3_4), (1, .long x1_4), (0, .ref w0)] [] (wz_X5 cI cS w0 w1 w2 w3 w4 nb kd cl gr oc) := by
    intro n_4
    induction n_4 with
    | zero => intro _ _ hf; exact nomatch hf
    | succ n_4 ih_4 =>
      intro x1_4 x3_4 hf
      replace hf : b_X5_standing_4 nb kd cl (ik_lp2 (b_X5_standing_4 nb kd cl) n_4) x1_4 x3_4 = some (R) := hf
      unfold b_X5_standing_4 at hf
      refine ik_iload_n C 0 rfl rfl dX5_standing_4 ?_
      refine ik_bipush (v := (16 : Int32)) C (by decide) dX5_standing_5 ?_
      refine ik_icmp_gt C 66 dX5_standing_7 (by decide) (fun hc => ?_) (fun hc => ?_)
      · have hf := ik_pos hc hf
        refine ik_lload_n C 1 rfl rfl dX5_standing_66 ?_
        cases hf
        exact ik_lretR C hr hlk dX5_standing_67
      · have hf := ik_neg hc hf
        refine ik_lload_n C 1 rfl rfl dX5_standing_10 ?_
        refine ik_lstore C [(4, .long x1_4), (3, .int x3_4), (1, .long x1_4), (0, .ref w0)] (by decide) rfl dX5_standing_11 ?_
        refine ik_iconst (v := (0 : Int32)) C (by decide) dX5_standing_13 ?_
        refine ik_istore C [(6, .int (0 : Int32)), (4, .long x1_4), (3, .int x3_4), (1, .long x1_4), (0, .ref w0)] (by decide) rfl dX5_standing_14 ?_
        have hL_16 : ∀ (n_16 : Nat) (x1_16 : Int64) (x6_16 : Int32), ik_lp2 (b_X5_standing_16 nb kd cl x1_4 x3_4 (ik_lp2 (b_X5_standing_4 nb kd cl) n_4)) n_16 x1_16 x6_16 = some (R) → ik_G p l e ({ frames := 1, cells := 0, slots := 0, locals := 27 } : Room) s m ([.ref w0] : List Value).toArray below meth c D ik_no (fun _ => True) 7 (MQ below (ik_R (some (.long R))) ([.ref w0] : List Value).toArray s 0 0 ik_no) 16 [(6, .int x6_16), (4, .long x1_4), (3, .int x3_4), (1, .long x1_16), (0, .ref w0)] [] (wz_X5 cI cS w0 w1 w2 w3 w4 nb kd cl gr oc) := by
          intro n_16
          induction n_16 with
          | zero => intro _ _ hf; exact nomatch hf
          | succ n_16 ih_16 =>
            intro x1_16 x6_16 hf
            replace hf : b_X5_standing_16 nb kd cl x1_4 x3_4 (ik_lp2 (b_X5_standing_4 nb kd cl) n_4) (ik_lp2 (b_X5_standing_16 nb kd cl x1_4 x3_4 (ik_lp2 (b_X5_standing_4 nb kd cl) n_4)) n_16) x1_16 x6_16 = some (R) := hf
            unfold b_X5_standing_16 at hf
            refine ik_iload C 0 rfl dX5_standing_16 ?_
            refine ik_aload_n C 4 rfl rfl dX5_standing_18 ?_
            refine ik_get C inlX5 0 rfl rfl 0 (by decide) wl_6_0 rfl (v := .int nb) rfl dX5_standing_19 ?_
            refine ik_icmp_ge C 50 dX5_standing_22 (by decide) (fun hc => ?_) (fun hc => ?_)
            · have hf := ik_pos hc hf
              refine ik_lload_n C 3 rfl rfl dX5_standing_50 ?_
              refine ik_lload C 1 rfl dX5_standing_51 ?_
              refine ik_lcmp C dX5_standing_53 ?_
              refine ik_if_ne C 60 dX5_standing_54 (by decide) (fun hc => ?_) (fun hc => ?_)
              · have hf := ik_neg hc hf
                refine ik_iinc C [(3, .int (x3_4 + (1 : Int32))), (6, .int x6_16), (4, .long x1_4), (1, .long x1_16), (0, .ref w0)] 2 rfl rfl (by decide) rfl dX5_standing_60 ?_
                refine ik_goto C 4 dX5_standing_63 (by decide) ?_
                exact ik_sub [0, 3, 4] [(3, .int (x3_4 + (1 : Int32))), (1, .long x1_16), (0, .ref w0)] rfl (ih_4 x1_16 (x3_4 + (1 : Int32)) hf)
              · have hf := ik_pos hc hf
                refine ik_goto C 66 dX5_standing_57 (by decide) ?_
                refine ik_lload_n C 3 rfl rfl dX5_standing_66 ?_
                cases hf
                exact ik_lretR C hr hlk dX5_standing_67
            · have hf := ik_neg hc hf
              refine ik_aload_n C 4 rfl rfl dX5_standing_25 ?_
              refine ik_iload C 0 rfl dX5_standing_26 ?_
              refine ik_lload_n C 3 rfl rfl dX5_standing_28 ?_
              obtain ⟨r1, hc1, hf⟩ := ik_b1s hf
              refine ik_goR (ik_runV C (c_X5_standsBy l D cI cS w0 w1 w2 w3 w4 nb kd cl gr oc x6_16 x1_16 r1 hc1) mv_X5_standsBy wl_8_19 ⟨rfl, rfl, Nat.le_of_ble_eq_true rfl, Nat.le_of_ble_eq_true rfl⟩ [0, 1, 2, 3, 4] rfl (by decide) 0 rfl rfl rfl rfl (Nat.le_of_ble_eq_true rfl) dX5_standing_29) rfl ?_
              refine ik_if_eq C 44 dX5_standing_32 (by decide) (fun hc => ?_) (fun hc => ?_)
              · have hf := ik_pos hc hf
                refine ik_iinc C [(6, .int (x6_16 + (1 : Int32))), (4, .long x1_4), (3, .int x3_4), (1, .long x1_16), (0, .ref w0)] 0 rfl rfl (by decide) rfl dX5_standing_44 ?_
                refine ik_goto C 16 dX5_standing_47 (by decide) ?_
                exact ik_sub [0, 1, 2, 3, 4] [(6, .int (x6_16 + (1 : Int32))), (4, .long x1_4), (3, .int x3_4), (1, .long x1_16), (0, .ref w0)] rfl (ih_16 x1_16 (x6_16 + (1 : Int32)) hf)
              · have hf := ik_neg hc hf
                refine ik_lload_n C 3 rfl rfl dX5_standing_35 ?_
                refine ik_aload_n C 4 rfl rfl dX5_standing_36 ?_
                refine ik_iload C 0 rfl dX5_standing_37 ?_
                obtain ⟨r2, hc2, hf⟩ := ik_b1s hf
                refine ik_goR (ik_runV C (c_X5_cellBit l D cI cS w0 w1 w2 w3 w4 nb kd cl gr oc x6_16 r2 hc2) mv_X5_cellBit wl_8_23 ⟨rfl, rfl, Nat.le_of_ble_eq_true rfl, Nat.le_of_ble_eq_true rfl⟩ [0, 1, 2, 3, 4] rfl (by decide) 0 rfl rfl rfl rfl (Nat.le_of_ble_eq_true rfl) dX5_standing_39) rfl ?_
                refine ik_lor C dX5_standing_42 ?_
                refine ik_lstore_n C [(1, .long (x1_16 ||| r2)), (6, .int x6_16), (4, .long x1_4), (3, .int x3_4), (0, .ref w0)] rfl (by decide) rfl dX5_standing_43 ?_
                refine ik_iinc C [(6, .int (x6_16 + (1 : Int32))), (1, .long (x1_16 ||| r2)), (4, .long x1_4), (3, .int x3_4), (0, .ref w0)] 1 rfl rfl (by decide) rfl dX5_standing_44 ?_
                refine ik_goto C 16 dX5_standing_47 (by decide) ?_
                exact ik_sub [0, 2, 3, 1, 4] [(6, .int (x6_16 + (1 : Int32))), (4, .long x1_4), (3, .int x3_4), (1, .long (x1_16 ||| r2)), (0, .ref w0)] rfl (ih_16 (x1_16 ||| r2) (x6_16 + (1 : Int32)) hf)
        exact hL_16 ik_fu x1_4 (0 : Int32) hf
  exact hL_4 ik_fu (0 : Int64) (0 : Int32) hf
theorem mv_X5_looseSet : ik_V yX5_looseSet RX5 cX5_looseSet 5 (some .int) 0 := ⟨wl_19_23, wl_20_0, wl_2_12, wl_20_1, by decide +kernel⟩
set_option maxHeartbeats 4000000 in
set_option maxRecDepth 100000 in
theorem c_X5_looseSet (l : Launch) (D : va_G) (cI cS : ClassId) (w0 w1 w2 w3 w4 : Nat) (nb : Int32) (kd : Nat → Int32) (cl : Nat → Int32) (gr : Nat → Int32) (oc : Nat → Int32) (R : Int32) (hf : f_X5_looseSet nb kd cl = some (R)) : Met l yX5_looseSet (ik_ws yX5_looseSet cX5_looseSet 5 (some .int)) ({ frames := 2, cells := 0, slots := 0, locals := 53 } : Room) (ik_P D cI cS [.ref w0] (wz_X5 cI cS w0 w1 w2 w3 w4 nb kd cl gr oc)) (ik_R (some (.int R))) 0 0 ik_no := by
  refine ik_metR RX5 rfl (by decide) (Nat.le_of_ble_eq_true rfl) [(0, .ref w0)] rfl ?_
  intro p e s m below meth c C hr hlk
  unfold f_X5_looseSet at hf
  refine ik_aload_n C 0 rfl rfl dX5_looseSet_0 ?_
  obtain ⟨r1, hc1, hf⟩ := ik_b1s hf
  refine ik_goR (ik_runV C (c_X5_standing l D cI cS w0 w1 w2 w3 w4 nb kd cl gr oc r1 hc1) mv_X5_standing wl_20_2 ⟨rfl, rfl, Nat.le_of_ble_eq_true rfl, Nat.le_of_ble_eq_true rfl⟩ [0, 1, 2, 3, 4] rfl (by decide) 0 rfl rfl rfl rfl (Nat.le_of_ble_eq_true rfl) dX5_looseSet_1) rfl ?_
  refine ik_lstore_n C [(1, .long r1), (0, .ref w0)] rfl (by decide) rfl dX5_looseSet_4 ?_
  refine ik_iconst (v := (0 : Int32)) C (by decide) dX5_looseSet_5 ?_
  refine ik_istore_n C [(3, .int (0 : Int32)), (1, .long r1), (0, .ref w0)] rfl (by decide) rfl dX5_looseSet_6 ?_
  refine ik_iconst (v := (0 : Int32)) C (by decide) dX5_looseSet_7 ?_
  refine ik_istore C [(4, .int (0 : Int32)), (3, .int (0 : Int32)), (1, .long r1), (0, .ref w0)] (by decide) rfl dX5_looseSet_8 ?_
  have hL_10 : ∀ (n_10 : Nat) (x3_10 : Int32) (x4_10 : Int32), ik_lp2 (b_X5_looseSet_10 nb cl r1) n_10 x3_10 x4_10 = some (R) → ik_G p l e ({ frames := 2, cells := 0, slots := 0, locals := 53 } : Room) s m ([.ref w0] : List Value).toArray below meth c D ik_no (fun _ => True) 5 (MQ below (ik_R (some (.int R))) ([.ref w0] : List Value).toArray s 0 0 ik_no) 10 [(4, .int x4_10), (3, .int x3_10), (1, .long r1), (0, .ref w0)] [] (wz_X5 cI cS w0 w1 w2 w3 w4 nb kd cl gr oc) := by
    intro n_10
    induction n_10 with
    | zero => intro _ _ hf; exact nomatch hf
    | succ n_10 ih_10 =>
      intro x3_10 x4_10 hf
      replace hf : b_X5_looseSet_10 nb cl r1 (ik_lp2 (b_X5_looseSet_10 nb cl r1) n_10) x3_10 x4_10 = some (R) := hf
      unfold b_X5_looseSet_10 at hf
      refine ik_iload C 0 rfl dX5_looseSet_10 ?_
      refine ik_aload_n C 3 rfl rfl dX5_looseSet_12 ?_
      refine ik_get C inlX5 0 rfl rfl 0 (by decide) wl_6_0 rfl (v := .int nb) rfl dX5_looseSet_13 ?_
      refine ik_icmp_ge C 54 dX5_looseSet_16 (by decide) (fun hc => ?_) (fun hc => ?_)
      · have hf := ik_pos hc hf
        refine ik_iload_n C 1 rfl rfl dX5_looseSet_54 ?_
        cases hf
        exact ik_iretR C hr hlk dX5_looseSet_55
      · have hf := ik_neg hc hf
        refine ik_aload_n C 3 rfl rfl dX5_looseSet_19 ?_
        refine ik_iload C 0 rfl dX5_looseSet_20 ?_
        obtain ⟨r2, hc2, hf⟩ := ik_b1s hf
        refine ik_goR (ik_runV C (c_X5_isGone l D cI cS w0 w1 w2 w3 w4 nb kd cl gr oc x4_10 r2 hc2) mv_X5_isGone wl_9_8 ⟨rfl, rfl, Nat.le_of_ble_eq_true rfl, Nat.le_of_ble_eq_true rfl⟩ [0, 1, 2, 3, 4] rfl (by decide) 0 rfl rfl rfl rfl (Nat.le_of_ble_eq_true rfl) dX5_looseSet_22) rfl ?_
        refine ik_if_ne C 48 dX5_looseSet_25 (by decide) (fun hc => ?_) (fun hc => ?_)
        · have hf := ik_neg hc hf
          refine ik_iinc C [(4, .int (x4_10 + (1 : Int32))), (3, .int x3_10), (1, .long r1), (0, .ref w0)] 0 rfl rfl (by decide) rfl dX5_looseSet_48 ?_
          refine ik_goto C 10 dX5_looseSet_51 (by decide) ?_
          exact ik_sub [0, 1, 2, 3] [(4, .int (x4_10 + (1 : Int32))), (3, .int x3_10), (1, .long r1), (0, .ref w0)] rfl (ih_10 x3_10 (x4_10 + (1 : Int32)) hf)
        · have hf := ik_pos hc hf
          refine ik_lload_n C 2 rfl rfl dX5_looseSet_28 ?_
          refine ik_aload_n C 3 rfl rfl dX5_looseSet_29 ?_
          refine ik_iload C 0 rfl dX5_looseSet_30 ?_
          obtain ⟨r3, hc3, hf⟩ := ik_b1s hf
          refine ik_goR (ik_runV C (c_X5_cellBit l D cI cS w0 w1 w2 w3 w4 nb kd cl gr oc x4_10 r3 hc3) mv_X5_cellBit wl_8_23 ⟨rfl, rfl, Nat.le_of_ble_eq_true rfl, Nat.le_of_ble_eq_true rfl⟩ [0, 1, 2, 3, 4] rfl (by decide) 0 rfl rfl rfl rfl (Nat.le_of_ble_eq_true rfl) dX5_looseSet_32) rfl ?_
          refine ik_land C dX5_looseSet_35 ?_
          refine ik_lconst (v := (0 : Int64)) C (by decide) dX5_looseSet_36 ?_
          refine ik_lcmp C dX5_looseSet_37 ?_
          refine ik_if_ne C 48 dX5_looseSet_38 (by decide) (fun hc => ?_) (fun hc => ?_)
          · have hf := ik_neg hc hf
            refine ik_iinc C [(4, .int (x4_10 + (1 : Int32))), (3, .int x3_10), (1, .long r1), (0, .ref w0)] 0 rfl rfl (by decide) rfl dX5_looseSet_48 ?_
            refine ik_goto C 10 dX5_looseSet_51 (by decide) ?_
            exact ik_sub [0, 1, 2, 3] [(4, .int (x4_10 + (1 : Int32))), (3, .int x3_10), (1, .long r1), (0, .ref w0)] rfl (ih_10 x3_10 (x4_10 + (1 : Int32)) hf)
          · have hf := ik_pos hc hf
            refine ik_iload_n C 1 rfl rfl dX5_looseSet_41 ?_
            refine ik_iconst (v := (1 : Int32)) C (by decide) dX5_looseSet_42 ?_
            refine ik_iload C 0 rfl dX5_looseSet_43 ?_
            refine ik_ishl C dX5_looseSet_45 ?_
            refine ik_ior C dX5_looseSet_46 ?_
            refine ik_istore_n C [(3, .int (x3_10 ||| ((1 : Int32) <<< (x4_10 &&& 31)))), (4, .int x4_10), (1, .long r1), (0, .ref w0)] rfl (by decide) rfl dX5_looseSet_47 ?_
            refine ik_iinc C [(4, .int (x4_10 + (1 : Int32))), (3, .int (x3_10 ||| ((1 : Int32) <<< (x4_10 &&& 31)))), (1, .long r1), (0, .ref w0)] 1 rfl rfl (by decide) rfl dX5_looseSet_48 ?_
            refine ik_goto C 10 dX5_looseSet_51 (by decide) ?_
            exact ik_sub [0, 1, 2, 3] [(4, .int (x4_10 + (1 : Int32))), (3, .int (x3_10 ||| ((1 : Int32) <<< (x4_10 &&& 31)))), (1, .long r1), (0, .ref w0)] rfl (ih_10 (x3_10 ||| ((1 : Int32) <<< (x4_10 &&& 31))) (x4_10 + (1 : Int32)) hf)
  exact hL_10 ik_fu (0 : Int32) (0 : Int32) hf
theorem mv_X5_shakenSet : ik_V yX5_shakenSet RX5 cX5_shakenSet 4 (some .int) 1 := ⟨wl_31_17, wl_31_18, wl_2_12, wl_31_19, by decide +kernel⟩
set_option maxHeartbeats 4000000 in
set_option maxRecDepth 100000 in
theorem c_X5_shakenSet (l : Launch) (D : va_G) (cI cS : ClassId) (w0 w1 w2 w3 w4 : Nat) (nb : Int32) (kd : Nat → Int32) (cl : Nat → Int32) (gr : Nat → Int32) (oc : Nat → Int32) (x1 : Int32) (R : Int32) (hf : f_X5_shakenSet nb cl gr x1 = some (R)) : Met l yX5_shakenSet (ik_ws yX5_shakenSet cX5_shakenSet 4 (some .int)) ({ frames := 1, cells := 0, slots := 0, locals := 21 } : Room) (ik_P D cI cS [.ref w0, .int x1] (wz_X5 cI cS w0 w1 w2 w3 w4 nb kd cl gr oc)) (ik_R (some (.int R))) 0 0 ik_no := by
  refine ik_metR RX5 rfl (by decide) (Nat.le_of_ble_eq_true rfl) [(0, .ref w0), (1, .int x1)] rfl ?_
  intro p e s m below meth c C hr hlk
  unfold f_X5_shakenSet at hf
  refine ik_iconst (v := (0 : Int32)) C (by decide) dX5_shakenSet_0 ?_
  refine ik_istore_n C [(2, .int (0 : Int32)), (0, .ref w0), (1, .int x1)] rfl (by decide) rfl dX5_shakenSet_1 ?_
  refine ik_iconst (v := (0 : Int32)) C (by decide) dX5_shakenSet_2 ?_
  refine ik_istore_n C [(3, .int (0 : Int32)), (2, .int (0 : Int32)), (0, .ref w0), (1, .int x1)] rfl (by decide) rfl dX5_shakenSet_3 ?_
  have hL_4 : ∀ (n_4 : Nat) (x2_4 : Int32) (x3_4 : Int32), ik_lp2 (b_X5_shakenSet_4 nb cl gr x1) n_4 x2_4 x3_4 = some (R) → ik_G p l e ({ frames := 1, cells := 0, slots := 0, locals := 21 } : Room) s m ([.ref w0, .int x1] : List Value).toArray below meth c D ik_no (fun _ => True) 4 (MQ below (ik_R (some (.int R))) ([.ref w0, .int x1] : List Value).toArray s 0 0 ik_no) 4 [(3, .int x3_4), (2, .int x2_4), (0, .ref w0), (1, .int x1)] [] (wz_X5 cI cS w0 w1 w2 w3 w4 nb kd cl gr oc) := by
    intro n_4
    induction n_4 with
    | zero => intro _ _ hf; exact nomatch hf
    | succ n_4 ih_4 =>
      intro x2_4 x3_4 hf
      replace hf : b_X5_shakenSet_4 nb cl gr x1 (ik_lp2 (b_X5_shakenSet_4 nb cl gr x1) n_4) x2_4 x3_4 = some (R) := hf
      unfold b_X5_shakenSet_4 at hf
      refine ik_iload_n C 0 rfl rfl dX5_shakenSet_4 ?_
      refine ik_aload_n C 2 rfl rfl dX5_shakenSet_5 ?_
      refine ik_get C inlX5 0 rfl rfl 0 (by decide) wl_6_0 rfl (v := .int nb) rfl dX5_shakenSet_6 ?_
      refine ik_icmp_ge C 47 dX5_shakenSet_9 (by decide) (fun hc => ?_) (fun hc => ?_)
      · have hf := ik_pos hc hf
        refine ik_iload_n C 1 rfl rfl dX5_shakenSet_47 ?_
        cases hf
        exact ik_iretR C hr hlk dX5_shakenSet_48
      · have hf := ik_neg hc hf
        refine ik_aload_n C 2 rfl rfl dX5_shakenSet_12 ?_
        refine ik_iload_n C 0 rfl rfl dX5_shakenSet_13 ?_
        obtain ⟨r1, hc1, hf⟩ := ik_b1s hf
        refine ik_goR (ik_runV C (c_X5_isGone l D cI cS w0 w1 w2 w3 w4 nb kd cl gr oc x3_4 r1 hc1) mv_X5_isGone wl_9_8 ⟨rfl, rfl, Nat.le_of_ble_eq_true rfl, Nat.le_of_ble_eq_true rfl⟩ [0, 1, 2, 3, 4] rfl (by decide) 0 rfl rfl rfl rfl (Nat.le_of_ble_eq_true rfl) dX5_shakenSet_14) rfl ?_
        refine ik_if_ne C 41 dX5_shakenSet_17 (by decide) (fun hc => ?_) (fun hc => ?_)
        · have hf := ik_neg hc hf
          refine ik_iinc C [(3, .int (x3_4 + (1 : Int32))), (2, .int x2_4), (0, .ref w0), (1, .int x1)] 0 rfl rfl (by decide) rfl dX5_shakenSet_41 ?_
          refine ik_goto C 4 dX5_shakenSet_44 (by decide) ?_
          exact ik_sub [0, 1, 2, 3] [(3, .int (x3_4 + (1 : Int32))), (2, .int x2_4), (0, .ref w0), (1, .int x1)] rfl (ih_4 x2_4 (x3_4 + (1 : Int32)) hf)
        · have hf := ik_pos hc hf
          refine ik_iload_n C 3 rfl rfl dX5_shakenSet_20 ?_
          refine ik_if_le C 41 dX5_shakenSet_21 (by decide) (fun hc => ?_) (fun hc => ?_)
          · have hf := ik_pos hc hf
            refine ik_iinc C [(3, .int (x3_4 + (1 : Int32))), (2, .int x2_4), (0, .ref w0), (1, .int x1)] 0 rfl rfl (by decide) rfl dX5_shakenSet_41 ?_
            refine ik_goto C 4 dX5_shakenSet_44 (by decide) ?_
            exact ik_sub [0, 1, 2, 3] [(3, .int (x3_4 + (1 : Int32))), (2, .int x2_4), (0, .ref w0), (1, .int x1)] rfl (ih_4 x2_4 (x3_4 + (1 : Int32)) hf)
          · have hf := ik_neg hc hf
            refine ik_aload_n C 2 rfl rfl dX5_shakenSet_24 ?_
            refine ik_get C inlX5 0 rfl rfl 3 (by decide) wl_3_4 rfl (v := .ref w3) rfl dX5_shakenSet_25 ?_
            refine ik_iload_n C 0 rfl rfl dX5_shakenSet_28 ?_
            have hg := ik_gdi hf
            have hf := ik_gdk hf
            refine ik_iald C 3 rfl hg dX5_shakenSet_29 ?_
            refine ik_iload_n C 3 rfl rfl dX5_shakenSet_30 ?_
            have hg := ik_gni hf
            have hf := ik_gnk hf
            refine ik_irem C hg dX5_shakenSet_31 ?_
            refine ik_if_ne C 41 dX5_shakenSet_32 (by decide) (fun hc => ?_) (fun hc => ?_)
            · have hf := ik_neg hc hf
              refine ik_iinc C [(3, .int (x3_4 + (1 : Int32))), (2, .int x2_4), (0, .ref w0), (1, .int x1)] 0 rfl rfl (by decide) rfl dX5_shakenSet_41 ?_
              refine ik_goto C 4 dX5_shakenSet_44 (by decide) ?_
              exact ik_sub [0, 1, 2, 3] [(3, .int (x3_4 + (1 : Int32))), (2, .int x2_4), (0, .ref w0), (1, .int x1)] rfl (ih_4 x2_4 (x3_4 + (1 : Int32)) hf)
            · have hf := ik_pos hc hf
              refine ik_iload_n C 1 rfl rfl dX5_shakenSet_35 ?_
              refine ik_iconst (v := (1 : Int32)) C (by decide) dX5_shakenSet_36 ?_
              refine ik_iload_n C 0 rfl rfl dX5_shakenSet_37 ?_
              refine ik_ishl C dX5_shakenSet_38 ?_
              refine ik_ior C dX5_shakenSet_39 ?_
              refine ik_istore_n C [(2, .int (x2_4 ||| ((1 : Int32) <<< (x3_4 &&& 31)))), (3, .int x3_4), (0, .ref w0), (1, .int x1)] rfl (by decide) rfl dX5_shakenSet_40 ?_
              refine ik_iinc C [(3, .int (x3_4 + (1 : Int32))), (2, .int (x2_4 ||| ((1 : Int32) <<< (x3_4 &&& 31)))), (0, .ref w0), (1, .int x1)] 1 rfl rfl (by decide) rfl dX5_shakenSet_41 ?_
              refine ik_goto C 4 dX5_shakenSet_44 (by decide) ?_
              exact ik_sub [0, 1, 2, 3] [(3, .int (x3_4 + (1 : Int32))), (2, .int (x2_4 ||| ((1 : Int32) <<< (x3_4 &&& 31)))), (0, .ref w0), (1, .int x1)] rfl (ih_4 (x2_4 ||| ((1 : Int32) <<< (x3_4 &&& 31))) (x3_4 + (1 : Int32)) hf)
  exact hL_4 ik_fu (0 : Int32) (0 : Int32) hf
theorem mv_X5_loadOf : ik_V yX5_loadOf RX5 cX5_loadOf 5 (some .int) 1 := ⟨wl_9_5, wl_9_6, wl_2_12, wl_9_7, by decide +kernel⟩
set_option maxHeartbeats 4000000 in
set_option maxRecDepth 100000 in
theorem c_X5_loadOf (l : Launch) (D : va_G) (cI cS : ClassId) (w0 w1 w2 w3 w4 : Nat) (nb : Int32) (kd : Nat → Int32) (cl : Nat → Int32) (gr : Nat → Int32) (oc : Nat → Int32) (x1 : Int32) (R : Int32) (hf : f_X5_loadOf cl gr oc x1 = some (R)) : Met l yX5_loadOf (ik_ws yX5_loadOf cX5_loadOf 5 (some .int)) ({ frames := 1, cells := 0, slots := 0, locals := 21 } : Room) (ik_P D cI cS [.ref w0, .int x1] (wz_X5 cI cS w0 w1 w2 w3 w4 nb kd cl gr oc)) (ik_R (some (.int R))) 0 0 ik_no := by
  refine ik_metR RX5 rfl (by decide) (Nat.le_of_ble_eq_true rfl) [(0, .ref w0), (1, .int x1)] rfl ?_
  intro p e s m below meth c C hr hlk
  unfold f_X5_loadOf at hf
  refine ik_aload_n C 0 rfl rfl dX5_loadOf_0 ?_
  refine ik_iload_n C 1 rfl rfl dX5_loadOf_1 ?_
  obtain ⟨r1, hc1, hf⟩ := ik_b1s hf
  refine ik_goR (ik_runV C (c_X5_isGone l D cI cS w0 w1 w2 w3 w4 nb kd cl gr oc x1 r1 hc1) mv_X5_isGone wl_9_8 ⟨rfl, rfl, Nat.le_of_ble_eq_true rfl, Nat.le_of_ble_eq_true rfl⟩ [0, 1, 2, 3, 4] rfl (by decide) 0 rfl rfl rfl rfl (Nat.le_of_ble_eq_true rfl) dX5_loadOf_2) rfl ?_
  refine ik_if_eq C 10 dX5_loadOf_5 (by decide) (fun hc => ?_) (fun hc => ?_)
  · have hf := ik_pos hc hf
    refine ik_iconst (v := (0 : Int32)) C (by decide) dX5_loadOf_10 ?_
    refine ik_istore_n C [(2, .int (0 : Int32)), (0, .ref w0), (1, .int x1)] rfl (by decide) rfl dX5_loadOf_11 ?_
    refine ik_aload_n C 1 rfl rfl dX5_loadOf_12 ?_
    refine ik_get C inlX5 0 rfl rfl 2 (by decide) wl_3_3 rfl (v := .ref w2) rfl dX5_loadOf_13 ?_
    refine ik_iload_n C 2 rfl rfl dX5_loadOf_16 ?_
    have hg := ik_gdi hf
    have hf := ik_gdk hf
    refine ik_iald C 2 rfl hg dX5_loadOf_17 ?_
    refine ik_bipush (v := (8 : Int32)) C (by decide) dX5_loadOf_18 ?_
    refine ik_iadd C dX5_loadOf_20 ?_
    refine ik_istore_n C [(3, .int ((cl (x1).toNatClampNeg) + (8 : Int32))), (2, .int (0 : Int32)), (0, .ref w0), (1, .int x1)] rfl (by decide) rfl dX5_loadOf_21 ?_
    have hL_22 : ∀ (n_22 : Nat) (x2_22 : Int32) (x3_22 : Int32), ik_lp2 (b_X5_loadOf_22 gr oc) n_22 x2_22 x3_22 = some (R) → ik_G p l e ({ frames := 1, cells := 0, slots := 0, locals := 21 } : Room) s m ([.ref w0, .int x1] : List Value).toArray below meth c D ik_no (fun _ => True) 5 (MQ below (ik_R (some (.int R))) ([.ref w0, .int x1] : List Value).toArray s 0 0 ik_no) 22 [(3, .int x3_22), (2, .int x2_22), (0, .ref w0), (1, .int x1)] [] (wz_X5 cI cS w0 w1 w2 w3 w4 nb kd cl gr oc) := by
      intro n_22
      induction n_22 with
      | zero => intro _ _ hf; exact nomatch hf
      | succ n_22 ih_22 =>
        intro x2_22 x3_22 hf
        replace hf : b_X5_loadOf_22 gr oc (ik_lp2 (b_X5_loadOf_22 gr oc) n_22) x2_22 x3_22 = some (R) := hf
        unfold b_X5_loadOf_22 at hf
        refine ik_iload_n C 0 rfl rfl dX5_loadOf_22 ?_
        refine ik_bipush (v := (48 : Int32)) C (by decide) dX5_loadOf_23 ?_
        refine ik_icmp_ge C 60 dX5_loadOf_25 (by decide) (fun hc => ?_) (fun hc => ?_)
        · have hf := ik_pos hc hf
          refine ik_iload_n C 1 rfl rfl dX5_loadOf_60 ?_
          cases hf
          exact ik_iretR C hr hlk dX5_loadOf_61
        · have hf := ik_neg hc hf
          refine ik_aload_n C 2 rfl rfl dX5_loadOf_28 ?_
          refine ik_get C inlX5 0 rfl rfl 4 (by decide) wl_3_5 rfl (v := .ref w4) rfl dX5_loadOf_29 ?_
          refine ik_iload_n C 0 rfl rfl dX5_loadOf_32 ?_
          have hg := ik_gdi hf
          have hf := ik_gdk hf
          refine ik_iald C 4 rfl hg dX5_loadOf_33 ?_
          refine ik_istore C [(4, .int (oc (x3_22).toNatClampNeg)), (3, .int x3_22), (2, .int x2_22), (0, .ref w0), (1, .int x1)] (by decide) rfl dX5_loadOf_34 ?_
          refine ik_iload C 0 rfl dX5_loadOf_36 ?_
          refine ik_if_ge C 44 dX5_loadOf_38 (by decide) (fun hc => ?_) (fun hc => ?_)
          · have hf := ik_pos hc hf
            refine ik_iload_n C 2 rfl rfl dX5_loadOf_44 ?_
            refine ik_aload_n C 3 rfl rfl dX5_loadOf_45 ?_
            refine ik_get C inlX5 0 rfl rfl 3 (by decide) wl_3_4 rfl (v := .ref w3) rfl dX5_loadOf_46 ?_
            refine ik_iload C 0 rfl dX5_loadOf_49 ?_
            have hg := ik_gdi hf
            have hf := ik_gdk hf
            refine ik_iald C 3 rfl hg dX5_loadOf_51 ?_
            refine ik_iadd C dX5_loadOf_52 ?_
            refine ik_istore_n C [(2, .int (x2_22 + (gr ((oc (x3_22).toNatClampNeg)).toNatClampNeg))), (4, .int (oc (x3_22).toNatClampNeg)), (3, .int x3_22), (0, .ref w0), (1, .int x1)] rfl (by decide) rfl dX5_loadOf_53 ?_
            refine ik_iinc C [(3, .int (x3_22 + (8 : Int32))), (2, .int (x2_22 + (gr ((oc (x3_22).toNatClampNeg)).toNatClampNeg))), (4, .int (oc (x3_22).toNatClampNeg)), (0, .ref w0), (1, .int x1)] 2 rfl rfl (by decide) rfl dX5_loadOf_54 ?_
            refine ik_goto C 22 dX5_loadOf_57 (by decide) ?_
            exact ik_sub [0, 1, 3, 4] [(3, .int (x3_22 + (8 : Int32))), (2, .int (x2_22 + (gr ((oc (x3_22).toNatClampNeg)).toNatClampNeg))), (0, .ref w0), (1, .int x1)] rfl (ih_22 (x2_22 + (gr ((oc (x3_22).toNatClampNeg)).toNatClampNeg)) (x3_22 + (8 : Int32)) hf)
          · have hf := ik_neg hc hf
            refine ik_goto C 60 dX5_loadOf_41 (by decide) ?_
            refine ik_iload_n C 2 rfl rfl dX5_loadOf_60 ?_
            cases hf
            exact ik_iretR C hr hlk dX5_loadOf_61
    exact hL_22 ik_fu (0 : Int32) ((cl (x1).toNatClampNeg) + (8 : Int32)) hf
  · have hf := ik_neg hc hf
    refine ik_iconst (v := (0 : Int32)) C (by decide) dX5_loadOf_8 ?_
    cases hf
    exact ik_iretR C hr hlk dX5_loadOf_9
theorem mv_X5_strengthOf : ik_V yX5_strengthOf RX5 cX5_strengthOf 3 (some .int) 1 := ⟨wl_9_10, wl_9_11, wl_2_12, wl_9_12, by decide +kernel⟩
set_option maxHeartbeats 4000000 in
set_option maxRecDepth 100000 in
theorem c_X5_strengthOf (l : Launch) (D : va_G) (cI cS : ClassId) (w0 w1 w2 w3 w4 : Nat) (nb : Int32) (kd : Nat → Int32) (cl : Nat → Int32) (gr : Nat → Int32) (oc : Nat → Int32) (x1 : Int32) (R : Int32) (hf : f_X5_strengthOf kd cl gr x1 = some (R)) : Met l yX5_strengthOf (ik_ws yX5_strengthOf cX5_strengthOf 3 (some .int)) ({ frames := 1, cells := 0, slots := 0, locals := 21 } : Room) (ik_P D cI cS [.ref w0, .int x1] (wz_X5 cI cS w0 w1 w2 w3 w4 nb kd cl gr oc)) (ik_R (some (.int R))) 0 0 ik_no := by
  refine ik_metR RX5 rfl (by decide) (Nat.le_of_ble_eq_true rfl) [(0, .ref w0), (1, .int x1)] rfl ?_
  intro p e s m below meth c C hr hlk
  unfold f_X5_strengthOf at hf
  refine ik_aload_n C 0 rfl rfl dX5_strengthOf_0 ?_
  refine ik_iload_n C 1 rfl rfl dX5_strengthOf_1 ?_
  obtain ⟨r1, hc1, hf⟩ := ik_b1s hf
  refine ik_goR (ik_runV C (c_X5_isGone l D cI cS w0 w1 w2 w3 w4 nb kd cl gr oc x1 r1 hc1) mv_X5_isGone wl_9_8 ⟨rfl, rfl, Nat.le_of_ble_eq_true rfl, Nat.le_of_ble_eq_true rfl⟩ [0, 1, 2, 3, 4] rfl (by decide) 0 rfl rfl rfl rfl (Nat.le_of_ble_eq_true rfl) dX5_strengthOf_2) rfl ?_
  refine ik_if_eq C 10 dX5_strengthOf_5 (by decide) (fun hc => ?_) (fun hc => ?_)
  · have hf := ik_pos hc hf
    refine ik_iconst (v := (4 : Int32)) C (by decide) dX5_strengthOf_10 ?_
    refine ik_aload_n C 0 rfl rfl dX5_strengthOf_11 ?_
    refine ik_get C inlX5 0 rfl rfl 3 (by decide) wl_3_4 rfl (v := .ref w3) rfl dX5_strengthOf_12 ?_
    refine ik_iload_n C 1 rfl rfl dX5_strengthOf_15 ?_
    have hg := ik_gdi hf
    have hf := ik_gdk hf
    refine ik_iald C 3 rfl hg dX5_strengthOf_16 ?_
    refine ik_imul C dX5_strengthOf_17 ?_
    refine ik_istore_n C [(2, .int ((4 : Int32) * (gr (x1).toNatClampNeg))), (0, .ref w0), (1, .int x1)] rfl (by decide) rfl dX5_strengthOf_18 ?_
    refine ik_aload_n C 1 rfl rfl dX5_strengthOf_19 ?_
    refine ik_get C inlX5 0 rfl rfl 1 (by decide) wl_3_2 rfl (v := .ref w1) rfl dX5_strengthOf_20 ?_
    refine ik_iload_n C 2 rfl rfl dX5_strengthOf_23 ?_
    have hg := ik_gdi hf
    have hf := ik_gdk hf
    refine ik_iald C 1 rfl hg dX5_strengthOf_24 ?_
    by_cases hn3 : (kd (x1).toNatClampNeg) = (3 : Int32)
    · have hf := ik_pos hn3 hf
      refine ik_tcase C (3 : Int32) hn3 52 dX5_strengthOf_25 (by decide) (by decide) rfl (by decide) ?_
      refine ik_iload_n C 0 rfl rfl dX5_strengthOf_52 ?_
      refine ik_bipush (v := (20 : Int32)) C (by decide) dX5_strengthOf_53 ?_
      refine ik_iadd C dX5_strengthOf_55 ?_
      cases hf
      exact ik_iretR C hr hlk dX5_strengthOf_56
    · have hf := ik_neg hn3 hf
      by_cases hn4 : (kd (x1).toNatClampNeg) = (4 : Int32)
      · have hf := ik_pos hn4 hf
        refine ik_tcase C (4 : Int32) hn4 57 dX5_strengthOf_25 (by decide) (by decide) rfl (by decide) ?_
        refine ik_iconst (v := (3 : Int32)) C (by decide) dX5_strengthOf_57 ?_
        refine ik_iload_n C 0 rfl rfl dX5_strengthOf_58 ?_
        refine ik_imul C dX5_strengthOf_59 ?_
        cases hf
        exact ik_iretR C hr hlk dX5_strengthOf_60
      · have hf := ik_neg hn4 hf
        by_cases hn5 : (kd (x1).toNatClampNeg) = (5 : Int32)
        · have hf := ik_pos hn5 hf
          refine ik_tcase C (5 : Int32) hn5 61 dX5_strengthOf_25 (by decide) (by decide) rfl (by decide) ?_
          refine ik_iconst (v := (2 : Int32)) C (by decide) dX5_strengthOf_61 ?_
          refine ik_iload_n C 0 rfl rfl dX5_strengthOf_62 ?_
          refine ik_imul C dX5_strengthOf_63 ?_
          cases hf
          exact ik_iretR C hr hlk dX5_strengthOf_64
        · have hf := ik_neg hn5 hf
          refine ik_tout C 65 dX5_strengthOf_25 (by have ehn3 : ((kd (x1).toNatClampNeg)).toInt ≠ 3 := fun h => hn3 (Int32.toInt_inj.mp h); have ehn4 : ((kd (x1).toNatClampNeg)).toInt ≠ 4 := fun h => hn4 (Int32.toInt_inj.mp h); have ehn5 : ((kd (x1).toNatClampNeg)).toInt ≠ 5 := fun h => hn5 (Int32.toInt_inj.mp h); omega) (by decide) ?_
          refine ik_iload_n C 0 rfl rfl dX5_strengthOf_65 ?_
          cases hf
          exact ik_iretR C hr hlk dX5_strengthOf_66
  · have hf := ik_neg hc hf
    refine ik_iconst (v := (0 : Int32)) C (by decide) dX5_strengthOf_8 ?_
    cases hf
    exact ik_iretR C hr hlk dX5_strengthOf_9
theorem mv_X5_isComer : ik_V yX5_isComer RX5 cX5_isComer 4 (some .boolean) 2 := ⟨wl_30_7, wl_30_8, wl_2_12, wl_30_9, by decide +kernel⟩
set_option maxHeartbeats 4000000 in
set_option maxRecDepth 100000 in
theorem c_X5_isComer (l : Launch) (D : va_G) (cI cS : ClassId) (w0 w1 w2 w3 w4 : Nat) (nb : Int32) (kd : Nat → Int32) (cl : Nat → Int32) (gr : Nat → Int32) (oc : Nat → Int32) (x1 : Int32) (y2 : Int64) (R : Int32) (hf : f_X5_isComer kd cl x1 y2 = some (R)) : Met l yX5_isComer (ik_ws yX5_isComer cX5_isComer 4 (some .boolean)) ({ frames := 1, cells := 0, slots := 0, locals := 27 } : Room) (ik_P D cI cS [.ref w0, .int x1, .long y2] (wz_X5 cI cS w0 w1 w2 w3 w4 nb kd cl gr oc)) (ik_R (some (.int R))) 0 0 ik_no := by
  refine ik_metR RX5 rfl (by decide) (Nat.le_of_ble_eq_true rfl) [(0, .ref w0), (1, .int x1), (2, .long y2)] rfl ?_
  intro p e s m below meth c C hr hlk
  unfold f_X5_isComer at hf
  refine ik_lload_n C 2 rfl rfl dX5_isComer_0 ?_
  refine ik_aload_n C 0 rfl rfl dX5_isComer_1 ?_
  refine ik_iload_n C 1 rfl rfl dX5_isComer_2 ?_
  obtain ⟨r1, hc1, hf⟩ := ik_b1s hf
  refine ik_goR (ik_runV C (c_X5_cellBit l D cI cS w0 w1 w2 w3 w4 nb kd cl gr oc x1 r1 hc1) mv_X5_cellBit wl_8_23 ⟨rfl, rfl, Nat.le_of_ble_eq_true rfl, Nat.le_of_ble_eq_true rfl⟩ [0, 1, 2, 3, 4] rfl (by decide) 0 rfl rfl rfl rfl (Nat.le_of_ble_eq_true rfl) dX5_isComer_3) rfl ?_
  refine ik_land C dX5_isComer_6 ?_
  refine ik_lconst (v := (0 : Int64)) C (by decide) dX5_isComer_7 ?_
  refine ik_lcmp C dX5_isComer_8 ?_
  refine ik_if_ne C 25 dX5_isComer_9 (by decide) (fun hc => ?_) (fun hc => ?_)
  · have hf := ik_neg hc hf
    refine ik_iconst (v := (0 : Int32)) C (by decide) dX5_isComer_25 ?_
    cases hf
    exact ik_zretR C hr (by decide) hlk dX5_isComer_26
  · have hf := ik_pos hc hf
    refine ik_aload_n C 0 rfl rfl dX5_isComer_12 ?_
    refine ik_iload_n C 1 rfl rfl dX5_isComer_13 ?_
    refine ik_lload_n C 2 rfl rfl dX5_isComer_14 ?_
    obtain ⟨r2, hc2, hf⟩ := ik_b1s hf
    refine ik_goR (ik_runV C (c_X5_standsBy l D cI cS w0 w1 w2 w3 w4 nb kd cl gr oc x1 y2 r2 hc2) mv_X5_standsBy wl_8_19 ⟨rfl, rfl, Nat.le_of_ble_eq_true rfl, Nat.le_of_ble_eq_true rfl⟩ [0, 1, 2, 3, 4] rfl (by decide) 0 rfl rfl rfl rfl (Nat.le_of_ble_eq_true rfl) dX5_isComer_15) rfl ?_
    refine ik_if_eq C 25 dX5_isComer_18 (by decide) (fun hc => ?_) (fun hc => ?_)
    · have hf := ik_pos hc hf
      refine ik_iconst (v := (0 : Int32)) C (by decide) dX5_isComer_25 ?_
      cases hf
      exact ik_zretR C hr (by decide) hlk dX5_isComer_26
    · have hf := ik_neg hc hf
      refine ik_iconst (v := (1 : Int32)) C (by decide) dX5_isComer_21 ?_
      refine ik_goto C 26 dX5_isComer_22 (by decide) ?_
      cases hf
      exact ik_zretR C hr (by decide) hlk dX5_isComer_26
theorem mv_X5_nextComer : ik_V yX5_nextComer RX5 cX5_nextComer 5 (some .int) 2 := ⟨wl_30_3, wl_30_4, wl_2_12, wl_30_5, by decide +kernel⟩
set_option maxHeartbeats 4000000 in
set_option maxRecDepth 100000 in
theorem c_X5_nextComer (l : Launch) (D : va_G) (cI cS : ClassId) (w0 w1 w2 w3 w4 : Nat) (nb : Int32) (kd : Nat → Int32) (cl : Nat → Int32) (gr : Nat → Int32) (oc : Nat → Int32) (y1 : Int64) (x3 : Int32) (R : Int32) (hf : f_X5_nextComer nb kd cl y1 x3 = some (R)) : Met l yX5_nextComer (ik_ws yX5_nextComer cX5_nextComer 5 (some .int)) ({ frames := 2, cells := 0, slots := 0, locals := 50 } : Room) (ik_P D cI cS [.ref w0, .long y1, .int x3] (wz_X5 cI cS w0 w1 w2 w3 w4 nb kd cl gr oc)) (ik_R (some (.int R))) 0 0 ik_no := by
  refine ik_metR RX5 rfl (by decide) (Nat.le_of_ble_eq_true rfl) [(0, .ref w0), (1, .long y1), (3, .int x3)] rfl ?_
  intro p e s m below meth c C hr hlk
  unfold f_X5_nextComer at hf
  refine ik_iload_n C 2 rfl rfl dX5_nextComer_0 ?_
  refine ik_istore C [(4, .int x3), (0, .ref w0), (1, .long y1), (3, .int x3)] (by decide) rfl dX5_nextComer_1 ?_
  have hL_3 : ∀ (n_3 : Nat) (x4_3 : Int32), ik_lp1 (b_X5_nextComer_3 nb kd cl y1) n_3 x4_3 = some (R) → ik_G p l e ({ frames := 2, cells := 0, slots := 0, locals := 50 } : Room) s m ([.ref w0, .long y1, .int x3] : List Value).toArray below meth c D ik_no (fun _ => True) 5 (MQ below (ik_R (some (.int R))) ([.ref w0, .long y1, .int x3] : List Value).toArray s 0 0 ik_no) 3 [(4, .int x4_3), (0, .ref w0), (1, .long y1), (3, .int x3)] [] (wz_X5 cI cS w0 w1 w2 w3 w4 nb kd cl gr oc) := by
    intro n_3
    induction n_3 with
    | zero => intro _ hf; exact nomatch hf
    | succ n_3 ih_3 =>
      intro x4_3 hf
      replace hf : b_X5_nextComer_3 nb kd cl y1 (ik_lp1 (b_X5_nextComer_3 nb kd cl y1) n_3) x4_3 = some (R) := hf
      unfold b_X5_nextComer_3 at hf
      refine ik_iload C 0 rfl dX5_nextComer_3 ?_
      refine ik_aload_n C 1 rfl rfl dX5_nextComer_5 ?_
      refine ik_get C inlX5 0 rfl rfl 0 (by decide) wl_6_0 rfl (v := .int nb) rfl dX5_nextComer_6 ?_
      refine ik_icmp_ge C 31 dX5_nextComer_9 (by decide) (fun hc => ?_) (fun hc => ?_)
      · have hf := ik_pos hc hf
        refine ik_iconst (v := (-1 : Int32)) C (by decide) dX5_nextComer_31 ?_
        cases hf
        exact ik_iretR C hr hlk dX5_nextComer_32
      · have hf := ik_neg hc hf
        refine ik_aload_n C 1 rfl rfl dX5_nextComer_12 ?_
        refine ik_iload C 0 rfl dX5_nextComer_13 ?_
        refine ik_lload_n C 2 rfl rfl dX5_nextComer_15 ?_
        obtain ⟨r1, hc1, hf⟩ := ik_b1s hf
        refine ik_goR (ik_runV C (c_X5_isComer l D cI cS w0 w1 w2 w3 w4 nb kd cl gr oc x4_3 y1 r1 hc1) mv_X5_isComer wl_30_6 ⟨rfl, rfl, Nat.le_of_ble_eq_true rfl, Nat.le_of_ble_eq_true rfl⟩ [0, 1, 2, 3, 4] rfl (by decide) 0 rfl rfl rfl rfl (Nat.le_of_ble_eq_true rfl) dX5_nextComer_16) rfl ?_
        refine ik_if_eq C 25 dX5_nextComer_19 (by decide) (fun hc => ?_) (fun hc => ?_)
        · have hf := ik_pos hc hf
          refine ik_iinc C [(4, .int (x4_3 + (1 : Int32))), (0, .ref w0), (1, .long y1), (3, .int x3)] 0 rfl rfl (by decide) rfl dX5_nextComer_25 ?_
          refine ik_goto C 3 dX5_nextComer_28 (by decide) ?_
          exact ik_sub [0, 1, 2, 3] [(4, .int (x4_3 + (1 : Int32))), (0, .ref w0), (1, .long y1), (3, .int x3)] rfl (ih_3 (x4_3 + (1 : Int32)) hf)
        · have hf := ik_neg hc hf
          refine ik_iload C 0 rfl dX5_nextComer_22 ?_
          cases hf
          exact ik_iretR C hr hlk dX5_nextComer_24
  exact hL_3 ik_fu x3 hf
theorem mv_X5_comers : ik_V yX5_comers RX5 cX5_comers 9 (some .long) 2 := ⟨wl_31_0, wl_31_1, wl_2_12, wl_31_2, by decide +kernel⟩
set_option maxHeartbeats 4000000 in
set_option maxRecDepth 100000 in
theorem c_X5_comers (l : Launch) (D : va_G) (cI cS : ClassId) (w0 w1 w2 w3 w4 : Nat) (nb : Int32) (kd : Nat → Int32) (cl : Nat → Int32) (gr : Nat → Int32) (oc : Nat → Int32) (y1 : Int64) (x3 : Int32) (R : Int64) (hf : f_X5_comers nb kd cl y1 x3 = some (R)) : Met l yX5_comers (ik_ws yX5_comers cX5_comers 9 (some .long)) ({ frames := 3, cells := 0, slots := 0, locals := 74 } : Room) (ik_P D cI cS [.ref w0, .long y1, .int x3] (wz_X5 cI cS w0 w1 w2 w3 w4 nb kd cl gr oc)) (ik_R (some (.long R))) 0 0 ik_no := by
  refine ik_metR RX5 rfl (by decide) (Nat.le_of_ble_eq_true rfl) [(0, .ref w0), (1, .long y1), (3, .int x3)] rfl ?_
  intro p e s m below meth c C hr hlk
  unfold f_X5_comers at hf
  refine ik_lconst (v := (0 : Int64)) C (by decide) dX5_comers_0 ?_
  refine ik_lstore C [(4, .long (0 : Int64)), (0, .ref w0), (1, .long y1), (3, .int x3)] (by decide) rfl dX5_comers_1 ?_
  refine ik_iconst (v := (0 : Int32)) C (by decide) dX5_comers_3 ?_
  refine ik_istore C [(6, .int (0 : Int32)), (4, .long (0 : Int64)), (0, .ref w0), (1, .long y1), (3, .int x3)] (by decide) rfl dX5_comers_4 ?_
  refine ik_iconst (v := (0 : Int32)) C (by decide) dX5_comers_6 ?_
  refine ik_istore C [(7, .int (0 : Int32)), (6, .int (0 : Int32)), (4, .long (0 : Int64)), (0, .ref w0), (1, .long y1), (3, .int x3)] (by decide) rfl dX5_comers_7 ?_
  have hL_9 : ∀ (n_9 : Nat) (x4_9 : Int64) (x6_9 : Int32) (x7_9 : Int32), ik_lp3 (b_X5_comers_9 nb kd cl y1 x3) n_9 x4_9 x6_9 x7_9 = some (R) → ik_G p l e ({ frames := 3, cells := 0, slots := 0, locals := 74 } : Room) s m ([.ref w0, .long y1, .int x3] : List Value).toArray below meth c D ik_no (fun _ => True) 9 (MQ below (ik_R (some (.long R))) ([.ref w0, .long y1, .int x3] : List Value).toArray s 0 0 ik_no) 9 [(7, .int x7_9), (6, .int x6_9), (4, .long x4_9), (0, .ref w0), (1, .long y1), (3, .int x3)] [] (wz_X5 cI cS w0 w1 w2 w3 w4 nb kd cl gr oc) := by
    intro n_9
    induction n_9 with
    | zero => intro _ _ _ hf; exact nomatch hf
    | succ n_9 ih_9 =>
      intro x4_9 x6_9 x7_9 hf
      replace hf : b_X5_comers_9 nb kd cl y1 x3 (ik_lp3 (b_X5_comers_9 nb kd cl y1 x3) n_9) x4_9 x6_9 x7_9 = some (R) := hf
      unfold b_X5_comers_9 at hf
      refine ik_iload C 0 rfl dX5_comers_9 ?_
      refine ik_iload_n C 5 rfl rfl dX5_comers_11 ?_
      refine ik_icmp_ge C 55 dX5_comers_12 (by decide) (fun hc => ?_) (fun hc => ?_)
      · have hf := ik_pos hc hf
        refine ik_lload C 2 rfl dX5_comers_55 ?_
        cases hf
        exact ik_lretR C hr hlk dX5_comers_57
      · have hf := ik_neg hc hf
        refine ik_aload_n C 3 rfl rfl dX5_comers_15 ?_
        refine ik_lload_n C 4 rfl rfl dX5_comers_16 ?_
        refine ik_iload C 1 rfl dX5_comers_17 ?_
        obtain ⟨r1, hc1, hf⟩ := ik_b1s hf
        refine ik_goR (ik_runV C (c_X5_nextComer l D cI cS w0 w1 w2 w3 w4 nb kd cl gr oc y1 x6_9 r1 hc1) mv_X5_nextComer wl_31_3 ⟨rfl, rfl, Nat.le_of_ble_eq_true rfl, Nat.le_of_ble_eq_true rfl⟩ [0, 1, 2, 3, 4] rfl (by decide) 0 rfl rfl rfl rfl (Nat.le_of_ble_eq_true rfl) dX5_comers_19) rfl ?_
        refine ik_istore C [(8, .int r1), (7, .int x7_9), (6, .int x6_9), (4, .long x4_9), (0, .ref w0), (1, .long y1), (3, .int x3)] (by decide) rfl dX5_comers_22 ?_
        refine ik_iload C 0 rfl dX5_comers_24 ?_
        refine ik_if_ge C 32 dX5_comers_26 (by decide) (fun hc => ?_) (fun hc => ?_)
        · have hf := ik_pos hc hf
          refine ik_lload C 3 rfl dX5_comers_32 ?_
          refine ik_aload_n C 4 rfl rfl dX5_comers_34 ?_
          refine ik_iload C 0 rfl dX5_comers_35 ?_
          obtain ⟨r2, hc2, hf⟩ := ik_b1s hf
          refine ik_goR (ik_runV C (c_X5_cellBit l D cI cS w0 w1 w2 w3 w4 nb kd cl gr oc r1 r2 hc2) mv_X5_cellBit wl_8_23 ⟨rfl, rfl, Nat.le_of_ble_eq_true rfl, Nat.le_of_ble_eq_true rfl⟩ [0, 1, 2, 3, 4] rfl (by decide) 0 rfl rfl rfl rfl (Nat.le_of_ble_eq_true rfl) dX5_comers_37) rfl ?_
          refine ik_lor C dX5_comers_40 ?_
          refine ik_lstore C [(4, .long (x4_9 ||| r2)), (8, .int r1), (7, .int x7_9), (6, .int x6_9), (0, .ref w0), (1, .long y1), (3, .int x3)] (by decide) rfl dX5_comers_41 ?_
          refine ik_iload C 1 rfl dX5_comers_43 ?_
          refine ik_iconst (v := (1 : Int32)) C (by decide) dX5_comers_45 ?_
          refine ik_iadd C dX5_comers_46 ?_
          refine ik_istore C [(6, .int (r1 + (1 : Int32))), (4, .long (x4_9 ||| r2)), (8, .int r1), (7, .int x7_9), (0, .ref w0), (1, .long y1), (3, .int x3)] (by decide) rfl dX5_comers_47 ?_
          refine ik_iinc C [(7, .int (x7_9 + (1 : Int32))), (6, .int (r1 + (1 : Int32))), (4, .long (x4_9 ||| r2)), (8, .int r1), (0, .ref w0), (1, .long y1), (3, .int x3)] 3 rfl rfl (by decide) rfl dX5_comers_49 ?_
          refine ik_goto C 9 dX5_comers_52 (by decide) ?_
          exact ik_sub [0, 1, 2, 4, 5, 6] [(7, .int (x7_9 + (1 : Int32))), (6, .int (r1 + (1 : Int32))), (4, .long (x4_9 ||| r2)), (0, .ref w0), (1, .long y1), (3, .int x3)] rfl (ih_9 (x4_9 ||| r2) (r1 + (1 : Int32)) (x7_9 + (1 : Int32)) hf)
        · have hf := ik_neg hc hf
          refine ik_goto C 55 dX5_comers_29 (by decide) ?_
          refine ik_lload C 3 rfl dX5_comers_55 ?_
          cases hf
          exact ik_lretR C hr hlk dX5_comers_57
  exact hL_9 ik_fu (0 : Int64) (0 : Int32) (0 : Int32) hf
theorem mv_X6_light : ik_V yX6_light RX6 cX6_light 1 (some .int) 0 := ⟨wl_17_6, wl_17_7, wl_1_2, wl_17_8, by decide +kernel⟩
set_option maxHeartbeats 4000000 in
set_option maxRecDepth 100000 in
theorem c_X6_light (l : Launch) (D : va_G) (cI cS : ClassId) (o0 np0 kp0 tp0 r0 t0 sh0 f0 nw0 nc0 np1 np2 np3 nw1 nw2 nw3 nw4 nc1 nc2 : Nat) (isk : Int32) (nhour : Int32) (nair : Int32) (nrub : Int32) (nz : Int32) (nnb : Int32) (nkd : Nat → Int32) (ncl : Nat → Int32) (ngr : Nat → Int32) (noc : Nat → Int32) (nlit : Int32) (ncold : Int32) (nccell : Nat → Int32) (ncpow : Nat → Int32) (nsp : Nat → Int32) (nwm : Nat → Int32) (ndr : Nat → Int32) (R : Int32) (hf : f_X6_light nlit ncpow = some (R)) : Met l yX6_light (ik_ws yX6_light cX6_light 1 (some .int)) ({ frames := 1, cells := 0, slots := 0, locals := 23 } : Room) (ik_P D cI cS [.ref o0] (wz_X6on cI cS o0 np0 kp0 tp0 r0 t0 sh0 f0 nw0 nc0 np1 np2 np3 nw1 nw2 nw3 nw4 nc1 nc2 isk nhour nair nrub nz nnb nkd ncl ngr noc nlit ncold nccell ncpow nsp nwm ndr)) (ik_R (some (.int R))) 0 0 ik_no := by
  refine ik_metR RX6 rfl (by decide) (Nat.le_of_ble_eq_true rfl) [(0, .ref o0)] rfl ?_
  intro p e s m below meth c C hr hlk
  unfold f_X6_light at hf
  refine ik_aload_n C 0 rfl rfl dX6_light_0 ?_
  refine ik_get C inlX6 0 rfl rfl 0 (by decide) wl_1_15 rfl (v := .ref np0) rfl dX6_light_1 ?_
  refine ik_get C inlX1 1 rfl rfl 1 (by decide) wl_13_8 rfl (v := .ref nc0) rfl dX6_light_4 ?_
  refine ik_aload_n C 0 rfl rfl dX6_light_7 ?_
  refine ik_get C inlX6 0 rfl rfl 0 (by decide) wl_1_15 rfl (v := .ref np0) rfl dX6_light_8 ?_
  refine ik_get C inlX1 1 rfl rfl 1 (by decide) wl_13_8 rfl (v := .ref nc0) rfl dX6_light_11 ?_
  refine ik_get C inlX0 7 rfl rfl 2 (by decide) wl_17_9 rfl (v := .int nlit) rfl dX6_light_14 ?_
  obtain ⟨r1, hc1, hf⟩ := ik_b1s hf
  refine ik_goR (ik_runV C (c_X0_lightOf l D cI cS nc0 nc1 nc2 nlit ncold nccell ncpow nlit r1 hc1) mv_X0_lightOf wl_17_10 ⟨rfl, rfl, Nat.le_of_ble_eq_true rfl, Nat.le_of_ble_eq_true rfl⟩ [7, 8, 9] rfl (by decide) 7 rfl rfl rfl rfl (Nat.le_of_ble_eq_true rfl) dX6_light_17) rfl ?_
  cases hf
  exact ik_iretR C hr hlk dX6_light_20
theorem mv_X6_loose : ik_V yX6_loose RX6 cX6_loose 1 (some .int) 0 := ⟨wl_22_11, wl_22_12, wl_1_2, wl_22_13, by decide +kernel⟩
set_option maxHeartbeats 4000000 in
set_option maxRecDepth 100000 in
theorem c_X6_loose (l : Launch) (D : va_G) (cI cS : ClassId) (o0 np0 kp0 tp0 r0 t0 sh0 f0 nw0 nc0 np1 np2 np3 nw1 nw2 nw3 nw4 nc1 nc2 : Nat) (isk : Int32) (nhour : Int32) (nair : Int32) (nrub : Int32) (nz : Int32) (nnb : Int32) (nkd : Nat → Int32) (ncl : Nat → Int32) (ngr : Nat → Int32) (noc : Nat → Int32) (nlit : Int32) (ncold : Int32) (nccell : Nat → Int32) (ncpow : Nat → Int32) (nsp : Nat → Int32) (nwm : Nat → Int32) (ndr : Nat → Int32) (R : Int32) (hf : f_X6_loose nnb nkd ncl = some (R)) : Met l yX6_loose (ik_ws yX6_loose cX6_loose 1 (some .int)) ({ frames := 3, cells := 0, slots := 0, locals := 77 } : Room) (ik_P D cI cS [.ref o0] (wz_X6on cI cS o0 np0 kp0 tp0 r0 t0 sh0 f0 nw0 nc0 np1 np2 np3 nw1 nw2 nw3 nw4 nc1 nc2 isk nhour nair nrub nz nnb nkd ncl ngr noc nlit ncold nccell ncpow nsp nwm ndr)) (ik_R (some (.int R))) 0 0 ik_no := by
  refine ik_metR RX6 rfl (by decide) (Nat.le_of_ble_eq_true rfl) [(0, .ref o0)] rfl ?_
  intro p e s m below meth c C hr hlk
  unfold f_X6_loose at hf
  refine ik_aload_n C 0 rfl rfl dX6_loose_0 ?_
  refine ik_get C inlX6 0 rfl rfl 0 (by decide) wl_1_15 rfl (v := .ref np0) rfl dX6_loose_1 ?_
  refine ik_get C inlX1 1 rfl rfl 0 (by decide) wl_5_4 rfl (v := .ref nw0) rfl dX6_loose_4 ?_
  obtain ⟨r1, hc1, hf⟩ := ik_b1s hf
  refine ik_goR (ik_runV C (c_X5_looseSet l D cI cS nw0 nw1 nw2 nw3 nw4 nnb nkd ncl ngr noc r1 hc1) mv_X5_looseSet wl_22_14 ⟨rfl, rfl, Nat.le_of_ble_eq_true rfl, Nat.le_of_ble_eq_true rfl⟩ [2, 3, 4, 5, 6] rfl (by decide) 2 rfl rfl rfl rfl (Nat.le_of_ble_eq_true rfl) dX6_loose_7) rfl ?_
  cases hf
  exact ik_iretR C hr hlk dX6_loose_10
theorem mv_X6_seed : ik_V yX6_seed RX6 cX6_seed 3 (some .int) 1 := ⟨wl_34_5, wl_34_6, wl_1_2, wl_34_7, by decide +kernel⟩
set_option maxHeartbeats 4000000 in
set_option maxRecDepth 100000 in
theorem c_X6_seed (l : Launch) (D : va_G) (cI cS : ClassId) (o0 np0 kp0 tp0 r0 t0 sh0 f0 nw0 nc0 np1 np2 np3 nw1 nw2 nw3 nw4 nc1 nc2 : Nat) (isk : Int32) (nhour : Int32) (nair : Int32) (nrub : Int32) (nz : Int32) (nnb : Int32) (nkd : Nat → Int32) (ncl : Nat → Int32) (ngr : Nat → Int32) (noc : Nat → Int32) (nlit : Int32) (ncold : Int32) (nccell : Nat → Int32) (ncpow : Nat → Int32) (nsp : Nat → Int32) (nwm : Nat → Int32) (ndr : Nat → Int32) (x1 : Int32) (R : Int32) (nz_r : Int32) (hf : f_X6_seed nz x1 = some (R, nz_r)) : Met l yX6_seed (ik_ws yX6_seed cX6_seed 3 (some .int)) ({ frames := 0, cells := 0, slots := 0, locals := 0 } : Room) (ik_P D cI cS [.ref o0, .int x1] (wz_X6on cI cS o0 np0 kp0 tp0 r0 t0 sh0 f0 nw0 nc0 np1 np2 np3 nw1 nw2 nw3 nw4 nc1 nc2 isk nhour nair nrub nz nnb nkd ncl ngr noc nlit ncold nccell ncpow nsp nwm ndr)) (ik_Q (some (.int R)) D (wz_X6on cI cS o0 np0 kp0 tp0 r0 t0 sh0 f0 nw0 nc0 np1 np2 np3 nw1 nw2 nw3 nw4 nc1 nc2 isk nhour nair nrub nz_r nnb nkd ncl ngr noc nlit ncold nccell ncpow nsp nwm ndr) (wz_X6on cI cS o0 np0 kp0 tp0 r0 t0 sh0 f0 nw0 nc0 np1 np2 np3 nw1 nw2 nw3 nw4 nc1 nc2 isk nhour nair nrub nz nnb nkd ncl ngr noc nlit ncold nccell ncpow nsp nwm ndr)) 0 0 (ik_in (wz_X6on cI cS o0 np0 kp0 tp0 r0 t0 sh0 f0 nw0 nc0 np1 np2 np3 nw1 nw2 nw3 nw4 nc1 nc2 isk nhour nair nrub nz nnb nkd ncl ngr noc nlit ncold nccell ncpow nsp nwm ndr)) := by
  refine ik_metW RX6 rfl (by decide) (Nat.le_of_ble_eq_true rfl) [(0, .ref o0), (1, .int x1)] rfl ?_
  intro p e s m below meth c C hr hlk
  unfold f_X6_seed at hf
  refine ik_aload_n C 0 rfl rfl dX6_seed_0 ?_
  refine ik_get C inlX6 0 rfl rfl 0 (by decide) wl_1_15 rfl (v := .ref np0) rfl dX6_seed_1 ?_
  refine ik_get C inlX1 1 rfl rfl 6 (by decide) wl_34_8 rfl (v := .int nz) rfl dX6_seed_4 ?_
  refine ik_istore_n C [(2, .int nz), (0, .ref o0), (1, .int x1)] rfl (by decide) rfl dX6_seed_7 ?_
  refine ik_aload_n C 1 rfl rfl dX6_seed_8 ?_
  refine ik_get C inlX6 0 rfl rfl 0 (by decide) wl_1_15 rfl (v := .ref np0) rfl dX6_seed_9 ?_
  refine ik_iload_n C 2 rfl rfl dX6_seed_12 ?_
  refine ik_put C inlX1 tyX1 tyX1_ok nmX1 1 rfl rfl 6 (by decide) wl_34_8 rfl (by decide) rfl rfl (Nat.le_of_ble_eq_true rfl) (wz_X6on cI cS o0 np0 kp0 tp0 r0 t0 sh0 f0 nw0 nc0 np1 np2 np3 nw1 nw2 nw3 nw4 nc1 nc2 isk nhour nair nrub x1 nnb nkd ncl ngr noc nlit ncold nccell ncpow nsp nwm ndr) rfl dX6_seed_13 ?_
  refine ik_iload_n C 0 rfl rfl dX6_seed_16 ?_
  cases hf
  exact ik_iretW C hr hlk dX6_seed_17
theorem mv_X6_wipe : ik_V yX6_wipe RX6 cX6_wipe 2 (some .int) 0 := ⟨wl_35_5, wl_35_6, wl_1_2, wl_35_7, by decide +kernel⟩
set_option maxHeartbeats 4000000 in
set_option maxRecDepth 100000 in
theorem c_X6_wipe (l : Launch) (D : va_G) (cI cS : ClassId) (o0 np0 kp0 tp0 r0 t0 sh0 f0 t1 : Nat) (isk : Int32) (tok : Int32) (sta : Int32) (en : Int32) (val : Int32) (tsize : Int32) (tby : Nat → Int32) (R : Int32) (tsize_r : Int32) (hf : f_X6_wipe tsize = some (R, tsize_r)) : Met l yX6_wipe (ik_ws yX6_wipe cX6_wipe 2 (some .int)) ({ frames := 0, cells := 0, slots := 0, locals := 0 } : Room) (ik_P D cI cS [.ref o0] (wz_X6or cI cS o0 np0 kp0 tp0 r0 t0 sh0 f0 t1 isk tok sta en val tsize tby)) (ik_Q (some (.int R)) D (wz_X6or cI cS o0 np0 kp0 tp0 r0 t0 sh0 f0 t1 isk tok sta en val tsize_r tby) (wz_X6or cI cS o0 np0 kp0 tp0 r0 t0 sh0 f0 t1 isk tok sta en val tsize tby)) 0 0 (ik_in (wz_X6or cI cS o0 np0 kp0 tp0 r0 t0 sh0 f0 t1 isk tok sta en val tsize tby)) := by
  refine ik_metW RX6 rfl (by decide) (Nat.le_of_ble_eq_true rfl) [(0, .ref o0)] rfl ?_
  intro p e s m below meth c C hr hlk
  unfold f_X6_wipe at hf
  refine ik_aload_n C 0 rfl rfl dX6_wipe_0 ?_
  refine ik_get C inlX6 0 rfl rfl 5 (by decide) wl_1_23 rfl (v := .ref t0) rfl dX6_wipe_1 ?_
  refine ik_get C inlX3 2 rfl rfl 1 (by decide) wl_34_17 rfl (v := .int tsize) rfl dX6_wipe_4 ?_
  refine ik_istore_n C [(1, .int tsize), (0, .ref o0)] rfl (by decide) rfl dX6_wipe_7 ?_
  refine ik_aload_n C 1 rfl rfl dX6_wipe_8 ?_
  refine ik_get C inlX6 0 rfl rfl 5 (by decide) wl_1_23 rfl (v := .ref t0) rfl dX6_wipe_9 ?_
  refine ik_iconst (v := (0 : Int32)) C (by decide) dX6_wipe_12 ?_
  refine ik_put C inlX3 tyX3 tyX3_ok nmX3 2 rfl rfl 1 (by decide) wl_34_17 rfl (by decide) rfl rfl (Nat.le_of_ble_eq_true rfl) (wz_X6or cI cS o0 np0 kp0 tp0 r0 t0 sh0 f0 t1 isk tok sta en val (0 : Int32) tby) rfl dX6_wipe_13 ?_
  refine ik_iload_n C 0 rfl rfl dX6_wipe_16 ?_
  cases hf
  exact ik_iretW C hr hlk dX6_wipe_17
theorem mv_X6_tear : ik_V yX6_tear RX6 cX6_tear 2 (some .int) 0 := ⟨wl_48_1, wl_48_2, wl_1_2, wl_48_3, by decide +kernel⟩
set_option maxHeartbeats 4000000 in
set_option maxRecDepth 100000 in
theorem c_X6_tear (l : Launch) (D : va_G) (cI cS : ClassId) (o0 np0 kp0 tp0 r0 t0 sh0 f0 : Nat) (isk : Int32) (R : Int32) (isk_r : Int32) (hf : f_X6_tear isk = some (R, isk_r)) : Met l yX6_tear (ik_ws yX6_tear cX6_tear 2 (some .int)) ({ frames := 0, cells := 0, slots := 0, locals := 0 } : Room) (ik_P D cI cS [.ref o0] (wz_X6o cI cS o0 np0 kp0 tp0 r0 t0 sh0 f0 isk)) (ik_Q (some (.int R)) D (wz_X6o cI cS o0 np0 kp0 tp0 r0 t0 sh0 f0 isk_r) (wz_X6o cI cS o0 np0 kp0 tp0 r0 t0 sh0 f0 isk)) 0 0 (ik_in (wz_X6o cI cS o0 np0 kp0 tp0 r0 t0 sh0 f0 isk)) := by
  refine ik_metW RX6 rfl (by decide) (Nat.le_of_ble_eq_true rfl) [(0, .ref o0)] rfl ?_
  intro p e s m below meth c C hr hlk
  unfold f_X6_tear at hf
  refine ik_aload_n C 0 rfl rfl dX6_tear_0 ?_
  refine ik_get C inlX6 0 rfl rfl 3 (by decide) wl_47_10 rfl (v := .int isk) rfl dX6_tear_1 ?_
  refine ik_if_eq C 11 dX6_tear_4 (by decide) (fun hc => ?_) (fun hc => ?_)
  · have hf := ik_pos hc hf
    refine ik_iconst (v := (0 : Int32)) C (by decide) dX6_tear_11 ?_
    refine ik_istore_n C [(1, .int (0 : Int32)), (0, .ref o0)] rfl (by decide) rfl dX6_tear_12 ?_
    refine ik_aload_n C 1 rfl rfl dX6_tear_13 ?_
    refine ik_iconst (v := (0 : Int32)) C (by decide) dX6_tear_14 ?_
    refine ik_put C inlX6 tyX6 tyX6_ok nmX6 0 rfl rfl 3 (by decide) wl_47_10 rfl (by decide) (by decide) (by decide) (Nat.le_of_ble_eq_true rfl) (wz_X6o cI cS o0 np0 kp0 tp0 r0 t0 sh0 f0 (0 : Int32)) rfl dX6_tear_15 ?_
    refine ik_iload_n C 0 rfl rfl dX6_tear_18 ?_
    cases hf
    exact ik_iretW C hr hlk dX6_tear_19
  · have hf := ik_neg hc hf
    refine ik_iconst (v := (1 : Int32)) C (by decide) dX6_tear_7 ?_
    refine ik_goto C 12 dX6_tear_8 (by decide) ?_
    refine ik_istore_n C [(1, .int (1 : Int32)), (0, .ref o0)] rfl (by decide) rfl dX6_tear_12 ?_
    refine ik_aload_n C 1 rfl rfl dX6_tear_13 ?_
    refine ik_iconst (v := (0 : Int32)) C (by decide) dX6_tear_14 ?_
    refine ik_put C inlX6 tyX6 tyX6_ok nmX6 0 rfl rfl 3 (by decide) wl_47_10 rfl (by decide) (by decide) (by decide) (Nat.le_of_ble_eq_true rfl) (wz_X6o cI cS o0 np0 kp0 tp0 r0 t0 sh0 f0 (0 : Int32)) rfl dX6_tear_15 ?_
    refine ik_iload_n C 0 rfl rfl dX6_tear_18 ?_
    cases hf
    exact ik_iretW C hr hlk dX6_tear_19
theorem mv_X6_hasHours : ik_V yX6_hasHours RX6 cX6_hasHours 2 (some .boolean) 1 := ⟨wl_17_23, wl_18_0, wl_1_2, wl_18_1, by decide +kernel⟩
set_option maxHeartbeats 4000000 in
set_option maxRecDepth 100000 in
theorem c_X6_hasHours (l : Launch) (D : va_G) (cI cS : ClassId) (o0 np0 kp0 tp0 r0 t0 sh0 f0 nw0 nc0 np1 np2 np3 nw1 nw2 nw3 nw4 nc1 nc2 : Nat) (isk : Int32) (nhour : Int32) (nair : Int32) (nrub : Int32) (nz : Int32) (nnb : Int32) (nkd : Nat → Int32) (ncl : Nat → Int32) (ngr : Nat → Int32) (noc : Nat → Int32) (nlit : Int32) (ncold : Int32) (nccell : Nat → Int32) (ncpow : Nat → Int32) (nsp : Nat → Int32) (nwm : Nat → Int32) (ndr : Nat → Int32) (x1 : Int32) (R : Int32) (hf : f_X6_hasHours nhour x1 = some (R)) : Met l yX6_hasHours (ik_ws yX6_hasHours cX6_hasHours 2 (some .boolean)) ({ frames := 0, cells := 0, slots := 0, locals := 0 } : Room) (ik_P D cI cS [.ref o0, .int x1] (wz_X6on cI cS o0 np0 kp0 tp0 r0 t0 sh0 f0 nw0 nc0 np1 np2 np3 nw1 nw2 nw3 nw4 nc1 nc2 isk nhour nair nrub nz nnb nkd ncl ngr noc nlit ncold nccell ncpow nsp nwm ndr)) (ik_R (some (.int R))) 0 0 ik_no := by
  refine ik_metR RX6 rfl (by decide) (Nat.le_of_ble_eq_true rfl) [(0, .ref o0), (1, .int x1)] rfl ?_
  intro p e s m below meth c C hr hlk
  unfold f_X6_hasHours at hf
  refine ik_aload_n C 0 rfl rfl dX6_hasHours_0 ?_
  refine ik_get C inlX6 0 rfl rfl 0 (by decide) wl_1_15 rfl (v := .ref np0) rfl dX6_hasHours_1 ?_
  refine ik_get C inlX1 1 rfl rfl 3 (by decide) wl_18_2 rfl (v := .int nhour) rfl dX6_hasHours_4 ?_
  refine ik_iload_n C 1 rfl rfl dX6_hasHours_7 ?_
  refine ik_iadd C dX6_hasHours_8 ?_
  refine ik_sipush (v := (9999 : Int32)) C (by decide) dX6_hasHours_9 ?_
  refine ik_icmp_gt C 19 dX6_hasHours_12 (by decide) (fun hc => ?_) (fun hc => ?_)
  · have hf := ik_pos hc hf
    refine ik_iconst (v := (0 : Int32)) C (by decide) dX6_hasHours_19 ?_
    cases hf
    exact ik_zretR C hr (by decide) hlk dX6_hasHours_20
  · have hf := ik_neg hc hf
    refine ik_iconst (v := (1 : Int32)) C (by decide) dX6_hasHours_15 ?_
    refine ik_goto C 20 dX6_hasHours_16 (by decide) ?_
    cases hf
    exact ik_zretR C hr (by decide) hlk dX6_hasHours_20
theorem ms_X6_isWithin : ik_S yX6_isWithin RX6 cX6_isWithin 3 (some .boolean) 3 := ⟨wl_5_11, wl_1_2, wl_5_12, by decide +kernel⟩
set_option maxHeartbeats 4000000 in
set_option maxRecDepth 100000 in
theorem c_X6_isWithin (l : Launch) (D : va_G) (cI cS : ClassId) (x0 : Int32) (x1 : Int32) (x2 : Int32) (R : Int32) (hf : f_X6_isWithin x0 x1 x2 = some (R)) : Met l yX6_isWithin (ik_ws yX6_isWithin cX6_isWithin 3 (some .boolean)) ({ frames := 0, cells := 0, slots := 0, locals := 0 } : Room) (ik_P D cI cS [.int x0, .int x1, .int x2] (wz_none cI cS)) (ik_R (some (.int R))) 0 0 ik_no := by
  refine ik_metR RX6 rfl (by decide) (Nat.le_of_ble_eq_true rfl) [(0, .int x0), (1, .int x1), (2, .int x2)] rfl ?_
  intro p e s m below meth c C hr hlk
  unfold f_X6_isWithin at hf
  refine ik_iload_n C 0 rfl rfl dX6_isWithin_0 ?_
  refine ik_iload_n C 1 rfl rfl dX6_isWithin_1 ?_
  refine ik_icmp_lt C 14 dX6_isWithin_2 (by decide) (fun hc => ?_) (fun hc => ?_)
  · have hf := ik_pos hc hf
    refine ik_iconst (v := (0 : Int32)) C (by decide) dX6_isWithin_14 ?_
    cases hf
    exact ik_zretR C hr (by decide) hlk dX6_isWithin_15
  · have hf := ik_neg hc hf
    refine ik_iload_n C 0 rfl rfl dX6_isWithin_5 ?_
    refine ik_iload_n C 2 rfl rfl dX6_isWithin_6 ?_
    refine ik_icmp_gt C 14 dX6_isWithin_7 (by decide) (fun hc => ?_) (fun hc => ?_)
    · have hf := ik_pos hc hf
      refine ik_iconst (v := (0 : Int32)) C (by decide) dX6_isWithin_14 ?_
      cases hf
      exact ik_zretR C hr (by decide) hlk dX6_isWithin_15
    · have hf := ik_neg hc hf
      refine ik_iconst (v := (1 : Int32)) C (by decide) dX6_isWithin_10 ?_
      refine ik_goto C 15 dX6_isWithin_11 (by decide) ?_
      cases hf
      exact ik_zretR C hr (by decide) hlk dX6_isWithin_15
theorem ms_X6_isKind : ik_S yX6_isKind RX6 cX6_isKind 1 (some .boolean) 1 := ⟨wl_5_8, wl_1_2, wl_5_9, by decide +kernel⟩
set_option maxHeartbeats 4000000 in
set_option maxRecDepth 100000 in
theorem c_X6_isKind (l : Launch) (D : va_G) (cI cS : ClassId) (x0 : Int32) (R : Int32) (hf : f_X6_isKind x0 = some (R)) : Met l yX6_isKind (ik_ws yX6_isKind cX6_isKind 1 (some .boolean)) ({ frames := 1, cells := 0, slots := 0, locals := 22 } : Room) (ik_P D cI cS [.int x0] (wz_none cI cS)) (ik_R (some (.int R))) 0 0 ik_no := by
  refine ik_metR RX6 rfl (by decide) (Nat.le_of_ble_eq_true rfl) [(0, .int x0)] rfl ?_
  intro p e s m below meth c C hr hlk
  unfold f_X6_isKind at hf
  refine ik_iload_n C 0 rfl rfl dX6_isKind_0 ?_
  refine ik_iconst (v := (0 : Int32)) C (by decide) dX6_isKind_1 ?_
  refine ik_bipush (v := (6 : Int32)) C (by decide) dX6_isKind_2 ?_
  obtain ⟨r1, hc1, hf⟩ := ik_b1s hf
  refine ik_goR (ik_runS C (c_X6_isWithin l D cI cS x0 (0 : Int32) (6 : Int32) r1 hc1) ms_X6_isWithin wl_5_10 ⟨rfl, rfl, Nat.le_of_ble_eq_true rfl, Nat.le_of_ble_eq_true rfl⟩ [] rfl (by decide) rfl rfl (Nat.le_of_ble_eq_true rfl) dX6_isKind_4) rfl ?_
  have hz := ik_gzi hf
  have hf := ik_gzk hf
  cases hf
  exact ik_zretR C hr hz.1 hlk dX6_isKind_7
theorem ms_X6_isCell : ik_S yX6_isCell RX6 cX6_isCell 1 (some .boolean) 1 := ⟨wl_5_14, wl_1_2, wl_5_15, by decide +kernel⟩
set_option maxHeartbeats 4000000 in
set_option maxRecDepth 100000 in
theorem c_X6_isCell (l : Launch) (D : va_G) (cI cS : ClassId) (x0 : Int32) (R : Int32) (hf : f_X6_isCell x0 = some (R)) : Met l yX6_isCell (ik_ws yX6_isCell cX6_isCell 1 (some .boolean)) ({ frames := 1, cells := 0, slots := 0, locals := 22 } : Room) (ik_P D cI cS [.int x0] (wz_none cI cS)) (ik_R (some (.int R))) 0 0 ik_no := by
  refine ik_metR RX6 rfl (by decide) (Nat.le_of_ble_eq_true rfl) [(0, .int x0)] rfl ?_
  intro p e s m below meth c C hr hlk
  unfold f_X6_isCell at hf
  refine ik_iload_n C 0 rfl rfl dX6_isCell_0 ?_
  refine ik_iconst (v := (0 : Int32)) C (by decide) dX6_isCell_1 ?_
  refine ik_bipush (v := (47 : Int32)) C (by decide) dX6_isCell_2 ?_
  obtain ⟨r1, hc1, hf⟩ := ik_b1s hf
  refine ik_goR (ik_runS C (c_X6_isWithin l D cI cS x0 (0 : Int32) (47 : Int32) r1 hc1) ms_X6_isWithin wl_5_10 ⟨rfl, rfl, Nat.le_of_ble_eq_true rfl, Nat.le_of_ble_eq_true rfl⟩ [] rfl (by decide) rfl rfl (Nat.le_of_ble_eq_true rfl) dX6_isCell_4) rfl ?_
  have hz := ik_gzi hf
  have hf := ik_gzk hf
  cases hf
  exact ik_zretR C hr hz.1 hlk dX6_isCell_7
theorem ms_X6_isCandle : ik_S yX6_isCandle RX6 cX6_isCandle 1 (some .boolean) 1 := ⟨wl_15_10, wl_1_2, wl_15_11, by decide +kernel⟩
set_option maxHeartbeats 4000000 in
set_option maxRecDepth 100000 in
theorem c_X6_isCandle (l : Launch) (D : va_G) (cI cS : ClassId) (x0 : Int32) (R : Int32) (hf : f_X6_isCandle x0 = some (R)) : Met l yX6_isCandle (ik_ws yX6_isCandle cX6_isCandle 1 (some .boolean)) ({ frames := 1, cells := 0, slots := 0, locals := 22 } : Room) (ik_P D cI cS [.int x0] (wz_none cI cS)) (ik_R (some (.int R))) 0 0 ik_no := by
  refine ik_metR RX6 rfl (by decide) (Nat.le_of_ble_eq_true rfl) [(0, .int x0)] rfl ?_
  intro p e s m below meth c C hr hlk
  unfold f_X6_isCandle at hf
  refine ik_iload_n C 0 rfl rfl dX6_isCandle_0 ?_
  refine ik_iconst (v := (0 : Int32)) C (by decide) dX6_isCandle_1 ?_
  refine ik_iconst (v := (5 : Int32)) C (by decide) dX6_isCandle_2 ?_
  obtain ⟨r1, hc1, hf⟩ := ik_b1s hf
  refine ik_goR (ik_runS C (c_X6_isWithin l D cI cS x0 (0 : Int32) (5 : Int32) r1 hc1) ms_X6_isWithin wl_5_10 ⟨rfl, rfl, Nat.le_of_ble_eq_true rfl, Nat.le_of_ble_eq_true rfl⟩ [] rfl (by decide) rfl rfl (Nat.le_of_ble_eq_true rfl) dX6_isCandle_3) rfl ?_
  have hz := ik_gzi hf
  have hf := ik_gzk hf
  cases hf
  exact ik_zretR C hr hz.1 hlk dX6_isCandle_6
theorem ms_X6_isTune : ik_S yX6_isTune RX6 cX6_isTune 1 (some .boolean) 1 := ⟨wl_31_14, wl_1_2, wl_31_15, by decide +kernel⟩
set_option maxHeartbeats 4000000 in
set_option maxRecDepth 100000 in
theorem c_X6_isTune (l : Launch) (D : va_G) (cI cS : ClassId) (x0 : Int32) (R : Int32) (hf : f_X6_isTune x0 = some (R)) : Met l yX6_isTune (ik_ws yX6_isTune cX6_isTune 1 (some .boolean)) ({ frames := 1, cells := 0, slots := 0, locals := 22 } : Room) (ik_P D cI cS [.int x0] (wz_none cI cS)) (ik_R (some (.int R))) 0 0 ik_no := by
  refine ik_metR RX6 rfl (by decide) (Nat.le_of_ble_eq_true rfl) [(0, .int x0)] rfl ?_
  intro p e s m below meth c C hr hlk
  unfold f_X6_isTune at hf
  refine ik_iload_n C 0 rfl rfl dX6_isTune_0 ?_
  refine ik_iconst (v := (2 : Int32)) C (by decide) dX6_isTune_1 ?_
  refine ik_bipush (v := (9 : Int32)) C (by decide) dX6_isTune_2 ?_
  obtain ⟨r1, hc1, hf⟩ := ik_b1s hf
  refine ik_goR (ik_runS C (c_X6_isWithin l D cI cS x0 (2 : Int32) (9 : Int32) r1 hc1) ms_X6_isWithin wl_5_10 ⟨rfl, rfl, Nat.le_of_ble_eq_true rfl, Nat.le_of_ble_eq_true rfl⟩ [] rfl (by decide) rfl rfl (Nat.le_of_ble_eq_true rfl) dX6_isTune_4) rfl ?_
  have hz := ik_gzi hf
  have hf := ik_gzk hf
  cases hf
  exact ik_zretR C hr hz.1 hlk dX6_isTune_7
theorem ms_X6_isSpot : ik_S yX6_isSpot RX6 cX6_isSpot 1 (some .boolean) 1 := ⟨wl_43_3, wl_1_2, wl_43_4, by decide +kernel⟩
set_option maxHeartbeats 4000000 in
set_option maxRecDepth 100000 in
theorem c_X6_isSpot (l : Launch) (D : va_G) (cI cS : ClassId) (x0 : Int32) (R : Int32) (hf : f_X6_isSpot x0 = some (R)) : Met l yX6_isSpot (ik_ws yX6_isSpot cX6_isSpot 1 (some .boolean)) ({ frames := 1, cells := 0, slots := 0, locals := 22 } : Room) (ik_P D cI cS [.int x0] (wz_none cI cS)) (ik_R (some (.int R))) 0 0 ik_no := by
  refine ik_metR RX6 rfl (by decide) (Nat.le_of_ble_eq_true rfl) [(0, .int x0)] rfl ?_
  intro p e s m below meth c C hr hlk
  unfold f_X6_isSpot at hf
  refine ik_iload_n C 0 rfl rfl dX6_isSpot_0 ?_
  refine ik_iconst (v := (0 : Int32)) C (by decide) dX6_isSpot_1 ?_
  refine ik_bipush (v := (9 : Int32)) C (by decide) dX6_isSpot_2 ?_
  obtain ⟨r1, hc1, hf⟩ := ik_b1s hf
  refine ik_goR (ik_runS C (c_X6_isWithin l D cI cS x0 (0 : Int32) (9 : Int32) r1 hc1) ms_X6_isWithin wl_5_10 ⟨rfl, rfl, Nat.le_of_ble_eq_true rfl, Nat.le_of_ble_eq_true rfl⟩ [] rfl (by decide) rfl rfl (Nat.le_of_ble_eq_true rfl) dX6_isSpot_4) rfl ?_
  have hz := ik_gzi hf
  have hf := ik_gzk hf
  cases hf
  exact ik_zretR C hr hz.1 hlk dX6_isSpot_7
theorem ms_X6_isSheet : ik_S yX6_isSheet RX6 cX6_isSheet 1 (some .boolean) 1 := ⟨wl_44_10, wl_1_2, wl_44_11, by decide +kernel⟩
set_option maxHeartbeats 4000000 in
set_option maxRecDepth 100000 in
theorem c_X6_isSheet (l : Launch) (D : va_G) (cI cS : ClassId) (x0 : Int32) (R : Int32) (hf : f_X6_isSheet x0 = some (R)) : Met l yX6_isSheet (ik_ws yX6_isSheet cX6_isSheet 1 (some .boolean)) ({ frames := 1, cells := 0, slots := 0, locals := 22 } : Room) (ik_P D cI cS [.int x0] (wz_none cI cS)) (ik_R (some (.int R))) 0 0 ik_no := by
  refine ik_metR RX6 rfl (by decide) (Nat.le_of_ble_eq_true rfl) [(0, .int x0)] rfl ?_
  intro p e s m below meth c C hr hlk
  unfold f_X6_isSheet at hf
  refine ik_iload_n C 0 rfl rfl dX6_isSheet_0 ?_
  refine ik_iconst (v := (0 : Int32)) C (by decide) dX6_isSheet_1 ?_
  refine ik_iconst (v := (3 : Int32)) C (by decide) dX6_isSheet_2 ?_
  obtain ⟨r1, hc1, hf⟩ := ik_b1s hf
  refine ik_goR (ik_runS C (c_X6_isWithin l D cI cS x0 (0 : Int32) (3 : Int32) r1 hc1) ms_X6_isWithin wl_5_10 ⟨rfl, rfl, Nat.le_of_ble_eq_true rfl, Nat.le_of_ble_eq_true rfl⟩ [] rfl (by decide) rfl rfl (Nat.le_of_ble_eq_true rfl) dX6_isSheet_3) rfl ?_
  have hz := ik_gzi hf
  have hf := ik_gzk hf
  cases hf
  exact ik_zretR C hr hz.1 hlk dX6_isSheet_6
theorem mv_X7_finds : ik_V yX7_finds RX7 cX7_finds 2 (some .int) 1 := ⟨wl_7_9, wl_7_10, wl_1_5, wl_7_11, by decide +kernel⟩
set_option maxHeartbeats 4000000 in
set_option maxRecDepth 100000 in
theorem c_X7_finds (l : Launch) (D : va_G) (cI cS : ClassId) (h0 h1 h2 h3 h4 h5 h6 h7 h8 h9 h10 h11 : Nat) (misKept : Int32) (mtaped : Int32) (msort : Int32) (mfrom : Int32) (mto : Int32) (mvalue : Int32) (mbad : Int32) (mm : Nat → Int32) (mkept : Nat → Int32) (mwas : Nat → Int32) (mother : Nat → Int32) (mfound : Nat → Int32) (mwarm : Nat → Int32) (mdrip : Nat → Int32) (mtape : Nat → Int32) (mbits : Nat → Int32) (msize : Nat → Int32) (mnumber : Nat → Int32) (x1 : Int32) (R : Int32) (mfound_r : Nat → Int32) (hf : f_X7_finds mfound x1 = some (R, mfound_r)) : Met l yX7_finds (ik_ws yX7_finds cX7_finds 2 (some .int)) ({ frames := 0, cells := 0, slots := 0, locals := 0 } : Room) (ik_P D cI cS [.ref h0, .int x1] (wz_X7 cI cS h0 h1 h2 h3 h4 h5 h6 h7 h8 h9 h10 h11 misKept mtaped msort mfrom mto mvalue mbad mm mkept mwas mother mfound mwarm mdrip mtape mbits msize mnumber)) (ik_Q (some (.int R)) D (wz_X7 cI cS h0 h1 h2 h3 h4 h5 h6 h7 h8 h9 h10 h11 misKept mtaped msort mfrom mto mvalue mbad mm mkept mwas mother mfound_r mwarm mdrip mtape mbits msize mnumber) (wz_X7 cI cS h0 h1 h2 h3 h4 h5 h6 h7 h8 h9 h10 h11 misKept mtaped msort mfrom mto mvalue mbad mm mkept mwas mother mfound mwarm mdrip mtape mbits msize mnumber)) 0 0 (ik_in (wz_X7 cI cS h0 h1 h2 h3 h4 h5 h6 h7 h8 h9 h10 h11 misKept mtaped msort mfrom mto mvalue mbad mm mkept mwas mother mfound mwarm mdrip mtape mbits msize mnumber)) := by
  refine ik_metW RX7 rfl (by decide) (Nat.le_of_ble_eq_true rfl) [(0, .ref h0), (1, .int x1)] rfl ?_
  intro p e s m below meth c C hr hlk
  unfold f_X7_finds at hf
  refine ik_aload_n C 0 rfl rfl dX7_finds_0 ?_
  refine ik_get C inlX7 0 rfl rfl 5 (by decide) wl_4_16 rfl (v := .ref h5) rfl dX7_finds_1 ?_
  refine ik_ldc C wl_6_14 dX7_finds_4 ?_
  refine ik_iload_n C 1 rfl rfl dX7_finds_6 ?_
  refine ik_isub C dX7_finds_7 ?_
  refine ik_dup2 C rfl rfl dX7_finds_8 ?_
  have hg := ik_gdi hf
  have hf := ik_gdk hf
  refine ik_iald C 5 rfl hg dX7_finds_9 ?_
  refine ik_iconst (v := (1 : Int32)) C (by decide) dX7_finds_10 ?_
  refine ik_iadd C dX7_finds_11 ?_
  have hg := ik_gdi hf
  have hf := ik_gdk hf
  refine ik_iast C 5 rfl hg (wz_X7 cI cS h0 h1 h2 h3 h4 h5 h6 h7 h8 h9 h10 h11 misKept mtaped msort mfrom mto mvalue mbad mm mkept mwas mother (upd mfound (((-1000001 : Int32) - x1)).toNatClampNeg ((mfound (((-1000001 : Int32) - x1)).toNatClampNeg) + (1 : Int32))) mwarm mdrip mtape mbits msize mnumber) rfl dX7_finds_12 ?_
  refine ik_iload_n C 1 rfl rfl dX7_finds_13 ?_
  cases hf
  exact ik_iretW C hr hlk dX7_finds_14
theorem mv_X7_orNone : ik_V yX7_orNone RX7 cX7_orNone 2 (some .int) 1 := ⟨wl_27_9, wl_27_10, wl_1_5, wl_27_11, by decide +kernel⟩
set_option maxHeartbeats 4000000 in
set_option maxRecDepth 100000 in
theorem c_X7_orNone (l : Launch) (D : va_G) (cI cS : ClassId) (h0 h1 h2 h3 h4 h5 h6 h7 h8 h9 h10 h11 : Nat) (misKept : Int32) (mtaped : Int32) (msort : Int32) (mfrom : Int32) (mto : Int32) (mvalue : Int32) (mbad : Int32) (mm : Nat → Int32) (mkept : Nat → Int32) (mwas : Nat → Int32) (mother : Nat → Int32) (mfound : Nat → Int32) (mwarm : Nat → Int32) (mdrip : Nat → Int32) (mtape : Nat → Int32) (mbits : Nat → Int32) (msize : Nat → Int32) (mnumber : Nat → Int32) (x1 : Int32) (R : Int32) (mfound_r : Nat → Int32) (hf : f_X7_orNone mfound x1 = some (R, mfound_r)) : Met l yX7_orNone (ik_ws yX7_orNone cX7_orNone 2 (some .int)) ({ frames := 1, cells := 0, slots := 0, locals := 21 } : Room) (ik_P D cI cS [.ref h0, .int x1] (wz_X7 cI cS h0 h1 h2 h3 h4 h5 h6 h7 h8 h9 h10 h11 misKept mtaped msort mfrom mto mvalue mbad mm mkept mwas mother mfound mwarm mdrip mtape mbits msize mnumber)) (ik_Q (some (.int R)) D (wz_X7 cI cS h0 h1 h2 h3 h4 h5 h6 h7 h8 h9 h10 h11 misKept mtaped msort mfrom mto mvalue mbad mm mkept mwas mother mfound_r mwarm mdrip mtape mbits msize mnumber) (wz_X7 cI cS h0 h1 h2 h3 h4 h5 h6 h7 h8 h9 h10 h11 misKept mtaped msort mfrom mto mvalue mbad mm mkept mwas mother mfound mwarm mdrip mtape mbits msize mnumber)) 0 0 (ik_in (wz_X7 cI cS h0 h1 h2 h3 h4 h5 h6 h7 h8 h9 h10 h11 misKept mtaped msort mfrom mto mvalue mbad mm mkept mwas mother mfound mwarm mdrip mtape mbits msize mnumber)) := by
  refine ik_metW RX7 rfl (by decide) (Nat.le_of_ble_eq_true rfl) [(0, .ref h0), (1, .int x1)] rfl ?_
  intro p e s m below meth c C hr hlk
  unfold f_X7_orNone at hf
  refine ik_iload_n C 1 rfl rfl dX7_orNone_0 ?_
  refine ik_if_ge C 13 dX7_orNone_1 (by decide) (fun hc => ?_) (fun hc => ?_)
  · have hf := ik_pos hc hf
    refine ik_iload_n C 1 rfl rfl dX7_orNone_13 ?_
    cases hf
    exact ik_iretW C hr hlk dX7_orNone_14
  · have hf := ik_neg hc hf
    refine ik_aload_n C 0 rfl rfl dX7_orNone_4 ?_
    refine ik_ldc C wl_25_18 dX7_orNone_5 ?_
    obtain ⟨r1, g2, hc2, hf⟩ := ik_b2s hf
    refine ik_goW [0, 1, 2, 3, 4, 5, 6, 7, 8, 9, 10, 11] rfl rfl (wz_X7 cI cS h0 h1 h2 h3 h4 h5 h6 h7 h8 h9 h10 h11 misKept mtaped msort mfrom mto mvalue mbad mm mkept mwas mother g2 mwarm mdrip mtape mbits msize mnumber) rfl (ik_runV C (c_X7_finds l D cI cS h0 h1 h2 h3 h4 h5 h6 h7 h8 h9 h10 h11 misKept mtaped msort mfrom mto mvalue mbad mm mkept mwas mother mfound mwarm mdrip mtape mbits msize mnumber (-1000004 : Int32) r1 g2 hc2) mv_X7_finds wl_7_8 ⟨rfl, rfl, Nat.le_of_ble_eq_true rfl, Nat.le_of_ble_eq_true rfl⟩ [0, 1, 2, 3, 4, 5, 6, 7, 8, 9, 10, 11] rfl (by decide) 0 rfl rfl rfl rfl (Nat.le_of_ble_eq_true rfl) dX7_orNone_7) rfl ?_
    refine ik_goto C 14 dX7_orNone_10 (by decide) ?_
    cases hf
    exact ik_iretW C hr hlk dX7_orNone_14
theorem ms_X7_in : ik_S yX7_in RX7 cX7_in 6 (some .boolean) 3 := ⟨wl_6_22, wl_1_5, wl_6_23, by decide +kernel⟩
set_option maxHeartbeats 4000000 in
set_option maxRecDepth 100000 in
theorem c_X7_in (l : Launch) (D : va_G) (cI cS : ClassId) (y0 : Int64) (y2 : Int64) (y4 : Int64) (R : Int32) (hf : f_X7_in y0 y2 y4 = some (R)) : Met l yX7_in (ik_ws yX7_in cX7_in 6 (some .boolean)) ({ frames := 0, cells := 0, slots := 0, locals := 0 } : Room) (ik_P D cI cS [.long y0, .long y2, .long y4] (wz_none cI cS)) (ik_R (some (.int R))) 0 0 ik_no := by
  refine ik_metR RX7 rfl (by decide) (Nat.le_of_ble_eq_true rfl) [(0, .long y0), (2, .long y2), (4, .long y4)] rfl ?_
  intro p e s m below meth c C hr hlk
  unfold f_X7_in at hf
  refine ik_lload_n C 0 rfl rfl dX7_in_0 ?_
  refine ik_lload_n C 1 rfl rfl dX7_in_1 ?_
  refine ik_lcmp C dX7_in_2 ?_
  refine ik_if_lt C 17 dX7_in_3 (by decide) (fun hc => ?_) (fun hc => ?_)
  · have hf := ik_pos hc hf
    refine ik_iconst (v := (0 : Int32)) C (by decide) dX7_in_17 ?_
    cases hf
    exact ik_zretR C hr (by decide) hlk dX7_in_18
  · have hf := ik_neg hc hf
    refine ik_lload_n C 0 rfl rfl dX7_in_6 ?_
    refine ik_lload C 2 rfl dX7_in_7 ?_
    refine ik_lcmp C dX7_in_9 ?_
    refine ik_if_gt C 17 dX7_in_10 (by decide) (fun hc => ?_) (fun hc => ?_)
    · have hf := ik_pos hc hf
      refine ik_iconst (v := (0 : Int32)) C (by decide) dX7_in_17 ?_
      cases hf
      exact ik_zretR C hr (by decide) hlk dX7_in_18
    · have hf := ik_neg hc hf
      refine ik_iconst (v := (1 : Int32)) C (by decide) dX7_in_13 ?_
      refine ik_goto C 18 dX7_in_14 (by decide) ?_
      cases hf
      exact ik_zretR C hr (by decide) hlk dX7_in_18
theorem ms_X7_has : ik_S yX7_has RX7 cX7_has 2 (some .boolean) 2 := ⟨wl_11_1, wl_1_5, wl_11_2, by decide +kernel⟩
set_option maxHeartbeats 4000000 in
set_option maxRecDepth 100000 in
theorem c_X7_has (l : Launch) (D : va_G) (cI cS : ClassId) (x0 : Int32) (x1 : Int32) (R : Int32) (hf : f_X7_has x0 x1 = some (R)) : Met l yX7_has (ik_ws yX7_has cX7_has 2 (some .boolean)) ({ frames := 0, cells := 0, slots := 0, locals := 0 } : Room) (ik_P D cI cS [.int x0, .int x1] (wz_none cI cS)) (ik_R (some (.int R))) 0 0 ik_no := by
  refine ik_metR RX7 rfl (by decide) (Nat.le_of_ble_eq_true rfl) [(0, .int x0), (1, .int x1)] rfl ?_
  intro p e s m below meth c C hr hlk
  unfold f_X7_has at hf
  refine ik_iload_n C 0 rfl rfl dX7_has_0 ?_
  refine ik_iload_n C 1 rfl rfl dX7_has_1 ?_
  refine ik_ishr C dX7_has_2 ?_
  refine ik_iconst (v := (1 : Int32)) C (by decide) dX7_has_3 ?_
  refine ik_iand C dX7_has_4 ?_
  refine ik_iconst (v := (1 : Int32)) C (by decide) dX7_has_5 ?_
  refine ik_icmp_ne C 13 dX7_has_6 (by decide) (fun hc => ?_) (fun hc => ?_)
  · have hf := ik_neg hc hf
    refine ik_iconst (v := (0 : Int32)) C (by decide) dX7_has_13 ?_
    cases hf
    exact ik_zretR C hr (by decide) hlk dX7_has_14
  · have hf := ik_pos hc hf
    refine ik_iconst (v := (1 : Int32)) C (by decide) dX7_has_9 ?_
    refine ik_goto C 14 dX7_has_10 (by decide) ?_
    cases hf
    exact ik_zretR C hr (by decide) hlk dX7_has_14
theorem ms_X7_many : ik_S yX7_many RX7 cX7_many 3 (some .int) 1 := ⟨wl_21_23, wl_1_5, wl_22_0, by decide +kernel⟩
set_option maxHeartbeats 4000000 in
set_option maxRecDepth 100000 in
theorem c_X7_many (l : Launch) (D : va_G) (cI cS : ClassId) (x0 : Int32) (R : Int32) (hf : f_X7_many x0 = some (R)) : Met l yX7_many (ik_ws yX7_many cX7_many 3 (some .int)) ({ frames := 0, cells := 0, slots := 0, locals := 0 } : Room) (ik_P D cI cS [.int x0] (wz_none cI cS)) (ik_R (some (.int R))) 0 0 ik_no := by
  refine ik_metR RX7 rfl (by decide) (Nat.le_of_ble_eq_true rfl) [(0, .int x0)] rfl ?_
  intro p e s m below meth c C hr hlk
  unfold f_X7_many at hf
  refine ik_iconst (v := (0 : Int32)) C (by decide) dX7_many_0 ?_
  refine ik_istore_n C [(1, .int (0 : Int32)), (0, .int x0)] rfl (by decide) rfl dX7_many_1 ?_
  refine ik_iconst (v := (0 : Int32)) C (by decide) dX7_many_2 ?_
  refine ik_istore_n C [(2, .int (0 : Int32)), (1, .int (0 : Int32)), (0, .int x0)] rfl (by decide) rfl dX7_many_3 ?_
  have hL_4 : ∀ (n_4 : Nat) (x1_4 : Int32) (x2_4 : Int32), ik_lp2 (b_X7_many_4 x0) n_4 x1_4 x2_4 = some (R) → ik_G p l e ({ frames := 0, cells := 0, slots := 0, locals := 0 } : Room) s m ([.int x0] : List Value).toArray below meth c D ik_no (fun _ => True) 3 (MQ below (ik_R (some (.int R))) ([.int x0] : List Value).toArray s 0 0 ik_no) 4 [(2, .int x2_4), (1, .int x1_4), (0, .int x0)] [] (wz_none cI cS) := by
    intro n_4
    induction n_4 with
    | zero => intro _ _ hf; exact nomatch hf
    | succ n_4 ih_4 =>
      intro x1_4 x2_4 hf
      replace hf : b_X7_many_4 x0 (ik_lp2 (b_X7_many_4 x0) n_4) x1_4 x2_4 = some (R) := hf
      unfold b_X7_many_4 at hf
      refine ik_iload_n C 0 rfl rfl dX7_many_4 ?_
      refine ik_bipush (v := (16 : Int32)) C (by decide) dX7_many_5 ?_
      refine ik_icmp_ge C 24 dX7_many_7 (by decide) (fun hc => ?_) (fun hc => ?_)
      · have hf := ik_pos hc hf
        refine ik_iload_n C 1 rfl rfl dX7_many_24 ?_
        cases hf
        exact ik_iretR C hr hlk dX7_many_25
      · have hf := ik_neg hc hf
        refine ik_iload_n C 1 rfl rfl dX7_many_10 ?_
        refine ik_iload_n C 2 rfl rfl dX7_many_11 ?_
        refine ik_iload_n C 0 rfl rfl dX7_many_12 ?_
        refine ik_ishr C dX7_many_13 ?_
        refine ik_iconst (v := (1 : Int32)) C (by decide) dX7_many_14 ?_
        refine ik_iand C dX7_many_15 ?_
        refine ik_iadd C dX7_many_16 ?_
        refine ik_istore_n C [(1, .int (x1_4 + ((x0 >>> (x2_4 &&& 31)) &&& (1 : Int32)))), (2, .int x2_4), (0, .int x0)] rfl (by decide) rfl dX7_many_17 ?_
        refine ik_iinc C [(2, .int (x2_4 + (1 : Int32))), (1, .int (x1_4 + ((x0 >>> (x2_4 &&& 31)) &&& (1 : Int32)))), (0, .int x0)] 1 rfl rfl (by decide) rfl dX7_many_18 ?_
        refine ik_goto C 4 dX7_many_21 (by decide) ?_
        exact ik_sub [0, 1, 2] [(2, .int (x2_4 + (1 : Int32))), (1, .int (x1_4 + ((x0 >>> (x2_4 &&& 31)) &&& (1 : Int32)))), (0, .int x0)] rfl (ih_4 (x1_4 + ((x0 >>> (x2_4 &&& 31)) &&& (1 : Int32))) (x2_4 + (1 : Int32)) hf)
  exact hL_4 ik_fu (0 : Int32) (0 : Int32) hf
theorem ms_X7_row : ik_S yX7_row RX7 cX7_row 3 none 2 := ⟨wl_24_23, wl_1_5, wl_25_0, by decide +kernel⟩
set_option maxHeartbeats 4000000 in
set_option maxRecDepth 100000 in
theorem c_X7_row (l : Launch) (D : va_G) (cI cS : ClassId) (h0 h1 : Nat) (a : Nat → Int32) (b : Nat → Int32) (b_r : Nat → Int32) (hf : f_X7_row a b = some (b_r)) : Met l yX7_row (ik_ws yX7_row cX7_row 3 none) ({ frames := 0, cells := 0, slots := 0, locals := 0 } : Room) (ik_P D cI cS [.ref h0, .ref h1] (wz_row cI cS h0 h1 a b)) (ik_Q none D (wz_row cI cS h0 h1 a b_r) (wz_row cI cS h0 h1 a b)) 0 0 (ik_in (wz_row cI cS h0 h1 a b)) := by
  refine ik_metW RX7 rfl (by decide) (Nat.le_of_ble_eq_true rfl) [(0, .ref h0), (1, .ref h1)] rfl ?_
  intro p e s m below meth c C hr hlk
  unfold f_X7_row at hf
  refine ik_iconst (v := (0 : Int32)) C (by decide) dX7_row_0 ?_
  refine ik_istore_n C [(2, .int (0 : Int32)), (0, .ref h0), (1, .ref h1)] rfl (by decide) rfl dX7_row_1 ?_
  have hL_2 : ∀ (n_2 : Nat) (b_2 : Nat → Int32) (x2_2 : Int32), ik_lp2 (b_X7_row_2 a) n_2 b_2 x2_2 = some (b_r) → ik_G p l e ({ frames := 0, cells := 0, slots := 0, locals := 0 } : Room) s m ([.ref h0, .ref h1] : List Value).toArray below meth c D (ik_in (wz_row cI cS h0 h1 a b)) (ik_in (wz_row cI cS h0 h1 a b)) 3 (MQ below (ik_Q none D (wz_row cI cS h0 h1 a b_r) (wz_row cI cS h0 h1 a b)) ([.ref h0, .ref h1] : List Value).toArray s 0 0 (ik_in (wz_row cI cS h0 h1 a b))) 2 [(2, .int x2_2), (0, .ref h0), (1, .ref h1)] [] (wz_row cI cS h0 h1 a b_2) := by
    intro n_2
    induction n_2 with
    | zero => intro _ _ hf; exact nomatch hf
    | succ n_2 ih_2 =>
      intro b_2 x2_2 hf
      replace hf : b_X7_row_2 a (ik_lp2 (b_X7_row_2 a) n_2) b_2 x2_2 = some (b_r) := hf
      unfold b_X7_row_2 at hf
      refine ik_iload_n C 0 rfl rfl dX7_row_2 ?_
      refine ik_bipush (v := (82 : Int32)) C (by decide) dX7_row_3 ?_
      refine ik_icmp_ge C 20 dX7_row_5 (by decide) (fun hc => ?_) (fun hc => ?_)
      · have hf := ik_pos hc hf
        cases hf
        exact ik_vretW C hr hlk dX7_row_20
      · have hf := ik_neg hc hf
        refine ik_aload_n C 2 rfl rfl dX7_row_8 ?_
        refine ik_iload_n C 0 rfl rfl dX7_row_9 ?_
        refine ik_aload_n C 1 rfl rfl dX7_row_10 ?_
        refine ik_iload_n C 0 rfl rfl dX7_row_11 ?_
        have hg := ik_gdi hf
        have hf := ik_gdk hf
        refine ik_iald C 0 rfl hg dX7_row_12 ?_
        have hg := ik_gdi hf
        have hf := ik_gdk hf
        refine ik_iast C 1 rfl hg (wz_row cI cS h0 h1 a (upd b_2 (x2_2).toNatClampNeg (a (x2_2).toNatClampNeg))) rfl dX7_row_13 ?_
        refine ik_iinc C [(2, .int (x2_2 + (1 : Int32))), (0, .ref h0), (1, .ref h1)] 0 rfl rfl (by decide) rfl dX7_row_14 ?_
        refine ik_goto C 2 dX7_row_17 (by decide) ?_
        exact ik_sub [0, 1, 2] [(2, .int (x2_2 + (1 : Int32))), (0, .ref h0), (1, .ref h1)] rfl (ih_2 (upd b_2 (x2_2).toNatClampNeg (a (x2_2).toNatClampNeg)) (x2_2 + (1 : Int32)) hf)
  exact hL_2 ik_fu b (0 : Int32) hf
theorem mv_X7_becomes : ik_V yX7_becomes RX7 cX7_becomes 4 (some .int) 2 := ⟨wl_12_5, wl_12_6, wl_1_5, wl_12_7, by decide +kernel⟩
set_option maxHeartbeats 4000000 in
set_option maxRecDepth 100000 in
theorem c_X7_becomes (l : Launch) (D : va_G) (cI cS : ClassId) (h0 h1 h2 h3 h4 h5 h6 h7 h8 h9 h10 h11 : Nat) (misKept : Int32) (mtaped : Int32) (msort : Int32) (mfrom : Int32) (mto : Int32) (mvalue : Int32) (mbad : Int32) (mm : Nat → Int32) (mkept : Nat → Int32) (mwas : Nat → Int32) (mother : Nat → Int32) (mfound : Nat → Int32) (mwarm : Nat → Int32) (mdrip : Nat → Int32) (mtape : Nat → Int32) (mbits : Nat → Int32) (msize : Nat → Int32) (mnumber : Nat → Int32) (x1 : Int32) (x2 : Int32) (R : Int32) (mm_r : Nat → Int32) (hf : f_X7_becomes mm x1 x2 = some (R, mm_r)) : Met l yX7_becomes (ik_ws yX7_becomes cX7_becomes 4 (some .int)) ({ frames := 0, cells := 0, slots := 0, locals := 0 } : Room) (ik_P D cI cS [.ref h0, .int x1, .int x2] (wz_X7 cI cS h0 h1 h2 h3 h4 h5 h6 h7 h8 h9 h10 h11 misKept mtaped msort mfrom mto mvalue mbad mm mkept mwas mother mfound mwarm mdrip mtape mbits msize mnumber)) (ik_Q (some (.int R)) D (wz_X7 cI cS h0 h1 h2 h3 h4 h5 h6 h7 h8 h9 h10 h11 misKept mtaped msort mfrom mto mvalue mbad mm_r mkept mwas mother mfound mwarm mdrip mtape mbits msize mnumber) (wz_X7 cI cS h0 h1 h2 h3 h4 h5 h6 h7 h8 h9 h10 h11 misKept mtaped msort mfrom mto mvalue mbad mm mkept mwas mother mfound mwarm mdrip mtape mbits msize mnumber)) 0 0 (ik_in (wz_X7 cI cS h0 h1 h2 h3 h4 h5 h6 h7 h8 h9 h10 h11 misKept mtaped msort mfrom mto mvalue mbad mm mkept mwas mother mfound mwarm mdrip mtape mbits msize mnumber)) := by
  refine ik_metW RX7 rfl (by decide) (Nat.le_of_ble_eq_true rfl) [(0, .ref h0), (1, .int x1), (2, .int x2)] rfl ?_
  intro p e s m below meth c C hr hlk
  unfold f_X7_becomes at hf
  refine ik_aload_n C 0 rfl rfl dX7_becomes_0 ?_
  refine ik_get C inlX7 0 rfl rfl 0 (by decide) wl_4_12 rfl (v := .ref h1) rfl dX7_becomes_1 ?_
  refine ik_iload_n C 1 rfl rfl dX7_becomes_4 ?_
  have hg := ik_gdi hf
  have hf := ik_gdk hf
  refine ik_iald C 1 rfl hg dX7_becomes_5 ?_
  refine ik_istore_n C [(3, .int (mm (x1).toNatClampNeg)), (0, .ref h0), (1, .int x1), (2, .int x2)] rfl (by decide) rfl dX7_becomes_6 ?_
  refine ik_aload_n C 1 rfl rfl dX7_becomes_7 ?_
  refine ik_get C inlX7 0 rfl rfl 0 (by decide) wl_4_12 rfl (v := .ref h1) rfl dX7_becomes_8 ?_
  refine ik_iload_n C 2 rfl rfl dX7_becomes_11 ?_
  refine ik_iload_n C 3 rfl rfl dX7_becomes_12 ?_
  have hg := ik_gdi hf
  have hf := ik_gdk hf
  refine ik_iast C 1 rfl hg (wz_X7 cI cS h0 h1 h2 h3 h4 h5 h6 h7 h8 h9 h10 h11 misKept mtaped msort mfrom mto mvalue mbad (upd mm (x1).toNatClampNeg x2) mkept mwas mother mfound mwarm mdrip mtape mbits msize mnumber) rfl dX7_becomes_13 ?_
  refine ik_iload_n C 0 rfl rfl dX7_becomes_14 ?_
  cases hf
  exact ik_iretW C hr hlk dX7_becomes_15
theorem ms_X7_isCell : ik_S yX7_isCell RX7 cX7_isCell 1 (some .boolean) 1 := ⟨wl_7_1, wl_1_5, wl_7_2, by decide +kernel⟩
set_option maxHeartbeats 4000000 in
set_option maxRecDepth 100000 in
theorem c_X7_isCell (l : Launch) (D : va_G) (cI cS : ClassId) (x0 : Int32) (R : Int32) (hf : f_X7_isCell x0 = some (R)) : Met l yX7_isCell (ik_ws yX7_isCell cX7_isCell 1 (some .boolean)) ({ frames := 1, cells := 0, slots := 0, locals := 25 } : Room) (ik_P D cI cS [.int x0] (wz_none cI cS)) (ik_R (some (.int R))) 0 0 ik_no := by
  refine ik_metR RX7 rfl (by decide) (Nat.le_of_ble_eq_true rfl) [(0, .int x0)] rfl ?_
  intro p e s m below meth c C hr hlk
  unfold f_X7_isCell at hf
  refine ik_iload_n C 0 rfl rfl dX7_isCell_0 ?_
  refine ik_i2l C dX7_isCell_1 ?_
  refine ik_lconst (v := (0 : Int64)) C (by decide) dX7_isCell_2 ?_
  refine ik_ldc2 C wl_7_3 dX7_isCell_3 ?_
  obtain ⟨r1, hc1, hf⟩ := ik_b1s hf
  refine ik_goR (ik_runS C (c_X7_in l D cI cS (x0).toInt64 (0 : Int64) (47 : Int64) r1 hc1) ms_X7_in wl_6_21 ⟨rfl, rfl, Nat.le_of_ble_eq_true rfl, Nat.le_of_ble_eq_true rfl⟩ [] rfl (by decide) rfl rfl (Nat.le_of_ble_eq_true rfl) dX7_isCell_6) rfl ?_
  have hz := ik_gzi hf
  have hf := ik_gzk hf
  cases hf
  exact ik_zretR C hr hz.1 hlk dX7_isCell_9
theorem mv_X7_isBlock : ik_V yX7_isBlock RX7 cX7_isBlock 2 (some .boolean) 1 := ⟨wl_9_18, wl_9_19, wl_1_5, wl_9_20, by decide +kernel⟩
set_option maxHeartbeats 4000000 in
set_option maxRecDepth 100000 in
theorem c_X7_isBlock (l : Launch) (D : va_G) (cI cS : ClassId) (h0 h1 h2 h3 h4 h5 h6 h7 h8 h9 h10 h11 : Nat) (misKept : Int32) (mtaped : Int32) (msort : Int32) (mfrom : Int32) (mto : Int32) (mvalue : Int32) (mbad : Int32) (mm : Nat → Int32) (mkept : Nat → Int32) (mwas : Nat → Int32) (mother : Nat → Int32) (mfound : Nat → Int32) (mwarm : Nat → Int32) (mdrip : Nat → Int32) (mtape : Nat → Int32) (mbits : Nat → Int32) (msize : Nat → Int32) (mnumber : Nat → Int32) (x1 : Int32) (R : Int32) (hf : f_X7_isBlock mm x1 = some (R)) : Met l yX7_isBlock (ik_ws yX7_isBlock cX7_isBlock 2 (some .boolean)) ({ frames := 1, cells := 0, slots := 0, locals := 25 } : Room) (ik_P D cI cS [.ref h0, .int x1] (wz_X7 cI cS h0 h1 h2 h3 h4 h5 h6 h7 h8 h9 h10 h11 misKept mtaped msort mfrom mto mvalue mbad mm mkept mwas mother mfound mwarm mdrip mtape mbits msize mnumber)) (ik_R (some (.int R))) 0 0 ik_no := by
  refine ik_metR RX7 rfl (by decide) (Nat.le_of_ble_eq_true rfl) [(0, .ref h0), (1, .int x1)] rfl ?_
  intro p e s m below meth c C hr hlk
  unfold f_X7_isBlock at hf
  refine ik_iload_n C 1 rfl rfl dX7_isBlock_0 ?_
  refine ik_i2l C dX7_isBlock_1 ?_
  refine ik_lconst (v := (0 : Int64)) C (by decide) dX7_isBlock_2 ?_
  refine ik_aload_n C 0 rfl rfl dX7_isBlock_3 ?_
  refine ik_get C inlX7 0 rfl rfl 0 (by decide) wl_4_12 rfl (v := .ref h1) rfl dX7_isBlock_4 ?_
  refine ik_iconst (v := (5 : Int32)) C (by decide) dX7_isBlock_7 ?_
  refine ik_iald C 1 rfl (ik_vin (by decide)) dX7_isBlock_8 ?_
  refine ik_iconst (v := (1 : Int32)) C (by decide) dX7_isBlock_9 ?_
  refine ik_isub C dX7_isBlock_10 ?_
  refine ik_i2l C dX7_isBlock_11 ?_
  obtain ⟨r1, hc1, hf⟩ := ik_b1s hf
  refine ik_goR (ik_runS C (c_X7_in l D cI cS (x1).toInt64 (0 : Int64) (((mm ((5 : Int32)).toNatClampNeg) - (1 : Int32))).toInt64 r1 hc1) ms_X7_in wl_6_21 ⟨rfl, rfl, Nat.le_of_ble_eq_true rfl, Nat.le_of_ble_eq_true rfl⟩ [] rfl (by decide) rfl rfl (Nat.le_of_ble_eq_true rfl) dX7_isBlock_12) rfl ?_
  have hz := ik_gzi hf
  have hf := ik_gzk hf
  cases hf
  exact ik_zretR C hr hz.1 hlk dX7_isBlock_15
theorem ms_X7_isCandle : ik_S yX7_isCandle RX7 cX7_isCandle 1 (some .boolean) 1 := ⟨wl_15_18, wl_1_5, wl_15_19, by decide +kernel⟩
set_option maxHeartbeats 4000000 in
set_option maxRecDepth 100000 in
theorem c_X7_isCandle (l : Launch) (D : va_G) (cI cS : ClassId) (x0 : Int32) (R : Int32) (hf : f_X7_isCandle x0 = some (R)) : Met l yX7_isCandle (ik_ws yX7_isCandle cX7_isCandle 1 (some .boolean)) ({ frames := 1, cells := 0, slots := 0, locals := 25 } : Room) (ik_P D cI cS [.int x0] (wz_none cI cS)) (ik_R (some (.int R))) 0 0 ik_no := by
  refine ik_metR RX7 rfl (by decide) (Nat.le_of_ble_eq_true rfl) [(0, .int x0)] rfl ?_
  intro p e s m below meth c C hr hlk
  unfold f_X7_isCandle at hf
  refine ik_iload_n C 0 rfl rfl dX7_isCandle_0 ?_
  refine ik_i2l C dX7_isCandle_1 ?_
  refine ik_lconst (v := (0 : Int64)) C (by decide) dX7_isCandle_2 ?_
  refine ik_ldc2 C wl_15_20 dX7_isCandle_3 ?_
  obtain ⟨r1, hc1, hf⟩ := ik_b1s hf
  refine ik_goR (ik_runS C (c_X7_in l D cI cS (x0).toInt64 (0 : Int64) (5 : Int64) r1 hc1) ms_X7_in wl_6_21 ⟨rfl, rfl, Nat.le_of_ble_eq_true rfl, Nat.le_of_ble_eq_true rfl⟩ [] rfl (by decide) rfl rfl (Nat.le_of_ble_eq_true rfl) dX7_isCandle_6) rfl ?_
  have hz := ik_gzi hf
  have hf := ik_gzk hf
  cases hf
  exact ik_zretR C hr hz.1 hlk dX7_isCandle_9
theorem ms_X7_isKind : ik_S yX7_isKind RX7 cX7_isKind 1 (some .boolean) 1 := ⟨wl_6_18, wl_1_5, wl_6_19, by decide +kernel⟩
set_option maxHeartbeats 4000000 in
set_option maxRecDepth 100000 in
theorem c_X7_isKind (l : Launch) (D : va_G) (cI cS : ClassId) (x0 : Int32) (R : Int32) (hf : f_X7_isKind x0 = some (R)) : Met l yX7_isKind (ik_ws yX7_isKind cX7_isKind 1 (some .boolean)) ({ frames := 1, cells := 0, slots := 0, locals := 25 } : Room) (ik_P D cI cS [.int x0] (wz_none cI cS)) (ik_R (some (.int R))) 0 0 ik_no := by
  refine ik_metR RX7 rfl (by decide) (Nat.le_of_ble_eq_true rfl) [(0, .int x0)] rfl ?_
  intro p e s m below meth c C hr hlk
  unfold f_X7_isKind at hf
  refine ik_iload_n C 0 rfl rfl dX7_isKind_0 ?_
  refine ik_i2l C dX7_isKind_1 ?_
  refine ik_lconst (v := (0 : Int64)) C (by decide) dX7_isKind_2 ?_
  refine ik_ldc2 C wl_6_20 dX7_isKind_3 ?_
  obtain ⟨r1, hc1, hf⟩ := ik_b1s hf
  refine ik_goR (ik_runS C (c_X7_in l D cI cS (x0).toInt64 (0 : Int64) (6 : Int64) r1 hc1) ms_X7_in wl_6_21 ⟨rfl, rfl, Nat.le_of_ble_eq_true rfl, Nat.le_of_ble_eq_true rfl⟩ [] rfl (by decide) rfl rfl (Nat.le_of_ble_eq_true rfl) dX7_isKind_6) rfl ?_
  have hz := ik_gzi hf
  have hf := ik_gzk hf
  cases hf
  exact ik_zretR C hr hz.1 hlk dX7_isKind_9
theorem ms_X7_isSome : ik_S yX7_isSome RX7 cX7_isSome 1 (some .boolean) 1 := ⟨wl_7_5, wl_1_5, wl_7_6, by decide +kernel⟩
set_option maxHeartbeats 4000000 in
set_option maxRecDepth 100000 in
theorem c_X7_isSome (l : Launch) (D : va_G) (cI cS : ClassId) (x0 : Int32) (R : Int32) (hf : f_X7_isSome x0 = some (R)) : Met l yX7_isSome (ik_ws yX7_isSome cX7_isSome 1 (some .boolean)) ({ frames := 1, cells := 0, slots := 0, locals := 25 } : Room) (ik_P D cI cS [.int x0] (wz_none cI cS)) (ik_R (some (.int R))) 0 0 ik_no := by
  refine ik_metR RX7 rfl (by decide) (Nat.le_of_ble_eq_true rfl) [(0, .int x0)] rfl ?_
  intro p e s m below meth c C hr hlk
  unfold f_X7_isSome at hf
  refine ik_iload_n C 0 rfl rfl dX7_isSome_0 ?_
  refine ik_i2l C dX7_isSome_1 ?_
  refine ik_lconst (v := (1 : Int64)) C (by decide) dX7_isSome_2 ?_
  refine ik_ldc2 C wl_7_7 dX7_isSome_3 ?_
  obtain ⟨r1, hc1, hf⟩ := ik_b1s hf
  refine ik_goR (ik_runS C (c_X7_in l D cI cS (x0).toInt64 (1 : Int64) (99 : Int64) r1 hc1) ms_X7_in wl_6_21 ⟨rfl, rfl, Nat.le_of_ble_eq_true rfl, Nat.le_of_ble_eq_true rfl⟩ [] rfl (by decide) rfl rfl (Nat.le_of_ble_eq_true rfl) dX7_isSome_6) rfl ?_
  have hz := ik_gzi hf
  have hf := ik_gzk hf
  cases hf
  exact ik_zretR C hr hz.1 hlk dX7_isSome_9
theorem mv_X7_kindOf : ik_V yX7_kindOf RX7 cX7_kindOf 2 (some .int) 1 := ⟨wl_9_22, wl_9_23, wl_1_5, wl_10_0, by decide +kernel⟩
set_option maxHeartbeats 4000000 in
set_option maxRecDepth 100000 in
theorem c_X7_kindOf (l : Launch) (D : va_G) (cI cS : ClassId) (h0 h1 h2 h3 h4 h5 h6 h7 h8 h9 h10 h11 : Nat) (misKept : Int32) (mtaped : Int32) (msort : Int32) (mfrom : Int32) (mto : Int32) (mvalue : Int32) (mbad : Int32) (mm : Nat → Int32) (mkept : Nat → Int32) (mwas : Nat → Int32) (mother : Nat → Int32) (mfound : Nat → Int32) (mwarm : Nat → Int32) (mdrip : Nat → Int32) (mtape : Nat → Int32) (mbits : Nat → Int32) (msize : Nat → Int32) (mnumber : Nat → Int32) (x1 : Int32) (R : Int32) (hf : f_X7_kindOf mm x1 = some (R)) : Met l yX7_kindOf (ik_ws yX7_kindOf cX7_kindOf 2 (some .int)) ({ frames := 0, cells := 0, slots := 0, locals := 0 } : Room) (ik_P D cI cS [.ref h0, .int x1] (wz_X7 cI cS h0 h1 h2 h3 h4 h5 h6 h7 h8 h9 h10 h11 misKept mtaped msort mfrom mto mvalue mbad mm mkept mwas mother mfound mwarm mdrip mtape mbits msize mnumber)) (ik_R (some (.int R))) 0 0 ik_no := by
  refine ik_metR RX7 rfl (by decide) (Nat.le_of_ble_eq_true rfl) [(0, .ref h0), (1, .int x1)] rfl ?_
  intro p e s m below meth c C hr hlk
  unfold f_X7_kindOf at hf
  refine ik_aload_n C 0 rfl rfl dX7_kindOf_0 ?_
  refine ik_get C inlX7 0 rfl rfl 0 (by decide) wl_4_12 rfl (v := .ref h1) rfl dX7_kindOf_1 ?_
  refine ik_bipush (v := (24 : Int32)) C (by decide) dX7_kindOf_4 ?_
  refine ik_iconst (v := (3 : Int32)) C (by decide) dX7_kindOf_6 ?_
  refine ik_iload_n C 1 rfl rfl dX7_kindOf_7 ?_
  refine ik_imul C dX7_kindOf_8 ?_
  refine ik_iadd C dX7_kindOf_9 ?_
  have hg := ik_gdi hf
  have hf := ik_gdk hf
  refine ik_iald C 1 rfl hg dX7_kindOf_10 ?_
  cases hf
  exact ik_iretR C hr hlk dX7_kindOf_11
theorem mv_X7_cellOf : ik_V yX7_cellOf RX7 cX7_cellOf 2 (some .int) 1 := ⟨wl_7_17, wl_7_18, wl_1_5, wl_7_19, by decide +kernel⟩
set_option maxHeartbeats 4000000 in
set_option maxRecDepth 100000 in
theorem c_X7_cellOf (l : Launch) (D : va_G) (cI cS : ClassId) (h0 h1 h2 h3 h4 h5 h6 h7 h8 h9 h10 h11 : Nat) (misKept : Int32) (mtaped : Int32) (msort : Int32) (mfrom : Int32) (mto : Int32) (mvalue : Int32) (mbad : Int32) (mm : Nat → Int32) (mkept : Nat → Int32) (mwas : Nat → Int32) (mother : Nat → Int32) (mfound : Nat → Int32) (mwarm : Nat → Int32) (mdrip : Nat → Int32) (mtape : Nat → Int32) (mbits : Nat → Int32) (msize : Nat → Int32) (mnumber : Nat → Int32) (x1 : Int32) (R : Int32) (hf : f_X7_cellOf mm x1 = some (R)) : Met l yX7_cellOf (ik_ws yX7_cellOf cX7_cellOf 2 (some .int)) ({ frames := 0, cells := 0, slots := 0, locals := 0 } : Room) (ik_P D cI cS [.ref h0, .int x1] (wz_X7 cI cS h0 h1 h2 h3 h4 h5 h6 h7 h8 h9 h10 h11 misKept mtaped msort mfrom mto mvalue mbad mm mkept mwas mother mfound mwarm mdrip mtape mbits msize mnumber)) (ik_R (some (.int R))) 0 0 ik_no := by
  refine ik_metR RX7 rfl (by decide) (Nat.le_of_ble_eq_true rfl) [(0, .ref h0), (1, .int x1)] rfl ?_
  intro p e s m below meth c C hr hlk
  unfold f_X7_cellOf at hf
  refine ik_aload_n C 0 rfl rfl dX7_cellOf_0 ?_
  refine ik_get C inlX7 0 rfl rfl 0 (by decide) wl_4_12 rfl (v := .ref h1) rfl dX7_cellOf_1 ?_
  refine ik_bipush (v := (24 : Int32)) C (by decide) dX7_cellOf_4 ?_
  refine ik_iconst (v := (3 : Int32)) C (by decide) dX7_cellOf_6 ?_
  refine ik_iload_n C 1 rfl rfl dX7_cellOf_7 ?_
  refine ik_imul C dX7_cellOf_8 ?_
  refine ik_iadd C dX7_cellOf_9 ?_
  refine ik_iconst (v := (1 : Int32)) C (by decide) dX7_cellOf_10 ?_
  refine ik_iadd C dX7_cellOf_11 ?_
  have hg := ik_gdi hf
  have hf := ik_gdk hf
  refine ik_iald C 1 rfl hg dX7_cellOf_12 ?_
  cases hf
  exact ik_iretR C hr hlk dX7_cellOf_13
theorem mv_X7_grains : ik_V yX7_grains RX7 cX7_grains 2 (some .int) 1 := ⟨wl_10_2, wl_10_3, wl_1_5, wl_10_4, by decide +kernel⟩
set_option maxHeartbeats 4000000 in
set_option maxRecDepth 100000 in
theorem c_X7_grains (l : Launch) (D : va_G) (cI cS : ClassId) (h0 h1 h2 h3 h4 h5 h6 h7 h8 h9 h10 h11 : Nat) (misKept : Int32) (mtaped : Int32) (msort : Int32) (mfrom : Int32) (mto : Int32) (mvalue : Int32) (mbad : Int32) (mm : Nat → Int32) (mkept : Nat → Int32) (mwas : Nat → Int32) (mother : Nat → Int32) (mfound : Nat → Int32) (mwarm : Nat → Int32) (mdrip : Nat → Int32) (mtape : Nat → Int32) (mbits : Nat → Int32) (msize : Nat → Int32) (mnumber : Nat → Int32) (x1 : Int32) (R : Int32) (hf : f_X7_grains mm x1 = some (R)) : Met l yX7_grains (ik_ws yX7_grains cX7_grains 2 (some .int)) ({ frames := 0, cells := 0, slots := 0, locals := 0 } : Room) (ik_P D cI cS [.ref h0, .int x1] (wz_X7 cI cS h0 h1 h2 h3 h4 h5 h6 h7 h8 h9 h10 h11 misKept mtaped msort mfrom mto mvalue mbad mm mkept mwas mother mfound mwarm mdrip mtape mbits msize mnumber)) (ik_R (some (.int R))) 0 0 ik_no := by
  refine ik_metR RX7 rfl (by decide) (Nat.le_of_ble_eq_true rfl) [(0, .ref h0), (1, .int x1)] rfl ?_
  intro p e s m below meth c C hr hlk
  unfold f_X7_grains at hf
  refine ik_aload_n C 0 rfl rfl dX7_grains_0 ?_
  refine ik_get C inlX7 0 rfl rfl 0 (by decide) wl_4_12 rfl (v := .ref h1) rfl dX7_grains_1 ?_
  refine ik_bipush (v := (24 : Int32)) C (by decide) dX7_grains_4 ?_
  refine ik_iconst (v := (3 : Int32)) C (by decide) dX7_grains_6 ?_
  refine ik_iload_n C 1 rfl rfl dX7_grains_7 ?_
  refine ik_imul C dX7_grains_8 ?_
  refine ik_iadd C dX7_grains_9 ?_
  refine ik_iconst (v := (2 : Int32)) C (by decide) dX7_grains_10 ?_
  refine ik_iadd C dX7_grains_11 ?_
  have hg := ik_gdi hf
  have hf := ik_gdk hf
  refine ik_iald C 1 rfl hg dX7_grains_12 ?_
  cases hf
  exact ik_iretR C hr hlk dX7_grains_13
theorem mv_X7_makes : ik_V yX7_makes RX7 cX7_makes 3 none 2 := ⟨wl_15_0, wl_15_1, wl_1_5, wl_15_2, by decide +kernel⟩
set_option maxHeartbeats 4000000 in
set_option maxRecDepth 100000 in
theorem c_X7_makes (l : Launch) (D : va_G) (cI cS : ClassId) (h0 h1 h2 h3 h4 h5 h6 h7 h8 h9 h10 h11 : Nat) (misKept : Int32) (mtaped : Int32) (msort : Int32) (mfrom : Int32) (mto : Int32) (mvalue : Int32) (mbad : Int32) (mm : Nat → Int32) (mkept : Nat → Int32) (mwas : Nat → Int32) (mother : Nat → Int32) (mfound : Nat → Int32) (mwarm : Nat → Int32) (mdrip : Nat → Int32) (mtape : Nat → Int32) (mbits : Nat → Int32) (msize : Nat → Int32) (mnumber : Nat → Int32) (x1 : Int32) (x2 : Int32) (mm_r : Nat → Int32) (hf : f_X7_makes mm x1 x2 = some (mm_r)) : Met l yX7_makes (ik_ws yX7_makes cX7_makes 3 none) ({ frames := 0, cells := 0, slots := 0, locals := 0 } : Room) (ik_P D cI cS [.ref h0, .int x1, .int x2] (wz_X7 cI cS h0 h1 h2 h3 h4 h5 h6 h7 h8 h9 h10 h11 misKept mtaped msort mfrom mto mvalue mbad mm mkept mwas mother mfound mwarm mdrip mtape mbits msize mnumber)) (ik_Q none D (wz_X7 cI cS h0 h1 h2 h3 h4 h5 h6 h7 h8 h9 h10 h11 misKept mtaped msort mfrom mto mvalue mbad mm_r mkept mwas mother mfound mwarm mdrip mtape mbits msize mnumber) (wz_X7 cI cS h0 h1 h2 h3 h4 h5 h6 h7 h8 h9 h10 h11 misKept mtaped msort mfrom mto mvalue mbad mm mkept mwas mother mfound mwarm mdrip mtape mbits msize mnumber)) 0 0 (ik_in (wz_X7 cI cS h0 h1 h2 h3 h4 h5 h6 h7 h8 h9 h10 h11 misKept mtaped msort mfrom mto mvalue mbad mm mkept mwas mother mfound mwarm mdrip mtape mbits msize mnumber)) := by
  refine ik_metW RX7 rfl (by decide) (Nat.le_of_ble_eq_true rfl) [(0, .ref h0), (1, .int x1), (2, .int x2)] rfl ?_
  intro p e s m below meth c C hr hlk
  unfold f_X7_makes at hf
  refine ik_aload_n C 0 rfl rfl dX7_makes_0 ?_
  refine ik_get C inlX7 0 rfl rfl 0 (by decide) wl_4_12 rfl (v := .ref h1) rfl dX7_makes_1 ?_
  refine ik_bipush (v := (24 : Int32)) C (by decide) dX7_makes_4 ?_
  refine ik_iconst (v := (3 : Int32)) C (by decide) dX7_makes_6 ?_
  refine ik_iload_n C 1 rfl rfl dX7_makes_7 ?_
  refine ik_imul C dX7_makes_8 ?_
  refine ik_iadd C dX7_makes_9 ?_
  refine ik_iconst (v := (2 : Int32)) C (by decide) dX7_makes_10 ?_
  refine ik_iadd C dX7_makes_11 ?_
  refine ik_iload_n C 2 rfl rfl dX7_makes_12 ?_
  have hg := ik_gdi hf
  have hf := ik_gdk hf
  refine ik_iast C 1 rfl hg (wz_X7 cI cS h0 h1 h2 h3 h4 h5 h6 h7 h8 h9 h10 h11 misKept mtaped msort mfrom mto mvalue mbad (upd mm ((((24 : Int32) + ((3 : Int32) * x1)) + (2 : Int32))).toNatClampNeg x2) mkept mwas mother mfound mwarm mdrip mtape mbits msize mnumber) rfl dX7_makes_13 ?_
  cases hf
  exact ik_vretW C hr hlk dX7_makes_14
theorem mv_X7_isGone : ik_V yX7_isGone RX7 cX7_isGone 2 (some .boolean) 1 := ⟨wl_10_6, wl_10_7, wl_1_5, wl_10_8, by decide +kernel⟩
set_option maxHeartbeats 4000000 in
set_option maxRecDepth 100000 in
theorem c_X7_isGone (l : Launch) (D : va_G) (cI cS : ClassId) (h0 h1 h2 h3 h4 h5 h6 h7 h8 h9 h10 h11 : Nat) (misKept : Int32) (mtaped : Int32) (msort : Int32) (mfrom : Int32) (mto : Int32) (mvalue : Int32) (mbad : Int32) (mm : Nat → Int32) (mkept : Nat → Int32) (mwas : Nat → Int32) (mother : Nat → Int32) (mfound : Nat → Int32) (mwarm : Nat → Int32) (mdrip : Nat → Int32) (mtape : Nat → Int32) (mbits : Nat → Int32) (msize : Nat → Int32) (mnumber : Nat → Int32) (x1 : Int32) (R : Int32) (hf : f_X7_isGone mm x1 = some (R)) : Met l yX7_isGone (ik_ws yX7_isGone cX7_isGone 2 (some .boolean)) ({ frames := 1, cells := 0, slots := 0, locals := 21 } : Room) (ik_P D cI cS [.ref h0, .int x1] (wz_X7 cI cS h0 h1 h2 h3 h4 h5 h6 h7 h8 h9 h10 h11 misKept mtaped msort mfrom mto mvalue mbad mm mkept mwas mother mfound mwarm mdrip mtape mbits msize mnumber)) (ik_R (some (.int R))) 0 0 ik_no := by
  refine ik_metR RX7 rfl (by decide) (Nat.le_of_ble_eq_true rfl) [(0, .ref h0), (1, .int x1)] rfl ?_
  intro p e s m below meth c C hr hlk
  unfold f_X7_isGone at hf
  refine ik_aload_n C 0 rfl rfl dX7_isGone_0 ?_
  refine ik_iload_n C 1 rfl rfl dX7_isGone_1 ?_
  obtain ⟨r1, hc1, hf⟩ := ik_b1s hf
  refine ik_goR (ik_runV C (c_X7_cellOf l D cI cS h0 h1 h2 h3 h4 h5 h6 h7 h8 h9 h10 h11 misKept mtaped msort mfrom mto mvalue mbad mm mkept mwas mother mfound mwarm mdrip mtape mbits msize mnumber x1 r1 hc1) mv_X7_cellOf wl_7_16 ⟨rfl, rfl, Nat.le_of_ble_eq_true rfl, Nat.le_of_ble_eq_true rfl⟩ [0, 1, 2, 3, 4, 5, 6, 7, 8, 9, 10, 11] rfl (by decide) 0 rfl rfl rfl rfl (Nat.le_of_ble_eq_true rfl) dX7_isGone_2) rfl ?_
  refine ik_if_ge C 12 dX7_isGone_5 (by decide) (fun hc => ?_) (fun hc => ?_)
  · have hf := ik_pos hc hf
    refine ik_iconst (v := (0 : Int32)) C (by decide) dX7_isGone_12 ?_
    cases hf
    exact ik_zretR C hr (by decide) hlk dX7_isGone_13
  · have hf := ik_neg hc hf
    refine ik_iconst (v := (1 : Int32)) C (by decide) dX7_isGone_8 ?_
    refine ik_goto C 13 dX7_isGone_9 (by decide) ?_
    cases hf
    exact ik_zretR C hr (by decide) hlk dX7_isGone_13
theorem mv_X7_blockOn : ik_V yX7_blockOn RX7 cX7_blockOn 3 (some .int) 1 := ⟨wl_7_13, wl_7_14, wl_1_5, wl_7_15, by decide +kernel⟩
set_option maxHeartbeats 4000000 in
set_option maxRecDepth 100000 in
theorem c_X7_blockOn (l : Launch) (D : va_G) (cI cS : ClassId) (h0 h1 h2 h3 h4 h5 h6 h7 h8 h9 h10 h11 : Nat) (misKept : Int32) (mtaped : Int32) (msort : Int32) (mfrom : Int32) (mto : Int32) (mvalue : Int32) (mbad : Int32) (mm : Nat → Int32) (mkept : Nat → Int32) (mwas : Nat → Int32) (mother : Nat → Int32) (mfound : Nat → Int32) (mwarm : Nat → Int32) (mdrip : Nat → Int32) (mtape : Nat → Int32) (mbits : Nat → Int32) (msize : Nat → Int32) (mnumber : Nat → Int32) (x1 : Int32) (R : Int32) (hf : f_X7_blockOn mm x1 = some (R)) : Met l yX7_blockOn (ik_ws yX7_blockOn cX7_blockOn 3 (some .int)) ({ frames := 1, cells := 0, slots := 0, locals := 21 } : Room) (ik_P D cI cS [.ref h0, .int x1] (wz_X7 cI cS h0 h1 h2 h3 h4 h5 h6 h7 h8 h9 h10 h11 misKept mtaped msort mfrom mto mvalue mbad mm mkept mwas mother mfound mwarm mdrip mtape mbits msize mnumber)) (ik_R (some (.int R))) 0 0 ik_no := by
  refine ik_metR RX7 rfl (by decide) (Nat.le_of_ble_eq_true rfl) [(0, .ref h0), (1, .int x1)] rfl ?_
  intro p e s m below meth c C hr hlk
  unfold f_X7_blockOn at hf
  refine ik_iconst (v := (0 : Int32)) C (by decide) dX7_blockOn_0 ?_
  refine ik_istore_n C [(2, .int (0 : Int32)), (0, .ref h0), (1, .int x1)] rfl (by decide) rfl dX7_blockOn_1 ?_
  have hL_2 : ∀ (n_2 : Nat) (x2_2 : Int32), ik_lp1 (b_X7_blockOn_2 mm x1) n_2 x2_2 = some (R) → ik_G p l e ({ frames := 1, cells := 0, slots := 0, locals := 21 } : Room) s m ([.ref h0, .int x1] : List Value).toArray below meth c D ik_no (fun _ => True) 3 (MQ below (ik_R (some (.int R))) ([.ref h0, .int x1] : List Value).toArray s 0 0 ik_no) 2 [(2, .int x2_2), (0, .ref h0), (1, .int x1)] [] (wz_X7 cI cS h0 h1 h2 h3 h4 h5 h6 h7 h8 h9 h10 h11 misKept mtaped msort mfrom mto mvalue mbad mm mkept mwas mother mfound mwarm mdrip mtape mbits msize mnumber) := by
    intro n_2
    induction n_2 with
    | zero => intro _ hf; exact nomatch hf
    | succ n_2 ih_2 =>
      intro x2_2 hf
      replace hf : b_X7_blockOn_2 mm x1 (ik_lp1 (b_X7_blockOn_2 mm x1) n_2) x2_2 = some (R) := hf
      unfold b_X7_blockOn_2 at hf
      refine ik_iload_n C 0 rfl rfl dX7_blockOn_2 ?_
      refine ik_aload_n C 1 rfl rfl dX7_blockOn_3 ?_
      refine ik_get C inlX7 0 rfl rfl 0 (by decide) wl_4_12 rfl (v := .ref h1) rfl dX7_blockOn_4 ?_
      refine ik_iconst (v := (5 : Int32)) C (by decide) dX7_blockOn_7 ?_
      refine ik_iald C 1 rfl (ik_vin (by decide)) dX7_blockOn_8 ?_
      refine ik_icmp_ge C 33 dX7_blockOn_9 (by decide) (fun hc => ?_) (fun hc => ?_)
      · have hf := ik_pos hc hf
        refine ik_iconst (v := (-1 : Int32)) C (by decide) dX7_blockOn_33 ?_
        cases hf
        exact ik_iretR C hr hlk dX7_blockOn_34
      · have hf := ik_neg hc hf
        refine ik_iload_n C 2 rfl rfl dX7_blockOn_12 ?_
        refine ik_if_lt C 33 dX7_blockOn_13 (by decide) (fun hc => ?_) (fun hc => ?_)
        · have hf := ik_pos hc hf
          refine ik_iconst (v := (-1 : Int32)) C (by decide) dX7_blockOn_33 ?_
          cases hf
          exact ik_iretR C hr hlk dX7_blockOn_34
        · have hf := ik_neg hc hf
          refine ik_aload_n C 1 rfl rfl dX7_blockOn_16 ?_
          refine ik_iload_n C 0 rfl rfl dX7_blockOn_17 ?_
          obtain ⟨r1, hc1, hf⟩ := ik_b1s hf
          refine ik_goR (ik_runV C (c_X7_cellOf l D cI cS h0 h1 h2 h3 h4 h5 h6 h7 h8 h9 h10 h11 misKept mtaped msort mfrom mto mvalue mbad mm mkept mwas mother mfound mwarm mdrip mtape mbits msize mnumber x2_2 r1 hc1) mv_X7_cellOf wl_7_16 ⟨rfl, rfl, Nat.le_of_ble_eq_true rfl, Nat.le_of_ble_eq_true rfl⟩ [0, 1, 2, 3, 4, 5, 6, 7, 8, 9, 10, 11] rfl (by decide) 0 rfl rfl rfl rfl (Nat.le_of_ble_eq_true rfl) dX7_blockOn_18) rfl ?_
          refine ik_iload_n C 2 rfl rfl dX7_blockOn_21 ?_
          refine ik_icmp_ne C 27 dX7_blockOn_22 (by decide) (fun hc => ?_) (fun hc => ?_)
          · have hf := ik_neg hc hf
            refine ik_iinc C [(2, .int (x2_2 + (1 : Int32))), (0, .ref h0), (1, .int x1)] 0 rfl rfl (by decide) rfl dX7_blockOn_27 ?_
            refine ik_goto C 2 dX7_blockOn_30 (by decide) ?_
            exact ik_sub [0, 1, 2] [(2, .int (x2_2 + (1 : Int32))), (0, .ref h0), (1, .int x1)] rfl (ih_2 (x2_2 + (1 : Int32)) hf)
          · have hf := ik_pos hc hf
            refine ik_iload_n C 0 rfl rfl dX7_blockOn_25 ?_
            cases hf
            exact ik_iretR C hr hlk dX7_blockOn_26
  exact hL_2 ik_fu (0 : Int32) hf
theorem mv_X7_comes : ik_V yX7_comes RX7 cX7_comes 5 (some .int) 3 := ⟨wl_7_21, wl_7_22, wl_1_5, wl_7_23, by decide +kernel⟩
set_option maxHeartbeats 4000000 in
set_option maxRecDepth 100000 in
theorem c_X7_comes (l : Launch) (D : va_G) (cI cS : ClassId) (h0 h1 h2 h3 h4 h5 h6 h7 h8 h9 h10 h11 : Nat) (misKept : Int32) (mtaped : Int32) (msort : Int32) (mfrom : Int32) (mto : Int32) (mvalue : Int32) (mbad : Int32) (mm : Nat → Int32) (mkept : Nat → Int32) (mwas : Nat → Int32) (mother : Nat → Int32) (mfound : Nat → Int32) (mwarm : Nat → Int32) (mdrip : Nat → Int32) (mtape : Nat → Int32) (mbits : Nat → Int32) (msize : Nat → Int32) (mnumber : Nat → Int32) (x1 : Int32) (x2 : Int32) (x3 : Int32) (R : Int32) (mm_r : Nat → Int32) (hf : f_X7_comes mm x1 x2 x3 = some (R, mm_r)) : Met l yX7_comes (ik_ws yX7_comes cX7_comes 5 (some .int)) ({ frames := 0, cells := 0, slots := 0, locals := 0 } : Room) (ik_P D cI cS [.ref h0, .int x1, .int x2, .int x3] (wz_X7 cI cS h0 h1 h2 h3 h4 h5 h6 h7 h8 h9 h10 h11 misKept mtaped msort mfrom mto mvalue mbad mm mkept mwas mother mfound mwarm mdrip mtape mbits msize mnumber)) (ik_Q (some (.int R)) D (wz_X7 cI cS h0 h1 h2 h3 h4 h5 h6 h7 h8 h9 h10 h11 misKept mtaped msort mfrom mto mvalue mbad mm_r mkept mwas mother mfound mwarm mdrip mtape mbits msize mnumber) (wz_X7 cI cS h0 h1 h2 h3 h4 h5 h6 h7 h8 h9 h10 h11 misKept mtaped msort mfrom mto mvalue mbad mm mkept mwas mother mfound mwarm mdrip mtape mbits msize mnumber)) 0 0 (ik_in (wz_X7 cI cS h0 h1 h2 h3 h4 h5 h6 h7 h8 h9 h10 h11 misKept mtaped msort mfrom mto mvalue mbad mm mkept mwas mother mfound mwarm mdrip mtape mbits msize mnumber)) := by
  refine ik_metW RX7 rfl (by decide) (Nat.le_of_ble_eq_true rfl) [(0, .ref h0), (1, .int x1), (2, .int x2), (3, .int x3)] rfl ?_
  intro p e s m below meth c C hr hlk
  unfold f_X7_comes at hf
  refine ik_aload_n C 0 rfl rfl dX7_comes_0 ?_
  refine ik_get C inlX7 0 rfl rfl 0 (by decide) wl_4_12 rfl (v := .ref h1) rfl dX7_comes_1 ?_
  refine ik_iconst (v := (5 : Int32)) C (by decide) dX7_comes_4 ?_
  refine ik_iald C 1 rfl (ik_vin (by decide)) dX7_comes_5 ?_
  refine ik_istore C [(4, .int (mm ((5 : Int32)).toNatClampNeg)), (0, .ref h0), (1, .int x1), (2, .int x2), (3, .int x3)] (by decide) rfl dX7_comes_6 ?_
  refine ik_aload_n C 1 rfl rfl dX7_comes_8 ?_
  refine ik_get C inlX7 0 rfl rfl 0 (by decide) wl_4_12 rfl (v := .ref h1) rfl dX7_comes_9 ?_
  refine ik_bipush (v := (24 : Int32)) C (by decide) dX7_comes_12 ?_
  refine ik_iconst (v := (3 : Int32)) C (by decide) dX7_comes_14 ?_
  refine ik_iload C 0 rfl dX7_comes_15 ?_
  refine ik_imul C dX7_comes_17 ?_
  refine ik_iadd C dX7_comes_18 ?_
  refine ik_iload_n C 2 rfl rfl dX7_comes_19 ?_
  have hg := ik_gdi hf
  have hf := ik_gdk hf
  refine ik_iast C 1 rfl hg (wz_X7 cI cS h0 h1 h2 h3 h4 h5 h6 h7 h8 h9 h10 h11 misKept mtaped msort mfrom mto mvalue mbad (upd mm (((24 : Int32) + ((3 : Int32) * (mm ((5 : Int32)).toNatClampNeg)))).toNatClampNeg x1) mkept mwas mother mfound mwarm mdrip mtape mbits msize mnumber) rfl dX7_comes_20 ?_
  refine ik_aload_n C 1 rfl rfl dX7_comes_21 ?_
  refine ik_get C inlX7 0 rfl rfl 0 (by decide) wl_4_12 rfl (v := .ref h1) rfl dX7_comes_22 ?_
  refine ik_bipush (v := (24 : Int32)) C (by decide) dX7_comes_25 ?_
  refine ik_iconst (v := (3 : Int32)) C (by decide) dX7_comes_27 ?_
  refine ik_iload C 0 rfl dX7_comes_28 ?_
  refine ik_imul C dX7_comes_30 ?_
  refine ik_iadd C dX7_comes_31 ?_
  refine ik_iconst (v := (1 : Int32)) C (by decide) dX7_comes_32 ?_
  refine ik_iadd C dX7_comes_33 ?_
  refine ik_iload_n C 3 rfl rfl dX7_comes_34 ?_
  have hg := ik_gdi hf
  have hf := ik_gdk hf
  refine ik_iast C 1 rfl hg (wz_X7 cI cS h0 h1 h2 h3 h4 h5 h6 h7 h8 h9 h10 h11 misKept mtaped msort mfrom mto mvalue mbad (upd (upd mm (((24 : Int32) + ((3 : Int32) * (mm ((5 : Int32)).toNatClampNeg)))).toNatClampNeg x1) ((((24 : Int32) + ((3 : Int32) * (mm ((5 : Int32)).toNatClampNeg))) + (1 : Int32))).toNatClampNeg x2) mkept mwas mother mfound mwarm mdrip mtape mbits msize mnumber) rfl dX7_comes_35 ?_
  refine ik_aload_n C 1 rfl rfl dX7_comes_36 ?_
  refine ik_get C inlX7 0 rfl rfl 0 (by decide) wl_4_12 rfl (v := .ref h1) rfl dX7_comes_37 ?_
  refine ik_bipush (v := (24 : Int32)) C (by decide) dX7_comes_40 ?_
  refine ik_iconst (v := (3 : Int32)) C (by decide) dX7_comes_42 ?_
  refine ik_iload C 0 rfl dX7_comes_43 ?_
  refine ik_imul C dX7_comes_45 ?_
  refine ik_iadd C dX7_comes_46 ?_
  refine ik_iconst (v := (2 : Int32)) C (by decide) dX7_comes_47 ?_
  refine ik_iadd C dX7_comes_48 ?_
  refine ik_iload_n C 4 rfl rfl dX7_comes_49 ?_
  have hg := ik_gdi hf
  have hf := ik_gdk hf
  refine ik_iast C 1 rfl hg (wz_X7 cI cS h0 h1 h2 h3 h4 h5 h6 h7 h8 h9 h10 h11 misKept mtaped msort mfrom mto mvalue mbad (upd (upd (upd mm (((24 : Int32) + ((3 : Int32) * (mm ((5 : Int32)).toNatClampNeg)))).toNatClampNeg x1) ((((24 : Int32) + ((3 : Int32) * (mm ((5 : Int32)).toNatClampNeg))) + (1 : Int32))).toNatClampNeg x2) ((((24 : Int32) + ((3 : Int32) * (mm ((5 : Int32)).toNatClampNeg))) + (2 : Int32))).toNatClampNeg x3) mkept mwas mother mfound mwarm mdrip mtape mbits msize mnumber) rfl dX7_comes_50 ?_
  refine ik_aload_n C 1 rfl rfl dX7_comes_51 ?_
  refine ik_get C inlX7 0 rfl rfl 0 (by decide) wl_4_12 rfl (v := .ref h1) rfl dX7_comes_52 ?_
  refine ik_iconst (v := (5 : Int32)) C (by decide) dX7_comes_55 ?_
  refine ik_dup2 C rfl rfl dX7_comes_56 ?_
  refine ik_iald C 1 rfl (ik_vin (by decide)) dX7_comes_57 ?_
  refine ik_iconst (v := (1 : Int32)) C (by decide) dX7_comes_58 ?_
  refine ik_iadd C dX7_comes_59 ?_
  refine ik_iast C 1 rfl (ik_vin (by decide)) (wz_X7 cI cS h0 h1 h2 h3 h4 h5 h6 h7 h8 h9 h10 h11 misKept mtaped msort mfrom mto mvalue mbad (upd (upd (upd (upd mm (((24 : Int32) + ((3 : Int32) * (mm ((5 : Int32)).toNatClampNeg)))).toNatClampNeg x1) ((((24 : Int32) + ((3 : Int32) * (mm ((5 : Int32)).toNatClampNeg))) + (1 : Int32))).toNatClampNeg x2) ((((24 : Int32) + ((3 : Int32) * (mm ((5 : Int32)).toNatClampNeg))) + (2 : Int32))).toNatClampNeg x3) ((5 : Int32)).toNatClampNeg (((upd (upd (upd mm (((24 : Int32) + ((3 : Int32) * (mm ((5 : Int32)).toNatClampNeg)))).toNatClampNeg x1) ((((24 : Int32) + ((3 : Int32) * (mm ((5 : Int32)).toNatClampNeg))) + (1 : Int32))).toNatClampNeg x2) ((((24 : Int32) + ((3 : Int32) * (mm ((5 : Int32)).toNatClampNeg))) + (2 : Int32))).toNatClampNeg x3) ((5 : Int32)).toNatClampNeg) + (1 : Int32))) mkept mwas mother mfound mwarm mdrip mtape mbits msize mnumber) rfl dX7_comes_60 ?_
  refine ik_iload C 0 rfl dX7_comes_61 ?_
  cases hf
  exact ik_iretW C hr hlk dX7_comes_63
theorem mv_X7_block : ik_V yX7_block RX7 cX7_block 4 (some .int) 3 := ⟨wl_6_11, wl_6_12, wl_1_5, wl_6_13, by decide +kernel⟩
set_option maxHeartbeats 4000000 in
set_option maxRecDepth 100000 in
theorem c_X7_block (l : Launch) (D : va_G) (cI cS : ClassId) (h0 h1 h2 h3 h4 h5 h6 h7 h8 h9 h10 h11 : Nat) (misKept : Int32) (mtaped : Int32) (msort : Int32) (mfrom : Int32) (mto : Int32) (mvalue : Int32) (mbad : Int32) (mm : Nat → Int32) (mkept : Nat → Int32) (mwas : Nat → Int32) (mother : Nat → Int32) (mfound : Nat → Int32) (mwarm : Nat → Int32) (mdrip : Nat → Int32) (mtape : Nat → Int32) (mbits : Nat → Int32) (msize : Nat → Int32) (mnumber : Nat → Int32) (x1 : Int32) (x2 : Int32) (x3 : Int32) (R : Int32) (mm_r : Nat → Int32) (mfound_r : Nat → Int32) (hf : f_X7_block mm mfound x1 x2 x3 = some (R, mm_r, mfound_r)) : Met l yX7_block (ik_ws yX7_block cX7_block 4 (some .int)) ({ frames := 2, cells := 0, slots := 0, locals := 45 } : Room) (ik_P D cI cS [.ref h0, .int x1, .int x2, .int x3] (wz_X7 cI cS h0 h1 h2 h3 h4 h5 h6 h7 h8 h9 h10 h11 misKept mtaped msort mfrom mto mvalue mbad mm mkept mwas mother mfound mwarm mdrip mtape mbits msize mnumber)) (ik_Q (some (.int R)) D (wz_X7 cI cS h0 h1 h2 h3 h4 h5 h6 h7 h8 h9 h10 h11 misKept mtaped msort mfrom mto mvalue mbad mm_r mkept mwas mother mfound_r mwarm mdrip mtape mbits msize mnumber) (wz_X7 cI cS h0 h1 h2 h3 h4 h5 h6 h7 h8 h9 h10 h11 misKept mtaped msort mfrom mto mvalue mbad mm mkept mwas mother mfound mwarm mdrip mtape mbits msize mnumber)) 0 0 (ik_in (wz_X7 cI cS h0 h1 h2 h3 h4 h5 h6 h7 h8 h9 h10 h11 misKept mtaped msort mfrom mto mvalue mbad mm mkept mwas mother mfound mwarm mdrip mtape mbits msize mnumber)) := by
  refine ik_metW RX7 rfl (by decide) (Nat.le_of_ble_eq_true rfl) [(0, .ref h0), (1, .int x1), (2, .int x2), (3, .int x3)] rfl ?_
  intro p e s m below meth c C hr hlk
  unfold f_X7_block at hf
  refine ik_iload_n C 1 rfl rfl dX7_block_0 ?_
  obtain ⟨r1, hc1, hf⟩ := ik_b1s hf
  refine ik_goR (ik_runS C (c_X7_isKind l D cI cS x1 r1 hc1) ms_X7_isKind wl_6_17 ⟨rfl, rfl, Nat.le_of_ble_eq_true rfl, Nat.le_of_ble_eq_true rfl⟩ [] rfl (by decide) rfl rfl (Nat.le_of_ble_eq_true rfl) dX7_block_1) rfl ?_
  refine ik_if_eq C 21 dX7_block_4 (by decide) (fun hc => ?_) (fun hc => ?_)
  · have hf := ik_pos hc hf
    refine ik_aload_n C 0 rfl rfl dX7_block_21 ?_
    refine ik_ldc C wl_6_14 dX7_block_22 ?_
    obtain ⟨r2, g3, hc3, hf⟩ := ik_b2s hf
    refine ik_goW [0, 1, 2, 3, 4, 5, 6, 7, 8, 9, 10, 11] rfl rfl (wz_X7 cI cS h0 h1 h2 h3 h4 h5 h6 h7 h8 h9 h10 h11 misKept mtaped msort mfrom mto mvalue mbad mm mkept mwas mother g3 mwarm mdrip mtape mbits msize mnumber) rfl (ik_runV C (c_X7_finds l D cI cS h0 h1 h2 h3 h4 h5 h6 h7 h8 h9 h10 h11 misKept mtaped msort mfrom mto mvalue mbad mm mkept mwas mother mfound mwarm mdrip mtape mbits msize mnumber (-1000001 : Int32) r2 g3 hc3) mv_X7_finds wl_7_8 ⟨rfl, rfl, Nat.le_of_ble_eq_true rfl, Nat.le_of_ble_eq_true rfl⟩ [0, 1, 2, 3, 4, 5, 6, 7, 8, 9, 10, 11] rfl (by decide) 0 rfl rfl rfl rfl (Nat.le_of_ble_eq_true rfl) dX7_block_24) rfl ?_
    cases hf
    exact ik_iretW C hr hlk dX7_block_27
  · have hf := ik_neg hc hf
    refine ik_iload_n C 2 rfl rfl dX7_block_7 ?_
    obtain ⟨r2, hc2, hf⟩ := ik_b1s hf
    refine ik_goR (ik_runS C (c_X7_isCell l D cI cS x2 r2 hc2) ms_X7_isCell wl_7_0 ⟨rfl, rfl, Nat.le_of_ble_eq_true rfl, Nat.le_of_ble_eq_true rfl⟩ [] rfl (by decide) rfl rfl (Nat.le_of_ble_eq_true rfl) dX7_block_8) rfl ?_
    refine ik_if_eq C 21 dX7_block_11 (by decide) (fun hc => ?_) (fun hc => ?_)
    · have hf := ik_pos hc hf
      refine ik_aload_n C 0 rfl rfl dX7_block_21 ?_
      refine ik_ldc C wl_6_14 dX7_block_22 ?_
      obtain ⟨r3, g4, hc4, hf⟩ := ik_b2s hf
      refine ik_goW [0, 1, 2, 3, 4, 5, 6, 7, 8, 9, 10, 11] rfl rfl (wz_X7 cI cS h0 h1 h2 h3 h4 h5 h6 h7 h8 h9 h10 h11 misKept mtaped msort mfrom mto mvalue mbad mm mkept mwas mother g4 mwarm mdrip mtape mbits msize mnumber) rfl (ik_runV C (c_X7_finds l D cI cS h0 h1 h2 h3 h4 h5 h6 h7 h8 h9 h10 h11 misKept mtaped msort mfrom mto mvalue mbad mm mkept mwas mother mfound mwarm mdrip mtape mbits msize mnumber (-1000001 : Int32) r3 g4 hc4) mv_X7_finds wl_7_8 ⟨rfl, rfl, Nat.le_of_ble_eq_true rfl, Nat.le_of_ble_eq_true rfl⟩ [0, 1, 2, 3, 4, 5, 6, 7, 8, 9, 10, 11] rfl (by decide) 0 rfl rfl rfl rfl (Nat.le_of_ble_eq_true rfl) dX7_block_24) rfl ?_
      cases hf
      exact ik_iretW C hr hlk dX7_block_27
    · have hf := ik_neg hc hf
      refine ik_iload_n C 3 rfl rfl dX7_block_14 ?_
      obtain ⟨r3, hc3, hf⟩ := ik_b1s hf
      refine ik_goR (ik_runS C (c_X7_isSome l D cI cS x3 r3 hc3) ms_X7_isSome wl_7_4 ⟨rfl, rfl, Nat.le_of_ble_eq_true rfl, Nat.le_of_ble_eq_true rfl⟩ [] rfl (by decide) rfl rfl (Nat.le_of_ble_eq_true rfl) dX7_block_15) rfl ?_
      refine ik_if_ne C 28 dX7_block_18 (by decide) (fun hc => ?_) (fun hc => ?_)
      · have hf := ik_neg hc hf
        refine ik_aload_n C 0 rfl rfl dX7_block_28 ?_
        refine ik_get C inlX7 0 rfl rfl 0 (by decide) wl_4_12 rfl (v := .ref h1) rfl dX7_block_29 ?_
        refine ik_iconst (v := (5 : Int32)) C (by decide) dX7_block_32 ?_
        refine ik_iald C 1 rfl (ik_vin (by decide)) dX7_block_33 ?_
        refine ik_bipush (v := (16 : Int32)) C (by decide) dX7_block_34 ?_
        refine ik_icmp_ne C 46 dX7_block_36 (by decide) (fun hc => ?_) (fun hc => ?_)
        · have hf := ik_neg hc hf
          refine ik_aload_n C 0 rfl rfl dX7_block_46 ?_
          refine ik_iload_n C 2 rfl rfl dX7_block_47 ?_
          obtain ⟨r4, hc4, hf⟩ := ik_b1s hf
          refine ik_goR (ik_runV C (c_X7_blockOn l D cI cS h0 h1 h2 h3 h4 h5 h6 h7 h8 h9 h10 h11 misKept mtaped msort mfrom mto mvalue mbad mm mkept mwas mother mfound mwarm mdrip mtape mbits msize mnumber x2 r4 hc4) mv_X7_blockOn wl_7_12 ⟨rfl, rfl, Nat.le_of_ble_eq_true rfl, Nat.le_of_ble_eq_true rfl⟩ [0, 1, 2, 3, 4, 5, 6, 7, 8, 9, 10, 11] rfl (by decide) 0 rfl rfl rfl rfl (Nat.le_of_ble_eq_true rfl) dX7_block_48) rfl ?_
          refine ik_if_lt C 63 dX7_block_51 (by decide) (fun hc => ?_) (fun hc => ?_)
          · have hf := ik_pos hc hf
            refine ik_aload_n C 0 rfl rfl dX7_block_63 ?_
            refine ik_iload_n C 1 rfl rfl dX7_block_64 ?_
            refine ik_iload_n C 2 rfl rfl dX7_block_65 ?_
            refine ik_iload_n C 3 rfl rfl dX7_block_66 ?_
            obtain ⟨r5, g6, hc6, hf⟩ := ik_b2s hf
            refine ik_goW [0, 1, 2, 3, 4, 5, 6, 7, 8, 9, 10, 11] rfl rfl (wz_X7 cI cS h0 h1 h2 h3 h4 h5 h6 h7 h8 h9 h10 h11 misKept mtaped msort mfrom mto mvalue mbad g6 mkept mwas mother mfound mwarm mdrip mtape mbits msize mnumber) rfl (ik_runV C (c_X7_comes l D cI cS h0 h1 h2 h3 h4 h5 h6 h7 h8 h9 h10 h11 misKept mtaped msort mfrom mto mvalue mbad mm mkept mwas mother mfound mwarm mdrip mtape mbits msize mnumber x1 x2 x3 r5 g6 hc6) mv_X7_comes wl_7_20 ⟨rfl, rfl, Nat.le_of_ble_eq_true rfl, Nat.le_of_ble_eq_true rfl⟩ [0, 1, 2, 3, 4, 5, 6, 7, 8, 9, 10, 11] rfl (by decide) 0 rfl rfl rfl rfl (Nat.le_of_ble_eq_true rfl) dX7_block_67) rfl ?_
            cases hf
            exact ik_iretW C hr hlk dX7_block_70
          · have hf := ik_neg hc hf
            refine ik_aload_n C 0 rfl rfl dX7_block_54 ?_
            refine ik_ldc C wl_6_16 dX7_block_55 ?_
            obtain ⟨r5, g6, hc6, hf⟩ := ik_b2s hf
            refine ik_goW [0, 1, 2, 3, 4, 5, 6, 7, 8, 9, 10, 11] rfl rfl (wz_X7 cI cS h0 h1 h2 h3 h4 h5 h6 h7 h8 h9 h10 h11 misKept mtaped msort mfrom mto mvalue mbad mm mkept mwas mother g6 mwarm mdrip mtape mbits msize mnumber) rfl (ik_runV C (c_X7_finds l D cI cS h0 h1 h2 h3 h4 h5 h6 h7 h8 h9 h10 h11 misKept mtaped msort mfrom mto mvalue mbad mm mkept mwas mother mfound mwarm mdrip mtape mbits msize mnumber (-1000005 : Int32) r5 g6 hc6) mv_X7_finds wl_7_8 ⟨rfl, rfl, Nat.le_of_ble_eq_true rfl, Nat.le_of_ble_eq_true rfl⟩ [0, 1, 2, 3, 4, 5, 6, 7, 8, 9, 10, 11] rfl (by decide) 0 rfl rfl rfl rfl (Nat.le_of_ble_eq_true rfl) dX7_block_57) rfl ?_
            refine ik_goto C 70 dX7_block_60 (by decide) ?_
            cases hf
            exact ik_iretW C hr hlk dX7_block_70
        · have hf := ik_pos hc hf
          refine ik_aload_n C 0 rfl rfl dX7_block_39 ?_
          refine ik_ldc C wl_6_15 dX7_block_40 ?_
          obtain ⟨r4, g5, hc5, hf⟩ := ik_b2s hf
          refine ik_goW [0, 1, 2, 3, 4, 5, 6, 7, 8, 9, 10, 11] rfl rfl (wz_X7 cI cS h0 h1 h2 h3 h4 h5 h6 h7 h8 h9 h10 h11 misKept mtaped msort mfrom mto mvalue mbad mm mkept mwas mother g5 mwarm mdrip mtape mbits msize mnumber) rfl (ik_runV C (c_X7_finds l D cI cS h0 h1 h2 h3 h4 h5 h6 h7 h8 h9 h10 h11 misKept mtaped msort mfrom mto mvalue mbad mm mkept mwas mother mfound mwarm mdrip mtape mbits msize mnumber (-1000002 : Int32) r4 g5 hc5) mv_X7_finds wl_7_8 ⟨rfl, rfl, Nat.le_of_ble_eq_true rfl, Nat.le_of_ble_eq_true rfl⟩ [0, 1, 2, 3, 4, 5, 6, 7, 8, 9, 10, 11] rfl (by decide) 0 rfl rfl rfl rfl (Nat.le_of_ble_eq_true rfl) dX7_block_42) rfl ?_
          cases hf
          exact ik_iretW C hr hlk dX7_block_45
      · have hf := ik_pos hc hf
        refine ik_aload_n C 0 rfl rfl dX7_block_21 ?_
        refine ik_ldc C wl_6_14 dX7_block_22 ?_
        obtain ⟨r4, g5, hc5, hf⟩ := ik_b2s hf
        refine ik_goW [0, 1, 2, 3, 4, 5, 6, 7, 8, 9, 10, 11] rfl rfl (wz_X7 cI cS h0 h1 h2 h3 h4 h5 h6 h7 h8 h9 h10 h11 misKept mtaped msort mfrom mto mvalue mbad mm mkept mwas mother g5 mwarm mdrip mtape mbits msize mnumber) rfl (ik_runV C (c_X7_finds l D cI cS h0 h1 h2 h3 h4 h5 h6 h7 h8 h9 h10 h11 misKept mtaped msort mfrom mto mvalue mbad mm mkept mwas mother mfound mwarm mdrip mtape mbits msize mnumber (-1000001 : Int32) r4 g5 hc5) mv_X7_finds wl_7_8 ⟨rfl, rfl, Nat.le_of_ble_eq_true rfl, Nat.le_of_ble_eq_true rfl⟩ [0, 1, 2, 3, 4, 5, 6, 7, 8, 9, 10, 11] rfl (by decide) 0 rfl rfl rfl rfl (Nat.le_of_ble_eq_true rfl) dX7_block_24) rfl ?_
        cases hf
        exact ik_iretW C hr hlk dX7_block_27
