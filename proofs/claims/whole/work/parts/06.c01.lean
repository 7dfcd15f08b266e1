theorem mv_X5_standing : ik_V yX5_standing RX5 cX5_standing 7 (some .long) 0 := ⟨wl_8_16, wl_8_17, wl_2_12, wl_8_18, by decide +kernel⟩
set_option maxHeartbeats 4000000 in
set_option maxRecDepth 100000 in
theorem c_X5_standing (l : Launch) (D : va_G) (cI cS : ClassId) (w0 w1 w2 w3 w4 : Nat) (nb : Int32) (kd : Nat → Int32) (cl : Nat → Int32) (gr : Nat → Int32) (oc : Nat → Int32) (R : Int64) (hf : f_X5_standing nb kd cl = some (R)) : Met l yX5_standing (ik_ws yX5_standing cX5_standing 7 (some .long)) ({ frames := 1, cells := 0, slots := 0, locals := 27 } : Room) (ik_P D cI cS [.ref w0] (wz_X5 cI cS w0 w1 w2 w3 w4 nb kd cl gr oc)) (ik_R (some (.long R))) 0 0 ik_no := by
  refine ik_metR RX5 rfl (by decide) (Nat.le_of_ble_eq_true rfl) [(0, .ref w0)] rfl ?_
  intro p e s m below meth c C hr hlk
  unfold f_X5_standing at hf
  refine ik_lconst (v := (0 : Int64)) C (by decide) dX5_standing_0 ?_
  refine ik_lstore_n C [(1, .long (0 : Int64)), (0, .ref w0)] rfl (by decide) rfl dX5_standing_1 ?_
  refine ik_iconst (v := (0 : Int32)) C (by decide) dX5_standing_2 ?_
  refine ik_istore_n C [(3, .int (0 : Int32)), (1, .long (0 : Int64)), (0, .ref w0)] rfl (by decide) rfl dX5_standing_3 ?_
  have hL_4 : ∀ (n_4 : Nat) (x1_4 : Int64) (x3_4 : Int32), ik_lp2 (b_X5_standing_4 nb kd cl) n_4 x1_4 x3_4 = some (R) → ik_G p l e ({ frames := 1, cells := 0, slots := 0, locals := 27 } : Room) s m ([.ref w0] : List Value).toArray below meth c D ik_no (fun _ => True) 7 0 0 (MQ below (ik_R (some (.long R))) ([.ref w0] : List Value).toArray s 0 0 ik_no) 4 [(3, .int x3_4), (1, .long x1_4), (0, .ref w0)] [] (wz_X5 cI cS w0 w1 w2 w3 w4 nb kd cl gr oc) := by
    intro n_4
    induction n_4 with
    | zero => intro _ _ hf; exact nomatch hf
    | succ n_4 ih_4 =>
      intro x1_4 x3_4 hf
      replace hf : b_X5_standing_4 nb kd cl (ik_lp2 (b_X5_standing_4 nb kd cl) n_4) x1_4 x3_4 = some (R) := hf
      unfold b_X5_standing_4 at hf
      refine ik_iload_n C 0 rfl rfl dX5_standing_4 ?_
      refine ik_bipush (v := (16 : Int32)) C (by decide) dX5_standing_5 ?_
      refine ik_icmp_gt C 66 dX5_standing_7 (by decide) (fun hc => ?_) (fun hc => ?_)
      · have hf := ik_pos hc hf
        refine ik_lload_n C 1 rfl rfl dX5_standing_66 ?_
        obtain rfl := Option.some.inj hf
        exact ik_lretR C hr hlk dX5_standing_67
      · have hf := ik_neg hc hf
        refine ik_lload_n C 1 rfl rfl dX5_standing_10 ?_
        refine ik_lstore C [(4, .long x1_4), (3, .int x3_4), (1, .long x1_4), (0, .ref w0)] (by decide) rfl dX5_standing_11 ?_
        refine ik_iconst (v := (0 : Int32)) C (by decide) dX5_standing_13 ?_
        refine ik_istore C [(6, .int (0 : Int32)), (4, .long x1_4), (3, .int x3_4), (1, .long x1_4), (0, .ref w0)] (by decide) rfl dX5_standing_14 ?_
        have hL_16 : ∀ (n_16 : Nat) (x1_16 : Int64) (x6_16 : Int32), ik_lp2 (b_X5_standing_16 nb kd cl x1_4 x3_4 (ik_lp2 (b_X5_standing_4 nb kd cl) n_4)) n_16 x1_16 x6_16 = some (R) → ik_G p l e ({ frames := 1, cells := 0, slots := 0, locals := 27 } : Room) s m ([.ref w0] : List Value).toArray below meth c D ik_no (fun _ => True) 7 0 0 (MQ below (ik_R (some (.long R))) ([.ref w0] : List Value).toArray s 0 0 ik_no) 16 [(6, .int x6_16), (4, .long x1_4), (3, .int x3_4), (1, .long x1_16), (0, .ref w0)] [] (wz_X5 cI cS w0 w1 w2 w3 w4 nb kd cl gr oc) := by
          intro n_16
          induction n_16 with
          | zero => intro _ _ hf; exact nomatch hf
          | succ n_16 ih_16 =>
            intro x1_16 x6_16 hf
            replace hf : b_X5_standing_16 nb kd cl x1_4 x3_4 (ik_lp2 (b_X5_standing_4 nb kd cl) n_4) (ik_lp2 (b_X5_standing_16 nb kd cl x1_4 x3_4 (ik_lp2 (b_X5_standing_4 nb kd cl) n_4)) n_16) x1_16 x6_16 = some (R) := hf
            unfold b_X5_standing_16 at hf
            refine ik_iload C 0 rfl dX5_standing_16 ?_
            refine ik_aload_n C 4 rfl rfl dX5_standing_18 ?_
            refine ik_get C inlX5 0 rfl rfl 0 (by decide) wl_6_0 rfl (v := .int nb) rfl dX5_standing_19 ?_
            refine ik_icmp_ge C 50 dX5_standing_22 (by decide) (fun hc => ?_) (fun hc => ?_)
            · have hf := ik_pos hc hf
              refine ik_lload_n C 3 rfl rfl dX5_standing_50 ?_
              refine ik_lload C 1 rfl dX5_standing_51 ?_
              refine ik_lcmp C dX5_standing_53 ?_
              refine ik_if_ne C 60 dX5_standing_54 (by decide) (fun hc => ?_) (fun hc => ?_)
              · have hf := ik_neg hc hf
                refine ik_iinc C [(3, .int (x3_4 + (1 : Int32))), (6, .int x6_16), (4, .long x1_4), (1, .long x1_16), (0, .ref w0)] 2 rfl rfl (by decide) rfl dX5_standing_60 ?_
                refine ik_goto C 4 dX5_standing_63 (by decide) ?_
                exact ik_sub [0, 3, 4] [(3, .int (x3_4 + (1 : Int32))), (1, .long x1_16), (0, .ref w0)] rfl (ih_4 x1_16 (x3_4 + (1 : Int32)) hf)
              · have hf := ik_pos hc hf
                refine ik_goto C 66 dX5_standing_57 (by decide) ?_
                refine ik_lload_n C 3 rfl rfl dX5_standing_66 ?_
                obtain rfl := Option.some.inj hf
                exact ik_lretR C hr hlk dX5_standing_67
            · have hf := ik_neg hc hf
              refine ik_aload_n C 4 rfl rfl dX5_standing_25 ?_
              refine ik_iload C 0 rfl dX5_standing_26 ?_
              refine ik_lload_n C 3 rfl rfl dX5_standing_28 ?_
              obtain ⟨r1, hc1, hf⟩ := ik_b1s hf
              have hM := (c_X5_standsBy l D cI cS w0 w1 w2 w3 w4 nb kd cl gr oc x6_16 x1_16 r1 hc1)
              refine ik_goR (ik_runV (st := []) (As := [.int x6_16, .long x1_16]) C hM mv_X5_standsBy wl_8_19 ⟨rfl, rfl, Nat.le_of_ble_eq_true rfl, Nat.le_of_ble_eq_true rfl⟩ [0, 1, 2, 3, 4] rfl (by decide +kernel) 0 rfl rfl rfl rfl (Nat.le_of_ble_eq_true rfl) dX5_standing_29 ⟨Nat.zero_le _, Nat.zero_le _⟩) rfl ?_
              refine ik_if_eq C 44 dX5_standing_32 (by decide) (fun hc => ?_) (fun hc => ?_)
              · have hf := ik_pos hc hf
                refine ik_iinc C [(6, .int (x6_16 + (1 : Int32))), (4, .long x1_4), (3, .int x3_4), (1, .long x1_16), (0, .ref w0)] 0 rfl rfl (by decide) rfl dX5_standing_44 ?_
                refine ik_goto C 16 dX5_standing_47 (by decide) ?_
                exact ik_sub [0, 1, 2, 3, 4] [(6, .int (x6_16 + (1 : Int32))), (4, .long x1_4), (3, .int x3_4), (1, .long x1_16), (0, .ref w0)] rfl (ih_16 x1_16 (x6_16 + (1 : Int32)) hf)
              · have hf := ik_neg hc hf
                refine ik_lload_n C 3 rfl rfl dX5_standing_35 ?_
                refine ik_aload_n C 4 rfl rfl dX5_standing_36 ?_
                refine ik_iload C 0 rfl dX5_standing_37 ?_
                obtain ⟨r2, hc2, hf⟩ := ik_b1s hf
                have hM := (c_X5_cellBit l D cI cS w0 w1 w2 w3 w4 nb kd cl gr oc x6_16 r2 hc2)
                refine ik_goR (ik_runV (st := [.long x1_16]) (As := [.int x6_16]) C hM mv_X5_cellBit wl_8_23 ⟨rfl, rfl, Nat.le_of_ble_eq_true rfl, Nat.le_of_ble_eq_true rfl⟩ [0, 1, 2, 3, 4] rfl (by decide +kernel) 0 rfl rfl rfl rfl (Nat.le_of_ble_eq_true rfl) dX5_standing_39 ⟨Nat.zero_le _, Nat.zero_le _⟩) rfl ?_
                refine ik_lor C dX5_standing_42 ?_
                refine ik_lstore_n C [(1, .long (x1_16 ||| r2)), (6, .int x6_16), (4, .long x1_4), (3, .int x3_4), (0, .ref w0)] rfl (by decide) rfl dX5_standing_43 ?_
                refine ik_iinc C [(6, .int (x6_16 + (1 : Int32))), (1, .long (x1_16 ||| r2)), (4, .long x1_4), (3, .int x3_4), (0, .ref w0)] 1 rfl rfl (by decide) rfl dX5_standing_44 ?_
                refine ik_goto C 16 dX5_standing_47 (by decide) ?_
                exact ik_sub [0, 2, 3, 1, 4] [(6, .int (x6_16 + (1 : Int32))), (4, .long x1_4), (3, .int x3_4), (1, .long (x1_16 ||| r2)), (0, .ref w0)] rfl (ih_16 (x1_16 ||| r2) (x6_16 + (1 : Int32)) hf)
        exact hL_16 ik_fu x1_4 (0 : Int32) hf
  exact hL_4 ik_fu (0 : Int64) (0 : Int32) hf
theorem mv_X5_looseSet : ik_V yX5_looseSet RX5 cX5_looseSet 5 (some .int) 0 := ⟨wl_19_23, wl_20_0, wl_2_12, wl_20_1, by decide +kernel⟩
set_option maxHeartbeats 4000000 in
set_option maxRecDepth 100000 in
theorem c_X5_looseSet (l : Launch) (D : va_G) (cI cS : ClassId) (w0 w1 w2 w3 w4 : Nat) (nb : Int32) (kd : Nat → Int32) (cl : Nat → Int32) (gr : Nat → Int32) (oc : Nat → Int32) (R : Int32) (hf : f_X5_looseSet nb kd cl = some (R)) : Met l yX5_looseSet (ik_ws yX5_looseSet cX5_looseSet 5 (some .int)) ({ frames := 2, cells := 0, slots := 0, locals := 53 } : Room) (ik_P D cI cS [.ref w0] (wz_X5 cI cS w0 w1 w2 w3 w4 nb kd cl gr oc)) (ik_R (some (.int R))) 0 0 ik_no := by
  refine ik_metR RX5 rfl (by decide) (Nat.le_of_ble_eq_true rfl) [(0, .ref w0)] rfl ?_
  intro p e s m below meth c C hr hlk
  unfold f_X5_looseSet at hf
  refine ik_aload_n C 0 rfl rfl dX5_looseSet_0 ?_
  obtain ⟨r1, hc1, hf⟩ := ik_b1s hf
  have hM := (c_X5_standing l D cI cS w0 w1 w2 w3 w4 nb kd cl gr oc r1 hc1)
  refine ik_goR (ik_runV (st := []) (As := []) C hM mv_X5_standing wl_20_2 ⟨rfl, rfl, Nat.le_of_ble_eq_true rfl, Nat.le_of_ble_eq_true rfl⟩ [0, 1, 2, 3, 4] rfl (by decide +kernel) 0 rfl rfl rfl rfl (Nat.le_of_ble_eq_true rfl) dX5_looseSet_1 ⟨Nat.zero_le _, Nat.zero_le _⟩) rfl ?_
  refine ik_lstore_n C [(1, .long r1), (0, .ref w0)] rfl (by decide) rfl dX5_looseSet_4 ?_
  refine ik_iconst (v := (0 : Int32)) C (by decide) dX5_looseSet_5 ?_
  refine ik_istore_n C [(3, .int (0 : Int32)), (1, .long r1), (0, .ref w0)] rfl (by decide) rfl dX5_looseSet_6 ?_
  refine ik_iconst (v := (0 : Int32)) C (by decide) dX5_looseSet_7 ?_
  refine ik_istore C [(4, .int (0 : Int32)), (3, .int (0 : Int32)), (1, .long r1), (0, .ref w0)] (by decide) rfl dX5_looseSet_8 ?_
  have hL_10 : ∀ (n_10 : Nat) (x3_10 : Int32) (x4_10 : Int32), ik_lp2 (b_X5_looseSet_10 nb cl r1) n_10 x3_10 x4_10 = some (R) → ik_G p l e ({ frames := 2, cells := 0, slots := 0, locals := 53 } : Room) s m ([.ref w0] : List Value).toArray below meth c D ik_no (fun _ => True) 5 0 0 (MQ below (ik_R (some (.int R))) ([.ref w0] : List Value).toArray s 0 0 ik_no) 10 [(4, .int x4_10), (3, .int x3_10), (1, .long r1), (0, .ref w0)] [] (wz_X5 cI cS w0 w1 w2 w3 w4 nb kd cl gr oc) := by
    intro n_10
    induction n_10 with
    | zero => intro _ _ hf; exact nomatch hf
    | succ n_10 ih_10 =>
      intro x3_10 x4_10 hf
      replace hf : b_X5_looseSet_10 nb cl r1 (ik_lp2 (b_X5_looseSet_10 nb cl r1) n_10) x3_10 x4_10 = some (R) := hf
      unfold b_X5_looseSet_10 at hf
      refine ik_iload C 0 rfl dX5_looseSet_10 ?_
      refine ik_aload_n C 3 rfl rfl dX5_looseSet_12 ?_
      refine ik_get C inlX5 0 rfl rfl 0 (by decide) wl_6_0 rfl (v := .int nb) rfl dX5_looseSet_13 ?_
      refine ik_icmp_ge C 54 dX5_looseSet_16 (by decide) (fun hc => ?_) (fun hc => ?_)
      · have hf := ik_pos hc hf
        refine ik_iload_n C 1 rfl rfl dX5_looseSet_54 ?_
        obtain rfl := Option.some.inj hf
        exact ik_iretR C hr hlk dX5_looseSet_55
      · have hf := ik_neg hc hf
        refine ik_aload_n C 3 rfl rfl dX5_looseSet_19 ?_
        refine ik_iload C 0 rfl dX5_looseSet_20 ?_
        obtain ⟨r2, hc2, hf⟩ := ik_b1s hf
        have hM := (c_X5_isGone l D cI cS w0 w1 w2 w3 w4 nb kd cl gr oc x4_10 r2 hc2)
        refine ik_goR (ik_runV (st := []) (As := [.int x4_10]) C hM mv_X5_isGone wl_9_8 ⟨rfl, rfl, Nat.le_of_ble_eq_true rfl, Nat.le_of_ble_eq_true rfl⟩ [0, 1, 2, 3, 4] rfl (by decide +kernel) 0 rfl rfl rfl rfl (Nat.le_of_ble_eq_true rfl) dX5_looseSet_22 ⟨Nat.zero_le _, Nat.zero_le _⟩) rfl ?_
        refine ik_if_ne C 48 dX5_looseSet_25 (by decide) (fun hc => ?_) (fun hc => ?_)
        · have hf := ik_neg hc hf
          refine ik_iinc C [(4, .int (x4_10 + (1 : Int32))), (3, .int x3_10), (1, .long r1), (0, .ref w0)] 0 rfl rfl (by decide) rfl dX5_looseSet_48 ?_
          refine ik_goto C 10 dX5_looseSet_51 (by decide) ?_
          exact ik_sub [0, 1, 2, 3] [(4, .int (x4_10 + (1 : Int32))), (3, .int x3_10), (1, .long r1), (0, .ref w0)] rfl (ih_10 x3_10 (x4_10 + (1 : Int32)) hf)
        · have hf := ik_pos hc hf
          refine ik_lload_n C 2 rfl rfl dX5_looseSet_28 ?_
          refine ik_aload_n C 3 rfl rfl dX5_looseSet_29 ?_
          refine ik_iload C 0 rfl dX5_looseSet_30 ?_
          obtain ⟨r3, hc3, hf⟩ := ik_b1s hf
          have hM := (c_X5_cellBit l D cI cS w0 w1 w2 w3 w4 nb kd cl gr oc x4_10 r3 hc3)
          refine ik_goR (ik_runV (st := [.long r1]) (As := [.int x4_10]) C hM mv_X5_cellBit wl_8_23 ⟨rfl, rfl, Nat.le_of_ble_eq_true rfl, Nat.le_of_ble_eq_true rfl⟩ [0, 1, 2, 3, 4] rfl (by decide +kernel) 0 rfl rfl rfl rfl (Nat.le_of_ble_eq_true rfl) dX5_looseSet_32 ⟨Nat.zero_le _, Nat.zero_le _⟩) rfl ?_
          refine ik_land C dX5_looseSet_35 ?_
          refine ik_lconst (v := (0 : Int64)) C (by decide) dX5_looseSet_36 ?_
          refine ik_lcmp C dX5_looseSet_37 ?_
          refine ik_if_ne C 48 dX5_looseSet_38 (by decide) (fun hc => ?_) (fun hc => ?_)
          · have hf := ik_neg hc hf
            refine ik_iinc C [(4, .int (x4_10 + (1 : Int32))), (3, .int x3_10), (1, .long r1), (0, .ref w0)] 0 rfl rfl (by decide) rfl dX5_looseSet_48 ?_
            refine ik_goto C 10 dX5_looseSet_51 (by decide) ?_
            exact ik_sub [0, 1, 2, 3] [(4, .int (x4_10 + (1 : Int32))), (3, .int x3_10), (1, .long r1), (0, .ref w0)] rfl (ih_10 x3_10 (x4_10 + (1 : Int32)) hf)
          · have hf := ik_pos hc hf
            refine ik_iload_n C 1 rfl rfl dX5_looseSet_41 ?_
            refine ik_iconst (v := (1 : Int32)) C (by decide) dX5_looseSet_42 ?_
            refine ik_iload C 0 rfl dX5_looseSet_43 ?_
            refine ik_ishl C dX5_looseSet_45 ?_
            refine ik_ior C dX5_looseSet_46 ?_
            refine ik_istore_n C [(3, .int (x3_10 ||| ((1 : Int32) <<< (x4_10 &&& 31)))), (4, .int x4_10), (1, .long r1), (0, .ref w0)] rfl (by decide) rfl dX5_looseSet_47 ?_
            refine ik_iinc C [(4, .int (x4_10 + (1 : Int32))), (3, .int (x3_10 ||| ((1 : Int32) <<< (x4_10 &&& 31)))), (1, .long r1), (0, .ref w0)] 1 rfl rfl (by decide) rfl dX5_looseSet_48 ?_
            refine ik_goto C 10 dX5_looseSet_51 (by decide) ?_
            exact ik_sub [0, 1, 2, 3] [(4, .int (x4_10 + (1 : Int32))), (3, .int (x3_10 ||| ((1 : Int32) <<< (x4_10 &&& 31)))), (1, .long r1), (0, .ref w0)] rfl (ih_10 (x3_10 ||| ((1 : Int32) <<< (x4_10 &&& 31))) (x4_10 + (1 : Int32)) hf)
  exact hL_10 ik_fu (0 : Int32) (0 : Int32) hf
theorem mv_X5_shakenSet : ik_V yX5_shakenSet RX5 cX5_shakenSet 4 (some .int) 1 := ⟨wl_31_17, wl_31_18, wl_2_12, wl_31_19, by decide +kernel⟩
set_option maxHeartbeats 4000000 in
set_option maxRecDepth 100000 in
theorem c_X5_shakenSet (l : Launch) (D : va_G) (cI cS : ClassId) (w0 w1 w2 w3 w4 : Nat) (nb : Int32) (kd : Nat → Int32) (cl : Nat → Int32) (gr : Nat → Int32) (oc : Nat → Int32) (x1 : Int32) (R : Int32) (hf : f_X5_shakenSet nb cl gr x1 = some (R)) : Met l yX5_shakenSet (ik_ws yX5_shakenSet cX5_shakenSet 4 (some .int)) ({ frames := 1, cells := 0, slots := 0, locals := 21 } : Room) (ik_P D cI cS [.ref w0, .int x1] (wz_X5 cI cS w0 w1 w2 w3 w4 nb kd cl gr oc)) (ik_R (some (.int R))) 0 0 ik_no := by
  refine ik_metR RX5 rfl (by decide) (Nat.le_of_ble_eq_true rfl) [(0, .ref w0), (1, .int x1)] rfl ?_
  intro p e s m below meth c C hr hlk
  unfold f_X5_shakenSet at hf
  refine ik_iconst (v := (0 : Int32)) C (by decide) dX5_shakenSet_0 ?_
  refine ik_istore_n C [(2, .int (0 : Int32)), (0, .ref w0), (1, .int x1)] rfl (by decide) rfl dX5_shakenSet_1 ?_
  refine ik_iconst (v := (0 : Int32)) C (by decide) dX5_shakenSet_2 ?_
  refine ik_istore_n C [(3, .int (0 : Int32)), (2, .int (0 : Int32)), (0, .ref w0), (1, .int x1)] rfl (by decide) rfl dX5_shakenSet_3 ?_
  have hL_4 : ∀ (n_4 : Nat) (x2_4 : Int32) (x3_4 : Int32), ik_lp2 (b_X5_shakenSet_4 nb cl gr x1) n_4 x2_4 x3_4 = some (R) → ik_G p l e ({ frames := 1, cells := 0, slots := 0, locals := 21 } : Room) s m ([.ref w0, .int x1] : List Value).toArray below meth c D ik_no (fun _ => True) 4 0 0 (MQ below (ik_R (some (.int R))) ([.ref w0, .int x1] : List Value).toArray s 0 0 ik_no) 4 [(3, .int x3_4), (2, .int x2_4), (0, .ref w0), (1, .int x1)] [] (wz_X5 cI cS w0 w1 w2 w3 w4 nb kd cl gr oc) := by
    intro n_4
    induction n_4 with
    | zero => intro _ _ hf; exact nomatch hf
    | succ n_4 ih_4 =>
      intro x2_4 x3_4 hf
      replace hf : b_X5_shakenSet_4 nb cl gr x1 (ik_lp2 (b_X5_shakenSet_4 nb cl gr x1) n_4) x2_4 x3_4 = some (R) := hf
      unfold b_X5_shakenSet_4 at hf
      refine ik_iload_n C 0 rfl rfl dX5_shakenSet_4 ?_
      refine ik_aload_n C 2 rfl rfl dX5_shakenSet_5 ?_
      refine ik_get C inlX5 0 rfl rfl 0 (by decide) wl_6_0 rfl (v := .int nb) rfl dX5_shakenSet_6 ?_
      refine ik_icmp_ge C 47 dX5_shakenSet_9 (by decide) (fun hc => ?_) (fun hc => ?_)
      · have hf := ik_pos hc hf
        refine ik_iload_n C 1 rfl rfl dX5_shakenSet_47 ?_
        obtain rfl := Option.some.inj hf
        exact ik_iretR C hr hlk dX5_shakenSet_48
      · have hf := ik_neg hc hf
        refine ik_aload_n C 2 rfl rfl dX5_shakenSet_12 ?_
        refine ik_iload_n C 0 rfl rfl dX5_shakenSet_13 ?_
        obtain ⟨r1, hc1, hf⟩ := ik_b1s hf
        have hM := (c_X5_isGone l D cI cS w0 w1 w2 w3 w4 nb kd cl gr oc x3_4 r1 hc1)
        refine ik_goR (ik_runV (st := []) (As := [.int x3_4]) C hM mv_X5_isGone wl_9_8 ⟨rfl, rfl, Nat.le_of_ble_eq_true rfl, Nat.le_of_ble_eq_true rfl⟩ [0, 1, 2, 3, 4] rfl (by decide +kernel) 0 rfl rfl rfl rfl (Nat.le_of_ble_eq_true rfl) dX5_shakenSet_14 ⟨Nat.zero_le _, Nat.zero_le _⟩) rfl ?_
        refine ik_if_ne C 41 dX5_shakenSet_17 (by decide) (fun hc => ?_) (fun hc => ?_)
        · have hf := ik_neg hc hf
          refine ik_iinc C [(3, .int (x3_4 + (1 : Int32))), (2, .int x2_4), (0, .ref w0), (1, .int x1)] 0 rfl rfl (by decide) rfl dX5_shakenSet_41 ?_
          refine ik_goto C 4 dX5_shakenSet_44 (by decide) ?_
          exact ik_sub [0, 1, 2, 3] [(3, .int (x3_4 + (1 : Int32))), (2, .int x2_4), (0, .ref w0), (1, .int x1)] rfl (ih_4 x2_4 (x3_4 + (1 : Int32)) hf)
        · have hf := ik_pos hc hf
          refine ik_iload_n C 3 rfl rfl dX5_shakenSet_20 ?_
          refine ik_if_le C 41 dX5_shakenSet_21 (by decide) (fun hc => ?_) (fun hc => ?_)
          · have hf := ik_pos hc hf
            refine ik_iinc C [(3, .int (x3_4 + (1 : Int32))), (2, .int x2_4), (0, .ref w0), (1, .int x1)] 0 rfl rfl (by decide) rfl dX5_shakenSet_41 ?_
            refine ik_goto C 4 dX5_shakenSet_44 (by decide) ?_
            exact ik_sub [0, 1, 2, 3] [(3, .int (x3_4 + (1 : Int32))), (2, .int x2_4), (0, .ref w0), (1, .int x1)] rfl (ih_4 x2_4 (x3_4 + (1 : Int32)) hf)
          · have hf := ik_neg hc hf
            refine ik_aload_n C 2 rfl rfl dX5_shakenSet_24 ?_
            refine ik_get C inlX5 0 rfl rfl 3 (by decide) wl_3_4 rfl (v := .ref w3) rfl dX5_shakenSet_25 ?_
            refine ik_iload_n C 0 rfl rfl dX5_shakenSet_28 ?_
            have hg := ik_gdi hf
            have hf := ik_gdk hf
            refine ik_iald C 3 rfl hg dX5_shakenSet_29 ?_
            refine ik_iload_n C 3 rfl rfl dX5_shakenSet_30 ?_
            have hg := ik_gni hf
            have hf := ik_gnk hf
            refine ik_irem C hg dX5_shakenSet_31 ?_
            refine ik_if_ne C 41 dX5_shakenSet_32 (by decide) (fun hc => ?_) (fun hc => ?_)
            · have hf := ik_neg hc hf
              refine ik_iinc C [(3, .int (x3_4 + (1 : Int32))), (2, .int x2_4), (0, .ref w0), (1, .int x1)] 0 rfl rfl (by decide) rfl dX5_shakenSet_41 ?_
              refine ik_goto C 4 dX5_shakenSet_44 (by decide) ?_
              exact ik_sub [0, 1, 2, 3] [(3, .int (x3_4 + (1 : Int32))), (2, .int x2_4), (0, .ref w0), (1, .int x1)] rfl (ih_4 x2_4 (x3_4 + (1 : Int32)) hf)
            · have hf := ik_pos hc hf
              refine ik_iload_n C 1 rfl rfl dX5_shakenSet_35 ?_
              refine ik_iconst (v := (1 : Int32)) C (by decide) dX5_shakenSet_36 ?_
              refine ik_iload_n C 0 rfl rfl dX5_shakenSet_37 ?_
              refine ik_ishl C dX5_shakenSet_38 ?_
              refine ik_ior C dX5_shakenSet_39 ?_
              refine ik_istore_n C [(2, .int (x2_4 ||| ((1 : Int32) <<< (x3_4 &&& 31)))), (3, .int x3_4), (0, .ref w0), (1, .int x1)] rfl (by decide) rfl dX5_shakenSet_40 ?_
              refine ik_iinc C [(3, .int (x3_4 + (1 : Int32))), (2, .int (x2_4 ||| ((1 : Int32) <<< (x3_4 &&& 31)))), (0, .ref w0), (1, .int x1)] 1 rfl rfl (by decide) rfl dX5_shakenSet_41 ?_
              refine ik_goto C 4 dX5_shakenSet_44 (by decide) ?_
              exact ik_sub [0, 1, 2, 3] [(3, .int (x3_4 + (1 : Int32))), (2, .int (x2_4 ||| ((1 : Int32) <<< (x3_4 &&& 31)))), (0, .ref w0), (1, .int x1)] rfl (ih_4 (x2_4 ||| ((1 : Int32) <<< (x3_4 &&& 31))) (x3_4 + (1 : Int32)) hf)
  exact hL_4 ik_fu (0 : Int32) (0 : Int32) hf
theorem mv_X5_loadOf : ik_V yX5_loadOf RX5 cX5_loadOf 5 (some .int) 1 := ⟨wl_9_5, wl_9_6, wl_2_12, wl_9_7, by decide +kernel⟩
set_option maxHeartbeats 4000000 in
set_option maxRecDepth 100000 in
theorem c_X5_loadOf (l : Launch) (D : va_G) (cI cS : ClassId) (w0 w1 w2 w3 w4 : Nat) (nb : Int32) (kd : Nat → Int32) (cl : Nat → Int32) (gr : Nat → Int32) (oc : Nat → Int32) (x1 : Int32) (R : Int32) (hf : f_X5_loadOf cl gr oc x1 = some (R)) : Met l yX5_loadOf (ik_ws yX5_loadOf cX5_loadOf 5 (some .int)) ({ frames := 1, cells := 0, slots := 0, locals := 21 } : Room) (ik_P D cI cS [.ref w0, .int x1] (wz_X5 cI cS w0 w1 w2 w3 w4 nb kd cl gr oc)) (ik_R (some (.int R))) 0 0 ik_no := by
  refine ik_metR RX5 rfl (by decide) (Nat.le_of_ble_eq_true rfl) [(0, .ref w0), (1, .int x1)] rfl ?_
  intro p e s m below meth c C hr hlk
  unfold f_X5_loadOf at hf
  refine ik_aload_n C 0 rfl rfl dX5_loadOf_0 ?_
  refine ik_iload_n C 1 rfl rfl dX5_loadOf_1 ?_
  obtain ⟨r1, hc1, hf⟩ := ik_b1s hf
  have hM := (c_X5_isGone l D cI cS w0 w1 w2 w3 w4 nb kd cl gr oc x1 r1 hc1)
  refine ik_goR (ik_runV (st := []) (As := [.int x1]) C hM mv_X5_isGone wl_9_8 ⟨rfl, rfl, Nat.le_of_ble_eq_true rfl, Nat.le_of_ble_eq_true rfl⟩ [0, 1, 2, 3, 4] rfl (by decide +kernel) 0 rfl rfl rfl rfl (Nat.le_of_ble_eq_true rfl) dX5_loadOf_2 ⟨Nat.zero_le _, Nat.zero_le _⟩) rfl ?_
  refine ik_if_eq C 10 dX5_loadOf_5 (by decide) (fun hc => ?_) (fun hc => ?_)
  · have hf := ik_pos hc hf
    refine ik_iconst (v := (0 : Int32)) C (by decide) dX5_loadOf_10 ?_
    refine ik_istore_n C [(2, .int (0 : Int32)), (0, .ref w0), (1, .int x1)] rfl (by decide) rfl dX5_loadOf_11 ?_
    refine ik_aload_n C 1 rfl rfl dX5_loadOf_12 ?_
    refine ik_get C inlX5 0 rfl rfl 2 (by decide) wl_3_3 rfl (v := .ref w2) rfl dX5_loadOf_13 ?_
    refine ik_iload_n C 2 rfl rfl dX5_loadOf_16 ?_
    have hg := ik_gdi hf
    have hf := ik_gdk hf
    refine ik_iald C 2 rfl hg dX5_loadOf_17 ?_
    refine ik_bipush (v := (8 : Int32)) C (by decide) dX5_loadOf_18 ?_
    refine ik_iadd C dX5_loadOf_20 ?_
    refine ik_istore_n C [(3, .int ((cl (x1).toNatClampNeg) + (8 : Int32))), (2, .int (0 : Int32)), (0, .ref w0), (1, .int x1)] rfl (by decide) rfl dX5_loadOf_21 ?_
    have hL_22 : ∀ (n_22 : Nat) (x2_22 : Int32) (x3_22 : Int32), ik_lp2 (b_X5_loadOf_22 gr oc) n_22 x2_22 x3_22 = some (R) → ik_G p l e ({ frames := 1, cells := 0, slots := 0, locals := 21 } : Room) s m ([.ref w0, .int x1] : List Value).toArray below meth c D ik_no (fun _ => True) 5 0 0 (MQ below (ik_R (some (.int R))) ([.ref w0, .int x1] : List Value).toArray s 0 0 ik_no) 22 [(3, .int x3_22), (2, .int x2_22), (0, .ref w0), (1, .int x1)] [] (wz_X5 cI cS w0 w1 w2 w3 w4 nb kd cl gr oc) := by
      intro n_22
      induction n_22 with
      | zero => intro _ _ hf; exact nomatch hf
      | succ n_22 ih_22 =>
        intro x2_22 x3_22 hf
        replace hf : b_X5_loadOf_22 gr oc (ik_lp2 (b_X5_loadOf_22 gr oc) n_22) x2_22 x3_22 = some (R) := hf
        unfold b_X5_loadOf_22 at hf
        refine ik_iload_n C 0 rfl rfl dX5_loadOf_22 ?_
        refine ik_bipush (v := (48 : Int32)) C (by decide) dX5_loadOf_23 ?_
        refine ik_icmp_ge C 60 dX5_loadOf_25 (by decide) (fun hc => ?_) (fun hc => ?_)
        · have hf := ik_pos hc hf
          refine ik_iload_n C 1 rfl rfl dX5_loadOf_60 ?_
          obtain rfl := Option.some.inj hf
          exact ik_iretR C hr hlk dX5_loadOf_61
        · have hf := ik_neg hc hf
          refine ik_aload_n C 2 rfl rfl dX5_loadOf_28 ?_
          refine ik_get C inlX5 0 rfl rfl 4 (by decide) wl_3_5 rfl (v := .ref w4) rfl dX5_loadOf_29 ?_
          refine ik_iload_n C 0 rfl rfl dX5_loadOf_32 ?_
          have hg := ik_gdi hf
          have hf := ik_gdk hf
          refine ik_iald C 4 rfl hg dX5_loadOf_33 ?_
          refine ik_istore C [(4, .int (oc (x3_22).toNatClampNeg)), (3, .int x3_22), (2, .int x2_22), (0, .ref w0), (1, .int x1)] (by decide) rfl dX5_loadOf_34 ?_
          refine ik_iload C 0 rfl dX5_loadOf_36 ?_
          refine ik_if_ge C 44 dX5_loadOf_38 (by decide) (fun hc => ?_) (fun hc => ?_)
          · have hf := ik_pos hc hf
            refine ik_iload_n C 2 rfl rfl dX5_loadOf_44 ?_
            refine ik_aload_n C 3 rfl rfl dX5_loadOf_45 ?_
            refine ik_get C inlX5 0 rfl rfl 3 (by decide) wl_3_4 rfl (v := .ref w3) rfl dX5_loadOf_46 ?_
            refine ik_iload C 0 rfl dX5_loadOf_49 ?_
            have hg := ik_gdi hf
            have hf := ik_gdk hf
            refine ik_iald C 3 rfl hg dX5_loadOf_51 ?_
            refine ik_iadd C dX5_loadOf_52 ?_
            refine ik_istore_n C [(2, .int (x2_22 + (gr ((oc (x3_22).toNatClampNeg)).toNatClampNeg))), (4, .int (oc (x3_22).toNatClampNeg)), (3, .int x3_22), (0, .ref w0), (1, .int x1)] rfl (by decide) rfl dX5_loadOf_53 ?_
            refine ik_iinc C [(3, .int (x3_22 + (8 : Int32))), (2, .int (x2_22 + (gr ((oc (x3_22).toNatClampNeg)).toNatClampNeg))), (4, .int (oc (x3_22).toNatClampNeg)), (0, .ref w0), (1, .int x1)] 2 rfl (congrArg (fun t => x3_22 + t) (show Int32.ofInt (8) = (8 : Int32) by decide)) (by decide) rfl dX5_loadOf_54 ?_
            refine ik_goto C 22 dX5_loadOf_57 (by decide) ?_
            exact ik_sub [0, 1, 3, 4] [(3, .int (x3_22 + (8 : Int32))), (2, .int (x2_22 + (gr ((oc (x3_22).toNatClampNeg)).toNatClampNeg))), (0, .ref w0), (1, .int x1)] rfl (ih_22 (x2_22 + (gr ((oc (x3_22).toNatClampNeg)).toNatClampNeg)) (x3_22 + (8 : Int32)) hf)
          · have hf := ik_neg hc hf
            refine ik_goto C 60 dX5_loadOf_41 (by decide) ?_
            refine ik_iload_n C 2 rfl rfl dX5_loadOf_60 ?_
            obtain rfl := Option.some.inj hf
            exact ik_iretR C hr hlk dX5_loadOf_61
    exact hL_22 ik_fu (0 : Int32) ((cl (x1).toNatClampNeg) + (8 : Int32)) hf
  · have hf := ik_neg hc hf
    refine ik_iconst (v := (0 : Int32)) C (by decide) dX5_loadOf_8 ?_
    obtain rfl := Option.some.inj hf
    exact ik_iretR C hr hlk dX5_loadOf_9
theorem mv_X5_strengthOf : ik_V yX5_strengthOf RX5 cX5_strengthOf 3 (some .int) 1 := ⟨wl_9_10, wl_9_11, wl_2_12, wl_9_12, by decide +kernel⟩
set_option maxHeartbeats 4000000 in
set_option maxRecDepth 100000 in
theorem c_X5_strengthOf (l : Launch) (D : va_G) (cI cS : ClassId) (w0 w1 w2 w3 w4 : Nat) (nb : Int32) (kd : Nat → Int32) (cl : Nat → Int32) (gr : Nat → Int32) (oc : Nat → Int32) (x1 : Int32) (R : Int32) (hf : f_X5_strengthOf kd cl gr x1 = some (R)) : Met l yX5_strengthOf (ik_ws yX5_strengthOf cX5_strengthOf 3 (some .int)) ({ frames := 1, cells := 0, slots := 0, locals := 21 } : Room) (ik_P D cI cS [.ref w0, .int x1] (wz_X5 cI cS w0 w1 w2 w3 w4 nb kd cl gr oc)) (ik_R (some (.int R))) 0 0 ik_no := by
  refine ik_metR RX5 rfl (by decide) (Nat.le_of_ble_eq_true rfl) [(0, .ref w0), (1, .int x1)] rfl ?_
  intro p e s m below meth c C hr hlk
  unfold f_X5_strengthOf at hf
  refine ik_aload_n C 0 rfl rfl dX5_strengthOf_0 ?_
  refine ik_iload_n C 1 rfl rfl dX5_strengthOf_1 ?_
  obtain ⟨r1, hc1, hf⟩ := ik_b1s hf
  have hM := (c_X5_isGone l D cI cS w0 w1 w2 w3 w4 nb kd cl gr oc x1 r1 hc1)
  refine ik_goR (ik_runV (st := []) (As := [.int x1]) C hM mv_X5_isGone wl_9_8 ⟨rfl, rfl, Nat.le_of_ble_eq_true rfl, Nat.le_of_ble_eq_true rfl⟩ [0, 1, 2, 3, 4] rfl (by decide +kernel) 0 rfl rfl rfl rfl (Nat.le_of_ble_eq_true rfl) dX5_strengthOf_2 ⟨Nat.zero_le _, Nat.zero_le _⟩) rfl ?_
  refine ik_if_eq C 10 dX5_strengthOf_5 (by decide) (fun hc => ?_) (fun hc => ?_)
  · have hf := ik_pos hc hf
    refine ik_iconst (v := (4 : Int32)) C (by decide) dX5_strengthOf_10 ?_
    refine ik_aload_n C 0 rfl rfl dX5_strengthOf_11 ?_
    refine ik_get C inlX5 0 rfl rfl 3 (by decide) wl_3_4 rfl (v := .ref w3) rfl dX5_strengthOf_12 ?_
    refine ik_iload_n C 1 rfl rfl dX5_strengthOf_15 ?_
    have hg := ik_gdi hf
    have hf := ik_gdk hf
    refine ik_iald C 3 rfl hg dX5_strengthOf_16 ?_
    refine ik_imul C dX5_strengthOf_17 ?_
    refine ik_istore_n C [(2, .int ((4 : Int32) * (gr (x1).toNatClampNeg))), (0, .ref w0), (1, .int x1)] rfl (by decide) rfl dX5_strengthOf_18 ?_
    refine ik_aload_n C 1 rfl rfl dX5_strengthOf_19 ?_
    refine ik_get C inlX5 0 rfl rfl 1 (by decide) wl_3_2 rfl (v := .ref w1) rfl dX5_strengthOf_20 ?_
    refine ik_iload_n C 2 rfl rfl dX5_strengthOf_23 ?_
    have hg := ik_gdi hf
    have hf := ik_gdk hf
    refine ik_iald C 1 rfl hg dX5_strengthOf_24 ?_
    by_cases hn3 : (kd (x1).toNatClampNeg) = (3 : Int32)
    · have hf := ik_pos hn3 hf
      refine ik_tcase C (3 : Int32) hn3 52 dX5_strengthOf_25 (by decide) (by decide) rfl (by decide) ?_
      refine ik_iload_n C 0 rfl rfl dX5_strengthOf_52 ?_
      refine ik_bipush (v := (20 : Int32)) C (by decide) dX5_strengthOf_53 ?_
      refine ik_iadd C dX5_strengthOf_55 ?_
      obtain rfl := Option.some.inj hf
      exact ik_iretR C hr hlk dX5_strengthOf_56
    · have hf := ik_neg hn3 hf
      by_cases hn4 : (kd (x1).toNatClampNeg) = (4 : Int32)
      · have hf := ik_pos hn4 hf
        refine ik_tcase C (4 : Int32) hn4 57 dX5_strengthOf_25 (by decide) (by decide) rfl (by decide) ?_
        refine ik_iconst (v := (3 : Int32)) C (by decide) dX5_strengthOf_57 ?_
        refine ik_iload_n C 0 rfl rfl dX5_strengthOf_58 ?_
        refine ik_imul C dX5_strengthOf_59 ?_
        obtain rfl := Option.some.inj hf
        exact ik_iretR C hr hlk dX5_strengthOf_60
      · have hf := ik_neg hn4 hf
        by_cases hn5 : (kd (x1).toNatClampNeg) = (5 : Int32)
        · have hf := ik_pos hn5 hf
          refine ik_tcase C (5 : Int32) hn5 61 dX5_strengthOf_25 (by decide) (by decide) rfl (by decide) ?_
          refine ik_iconst (v := (2 : Int32)) C (by decide) dX5_strengthOf_61 ?_
          refine ik_iload_n C 0 rfl rfl dX5_strengthOf_62 ?_
          refine ik_imul C dX5_strengthOf_63 ?_
          obtain rfl := Option.some.inj hf
          exact ik_iretR C hr hlk dX5_strengthOf_64
        · have hf := ik_neg hn5 hf
          refine ik_tout C 65 dX5_strengthOf_25 (by have ehn3 : ((kd (x1).toNatClampNeg)).toInt ≠ 3 := fun h => hn3 (Int32.toInt_inj.mp h); have ehn4 : ((kd (x1).toNatClampNeg)).toInt ≠ 4 := fun h => hn4 (Int32.toInt_inj.mp h); have ehn5 : ((kd (x1).toNatClampNeg)).toInt ≠ 5 := fun h => hn5 (Int32.toInt_inj.mp h); omega) (by decide) ?_
          refine ik_iload_n C 0 rfl rfl dX5_strengthOf_65 ?_
          obtain rfl := Option.some.inj hf
          exact ik_iretR C hr hlk dX5_strengthOf_66
  · have hf := ik_neg hc hf
    refine ik_iconst (v := (0 : Int32)) C (by decide) dX5_strengthOf_8 ?_
    obtain rfl := Option.some.inj hf
    exact ik_iretR C hr hlk dX5_strengthOf_9
theorem mv_X5_isComer : ik_V yX5_isComer RX5 cX5_isComer 4 (some .boolean) 2 := ⟨wl_30_7, wl_30_8, wl_2_12, wl_30_9, by decide +kernel⟩
set_option maxHeartbeats 4000000 in
set_option maxRecDepth 100000 in
theorem c_X5_isComer (l : Launch) (D : va_G) (cI cS : ClassId) (w0 w1 w2 w3 w4 : Nat) (nb : Int32) (kd : Nat → Int32) (cl : Nat → Int32) (gr : Nat → Int32) (oc : Nat → Int32) (x1 : Int32) (y2 : Int64) (R : Int32) (hf : f_X5_isComer kd cl x1 y2 = some (R)) : Met l yX5_isComer (ik_ws yX5_isComer cX5_isComer 4 (some .boolean)) ({ frames := 1, cells := 0, slots := 0, locals := 27 } : Room) (ik_P D cI cS [.ref w0, .int x1, .long y2] (wz_X5 cI cS w0 w1 w2 w3 w4 nb kd cl gr oc)) (ik_R (some (.int R))) 0 0 ik_no := by
  refine ik_metR RX5 rfl (by decide) (Nat.le_of_ble_eq_true rfl) [(0, .ref w0), (1, .int x1), (2, .long y2)] rfl ?_
  intro p e s m below meth c C hr hlk
  unfold f_X5_isComer at hf
  refine ik_lload_n C 2 rfl rfl dX5_isComer_0 ?_
  refine ik_aload_n C 0 rfl rfl dX5_isComer_1 ?_
  refine ik_iload_n C 1 rfl rfl dX5_isComer_2 ?_
  obtain ⟨r1, hc1, hf⟩ := ik_b1s hf
  have hM := (c_X5_cellBit l D cI cS w0 w1 w2 w3 w4 nb kd cl gr oc x1 r1 hc1)
  refine ik_goR (ik_runV (st := [.long y2]) (As := [.int x1]) C hM mv_X5_cellBit wl_8_23 ⟨rfl, rfl, Nat.le_of_ble_eq_true rfl, Nat.le_of_ble_eq_true rfl⟩ [0, 1, 2, 3, 4] rfl (by decide +kernel) 0 rfl rfl rfl rfl (Nat.le_of_ble_eq_true rfl) dX5_isComer_3 ⟨Nat.zero_le _, Nat.zero_le _⟩) rfl ?_
  refine ik_land C dX5_isComer_6 ?_
  refine ik_lconst (v := (0 : Int64)) C (by decide) dX5_isComer_7 ?_
  refine ik_lcmp C dX5_isComer_8 ?_
  refine ik_if_ne C 25 dX5_isComer_9 (by decide) (fun hc => ?_) (fun hc => ?_)
  · have hf := ik_neg hc hf
    refine ik_iconst (v := (0 : Int32)) C (by decide) dX5_isComer_25 ?_
    obtain rfl := Option.some.inj hf
    exact ik_zretR C hr (by decide) hlk dX5_isComer_26
  · have hf := ik_pos hc hf
    refine ik_aload_n C 0 rfl rfl dX5_isComer_12 ?_
    refine ik_iload_n C 1 rfl rfl dX5_isComer_13 ?_
    refine ik_lload_n C 2 rfl rfl dX5_isComer_14 ?_
    obtain ⟨r2, hc2, hf⟩ := ik_b1s hf
    have hM := (c_X5_standsBy l D cI cS w0 w1 w2 w3 w4 nb kd cl gr oc x1 y2 r2 hc2)
    refine ik_goR (ik_runV (st := []) (As := [.int x1, .long y2]) C hM mv_X5_standsBy wl_8_19 ⟨rfl, rfl, Nat.le_of_ble_eq_true rfl, Nat.le_of_ble_eq_true rfl⟩ [0, 1, 2, 3, 4] rfl (by decide +kernel) 0 rfl rfl rfl rfl (Nat.le_of_ble_eq_true rfl) dX5_isComer_15 ⟨Nat.zero_le _, Nat.zero_le _⟩) rfl ?_
    refine ik_if_eq C 25 dX5_isComer_18 (by decide) (fun hc => ?_) (fun hc => ?_)
    · have hf := ik_pos hc hf
      refine ik_iconst (v := (0 : Int32)) C (by decide) dX5_isComer_25 ?_
      obtain rfl := Option.some.inj hf
      exact ik_zretR C hr (by decide) hlk dX5_isComer_26
    · have hf := ik_neg hc hf
      refine ik_iconst (v := (1 : Int32)) C (by decide) dX5_isComer_21 ?_
      refine ik_goto C 26 dX5_isComer_22 (by decide) ?_
      obtain rfl := Option.some.inj hf
      exact ik_zretR C hr (by decide) hlk dX5_isComer_26
theorem mv_X5_nextComer : ik_V yX5_nextComer RX5 cX5_nextComer 5 (some .int) 2 := ⟨wl_30_3, wl_30_4, wl_2_12, wl_30_5, by decide +kernel⟩
set_option maxHeartbeats 4000000 in
set_option maxRecDepth 100000 in
theorem c_X5_nextComer (l : Launch) (D : va_G) (cI cS : ClassId) (w0 w1 w2 w3 w4 : Nat) (nb : Int32) (kd : Nat → Int32) (cl : Nat → Int32) (gr : Nat → Int32) (oc : Nat → Int32) (y1 : Int64) (x3 : Int32) (R : Int32) (hf : f_X5_nextComer nb kd cl y1 x3 = some (R)) : Met l yX5_nextComer (ik_ws yX5_nextComer cX5_nextComer 5 (some .int)) ({ frames := 2, cells := 0, slots := 0, locals := 50 } : Room) (ik_P D cI cS [.ref w0, .long y1, .int x3] (wz_X5 cI cS w0 w1 w2 w3 w4 nb kd cl gr oc)) (ik_R (some (.int R))) 0 0 ik_no := by
  refine ik_metR RX5 rfl (by decide) (Nat.le_of_ble_eq_true rfl) [(0, .ref w0), (1, .long y1), (3, .int x3)] rfl ?_
  intro p e s m below meth c C hr hlk
  unfold f_X5_nextComer at hf
  refine ik_iload_n C 2 rfl rfl dX5_nextComer_0 ?_
  refine ik_istore C [(4, .int x3), (0, .ref w0), (1, .long y1), (3, .int x3)] (by decide) rfl dX5_nextComer_1 ?_
  have hL_3 : ∀ (n_3 : Nat) (x4_3 : Int32), ik_lp1 (b_X5_nextComer_3 nb kd cl y1) n_3 x4_3 = some (R) → ik_G p l e ({ frames := 2, cells := 0, slots := 0, locals := 50 } : Room) s m ([.ref w0, .long y1, .int x3] : List Value).toArray below meth c D ik_no (fun _ => True) 5 0 0 (MQ below (ik_R (some (.int R))) ([.ref w0, .long y1, .int x3] : List Value).toArray s 0 0 ik_no) 3 [(4, .int x4_3), (0, .ref w0), (1, .long y1), (3, .int x3)] [] (wz_X5 cI cS w0 w1 w2 w3 w4 nb kd cl gr oc) := by
    intro n_3
    induction n_3 with
    | zero => intro _ hf; exact nomatch hf
    | succ n_3 ih_3 =>
      intro x4_3 hf
      replace hf : b_X5_nextComer_3 nb kd cl y1 (ik_lp1 (b_X5_nextComer_3 nb kd cl y1) n_3) x4_3 = some (R) := hf
      unfold b_X5_nextComer_3 at hf
      refine ik_iload C 0 rfl dX5_nextComer_3 ?_
      refine ik_aload_n C 1 rfl rfl dX5_nextComer_5 ?_
      refine ik_get C inlX5 0 rfl rfl 0 (by decide) wl_6_0 rfl (v := .int nb) rfl dX5_nextComer_6 ?_
      refine ik_icmp_ge C 31 dX5_nextComer_9 (by decide) (fun hc => ?_) (fun hc => ?_)
      · have hf := ik_pos hc hf
        refine ik_iconst (v := (-1 : Int32)) C (by decide) dX5_nextComer_31 ?_
        obtain rfl := Option.some.inj hf
        exact ik_iretR C hr hlk dX5_nextComer_32
      · have hf := ik_neg hc hf
        refine ik_aload_n C 1 rfl rfl dX5_nextComer_12 ?_
        refine ik_iload C 0 rfl dX5_nextComer_13 ?_
        refine ik_lload_n C 2 rfl rfl dX5_nextComer_15 ?_
        obtain ⟨r1, hc1, hf⟩ := ik_b1s hf
        have hM := (c_X5_isComer l D cI cS w0 w1 w2 w3 w4 nb kd cl gr oc x4_3 y1 r1 hc1)
        refine ik_goR (ik_runV (st := []) (As := [.int x4_3, .long y1]) C hM mv_X5_isComer wl_30_6 ⟨rfl, rfl, Nat.le_of_ble_eq_true rfl, Nat.le_of_ble_eq_true rfl⟩ [0, 1, 2, 3, 4] rfl (by decide +kernel) 0 rfl rfl rfl rfl (Nat.le_of_ble_eq_true rfl) dX5_nextComer_16 ⟨Nat.zero_le _, Nat.zero_le _⟩) rfl ?_
        refine ik_if_eq C 25 dX5_nextComer_19 (by decide) (fun hc => ?_) (fun hc => ?_)
        · have hf := ik_pos hc hf
          refine ik_iinc C [(4, .int (x4_3 + (1 : Int32))), (0, .ref w0), (1, .long y1), (3, .int x3)] 0 rfl rfl (by decide) rfl dX5_nextComer_25 ?_
          refine ik_goto C 3 dX5_nextComer_28 (by decide) ?_
          exact ik_sub [0, 1, 2, 3] [(4, .int (x4_3 + (1 : Int32))), (0, .ref w0), (1, .long y1), (3, .int x3)] rfl (ih_3 (x4_3 + (1 : Int32)) hf)
        · have hf := ik_neg hc hf
          refine ik_iload C 0 rfl dX5_nextComer_22 ?_
          obtain rfl := Option.some.inj hf
          exact ik_iretR C hr hlk dX5_nextComer_24
  exact hL_3 ik_fu x3 hf
theorem mv_X5_comers : ik_V yX5_comers RX5 cX5_comers 9 (some .long) 2 := ⟨wl_31_0, wl_31_1, wl_2_12, wl_31_2, by decide +kernel⟩
set_option maxHeartbeats 4000000 in
set_option maxRecDepth 100000 in
theorem c_X5_comers (l : Launch) (D : va_G) (cI cS : ClassId) (w0 w1 w2 w3 w4 : Nat) (nb : Int32) (kd : Nat → Int32) (cl : Nat → Int32) (gr : Nat → Int32) (oc : Nat → Int32) (y1 : Int64) (x3 : Int32) (R : Int64) (hf : f_X5_comers nb kd cl y1 x3 = some (R)) : Met l yX5_comers (ik_ws yX5_comers cX5_comers 9 (some .long)) ({ frames := 3, cells := 0, slots := 0, locals := 74 } : Room) (ik_P D cI cS [.ref w0, .long y1, .int x3] (wz_X5 cI cS w0 w1 w2 w3 w4 nb kd cl gr oc)) (ik_R (some (.long R))) 0 0 ik_no := by
  refine ik_metR RX5 rfl (by decide) (Nat.le_of_ble_eq_true rfl) [(0, .ref w0), (1, .long y1), (3, .int x3)] rfl ?_
  intro p e s m below meth c C hr hlk
  unfold f_X5_comers at hf
  refine ik_lconst (v := (0 : Int64)) C (by decide) dX5_comers_0 ?_
  refine ik_lstore C [(4, .long (0 : Int64)), (0, .ref w0), (1, .long y1), (3, .int x3)] (by decide) rfl dX5_comers_1 ?_
  refine ik_iconst (v := (0 : Int32)) C (by decide) dX5_comers_3 ?_
  refine ik_istore C [(6, .int (0 : Int32)), (4, .long (0 : Int64)), (0, .ref w0), (1, .long y1), (3, .int x3)] (by decide) rfl dX5_comers_4 ?_
  refine ik_iconst (v := (0 : Int32)) C (by decide) dX5_comers_6 ?_
  refine ik_istore C [(7, .int (0 : Int32)), (6, .int (0 : Int32)), (4, .long (0 : Int64)), (0, .ref w0), (1, .long y1), (3, .int x3)] (by decide) rfl dX5_comers_7 ?_
  have hL_9 : ∀ (n_9 : Nat) (x4_9 : Int64) (x6_9 : Int32) (x7_9 : Int32), ik_lp3 (b_X5_comers_9 nb kd cl y1 x3) n_9 x4_9 x6_9 x7_9 = some (R) → ik_G p l e ({ frames := 3, cells := 0, slots := 0, locals := 74 } : Room) s m ([.ref w0, .long y1, .int x3] : List Value).toArray below meth c D ik_no (fun _ => True) 9 0 0 (MQ below (ik_R (some (.long R))) ([.ref w0, .long y1, .int x3] : List Value).toArray s 0 0 ik_no) 9 [(7, .int x7_9), (6, .int x6_9), (4, .long x4_9), (0, .ref w0), (1, .long y1), (3, .int x3)] [] (wz_X5 cI cS w0 w1 w2 w3 w4 nb kd cl gr oc) := by
    intro n_9
    induction n_9 with
    | zero => intro _ _ _ hf; exact nomatch hf
    | succ n_9 ih_9 =>
      intro x4_9 x6_9 x7_9 hf
      replace hf : b_X5_comers_9 nb kd cl y1 x3 (ik_lp3 (b_X5_comers_9 nb kd cl y1 x3) n_9) x4_9 x6_9 x7_9 = some (R) := hf
      unfold b_X5_comers_9 at hf
      refine ik_iload C 0 rfl dX5_comers_9 ?_
      refine ik_iload_n C 5 rfl rfl dX5_comers_11 ?_
      refine ik_icmp_ge C 55 dX5_comers_12 (by decide) (fun hc => ?_) (fun hc => ?_)
      · have hf := ik_pos hc hf
        refine ik_lload C 2 rfl dX5_comers_55 ?_
        obtain rfl := Option.some.inj hf
        exact ik_lretR C hr hlk dX5_comers_57
      · have hf := ik_neg hc hf
        refine ik_aload_n C 3 rfl rfl dX5_comers_15 ?_
        refine ik_lload_n C 4 rfl rfl dX5_comers_16 ?_
        refine ik_iload C 1 rfl dX5_comers_17 ?_
        obtain ⟨r1, hc1, hf⟩ := ik_b1s hf
        have hM := (c_X5_nextComer l D cI cS w0 w1 w2 w3 w4 nb kd cl gr oc y1 x6_9 r1 hc1)
        refine ik_goR (ik_runV (st := []) (As := [.long y1, .int x6_9]) C hM mv_X5_nextComer wl_31_3 ⟨rfl, rfl, Nat.le_of_ble_eq_true rfl, Nat.le_of_ble_eq_true rfl⟩ [0, 1, 2, 3, 4] rfl (by decide +kernel) 0 rfl rfl rfl rfl (Nat.le_of_ble_eq_true rfl) dX5_comers_19 ⟨Nat.zero_le _, Nat.zero_le _⟩) rfl ?_
        refine ik_istore C [(8, .int r1), (7, .int x7_9), (6, .int x6_9), (4, .long x4_9), (0, .ref w0), (1, .long y1), (3, .int x3)] (by decide) rfl dX5_comers_22 ?_
        refine ik_iload C 0 rfl dX5_comers_24 ?_
        refine ik_if_ge C 32 dX5_comers_26 (by decide) (fun hc => ?_) (fun hc => ?_)
        · have hf := ik_pos hc hf
          refine ik_lload C 3 rfl dX5_comers_32 ?_
          refine ik_aload_n C 4 rfl rfl dX5_comers_34 ?_
          refine ik_iload C 0 rfl dX5_comers_35 ?_
          obtain ⟨r2, hc2, hf⟩ := ik_b1s hf
          have hM := (c_X5_cellBit l D cI cS w0 w1 w2 w3 w4 nb kd cl gr oc r1 r2 hc2)
          refine ik_goR (ik_runV (st := [.long x4_9]) (As := [.int r1]) C hM mv_X5_cellBit wl_8_23 ⟨rfl, rfl, Nat.le_of_ble_eq_true rfl, Nat.le_of_ble_eq_true rfl⟩ [0, 1, 2, 3, 4] rfl (by decide +kernel) 0 rfl rfl rfl rfl (Nat.le_of_ble_eq_true rfl) dX5_comers_37 ⟨Nat.zero_le _, Nat.zero_le _⟩) rfl ?_
          refine ik_lor C dX5_comers_40 ?_
          refine ik_lstore C [(4, .long (x4_9 ||| r2)), (8, .int r1), (7, .int x7_9), (6, .int x6_9), (0, .ref w0), (1, .long y1), (3, .int x3)] (by decide) rfl dX5_comers_41 ?_
          refine ik_iload C 1 rfl dX5_comers_43 ?_
          refine ik_iconst (v := (1 : Int32)) C (by decide) dX5_comers_45 ?_
          refine ik_iadd C dX5_comers_46 ?_
          refine ik_istore C [(6, .int (r1 + (1 : Int32))), (4, .long (x4_9 ||| r2)), (8, .int r1), (7, .int x7_9), (0, .ref w0), (1, .long y1), (3, .int x3)] (by decide) rfl dX5_comers_47 ?_
          refine ik_iinc C [(7, .int (x7_9 + (1 : Int32))), (6, .int (r1 + (1 : Int32))), (4, .long (x4_9 ||| r2)), (8, .int r1), (0, .ref w0), (1, .long y1), (3, .int x3)] 3 rfl rfl (by decide) rfl dX5_comers_49 ?_
          refine ik_goto C 9 dX5_comers_52 (by decide) ?_
          exact ik_sub [0, 1, 2, 4, 5, 6] [(7, .int (x7_9 + (1 : Int32))), (6, .int (r1 + (1 : Int32))), (4, .long (x4_9 ||| r2)), (0, .ref w0), (1, .long y1), (3, .int x3)] rfl (ih_9 (x4_9 ||| r2) (r1 + (1 : Int32)) (x7_9 + (1 : Int32)) hf)
        · have hf := ik_neg hc hf
          refine ik_goto C 55 dX5_comers_29 (by decide) ?_
          refine ik_lload C 3 rfl dX5_comers_55 ?_
          obtain rfl := Option.some.inj hf
          exact ik_lretR C hr hlk dX5_comers_57
  exact hL_9 ik_fu (0 : Int64) (0 : Int32) (0 : Int32) hf
theorem mv_X6_light : ik_V yX6_light RX6 cX6_light 1 (some .int) 0 := ⟨wl_17_6, wl_17_7, wl_1_2, wl_17_8, by decide +kernel⟩
set_option maxHeartbeats 4000000 in
set_option maxRecDepth 100000 in
theorem c_X6_light (l : Launch) (D : va_G) (cI cS : ClassId) (o0 np0 kp0 tp0 r0 t0 sh0 f0 nw0 nc0 np1 np2 np3 nw1 nw2 nw3 nw4 nc1 nc2 : Nat) (isk : Int32) (nhour : Int32) (nair : Int32) (nrub : Int32) (nz : Int32) (nnb : Int32) (nkd : Nat → Int32) (ncl : Nat → Int32) (ngr : Nat → Int32) (noc : Nat → Int32) (nlit : Int32) (ncold : Int32) (nccell : Nat → Int32) (ncpow : Nat → Int32) (nsp : Nat → Int32) (nwm : Nat → Int32) (ndr : Nat → Int32) (R : Int32) (hf : f_X6_light nlit ncpow = some (R)) : Met l yX6_light (ik_ws yX6_light cX6_light 1 (some .int)) ({ frames := 1, cells := 0, slots := 0, locals := 23 } : Room) (ik_P D cI cS [.ref o0] (wz_X6on cI cS o0 np0 kp0 tp0 r0 t0 sh0 f0 nw0 nc0 np1 np2 np3 nw1 nw2 nw3 nw4 nc1 nc2 isk nhour nair nrub nz nnb nkd ncl ngr noc nlit ncold nccell ncpow nsp nwm ndr)) (ik_R (some (.int R))) 0 0 ik_no := by
  refine ik_metR RX6 rfl (by decide) (Nat.le_of_ble_eq_true rfl) [(0, .ref o0)] rfl ?_
  intro p e s m below meth c C hr hlk
  unfold f_X6_light at hf
  refine ik_aload_n C 0 rfl rfl dX6_light_0 ?_
  refine ik_get C inlX6 0 rfl rfl 0 (by decide) wl_1_15 rfl (v := .ref np0) rfl dX6_light_1 ?_
  refine ik_get C inlX1 1 rfl rfl 1 (by decide) wl_13_8 rfl (v := .ref nc0) rfl dX6_light_4 ?_
  refine ik_aload_n C 0 rfl rfl dX6_light_7 ?_
  refine ik_get C inlX6 0 rfl rfl 0 (by decide) wl_1_15 rfl (v := .ref np0) rfl dX6_light_8 ?_
  refine ik_get C inlX1 1 rfl rfl 1 (by decide) wl_13_8 rfl (v := .ref nc0) rfl dX6_light_11 ?_
  refine ik_get C inlX0 7 rfl rfl 2 (by decide) wl_17_9 rfl (v := .int nlit) rfl dX6_light_14 ?_
  obtain ⟨r1, hc1, hf⟩ := ik_b1s hf
  have hM := (c_X0_lightOf l D cI cS nc0 nc1 nc2 nlit ncold nccell ncpow nlit r1 hc1)
  refine ik_goR (ik_runV (st := []) (As := [.int nlit]) C hM mv_X0_lightOf wl_17_10 ⟨rfl, rfl, Nat.le_of_ble_eq_true rfl, Nat.le_of_ble_eq_true rfl⟩ [7, 8, 9] rfl (by decide +kernel) 7 rfl rfl rfl rfl (Nat.le_of_ble_eq_true rfl) dX6_light_17 ⟨Nat.zero_le _, Nat.zero_le _⟩) rfl ?_
  obtain rfl := Option.some.inj hf
  exact ik_iretR C hr hlk dX6_light_20
theorem mv_X6_loose : ik_V yX6_loose RX6 cX6_loose 1 (some .int) 0 := ⟨wl_22_11, wl_22_12, wl_1_2, wl_22_13, by decide +kernel⟩
set_option maxHeartbeats 4000000 in
set_option maxRecDepth 100000 in
theorem c_X6_loose (l : Launch) (D : va_G) (cI cS : ClassId) (o0 np0 kp0 tp0 r0 t0 sh0 f0 nw0 nc0 np1 np2 np3 nw1 nw2 nw3 nw4 nc1 nc2 : Nat) (isk : Int32) (nhour : Int32) (nair : Int32) (nrub : Int32) (nz : Int32) (nnb : Int32) (nkd : Nat → Int32) (ncl : Nat → Int32) (ngr : Nat → Int32) (noc : Nat → Int32) (nlit : Int32) (ncold : Int32) (nccell : Nat → Int32) (ncpow : Nat → Int32) (nsp : Nat → Int32) (nwm : Nat → Int32) (ndr : Nat → Int32) (R : Int32) (hf : f_X6_loose nnb nkd ncl = some (R)) : Met l yX6_loose (ik_ws yX6_loose cX6_loose 1 (some .int)) ({ frames := 3, cells := 0, slots := 0, locals := 77 } : Room) (ik_P D cI cS [.ref o0] (wz_X6on cI cS o0 np0 kp0 tp0 r0 t0 sh0 f0 nw0 nc0 np1 np2 np3 nw1 nw2 nw3 nw4 nc1 nc2 isk nhour nair nrub nz nnb nkd ncl ngr noc nlit ncold nccell ncpow nsp nwm ndr)) (ik_R (some (.int R))) 0 0 ik_no := by
  refine ik_metR RX6 rfl (by decide) (Nat.le_of_ble_eq_true rfl) [(0, .ref o0)] rfl ?_
  intro p e s m below meth c C hr hlk
  unfold f_X6_loose at hf
  refine ik_aload_n C 0 rfl rfl dX6_loose_0 ?_
  refine ik_get C inlX6 0 rfl rfl 0 (by decide) wl_1_15 rfl (v := .ref np0) rfl dX6_loose_1 ?_
  refine ik_get C inlX1 1 rfl rfl 0 (by decide) wl_5_4 rfl (v := .ref nw0) rfl dX6_loose_4 ?_
  obtain ⟨r1, hc1, hf⟩ := ik_b1s hf
  have hM := (c_X5_looseSet l D cI cS nw0 nw1 nw2 nw3 nw4 nnb nkd ncl ngr noc r1 hc1)
  refine ik_goR (ik_runV (st := []) (As := []) C hM mv_X5_looseSet wl_22_14 ⟨rfl, rfl, Nat.le_of_ble_eq_true rfl, Nat.le_of_ble_eq_true rfl⟩ [2, 3, 4, 5, 6] rfl (by decide +kernel) 2 rfl rfl rfl rfl (Nat.le_of_ble_eq_true rfl) dX6_loose_7 ⟨Nat.zero_le _, Nat.zero_le _⟩) rfl ?_
  obtain rfl := Option.some.inj hf
  exact ik_iretR C hr hlk dX6_loose_10
theorem mv_X6_seed : ik_V yX6_seed RX6 cX6_seed 3 (some .int) 1 := ⟨wl_34_5, wl_34_6, wl_1_2, wl_34_7, by decide +kernel⟩
set_option maxHeartbeats 4000000 in
set_option maxRecDepth 100000 in
theorem c_X6_seed (l : Launch) (D : va_G) (cI cS : ClassId) (o0 np0 kp0 tp0 r0 t0 sh0 f0 nw0 nc0 np1 np2 np3 nw1 nw2 nw3 nw4 nc1 nc2 : Nat) (isk : Int32) (nhour : Int32) (nair : Int32) (nrub : Int32) (nz : Int32) (nnb : Int32) (nkd : Nat → Int32) (ncl : Nat → Int32) (ngr : Nat → Int32) (noc : Nat → Int32) (nlit : Int32) (ncold : Int32) (nccell : Nat → Int32) (ncpow : Nat → Int32) (nsp : Nat → Int32) (nwm : Nat → Int32) (ndr : Nat → Int32) (x1 : Int32) (R : Int32) (nz_r : Int32) (hf : f_X6_seed nz x1 = some (R, nz_r)) : Met l yX6_seed (ik_ws yX6_seed cX6_seed 3 (some .int)) ({ frames := 0, cells := 0, slots := 0, locals := 0 } : Room) (ik_P D cI cS [.ref o0, .int x1] (wz_X6on cI cS o0 np0 kp0 tp0 r0 t0 sh0 f0 nw0 nc0 np1 np2 np3 nw1 nw2 nw3 nw4 nc1 nc2 isk nhour nair nrub nz nnb nkd ncl ngr noc nlit ncold nccell ncpow nsp nwm ndr)) (ik_Q (some (.int R)) D (wz_X6on cI cS o0 np0 kp0 tp0 r0 t0 sh0 f0 nw0 nc0 np1 np2 np3 nw1 nw2 nw3 nw4 nc1 nc2 isk nhour nair nrub nz_r nnb nkd ncl ngr noc nlit ncold nccell ncpow nsp nwm ndr) (wz_X6on cI cS o0 np0 kp0 tp0 r0 t0 sh0 f0 nw0 nc0 np1 np2 np3 nw1 nw2 nw3 nw4 nc1 nc2 isk nhour nair nrub nz nnb nkd ncl ngr noc nlit ncold nccell ncpow nsp nwm ndr)) 0 0 (ik_in (wz_X6on cI cS o0 np0 kp0 tp0 r0 t0 sh0 f0 nw0 nc0 np1 np2 np3 nw1 nw2 nw3 nw4 nc1 nc2 isk nhour nair nrub nz nnb nkd ncl ngr noc nlit ncold nccell ncpow nsp nwm ndr)) := by
  refine ik_metW RX6 rfl (by decide) (Nat.le_of_ble_eq_true rfl) [(0, .ref o0), (1, .int x1)] rfl ?_
  intro p e s m below meth c C hr hlk
  unfold f_X6_seed at hf
  refine ik_aload_n C 0 rfl rfl dX6_seed_0 ?_
  refine ik_get C inlX6 0 rfl rfl 0 (by decide) wl_1_15 rfl (v := .ref np0) rfl dX6_seed_1 ?_
  refine ik_get C inlX1 1 rfl rfl 6 (by decide) wl_34_8 rfl (v := .int nz) rfl dX6_seed_4 ?_
  refine ik_istore_n C [(2, .int nz), (0, .ref o0), (1, .int x1)] rfl (by decide) rfl dX6_seed_7 ?_
  refine ik_aload_n C 1 rfl rfl dX6_seed_8 ?_
  refine ik_get C inlX6 0 rfl rfl 0 (by decide) wl_1_15 rfl (v := .ref np0) rfl dX6_seed_9 ?_
  refine ik_iload_n C 2 rfl rfl dX6_seed_12 ?_
  refine ik_put C inlX1 tyX1 tyX1_ok nmX1 1 rfl rfl 6 (by decide) wl_34_8 rfl (by decide) rfl rfl (Nat.le_of_ble_eq_true rfl) (wz_X6on cI cS o0 np0 kp0 tp0 r0 t0 sh0 f0 nw0 nc0 np1 np2 np3 nw1 nw2 nw3 nw4 nc1 nc2 isk nhour nair nrub x1 nnb nkd ncl ngr noc nlit ncold nccell ncpow nsp nwm ndr) rfl dX6_seed_13 ?_
  refine ik_iload_n C 0 rfl rfl dX6_seed_16 ?_
  obtain ⟨rfl, rfl⟩ := ik_e2 hf
  exact ik_iretW C hr hlk dX6_seed_17
theorem mv_X6_wipe : ik_V yX6_wipe RX6 cX6_wipe 2 (some .int) 0 := ⟨wl_35_5, wl_35_6, wl_1_2, wl_35_7, by decide +kernel⟩
set_option maxHeartbeats 4000000 in
set_option maxRecDepth 100000 in
theorem c_X6_wipe (l : Launch) (D : va_G) (cI cS : ClassId) (o0 np0 kp0 tp0 r0 t0 sh0 f0 t1 : Nat) (isk : Int32) (tok : Int32) (sta : Int32) (en : Int32) (val : Int32) (tsize : Int32) (tby : Nat → Int32) (R : Int32) (tsize_r : Int32) (hf : f_X6_wipe tsize = some (R, tsize_r)) : Met l yX6_wipe (ik_ws yX6_wipe cX6_wipe 2 (some .int)) ({ frames := 0, cells := 0, slots := 0, locals := 0 } : Room) (ik_P D cI cS [.ref o0] (wz_X6or cI cS o0 np0 kp0 tp0 r0 t0 sh0 f0 t1 isk tok sta en val tsize tby)) (ik_Q (some (.int R)) D (wz_X6or cI cS o0 np0 kp0 tp0 r0 t0 sh0 f0 t1 isk tok sta en val tsize_r tby) (wz_X6or cI cS o0 np0 kp0 tp0 r0 t0 sh0 f0 t1 isk tok sta en val tsize tby)) 0 0 (ik_in (wz_X6or cI cS o0 np0 kp0 tp0 r0 t0 sh0 f0 t1 isk tok sta en val tsize tby)) := by
  refine ik_metW RX6 rfl (by decide) (Nat.le_of_ble_eq_true rfl) [(0, .ref o0)] rfl ?_
  intro p e s m below meth c C hr hlk
  unfold f_X6_wipe at hf
  refine ik_aload_n C 0 rfl rfl dX6_wipe_0 ?_
  refine ik_get C inlX6 0 rfl rfl 5 (by decide) wl_1_23 rfl (v := .ref t0) rfl dX6_wipe_1 ?_
  refine ik_get C inlX3 2 rfl rfl 1 (by decide) wl_34_17 rfl (v := .int tsize) rfl dX6_wipe_4 ?_
  refine ik_istore_n C [(1, .int tsize), (0, .ref o0)] rfl (by decide) rfl dX6_wipe_7 ?_
  refine ik_aload_n C 1 rfl rfl dX6_wipe_8 ?_
  refine ik_get C inlX6 0 rfl rfl 5 (by decide) wl_1_23 rfl (v := .ref t0) rfl dX6_wipe_9 ?_
  refine ik_iconst (v := (0 : Int32)) C (by decide) dX6_wipe_12 ?_
  refine ik_put C inlX3 tyX3 tyX3_ok nmX3 2 rfl rfl 1 (by decide) wl_34_17 rfl (by decide) rfl rfl (Nat.le_of_ble_eq_true rfl) (wz_X6or cI cS o0 np0 kp0 tp0 r0 t0 sh0 f0 t1 isk tok sta en val (0 : Int32) tby) rfl dX6_wipe_13 ?_
  refine ik_iload_n C 0 rfl rfl dX6_wipe_16 ?_
  obtain ⟨rfl, rfl⟩ := ik_e2 hf
  exact ik_iretW C hr hlk dX6_wipe_17
theorem mv_X6_tear : ik_V yX6_tear RX6 cX6_tear 2 (some .int) 0 := ⟨wl_48_1, wl_48_2, wl_1_2, wl_48_3, by decide +kernel⟩
set_option maxHeartbeats 4000000 in
set_option maxRecDepth 100000 in
theorem c_X6_tear (l : Launch) (D : va_G) (cI cS : ClassId) (o0 np0 kp0 tp0 r0 t0 sh0 f0 : Nat) (isk : Int32) (R : Int32) (isk_r : Int32) (hf : f_X6_tear isk = some (R, isk_r)) : Met l yX6_tear (ik_ws yX6_tear cX6_tear 2 (some .int)) ({ frames := 0, cells := 0, slots := 0, locals := 0 } : Room) (ik_P D cI cS [.ref o0] (wz_X6o cI cS o0 np0 kp0 tp0 r0 t0 sh0 f0 isk)) (ik_Q (some (.int R)) D (wz_X6o cI cS o0 np0 kp0 tp0 r0 t0 sh0 f0 isk_r) (wz_X6o cI cS o0 np0 kp0 tp0 r0 t0 sh0 f0 isk)) 0 0 (ik_in (wz_X6o cI cS o0 np0 kp0 tp0 r0 t0 sh0 f0 isk)) := by
  refine ik_metW RX6 rfl (by decide) (Nat.le_of_ble_eq_true rfl) [(0, .ref o0)] rfl ?_
  intro p e s m below meth c C hr hlk
  unfold f_X6_tear at hf
  refine ik_aload_n C 0 rfl rfl dX6_tear_0 ?_
  refine ik_get C inlX6 0 rfl rfl 3 (by decide) wl_47_10 rfl (v := .int isk) rfl dX6_tear_1 ?_
  refine ik_if_eq C 11 dX6_tear_4 (by decide) (fun hc => ?_) (fun hc => ?_)
  · have hf := ik_pos hc hf
    refine ik_iconst (v := (0 : Int32)) C (by decide) dX6_tear_11 ?_
    refine ik_istore_n C [(1, .int (0 : Int32)), (0, .ref o0)] rfl (by decide) rfl dX6_tear_12 ?_
    refine ik_aload_n C 1 rfl rfl dX6_tear_13 ?_
    refine ik_iconst (v := (0 : Int32)) C (by decide) dX6_tear_14 ?_
    refine ik_put C inlX6 tyX6 tyX6_ok nmX6 0 rfl rfl 3 (by decide) wl_47_10 rfl (by decide) (by decide) (by decide) (Nat.le_of_ble_eq_true rfl) (wz_X6o cI cS o0 np0 kp0 tp0 r0 t0 sh0 f0 (0 : Int32)) rfl dX6_tear_15 ?_
    refine ik_iload_n C 0 rfl rfl dX6_tear_18 ?_
    obtain ⟨rfl, rfl⟩ := ik_e2 hf
    exact ik_iretW C hr hlk dX6_tear_19
  · have hf := ik_neg hc hf
    refine ik_iconst (v := (1 : Int32)) C (by decide) dX6_tear_7 ?_
    refine ik_goto C 12 dX6_tear_8 (by decide) ?_
    refine ik_istore_n C [(1, .int (1 : Int32)), (0, .ref o0)] rfl (by decide) rfl dX6_tear_12 ?_
    refine ik_aload_n C 1 rfl rfl dX6_tear_13 ?_
    refine ik_iconst (v := (0 : Int32)) C (by decide) dX6_tear_14 ?_
    refine ik_put C inlX6 tyX6 tyX6_ok nmX6 0 rfl rfl 3 (by decide) wl_47_10 rfl (by decide) (by decide) (by decide) (Nat.le_of_ble_eq_true rfl) (wz_X6o cI cS o0 np0 kp0 tp0 r0 t0 sh0 f0 (0 : Int32)) rfl dX6_tear_15 ?_
    refine ik_iload_n C 0 rfl rfl dX6_tear_18 ?_
    obtain ⟨rfl, rfl⟩ := ik_e2 hf
    exact ik_iretW C hr hlk dX6_tear_19
theorem mv_X6_hasHours : ik_V yX6_hasHours RX6 cX6_hasHours 2 (some .boolean) 1 := ⟨wl_17_23, wl_18_0, wl_1_2, wl_18_1, by decide +kernel⟩
set_option maxHeartbeats 4000000 in
set_option maxRecDepth 100000 in
theorem c_X6_hasHours (l : Launch) (D : va_G) (cI cS : ClassId) (o0 np0 kp0 tp0 r0 t0 sh0 f0 nw0 nc0 np1 np2 np3 nw1 nw2 nw3 nw4 nc1 nc2 : Nat) (isk : Int32) (nhour : Int32) (nair : Int32) (nrub : Int32) (nz : Int32) (nnb : Int32) (nkd : Nat → Int32) (ncl : Nat → Int32) (ngr : Nat → Int32) (noc : Nat → Int32) (nlit : Int32) (ncold : Int32) (nccell : Nat → Int32) (ncpow : Nat → Int32) (nsp : Nat → Int32) (nwm : Nat → Int32) (ndr : Nat → Int32) (x1 : Int32) (R : Int32) (hf : f_X6_hasHours nhour x1 = some (R)) : Met l yX6_hasHours (ik_ws yX6_hasHours cX6_hasHours 2 (some .boolean)) ({ frames := 0, cells := 0, slots := 0, locals := 0 } : Room) (ik_P D cI cS [.ref o0, .int x1] (wz_X6on cI cS o0 np0 kp0 tp0 r0 t0 sh0 f0 nw0 nc0 np1 np2 np3 nw1 nw2 nw3 nw4 nc1 nc2 isk nhour nair nrub nz nnb nkd ncl ngr noc nlit ncold nccell ncpow nsp nwm ndr)) (ik_R (some (.int R))) 0 0 ik_no := by
  refine ik_metR RX6 rfl (by decide) (Nat.le_of_ble_eq_true rfl) [(0, .ref o0), (1, .int x1)] rfl ?_
  intro p e s m below meth c C hr hlk
  unfold f_X6_hasHours at hf
  refine ik_aload_n C 0 rfl rfl dX6_hasHours_0 ?_
  refine ik_get C inlX6 0 rfl rfl 0 (by decide) wl_1_15 rfl (v := .ref np0) rfl dX6_hasHours_1 ?_
  refine ik_get C inlX1 1 rfl rfl 3 (by decide) wl_18_2 rfl (v := .int nhour) rfl dX6_hasHours_4 ?_
  refine ik_iload_n C 1 rfl rfl dX6_hasHours_7 ?_
  refine ik_iadd C dX6_hasHours_8 ?_
  refine ik_sipush (v := (9999 : Int32)) C (by decide) dX6_hasHours_9 ?_
  refine ik_icmp_gt C 19 dX6_hasHours_12 (by decide) (fun hc => ?_) (fun hc => ?_)
  · have hf := ik_pos hc hf
    refine ik_iconst (v := (0 : Int32)) C (by decide) dX6_hasHours_19 ?_
    obtain rfl := Option.some.inj hf
    exact ik_zretR C hr (by decide) hlk dX6_hasHours_20
  · have hf := ik_neg hc hf
    refine ik_iconst (v := (1 : Int32)) C (by decide) dX6_hasHours_15 ?_
    refine ik_goto C 20 dX6_hasHours_16 (by decide) ?_
    obtain rfl := Option.some.inj hf
    exact ik_zretR C hr (by decide) hlk dX6_hasHours_20
theorem ms_X6_isWithin : ik_S yX6_isWithin RX6 cX6_isWithin 3 (some .boolean) 3 := ⟨wl_5_11, wl_1_2, wl_5_12, by decide +kernel⟩
set_option maxHeartbeats 4000000 in
set_option maxRecDepth 100000 in
theorem c_X6_isWithin (l : Launch) (D : va_G) (cI cS : ClassId) (x0 : Int32) (x1 : Int32) (x2 : Int32) (R : Int32) (hf : f_X6_isWithin x0 x1 x2 = some (R)) : Met l yX6_isWithin (ik_ws yX6_isWithin cX6_isWithin 3 (some .boolean)) ({ frames := 0, cells := 0, slots := 0, locals := 0 } : Room) (ik_P D cI cS [.int x0, .int x1, .int x2] (wz_none cI cS)) (ik_R (some (.int R))) 0 0 ik_no := by
  refine ik_metR RX6 rfl (by decide) (Nat.le_of_ble_eq_true rfl) [(0, .int x0), (1, .int x1), (2, .int x2)] rfl ?_
  intro p e s m below meth c C hr hlk
  unfold f_X6_isWithin at hf
  refine ik_iload_n C 0 rfl rfl dX6_isWithin_0 ?_
  refine ik_iload_n C 1 rfl rfl dX6_isWithin_1 ?_
  refine ik_icmp_lt C 14 dX6_isWithin_2 (by decide) (fun hc => ?_) (fun hc => ?_)
  · have hf := ik_pos hc hf
    refine ik_iconst (v := (0 : Int32)) C (by decide) dX6_isWithin_14 ?_
    obtain rfl := Option.some.inj hf
    exact ik_zretR C hr (by decide) hlk dX6_isWithin_15
  · have hf := ik_neg hc hf
    refine ik_iload_n C 0 rfl rfl dX6_isWithin_5 ?_
    refine ik_iload_n C 2 rfl rfl dX6_isWithin_6 ?_
    refine ik_icmp_gt C 14 dX6_isWithin_7 (by decide) (fun hc => ?_) (fun hc => ?_)
    · have hf := ik_pos hc hf
      refine ik_iconst (v := (0 : Int32)) C (by decide) dX6_isWithin_14 ?_
      obtain rfl := Option.some.inj hf
      exact ik_zretR C hr (by decide) hlk dX6_isWithin_15
    · have hf := ik_neg hc hf
      refine ik_iconst (v := (1 : Int32)) C (by decide) dX6_isWithin_10 ?_
      refine ik_goto C 15 dX6_isWithin_11 (by decide) ?_
      obtain rfl := Option.some.inj hf
      exact ik_zretR C hr (by decide) hlk dX6_isWithin_15
theorem ms_X6_isKind : ik_S yX6_isKind RX6 cX6_isKind 1 (some .boolean) 1 := ⟨wl_5_8, wl_1_2, wl_5_9, by decide +kernel⟩
set_option maxHeartbeats 4000000 in
set_option maxRecDepth 100000 in
theorem c_X6_isKind (l : Launch) (D : va_G) (cI cS : ClassId) (x0 : Int32) (R : Int32) (hf : f_X6_isKind x0 = some (R)) : Met l yX6_isKind (ik_ws yX6_isKind cX6_isKind 1 (some .boolean)) ({ frames := 1, cells := 0, slots := 0, locals := 22 } : Room) (ik_P D cI cS [.int x0] (wz_none cI cS)) (ik_R (some (.int R))) 0 0 ik_no := by
  refine ik_metR RX6 rfl (by decide) (Nat.le_of_ble_eq_true rfl) [(0, .int x0)] rfl ?_
  intro p e s m below meth c C hr hlk
  unfold f_X6_isKind at hf
  refine ik_iload_n C 0 rfl rfl dX6_isKind_0 ?_
  refine ik_iconst (v := (0 : Int32)) C (by decide) dX6_isKind_1 ?_
  refine ik_bipush (v := (6 : Int32)) C (by decide) dX6_isKind_2 ?_
  obtain ⟨r1, hc1, hf⟩ := ik_b1s hf
  have hM := (c_X6_isWithin l D cI cS x0 (0 : Int32) (6 : Int32) r1 hc1)
  refine ik_goR (ik_runS (st := []) (As := [.int x0, .int (0 : Int32), .int (6 : Int32)]) C hM ms_X6_isWithin wl_5_10 ⟨rfl, rfl, Nat.le_of_ble_eq_true rfl, Nat.le_of_ble_eq_true rfl⟩ [] rfl (by decide +kernel) rfl rfl (Nat.le_of_ble_eq_true rfl) dX6_isKind_4 ⟨Nat.zero_le _, Nat.zero_le _⟩) rfl ?_
  have hz := ik_gzi hf
  have hf := ik_gzk hf
  obtain rfl := Option.some.inj hf
  exact ik_zretR C hr hz.1 hlk dX6_isKind_7
theorem ms_X6_isCell : ik_S yX6_isCell RX6 cX6_isCell 1 (some .boolean) 1 := ⟨wl_5_14, wl_1_2, wl_5_15, by decide +kernel⟩
set_option maxHeartbeats 4000000 in
set_option maxRecDepth 100000 in
theorem c_X6_isCell (l : Launch) (D : va_G) (cI cS : ClassId) (x0 : Int32) (R : Int32) (hf : f_X6_isCell x0 = some (R)) : Met l yX6_isCell (ik_ws yX6_isCell cX6_isCell 1 (some .boolean)) ({ frames := 1, cells := 0, slots := 0, locals := 22 } : Room) (ik_P D cI cS [.int x0] (wz_none cI cS)) (ik_R (some (.int R))) 0 0 ik_no := by
  refine ik_metR RX6 rfl (by decide) (Nat.le_of_ble_eq_true rfl) [(0, .int x0)] rfl ?_
  intro p e s m below meth c C hr hlk
  unfold f_X6_isCell at hf
  refine ik_iload_n C 0 rfl rfl dX6_isCell_0 ?_
  refine ik_iconst (v := (0 : Int32)) C (by decide) dX6_isCell_1 ?_
  refine ik_bipush (v := (47 : Int32)) C (by decide) dX6_isCell_2 ?_
  obtain ⟨r1, hc1, hf⟩ := ik_b1s hf
  have hM := (c_X6_isWithin l D cI cS x0 (0 : Int32) (47 : Int32) r1 hc1)
  refine ik_goR (ik_runS (st := []) (As := [.int x0, .int (0 : Int32), .int (47 : Int32)]) C hM ms_X6_isWithin wl_5_10 ⟨rfl, rfl, Nat.le_of_ble_eq_true rfl, Nat.le_of_ble_eq_true rfl⟩ [] rfl (by decide +kernel) rfl rfl (Nat.le_of_ble_eq_true rfl) dX6_isCell_4 ⟨Nat.zero_le _, Nat.zero_le _⟩) rfl ?_
  have hz := ik_gzi hf
  have hf := ik_gzk hf
  obtain rfl := Option.some.inj hf
  exact ik_zretR C hr hz.1 hlk dX6_isCell_7
theorem ms_X6_isCandle : ik_S yX6_isCandle RX6 cX6_isCandle 1 (some .boolean) 1 := ⟨wl_15_10, wl_1_2, wl_15_11, by decide +kernel⟩
set_option maxHeartbeats 4000000 in
set_option maxRecDepth 100000 in
theorem c_X6_isCandle (l : Launch) (D : va_G) (cI cS : ClassId) (x0 : Int32) (R : Int32) (hf : f_X6_isCandle x0 = some (R)) : Met l yX6_isCandle (ik_ws yX6_isCandle cX6_isCandle 1 (some .boolean)) ({ frames := 1, cells := 0, slots := 0, locals := 22 } : Room) (ik_P D cI cS [.int x0] (wz_none cI cS)) (ik_R (some (.int R))) 0 0 ik_no := by
  refine ik_metR RX6 rfl (by decide) (Nat.le_of_ble_eq_true rfl) [(0, .int x0)] rfl ?_
  intro p e s m below meth c C hr hlk
  unfold f_X6_isCandle at hf
  refine ik_iload_n C 0 rfl rfl dX6_isCandle_0 ?_
  refine ik_iconst (v := (0 : Int32)) C (by decide) dX6_isCandle_1 ?_
  refine ik_iconst (v := (5 : Int32)) C (by decide) dX6_isCandle_2 ?_
  obtain ⟨r1, hc1, hf⟩ := ik_b1s hf
  have hM := (c_X6_isWithin l D cI cS x0 (0 : Int32) (5 : Int32) r1 hc1)
  refine ik_goR (ik_runS (st := []) (As := [.int x0, .int (0 : Int32), .int (5 : Int32)]) C hM ms_X6_isWithin wl_5_10 ⟨rfl, rfl, Nat.le_of_ble_eq_true rfl, Nat.le_of_ble_eq_true rfl⟩ [] rfl (by decide +kernel) rfl rfl (Nat.le_of_ble_eq_true rfl) dX6_isCandle_3 ⟨Nat.zero_le _, Nat.zero_le _⟩) rfl ?_
  have hz := ik_gzi hf
  have hf := ik_gzk hf
  obtain rfl := Option.some.inj hf
  exact ik_zretR C hr hz.1 hlk dX6_isCandle_6
theorem ms_X6_isTune : ik_S yX6_isTune RX6 cX6_isTune 1 (some .boolean) 1 := ⟨wl_31_14, wl_1_2, wl_31_15, by decide +kernel⟩
set_option maxHeartbeats 4000000 in
set_option maxRecDepth 100000 in
theorem c_X6_isTune (l : Launch) (D : va_G) (cI cS : ClassId) (x0 : Int32) (R : Int32) (hf : f_X6_isTune x0 = some (R)) : Met l yX6_isTune (ik_ws yX6_isTune cX6_isTune 1 (some .boolean)) ({ frames := 1, cells := 0, slots := 0, locals := 22 } : Room) (ik_P D cI cS [.int x0] (wz_none cI cS)) (ik_R (some (.int R))) 0 0 ik_no := by
  refine ik_metR RX6 rfl (by decide) (Nat.le_of_ble_eq_true rfl) [(0, .int x0)] rfl ?_
  intro p e s m below meth c C hr hlk
  unfold f_X6_isTune at hf
  refine ik_iload_n C 0 rfl rfl dX6_isTune_0 ?_
  refine ik_iconst (v := (2 : Int32)) C (by decide) dX6_isTune_1 ?_
  refine ik_bipush (v := (9 : Int32)) C (by decide) dX6_isTune_2 ?_
  obtain ⟨r1, hc1, hf⟩ := ik_b1s hf
  have hM := (c_X6_isWithin l D cI cS x0 (2 : Int32) (9 : Int32) r1 hc1)
  refine ik_goR (ik_runS (st := []) (As := [.int x0, .int (2 : Int32), .int (9 : Int32)]) C hM ms_X6_isWithin wl_5_10 ⟨rfl, rfl, Nat.le_of_ble_eq_true rfl, Nat.le_of_ble_eq_true rfl⟩ [] rfl (by decide +kernel) rfl rfl (Nat.le_of_ble_eq_true rfl) dX6_isTune_4 ⟨Nat.zero_le _, Nat.zero_le _⟩) rfl ?_
  have hz := ik_gzi hf
  have hf := ik_gzk hf
  obtain rfl := Option.some.inj hf
  exact ik_zretR C hr hz.1 hlk dX6_isTune_7
theorem ms_X6_isSpot : ik_S yX6_isSpot RX6 cX6_isSpot 1 (some .boolean) 1 := ⟨wl_43_3, wl_1_2, wl_43_4, by decide +kernel⟩
set_option maxHeartbeats 4000000 in
set_option maxRecDepth 100000 in
theorem c_X6_isSpot (l : Launch) (D : va_G) (cI cS : ClassId) (x0 : Int32) (R : Int32) (hf : f_X6_isSpot x0 = some (R)) : Met l yX6_isSpot (ik_ws yX6_isSpot cX6_isSpot 1 (some .boolean)) ({ frames := 1, cells := 0, slots := 0, locals := 22 } : Room) (ik_P D cI cS [.int x0] (wz_none cI cS)) (ik_R (some (.int R))) 0 0 ik_no := by
  refine ik_metR RX6 rfl (by decide) (Nat.le_of_ble_eq_true rfl) [(0, .int x0)] rfl ?_
  intro p e s m below meth c C hr hlk
  unfold f_X6_isSpot at hf
  refine ik_iload_n C 0 rfl rfl dX6_isSpot_0 ?_
  refine ik_iconst (v := (0 : Int32)) C (by decide) dX6_isSpot_1 ?_
  refine ik_bipush (v := (9 : Int32)) C (by decide) dX6_isSpot_2 ?_
  obtain ⟨r1, hc1, hf⟩ := ik_b1s hf
  have hM := (c_X6_isWithin l D cI cS x0 (0 : Int32) (9 : Int32) r1 hc1)
  refine ik_goR (ik_runS (st := []) (As := [.int x0, .int (0 : Int32), .int (9 : Int32)]) C hM ms_X6_isWithin wl_5_10 ⟨rfl, rfl, Nat.le_of_ble_eq_true rfl, Nat.le_of_ble_eq_true rfl⟩ [] rfl (by decide +kernel) rfl rfl (Nat.le_of_ble_eq_true rfl) dX6_isSpot_4 ⟨Nat.zero_le _, Nat.zero_le _⟩) rfl ?_
  have hz := ik_gzi hf
  have hf := ik_gzk hf
  obtain rfl := Option.some.inj hf
  exact ik_zretR C hr hz.1 hlk dX6_isSpot_7
theorem ms_X6_isSheet : ik_S yX6_isSheet RX6 cX6_isSheet 1 (some .boolean) 1 := ⟨wl_44_10, wl_1_2, wl_44_11, by decide +kernel⟩
set_option maxHeartbeats 4000000 in
set_option maxRecDepth 100000 in
theorem c_X6_isSheet (l : Launch) (D : va_G) (cI cS : ClassId) (x0 : Int32) (R : Int32) (hf : f_X6_isSheet x0 = some (R)) : Met l yX6_isSheet (ik_ws yX6_isSheet cX6_isSheet 1 (some .boolean)) ({ frames := 1, cells := 0, slots := 0, locals := 22 } : Room) (ik_P D cI cS [.int x0] (wz_none cI cS)) (ik_R (some (.int R))) 0 0 ik_no := by
  refine ik_metR RX6 rfl (by decide) (Nat.le_of_ble_eq_true rfl) [(0, .int x0)] rfl ?_
  intro p e s m below meth c C hr hlk
  unfold f_X6_isSheet at hf
  refine ik_iload_n C 0 rfl rfl dX6_isSheet_0 ?_
  refine ik_iconst (v := (0 : Int32)) C (by decide) dX6_isSheet_1 ?_
  refine ik_iconst (v := (3 : Int32)) C (by decide) dX6_isSheet_2 ?_
  obtain ⟨r1, hc1, hf⟩ := ik_b1s hf
  have hM := (c_X6_isWithin l D cI cS x0 (0 : Int32) (3 : Int32) r1 hc1)
  refine ik_goR (ik_runS (st := []) (As := [.int x0, .int (0 : Int32), .int (3 : Int32)]) C hM ms_X6_isWithin wl_5_10 ⟨rfl, rfl, Nat.le_of_ble_eq_true rfl, Nat.le_of_ble_eq_true rfl⟩ [] rfl (by decide +kernel) rfl rfl (Nat.le_of_ble_eq_true rfl) dX6_isSheet_3 ⟨Nat.zero_le _, Nat.zero_le _⟩) rfl ?_
  have hz := ik_gzi hf
  have hf := ik_gzk hf
  obtain rfl := Option.some.inj hf
  exact ik_zretR C hr hz.1 hlk dX6_isSheet_6
theorem ms_X6_isUnder : ik_S yX6_isUnder RX6 cX6_isUnder 4 (some .boolean) 2 := ⟨wl_43_16, wl_1_2, wl_43_17, by decide +kernel⟩
set_option maxHeartbeats 4000000 in
set_option maxRecDepth 100000 in
theorem c_X6_isUnder (l : Launch) (D : va_G) (cI cS : ClassId) (aK aV : Nat → Nat) (ka : Nat) (x0 : Int32) (x1 : Int32) (R : Int32) (hf : f_X6_isUnder x0 x1 = some (R)) : Met l yX6_isUnder (ik_ws yX6_isUnder cX6_isUnder 4 (some .boolean)) ({ frames := 2, cells := 0, slots := 0, locals := 42 } : Room) (ik_PZ D cI cS aK aV ka [.int x0, .int x1] (wz_none cI cS)) (ik_R (some (.int R))) 0 0 ik_no := by
  refine ik_metRZ RX6 rfl (by decide) (Nat.le_of_ble_eq_true rfl) [(0, .int x0), (1, .int x1)] rfl ?_
  intro p e s m below meth c C hr hlk hZ
  unfold f_X6_isUnder at hf
  refine ik_iload_n C 0 rfl rfl dX6_isUnder_0 ?_
  refine ik_istore_n C [(2, .int x0), (0, .int x0), (1, .int x1)] rfl (by decide) rfl dX6_isUnder_1 ?_
  refine ik_iconst (v := (0 : Int32)) C (by decide) dX6_isUnder_2 ?_
  refine ik_istore_n C [(3, .int (0 : Int32)), (2, .int x0), (0, .int x0), (1, .int x1)] rfl (by decide) rfl dX6_isUnder_3 ?_
  have hL_4 : ∀ (n_4 : Nat) (x2_4 : Int32) (x3_4 : Int32), ik_lp2 (b_X6_isUnder_4 x1) n_4 x2_4 x3_4 = some (R) → ik_G p l e ({ frames := 2, cells := 0, slots := 0, locals := 42 } : Room) s m ([.int x0, .int x1] : List Value).toArray below meth c D ik_no (fun _ => True) 4 0 0 (MQ below (ik_R (some (.int R))) ([.int x0, .int x1] : List Value).toArray s 0 0 ik_no) 4 [(3, .int x3_4), (2, .int x2_4), (0, .int x0), (1, .int x1)] [] (wz_none cI cS) := by
    intro n_4
    induction n_4 with
    | zero => intro _ _ hf; exact nomatch hf
    | succ n_4 ih_4 =>
      intro x2_4 x3_4 hf
      replace hf : b_X6_isUnder_4 x1 (ik_lp2 (b_X6_isUnder_4 x1) n_4) x2_4 x3_4 = some (R) := hf
      unfold b_X6_isUnder_4 at hf
      refine ik_iload_n C 0 rfl rfl dX6_isUnder_4 ?_
      refine ik_bipush (v := (7 : Int32)) C (by decide) dX6_isUnder_5 ?_
      refine ik_icmp_ge C 36 dX6_isUnder_7 (by decide) (fun hc => ?_) (fun hc => ?_)
      · have hf := ik_pos hc hf
        refine ik_iconst (v := (0 : Int32)) C (by decide) dX6_isUnder_36 ?_
        obtain rfl := Option.some.inj hf
        exact ik_zretR C hr (by decide) hlk dX6_isUnder_37
      · have hf := ik_neg hc hf
        refine ik_iload_n C 1 rfl rfl dX6_isUnder_10 ?_
        obtain ⟨r1, hc1, hf⟩ := ik_b1s hf
        have hM := (c_X6_isKind l D cI cS x2_4 r1 hc1)
        refine ik_goR (ik_runS (st := []) (As := [.int x2_4]) C hM ms_X6_isKind wl_5_7 ⟨rfl, rfl, Nat.le_of_ble_eq_true rfl, Nat.le_of_ble_eq_true rfl⟩ [] rfl (by decide +kernel) rfl rfl (Nat.le_of_ble_eq_true rfl) dX6_isUnder_11 ⟨Nat.zero_le _, Nat.zero_le _⟩) rfl ?_
        refine ik_if_eq C 36 dX6_isUnder_14 (by decide) (fun hc => ?_) (fun hc => ?_)
        · have hf := ik_pos hc hf
          refine ik_iconst (v := (0 : Int32)) C (by decide) dX6_isUnder_36 ?_
          obtain rfl := Option.some.inj hf
          exact ik_zretR C hr (by decide) hlk dX6_isUnder_37
        · have hf := ik_neg hc hf
          refine ik_iload_n C 1 rfl rfl dX6_isUnder_17 ?_
          refine ik_iload_n C 3 rfl rfl dX6_isUnder_18 ?_
          refine ik_icmp_ne C 24 dX6_isUnder_19 (by decide) (fun hc => ?_) (fun hc => ?_)
          · have hf := ik_neg hc hf
            refine ik_gets C ik_noA hZ.2.2.2.1 wl_43_18 rfl dX6_isUnder_24 ?_
            refine ik_iload_n C 1 rfl rfl dX6_isUnder_27 ?_
            have hg := ik_gdi hf
            have hf := ik_gdk hf
            refine ik_ti C ik_noA hZ.2.2.2.2 hg rfl dX6_isUnder_28 ?_
            refine ik_istore_n C [(2, .int (st_ka (x2_4).toNatClampNeg)), (3, .int x3_4), (0, .int x0), (1, .int x1)] rfl (by decide) rfl dX6_isUnder_29 ?_
            refine ik_iinc C [(3, .int (x3_4 + (1 : Int32))), (2, .int (st_ka (x2_4).toNatClampNeg)), (0, .int x0), (1, .int x1)] 1 rfl rfl (by decide) rfl dX6_isUnder_30 ?_
            refine ik_goto C 4 dX6_isUnder_33 (by decide) ?_
            exact ik_sub [0, 1, 2, 3] [(3, .int (x3_4 + (1 : Int32))), (2, .int (st_ka (x2_4).toNatClampNeg)), (0, .int x0), (1, .int x1)] rfl (ih_4 (st_ka (x2_4).toNatClampNeg) (x3_4 + (1 : Int32)) hf)
          · have hf := ik_pos hc hf
            refine ik_iconst (v := (1 : Int32)) C (by decide) dX6_isUnder_22 ?_
            obtain rfl := Option.some.inj hf
            exact ik_zretR C hr (by decide) hlk dX6_isUnder_23
  exact hL_4 ik_fu x0 (0 : Int32) hf
theorem mv_X7_finds : ik_V yX7_finds RX7 cX7_finds 2 (some .int) 1 := ⟨wl_7_9, wl_7_10, wl_1_5, wl_7_11, by decide +kernel⟩
set_option maxHeartbeats 4000000 in
set_option maxRecDepth 100000 in
theorem c_X7_finds (l : Launch) (D : va_G) (cI cS : ClassId) (h0 h1 h2 h3 h4 h5 h6 h7 h8 h9 h10 h11 : Nat) (misKept : Int32) (mtaped : Int32) (msort : Int32) (mfrom : Int32) (mto : Int32) (mvalue : Int32) (mbad : Int32) (mm : Nat → Int32) (mkept : Nat → Int32) (mwas : Nat → Int32) (mother : Nat → Int32) (mfound : Nat → Int32) (mwarm : Nat → Int32) (mdrip : Nat → Int32) (mtape : Nat → Int32) (mbits : Nat → Int32) (msize : Nat → Int32) (mnumber : Nat → Int32) (x1 : Int32) (R : Int32) (mfound_r : Nat → Int32) (hf : f_X7_finds mfound x1 = some (R, mfound_r)) : Met l yX7_finds (ik_ws yX7_finds cX7_finds 2 (some .int)) ({ frames := 0, cells := 0, slots := 0, locals := 0 } : Room) (ik_P D cI cS [.ref h0, .int x1] (wz_X7 cI cS h0 h1 h2 h3 h4 h5 h6 h7 h8 h9 h10 h11 misKept mtaped msort mfrom mto mvalue mbad mm mkept mwas mother mfound mwarm mdrip mtape mbits msize mnumber)) (ik_Q (some (.int R)) D (wz_X7 cI cS h0 h1 h2 h3 h4 h5 h6 h7 h8 h9 h10 h11 misKept mtaped msort mfrom mto mvalue mbad mm mkept mwas mother mfound_r mwarm mdrip mtape mbits msize mnumber) (wz_X7 cI cS h0 h1 h2 h3 h4 h5 h6 h7 h8 h9 h10 h11 misKept mtaped msort mfrom mto mvalue mbad mm mkept mwas mother mfound mwarm mdrip mtape mbits msize mnumber)) 0 0 (ik_in (wz_X7 cI cS h0 h1 h2 h3 h4 h5 h6 h7 h8 h9 h10 h11 misKept mtaped msort mfrom mto mvalue mbad mm mkept mwas mother mfound mwarm mdrip mtape mbits msize mnumber)) := by
  refine ik_metW RX7 rfl (by decide) (Nat.le_of_ble_eq_true rfl) [(0, .ref h0), (1, .int x1)] rfl ?_
  intro p e s m below meth c C hr hlk
  unfold f_X7_finds at hf
  refine ik_aload_n C 0 rfl rfl dX7_finds_0 ?_
  refine ik_get C inlX7 0 rfl rfl 5 (by decide) wl_4_16 rfl (v := .ref h5) rfl dX7_finds_1 ?_
  refine ik_ldc C wl_6_14 dX7_finds_4 ?_
  refine ik_iload_n C 1 rfl rfl dX7_finds_6 ?_
  refine ik_isub C dX7_finds_7 ?_
  refine ik_dup2 C rfl rfl dX7_finds_8 ?_
  have hg := ik_gdi hf
  have hf := ik_gdk hf
  refine ik_iald C 5 rfl hg dX7_finds_9 ?_
  refine ik_iconst (v := (1 : Int32)) C (by decide) dX7_finds_10 ?_
  refine ik_iadd C dX7_finds_11 ?_
  have hg := ik_gdi hf
  have hf := ik_gdk hf
  refine ik_iast C 5 rfl hg (wz_X7 cI cS h0 h1 h2 h3 h4 h5 h6 h7 h8 h9 h10 h11 misKept mtaped msort mfrom mto mvalue mbad mm mkept mwas mother (upd mfound (((-1000001 : Int32) - x1)).toNatClampNeg ((mfound (((-1000001 : Int32) - x1)).toNatClampNeg) + (1 : Int32))) mwarm mdrip mtape mbits msize mnumber) rfl dX7_finds_12 ?_
  refine ik_iload_n C 1 rfl rfl dX7_finds_13 ?_
  obtain ⟨rfl, rfl⟩ := ik_e2 hf
  exact ik_iretW C hr hlk dX7_finds_14
theorem mv_X7_orNone : ik_V yX7_orNone RX7 cX7_orNone 2 (some .int) 1 := ⟨wl_27_9, wl_27_10, wl_1_5, wl_27_11, by decide +kernel⟩
set_option maxHeartbeats 4000000 in
set_option maxRecDepth 100000 in
theorem c_X7_orNone (l : Launch) (D : va_G) (cI cS : ClassId) (h0 h1 h2 h3 h4 h5 h6 h7 h8 h9 h10 h11 : Nat) (misKept : Int32) (mtaped : Int32) (msort : Int32) (mfrom : Int32) (mto : Int32) (mvalue : Int32) (mbad : Int32) (mm : Nat → Int32) (mkept : Nat → Int32) (mwas : Nat → Int32) (mother : Nat → Int32) (mfound : Nat → Int32) (mwarm : Nat → Int32) (mdrip : Nat → Int32) (mtape : Nat → Int32) (mbits : Nat → Int32) (msize : Nat → Int32) (mnumber : Nat → Int32) (x1 : Int32) (R : Int32) (mfound_r : Nat → Int32) (hf : f_X7_orNone mfound x1 = some (R, mfound_r)) : Met l yX7_orNone (ik_ws yX7_orNone cX7_orNone 2 (some .int)) ({ frames := 1, cells := 0, slots := 0, locals := 21 } : Room) (ik_P D cI cS [.ref h0, .int x1] (wz_X7 cI cS h0 h1 h2 h3 h4 h5 h6 h7 h8 h9 h10 h11 misKept mtaped msort mfrom mto mvalue mbad mm mkept mwas mother mfound mwarm mdrip mtape mbits msize mnumber)) (ik_Q (some (.int R)) D (wz_X7 cI cS h0 h1 h2 h3 h4 h5 h6 h7 h8 h9 h10 h11 misKept mtaped msort mfrom mto mvalue mbad mm mkept mwas mother mfound_r mwarm mdrip mtape mbits msize mnumber) (wz_X7 cI cS h0 h1 h2 h3 h4 h5 h6 h7 h8 h9 h10 h11 misKept mtaped msort mfrom mto mvalue mbad mm mkept mwas mother mfound mwarm mdrip mtape mbits msize mnumber)) 0 0 (ik_in (wz_X7 cI cS h0 h1 h2 h3 h4 h5 h6 h7 h8 h9 h10 h11 misKept mtaped msort mfrom mto mvalue mbad mm mkept mwas mother mfound mwarm mdrip mtape mbits msize mnumber)) := by
  refine ik_metW RX7 rfl (by decide) (Nat.le_of_ble_eq_true rfl) [(0, .ref h0), (1, .int x1)] rfl ?_
  intro p e s m below meth c C hr hlk
  unfold f_X7_orNone at hf
  refine ik_iload_n C 1 rfl rfl dX7_orNone_0 ?_
  refine ik_if_ge C 13 dX7_orNone_1 (by decide) (fun hc => ?_) (fun hc => ?_)
  · have hf := ik_pos hc hf
    refine ik_iload_n C 1 rfl rfl dX7_orNone_13 ?_
    obtain ⟨rfl, rfl⟩ := ik_e2 hf
    exact ik_iretW C hr hlk dX7_orNone_14
  · have hf := ik_neg hc hf
    refine ik_aload_n C 0 rfl rfl dX7_orNone_4 ?_
    refine ik_ldc C wl_25_18 dX7_orNone_5 ?_
    obtain ⟨r1, g2, hc2, hf⟩ := ik_b2s hf
    have hM := (c_X7_finds l D cI cS h0 h1 h2 h3 h4 h5 h6 h7 h8 h9 h10 h11 misKept mtaped msort mfrom mto mvalue mbad mm mkept mwas mother mfound mwarm mdrip mtape mbits msize mnumber (-1000004 : Int32) r1 g2 hc2)
    refine ik_goW (v := (some (.int r1))) (wc := (wz_X7 cI cS h0 h1 h2 h3 h4 h5 h6 h7 h8 h9 h10 h11 misKept mtaped msort mfrom mto mvalue mbad mm mkept mwas mother mfound mwarm mdrip mtape mbits msize mnumber)) (w1 := (wz_X7 cI cS h0 h1 h2 h3 h4 h5 h6 h7 h8 h9 h10 h11 misKept mtaped msort mfrom mto mvalue mbad mm mkept mwas mother g2 mwarm mdrip mtape mbits msize mnumber)) [0, 1, 2, 3, 4, 5, 6, 7, 8, 9, 10, 11] [] 12 rfl rfl (wz_X7 cI cS h0 h1 h2 h3 h4 h5 h6 h7 h8 h9 h10 h11 misKept mtaped msort mfrom mto mvalue mbad mm mkept mwas mother g2 mwarm mdrip mtape mbits msize mnumber) rfl [] rfl rfl rfl (by decide +kernel) (ik_runV (st := []) (As := [.int (-1000004 : Int32)]) C hM mv_X7_finds wl_7_8 ⟨rfl, rfl, Nat.le_of_ble_eq_true rfl, Nat.le_of_ble_eq_true rfl⟩ [0, 1, 2, 3, 4, 5, 6, 7, 8, 9, 10, 11] rfl (by decide +kernel) 0 rfl rfl rfl rfl (Nat.le_of_ble_eq_true rfl) dX7_orNone_7 ⟨Nat.zero_le _, Nat.zero_le _⟩) rfl ?_
    refine ik_goto C 14 dX7_orNone_10 (by decide) ?_
    obtain ⟨rfl, rfl⟩ := ik_e2 hf
    exact ik_iretW C hr hlk dX7_orNone_14
theorem ms_X7_in : ik_S yX7_in RX7 cX7_in 6 (some .boolean) 3 := ⟨wl_6_22, wl_1_5, wl_6_23, by decide +kernel⟩
set_option maxHeartbeats 4000000 in
set_option maxRecDepth 100000 in
theorem c_X7_in (l : Launch) (D : va_G) (cI cS : ClassId) (y0 : Int64) (y2 : Int64) (y4 : Int64) (R : Int32) (hf : f_X7_in y0 y2 y4 = some (R)) : Met l yX7_in (ik_ws yX7_in cX7_in 6 (some .boolean)) ({ frames := 0, cells := 0, slots := 0, locals := 0 } : Room) (ik_P D cI cS [.long y0, .long y2, .long y4] (wz_none cI cS)) (ik_R (some (.int R))) 0 0 ik_no := by
  refine ik_metR RX7 rfl (by decide) (Nat.le_of_ble_eq_true rfl) [(0, .long y0), (2, .long y2), (4, .long y4)] rfl ?_
  intro p e s m below meth c C hr hlk
  unfold f_X7_in at hf
  refine ik_lload_n C 0 rfl rfl dX7_in_0 ?_
  refine ik_lload_n C 1 rfl rfl dX7_in_1 ?_
  refine ik_lcmp C dX7_in_2 ?_
  refine ik_if_lt C 17 dX7_in_3 (by decide) (fun hc => ?_) (fun hc => ?_)
  · have hf := ik_pos hc hf
    refine ik_iconst (v := (0 : Int32)) C (by decide) dX7_in_17 ?_
    obtain rfl := Option.some.inj hf
    exact ik_zretR C hr (by decide) hlk dX7_in_18
  · have hf := ik_neg hc hf
    refine ik_lload_n C 0 rfl rfl dX7_in_6 ?_
    refine ik_lload C 2 rfl dX7_in_7 ?_
    refine ik_lcmp C dX7_in_9 ?_
    refine ik_if_gt C 17 dX7_in_10 (by decide) (fun hc => ?_) (fun hc => ?_)
    · have hf := ik_pos hc hf
      refine ik_iconst (v := (0 : Int32)) C (by decide) dX7_in_17 ?_
      obtain rfl := Option.some.inj hf
      exact ik_zretR C hr (by decide) hlk dX7_in_18
    · have hf := ik_neg hc hf
      refine ik_iconst (v := (1 : Int32)) C (by decide) dX7_in_13 ?_
      refine ik_goto C 18 dX7_in_14 (by decide) ?_
      obtain rfl := Option.some.inj hf
      exact ik_zretR C hr (by decide) hlk dX7_in_18
theorem ms_X7_has : ik_S yX7_has RX7 cX7_has 2 (some .boolean) 2 := ⟨wl_11_1, wl_1_5, wl_11_2, by decide +kernel⟩
set_option maxHeartbeats 4000000 in
set_option maxRecDepth 100000 in
theorem c_X7_has (l : Launch) (D : va_G) (cI cS : ClassId) (x0 : Int32) (x1 : Int32) (R : Int32) (hf : f_X7_has x0 x1 = some (R)) : Met l yX7_has (ik_ws yX7_has cX7_has 2 (some .boolean)) ({ frames := 0, cells := 0, slots := 0, locals := 0 } : Room) (ik_P D cI cS [.int x0, .int x1] (wz_none cI cS)) (ik_R (some (.int R))) 0 0 ik_no := by
  refine ik_metR RX7 rfl (by decide) (Nat.le_of_ble_eq_true rfl) [(0, .int x0), (1, .int x1)] rfl ?_
  intro p e s m below meth c C hr hlk
  unfold f_X7_has at hf
  refine ik_iload_n C 0 rfl rfl dX7_has_0 ?_
  refine ik_iload_n C 1 rfl rfl dX7_has_1 ?_
  refine ik_ishr C dX7_has_2 ?_
  refine ik_iconst (v := (1 : Int32)) C (by decide) dX7_has_3 ?_
  refine ik_iand C dX7_has_4 ?_
  refine ik_iconst (v := (1 : Int32)) C (by decide) dX7_has_5 ?_
  refine ik_icmp_ne C 13 dX7_has_6 (by decide) (fun hc => ?_) (fun hc => ?_)
  · have hf := ik_neg hc hf
    refine ik_iconst (v := (0 : Int32)) C (by decide) dX7_has_13 ?_
    obtain rfl := Option.some.inj hf
    exact ik_zretR C hr (by decide) hlk dX7_has_14
  · have hf := ik_pos hc hf
    refine ik_iconst (v := (1 : Int32)) C (by decide) dX7_has_9 ?_
    refine ik_goto C 14 dX7_has_10 (by decide) ?_
    obtain rfl := Option.some.inj hf
    exact ik_zretR C hr (by decide) hlk dX7_has_14
theorem ms_X7_many : ik_S yX7_many RX7 cX7_many 3 (some .int) 1 := ⟨wl_21_23, wl_1_5, wl_22_0, by decide +kernel⟩
set_option maxHeartbeats 4000000 in
set_option maxRecDepth 100000 in
theorem c_X7_many (l : Launch) (D : va_G) (cI cS : ClassId) (x0 : Int32) (R : Int32) (hf : f_X7_many x0 = some (R)) : Met l yX7_many (ik_ws yX7_many cX7_many 3 (some .int)) ({ frames := 0, cells := 0, slots := 0, locals := 0 } : Room) (ik_P D cI cS [.int x0] (wz_none cI cS)) (ik_R (some (.int R))) 0 0 ik_no := by
  refine ik_metR RX7 rfl (by decide) (Nat.le_of_ble_eq_true rfl) [(0, .int x0)] rfl ?_
  intro p e s m below meth c C hr hlk
  unfold f_X7_many at hf
  refine ik_iconst (v := (0 : Int32)) C (by decide) dX7_many_0 ?_
  refine ik_istore_n C [(1, .int (0 : Int32)), (0, .int x0)] rfl (by decide) rfl dX7_many_1 ?_
  refine ik_iconst (v := (0 : Int32)) C (by decide) dX7_many_2 ?_
  refine ik_istore_n C [(2, .int (0 : Int32)), (1, .int (0 : Int32)), (0, .int x0)] rfl (by decide) rfl dX7_many_3 ?_
  have hL_4 : ∀ (n_4 : Nat) (x1_4 : Int32) (x2_4 : Int32), ik_lp2 (b_X7_many_4 x0) n_4 x1_4 x2_4 = some (R) → ik_G p l e ({ frames := 0, cells := 0, slots := 0, locals := 0 } : Room) s m ([.int x0] : List Value).toArray below meth c D ik_no (fun _ => True) 3 0 0 (MQ below (ik_R (some (.int R))) ([.int x0] : List Value).toArray s 0 0 ik_no) 4 [(2, .int x2_4), (1, .int x1_4), (0, .int x0)] [] (wz_none cI cS) := by
    intro n_4
    induction n_4 with
    | zero => intro _ _ hf; exact nomatch hf
    | succ n_4 ih_4 =>
      intro x1_4 x2_4 hf
      replace hf : b_X7_many_4 x0 (ik_lp2 (b_X7_many_4 x0) n_4) x1_4 x2_4 = some (R) := hf
      unfold b_X7_many_4 at hf
      refine ik_iload_n C 0 rfl rfl dX7_many_4 ?_
      refine ik_bipush (v := (16 : Int32)) C (by decide) dX7_many_5 ?_
      refine ik_icmp_ge C 24 dX7_many_7 (by decide) (fun hc => ?_) (fun hc => ?_)
      · have hf := ik_pos hc hf
        refine ik_iload_n C 1 rfl rfl dX7_many_24 ?_
        obtain rfl := Option.some.inj hf
        exact ik_iretR C hr hlk dX7_many_25
      · have hf := ik_neg hc hf
        refine ik_iload_n C 1 rfl rfl dX7_many_10 ?_
        refine ik_iload_n C 2 rfl rfl dX7_many_11 ?_
        refine ik_iload_n C 0 rfl rfl dX7_many_12 ?_
        refine ik_ishr C dX7_many_13 ?_
        refine ik_iconst (v := (1 : Int32)) C (by decide) dX7_many_14 ?_
        refine ik_iand C dX7_many_15 ?_
        refine ik_iadd C dX7_many_16 ?_
        refine ik_istore_n C [(1, .int (x1_4 + ((x0 >>> (x2_4 &&& 31)) &&& (1 : Int32)))), (2, .int x2_4), (0, .int x0)] rfl (by decide) rfl dX7_many_17 ?_
        refine ik_iinc C [(2, .int (x2_4 + (1 : Int32))), (1, .int (x1_4 + ((x0 >>> (x2_4 &&& 31)) &&& (1 : Int32)))), (0, .int x0)] 1 rfl rfl (by decide) rfl dX7_many_18 ?_
        refine ik_goto C 4 dX7_many_21 (by decide) ?_
        exact ik_sub [0, 1, 2] [(2, .int (x2_4 + (1 : Int32))), (1, .int (x1_4 + ((x0 >>> (x2_4 &&& 31)) &&& (1 : Int32)))), (0, .int x0)] rfl (ih_4 (x1_4 + ((x0 >>> (x2_4 &&& 31)) &&& (1 : Int32))) (x2_4 + (1 : Int32)) hf)
  exact hL_4 ik_fu (0 : Int32) (0 : Int32) hf
theorem ms_X7_row : ik_S yX7_row RX7 cX7_row 3 none 2 := ⟨wl_24_23, wl_1_5, wl_25_0, by decide +kernel⟩
set_option maxHeartbeats 4000000 in
set_option maxRecDepth 100000 in
theorem c_X7_row (l : Launch) (D : va_G) (cI cS : ClassId) (h0 h1 : Nat) (a : Nat → Int32) (b : Nat → Int32) (b_r : Nat → Int32) (hf : f_X7_row a b = some (b_r)) : Met l yX7_row (ik_ws yX7_row cX7_row 3 none) ({ frames := 0, cells := 0, slots := 0, locals := 0 } : Room) (ik_P D cI cS [.ref h0, .ref h1] (wz_row cI cS h0 h1 a b)) (ik_Q none D (wz_row cI cS h0 h1 a b_r) (wz_row cI cS h0 h1 a b)) 0 0 (ik_in (wz_row cI cS h0 h1 a b)) := by
  refine ik_metW RX7 rfl (by decide) (Nat.le_of_ble_eq_true rfl) [(0, .ref h0), (1, .ref h1)] rfl ?_
  intro p e s m below meth c C hr hlk
  unfold f_X7_row at hf
  refine ik_iconst (v := (0 : Int32)) C (by decide) dX7_row_0 ?_
  refine ik_istore_n C [(2, .int (0 : Int32)), (0, .ref h0), (1, .ref h1)] rfl (by decide) rfl dX7_row_1 ?_
  have hL_2 : ∀ (n_2 : Nat) (b_2 : Nat → Int32) (x2_2 : Int32), ik_lp2 (b_X7_row_2 a) n_2 b_2 x2_2 = some (b_r) → ik_G p l e ({ frames := 0, cells := 0, slots := 0, locals := 0 } : Room) s m ([.ref h0, .ref h1] : List Value).toArray below meth c D (ik_in (wz_row cI cS h0 h1 a b)) (ik_in (wz_row cI cS h0 h1 a b)) 3 0 0 (MQ below (ik_Q none D (wz_row cI cS h0 h1 a b_r) (wz_row cI cS h0 h1 a b)) ([.ref h0, .ref h1] : List Value).toArray s 0 0 (ik_in (wz_row cI cS h0 h1 a b))) 2 [(2, .int x2_2), (0, .ref h0), (1, .ref h1)] [] (wz_row cI cS h0 h1 a b_2) := by
    intro n_2
    induction n_2 with
    | zero => intro _ _ hf; exact nomatch hf
    | succ n_2 ih_2 =>
      intro b_2 x2_2 hf
      replace hf : b_X7_row_2 a (ik_lp2 (b_X7_row_2 a) n_2) b_2 x2_2 = some (b_r) := hf
      unfold b_X7_row_2 at hf
      refine ik_iload_n C 0 rfl rfl dX7_row_2 ?_
      refine ik_bipush (v := (82 : Int32)) C (by decide) dX7_row_3 ?_
      refine ik_icmp_ge C 20 dX7_row_5 (by decide) (fun hc => ?_) (fun hc => ?_)
      · have hf := ik_pos hc hf
        obtain rfl := Option.some.inj hf
        exact ik_vretW C hr hlk dX7_row_20
      · have hf := ik_neg hc hf
        refine ik_aload_n C 2 rfl rfl dX7_row_8 ?_
        refine ik_iload_n C 0 rfl rfl dX7_row_9 ?_
        refine ik_aload_n C 1 rfl rfl dX7_row_10 ?_
        refine ik_iload_n C 0 rfl rfl dX7_row_11 ?_
        have hg := ik_gdi hf
        have hf := ik_gdk hf
        refine ik_iald C 0 rfl hg dX7_row_12 ?_
        have hg := ik_gdi hf
        have hf := ik_gdk hf
        refine ik_iast C 1 rfl hg (wz_row cI cS h0 h1 a (upd b_2 (x2_2).toNatClampNeg (a (x2_2).toNatClampNeg))) rfl dX7_row_13 ?_
        refine ik_iinc C [(2, .int (x2_2 + (1 : Int32))), (0, .ref h0), (1, .ref h1)] 0 rfl rfl (by decide) rfl dX7_row_14 ?_
        refine ik_goto C 2 dX7_row_17 (by decide) ?_
        exact ik_sub [0, 1, 2] [(2, .int (x2_2 + (1 : Int32))), (0, .ref h0), (1, .ref h1)] rfl (ih_2 (upd b_2 (x2_2).toNatClampNeg (a (x2_2).toNatClampNeg)) (x2_2 + (1 : Int32)) hf)
  exact hL_2 ik_fu b (0 : Int32) hf
theorem mv_X7_becomes : ik_V yX7_becomes RX7 cX7_becomes 4 (some .int) 2 := ⟨wl_12_5, wl_12_6, wl_1_5, wl_12_7, by decide +kernel⟩
set_option maxHeartbeats 4000000 in
set_option maxRecDepth 100000 in
theorem c_X7_becomes (l : Launch) (D : va_G) (cI cS : ClassId) (h0 h1 h2 h3 h4 h5 h6 h7 h8 h9 h10 h11 : Nat) (misKept : Int32) (mtaped : Int32) (msort : Int32) (mfrom : Int32) (mto : Int32) (mvalue : Int32) (mbad : Int32) (mm : Nat → Int32) (mkept : Nat → Int32) (mwas : Nat → Int32) (mother : Nat → Int32) (mfound : Nat → Int32) (mwarm : Nat → Int32) (mdrip : Nat → Int32) (mtape : Nat → Int32) (mbits : Nat → Int32) (msize : Nat → Int32) (mnumber : Nat → Int32) (x1 : Int32) (x2 : Int32) (R : Int32) (mm_r : Nat → Int32) (hf : f_X7_becomes mm x1 x2 = some (R, mm_r)) : Met l yX7_becomes (ik_ws yX7_becomes cX7_becomes 4 (some .int)) ({ frames := 0, cells := 0, slots := 0, locals := 0 } : Room) (ik_P D cI cS [.ref h0, .int x1, .int x2] (wz_X7 cI cS h0 h1 h2 h3 h4 h5 h6 h7 h8 h9 h10 h11 misKept mtaped msort mfrom mto mvalue mbad mm mkept mwas mother mfound mwarm mdrip mtape mbits msize mnumber)) (ik_Q (some (.int R)) D (wz_X7 cI cS h0 h1 h2 h3 h4 h5 h6 h7 h8 h9 h10 h11 misKept mtaped msort mfrom mto mvalue mbad mm_r mkept mwas mother mfound mwarm mdrip mtape mbits msize mnumber) (wz_X7 cI cS h0 h1 h2 h3 h4 h5 h6 h7 h8 h9 h10 h11 misKept mtaped msort mfrom mto mvalue mbad mm mkept mwas mother mfound mwarm mdrip mtape mbits msize mnumber)) 0 0 (ik_in (wz_X7 cI cS h0 h1 h2 h3 h4 h5 h6 h7 h8 h9 h10 h11 misKept mtaped msort mfrom mto mvalue mbad mm mkept mwas mother mfound mwarm mdrip mtape mbits msize mnumber)) := by
  refine ik_metW RX7 rfl (by decide) (Nat.le_of_ble_eq_true rfl) [(0, .ref h0), (1, .int x1), (2, .int x2)] rfl ?_
  intro p e s m below meth c C hr hlk
  unfold f_X7_becomes at hf
  refine ik_aload_n C 0 rfl rfl dX7_becomes_0 ?_
  refine ik_get C inlX7 0 rfl rfl 0 (by decide) wl_4_12 rfl (v := .ref h1) rfl dX7_becomes_1 ?_
  refine ik_iload_n C 1 rfl rfl dX7_becomes_4 ?_
  have hg := ik_gdi hf
  have hf := ik_gdk hf
  refine ik_iald C 1 rfl hg dX7_becomes_5 ?_
  refine ik_istore_n C [(3, .int (mm (x1).toNatClampNeg)), (0, .ref h0), (1, .int x1), (2, .int x2)] rfl (by decide) rfl dX7_becomes_6 ?_
  refine ik_aload_n C 1 rfl rfl dX7_becomes_7 ?_
  refine ik_get C inlX7 0 rfl rfl 0 (by decide) wl_4_12 rfl (v := .ref h1) rfl dX7_becomes_8 ?_
  refine ik_iload_n C 2 rfl rfl dX7_becomes_11 ?_
  refine ik_iload_n C 3 rfl rfl dX7_becomes_12 ?_
  have hg := ik_gdi hf
  have hf := ik_gdk hf
  refine ik_iast C 1 rfl hg (wz_X7 cI cS h0 h1 h2 h3 h4 h5 h6 h7 h8 h9 h10 h11 misKept mtaped msort mfrom mto mvalue mbad (upd mm (x1).toNatClampNeg x2) mkept mwas mother mfound mwarm mdrip mtape mbits msize mnumber) rfl dX7_becomes_13 ?_
  refine ik_iload_n C 0 rfl rfl dX7_becomes_14 ?_
  obtain ⟨rfl, rfl⟩ := ik_e2 hf
  exact ik_iretW C hr hlk dX7_becomes_15
theorem ms_X7_isCell : ik_S yX7_isCell RX7 cX7_isCell 1 (some .boolean) 1 := ⟨wl_7_1, wl_1_5, wl_7_2, by decide +kernel⟩
set_option maxHeartbeats 4000000 in
set_option maxRecDepth 100000 in
theorem c_X7_isCell (l : Launch) (D : va_G) (cI cS : ClassId) (x0 : Int32) (R : Int32) (hf : f_X7_isCell x0 = some (R)) : Met l yX7_isCell (ik_ws yX7_isCell cX7_isCell 1 (some .boolean)) ({ frames := 1, cells := 0, slots := 0, locals := 25 } : Room) (ik_P D cI cS [.int x0] (wz_none cI cS)) (ik_R (some (.int R))) 0 0 ik_no := by
  refine ik_metR RX7 rfl (by decide) (Nat.le_of_ble_eq_true rfl) [(0, .int x0)] rfl ?_
  intro p e s m below meth c C hr hlk
  unfold f_X7_isCell at hf
  refine ik_iload_n C 0 rfl rfl dX7_isCell_0 ?_
  refine ik_i2l C dX7_isCell_1 ?_
  refine ik_lconst (v := (0 : Int64)) C (by decide) dX7_isCell_2 ?_
  refine ik_ldc2 C wl_7_3 dX7_isCell_3 ?_
  obtain ⟨r1, hc1, hf⟩ := ik_b1s hf
  have hM := (c_X7_in l D cI cS (x0).toInt64 (0 : Int64) (47 : Int64) r1 hc1)
  refine ik_goR (ik_runS (st := []) (As := [.long (x0).toInt64, .long (0 : Int64), .long (47 : Int64)]) C hM ms_X7_in wl_6_21 ⟨rfl, rfl, Nat.le_of_ble_eq_true rfl, Nat.le_of_ble_eq_true rfl⟩ [] rfl (by decide +kernel) rfl rfl (Nat.le_of_ble_eq_true rfl) dX7_isCell_6 ⟨Nat.zero_le _, Nat.zero_le _⟩) rfl ?_
  have hz := ik_gzi hf
  have hf := ik_gzk hf
  obtain rfl := Option.some.inj hf
  exact ik_zretR C hr hz.1 hlk dX7_isCell_9
theorem mv_X7_isBlock : ik_V yX7_isBlock RX7 cX7_isBlock 2 (some .boolean) 1 := ⟨wl_9_18, wl_9_19, wl_1_5, wl_9_20, by decide +kernel⟩
set_option maxHeartbeats 4000000 in
set_option maxRecDepth 100000 in
theorem c_X7_isBlock (l : Launch) (D : va_G) (cI cS : ClassId) (h0 h1 h2 h3 h4 h5 h6 h7 h8 h9 h10 h11 : Nat) (misKept : Int32) (mtaped : Int32) (msort : Int32) (mfrom : Int32) (mto : Int32) (mvalue : Int32) (mbad : Int32) (mm : Nat → Int32) (mkept : Nat → Int32) (mwas : Nat → Int32) (mother : Nat → Int32) (mfound : Nat → Int32) (mwarm : Nat → Int32) (mdrip : Nat → Int32) (mtape : Nat → Int32) (mbits : Nat → Int32) (msize : Nat → Int32) (mnumber : Nat → Int32) (x1 : Int32) (R : Int32) (hf : f_X7_isBlock mm x1 = some (R)) : Met l yX7_isBlock (ik_ws yX7_isBlock cX7_isBlock 2 (some .boolean)) ({ frames := 1, cells := 0, slots := 0, locals := 25 } : Room) (ik_P D cI cS [.ref h0, .int x1] (wz_X7 cI cS h0 h1 h2 h3 h4 h5 h6 h7 h8 h9 h10 h11 misKept mtaped msort mfrom mto mvalue mbad mm mkept mwas mother mfound mwarm mdrip mtape mbits msize mnumber)) (ik_R (some (.int R))) 0 0 ik_no := by
  refine ik_metR RX7 rfl (by decide) (Nat.le_of_ble_eq_true rfl) [(0, .ref h0), (1, .int x1)] rfl ?_
  intro p e s m below meth c C hr hlk
  unfold f_X7_isBlock at hf
  refine ik_iload_n C 1 rfl rfl dX7_isBlock_0 ?_
  refine ik_i2l C dX7_isBlock_1 ?_
  refine ik_lconst (v := (0 : Int64)) C (by decide) dX7_isBlock_2 ?_
  refine ik_aload_n C 0 rfl rfl dX7_isBlock_3 ?_
  refine ik_get C inlX7 0 rfl rfl 0 (by decide) wl_4_12 rfl (v := .ref h1) rfl dX7_isBlock_4 ?_
  refine ik_iconst (v := (5 : Int32)) C (by decide) dX7_isBlock_7 ?_
  refine ik_iald C 1 rfl (ik_vin (by decide)) dX7_isBlock_8 ?_
  refine ik_iconst (v := (1 : Int32)) C (by decide) dX7_isBlock_9 ?_
  refine ik_isub C dX7_isBlock_10 ?_
  refine ik_i2l C dX7_isBlock_11 ?_
  obtain ⟨r1, hc1, hf⟩ := ik_b1s hf
  have hM := (c_X7_in l D cI cS (x1).toInt64 (0 : Int64) (((mm ((5 : Int32)).toNatClampNeg) - (1 : Int32))).toInt64 r1 hc1)
  refine ik_goR (ik_runS (st := []) (As := [.long (x1).toInt64, .long (0 : Int64), .long (((mm ((5 : Int32)).toNatClampNeg) - (1 : Int32))).toInt64]) C hM ms_X7_in wl_6_21 ⟨rfl, rfl, Nat.le_of_ble_eq_true rfl, Nat.le_of_ble_eq_true rfl⟩ [] rfl (by decide +kernel) rfl rfl (Nat.le_of_ble_eq_true rfl) dX7_isBlock_12 ⟨Nat.zero_le _, Nat.zero_le _⟩) rfl ?_
  have hz := ik_gzi hf
  have hf := ik_gzk hf
  obtain rfl := Option.some.inj hf
  exact ik_zretR C hr hz.1 hlk dX7_isBlock_15
