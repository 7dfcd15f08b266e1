/-! the candle of a text -/
section
variable {T : Nat} {tby m mm : Nat → Int32} {hour cold air rub z : Int32} {N : Nat} {kd cl gr oc : Nat → Int32} {lit : Int32} {ccell cpow sp : Nat → Int32}
theorem m_y1 (b : Nat) : nI (6 + 3 * b) + 1 = nI (7 + 3 * b) := by rw [nI_1, show 6 + 3 * b + 1 = 7 + 3 * b by omega]
theorem m_y2 (b : Nat) : nI (6 + 3 * b) + 2 = nI (8 + 3 * b) := by rw [show (2 : Int32) = nI 2 from rfl, nI_add, show 6 + 3 * b + 2 = 8 + 3 * b by omega]
theorem CI.cell (h : CI cold ccell cpow) {j c : Nat} (hc : c < 48) : CI cold (upd ccell j (nI c)) cpow := ⟨h.1, fun i hi => by
  by_cases e : i = j
  · rw [e, upd_eq]; exact ⟨⟨c, hc, rfl⟩, (h.2 j (by omega)).2⟩
  · rw [upd_ne e]; exact h.2 i hi⟩
theorem CI.pow (h : CI cold ccell cpow) {j q : Nat} (hq : q ≤ 30) : CI cold ccell (upd cpow j (nI q)) := ⟨h.1, fun i hi => by
  by_cases e : i = j
  · rw [e, upd_eq]; exact ⟨(h.2 j (by omega)).1, q, hq, rfl⟩
  · rw [upd_ne e]; exact h.2 i hi⟩
theorem candle_both (hT : T ≤ 120) (hB : BY tby m) {tok sta en val tok1 val1 sort1 x1 : Int32} {f1 e1 : Nat} (ha : f_X4_advance tok sta en val (nI T) tby = some (tok1, nI f1, nI e1, val1)) (tk1 : TK T m tok1 f1 e1 val1 sort1 x1) (hM : MS mm hour cold air rub z N kd cl gr lit ccell cpow sp) (hC : CI cold ccell cpow) :
    ∃ r tok' f' e' val' sort' w' bad' lit' ccell' cpow' mm', f_X4_readCandle tok sta en val (nI T) tby lit ccell cpow = some (r, tok', nI f', nI e', val', lit', ccell', cpow') ∧ f_X7_candleItem (nI T) sort1 (nI f1) (nI e1) x1 0 mm m = some (sort', nI f', nI e', w', bad', mm') ∧ ((r = 0 ∧ bad' = 1 ∧ f' ≤ T) ∨ (r = 1 ∧ bad' = 0 ∧ f1 ≤ f' ∧ TK T m tok' f' e' val' sort' w' ∧ MS mm' hour cold air rub z N kd cl gr lit' ccell' cpow' sp ∧ CI cold ccell' cpow')) := by
  have tkk1 := tk1
  obtain ⟨hfe1, heT1, k1, w1, hk1, rfl, rfl, hw1, rfl, hv1, hfl1, hs1⟩ := tk1
  unfold f_X4_readCandle f_X7_candleItem
  rw [ha, pu_b4, w_isNumber (lo := 0) (hi := 5) (x := 0) (y := 5) hk1 hv1 rfl rfl (by omega) (by omega), pu_b1, m_number (lo := 0) (hi := 5) (x := 0) (y := 5) hk1 hw1 rfl rfl (by omega) (by omega)]
  cases hi1 : isn k1 w1 0 5
  · rw [if_pos bI_f, if_neg (show ¬ false = true by decide), pu_b6, if_neg (show ¬ (1 : Int32) = 0 by decide), m_numberB, pu_b6, m_tellsB, pu_b1, m_takesB, pu_b5, if_pos (show (0 : Int32) = 0 from rfl), m_takesB, pu_b5, if_pos (show (0 : Int32) = 0 from rfl), m_tellsB, pu_b1]
    exact ⟨_, _, _, _, _, _, _, _, _, _, _, _, rfl, rfl, Or.inl ⟨rfl, rfl, by omega⟩⟩
  · obtain ⟨i1, i2, i3⟩ := isn_t hi1
    have ev1 : val1 = nI w1 := by rw [hv1 i1, show min 1000 w1 = w1 by omega]
    subst ev1
    obtain ⟨tok2, f2, e2, val2, sort2, x2, p2, tk2, a2, b2⟩ := tok_both hT hB (e0 := e1) heT1 (nI k1) (nI f1) (nI w1) (nI (min k1 3)) (nI f1) (nI w1)
    have tkk2 := tk2
    obtain ⟨hfe2, heT2, k2, w2, hk2, rfl, rfl, hw2, rfl, hv2, hfl2, hs2⟩ := tk2
    rw [if_neg (show ¬ bI true = 0 by decide), if_pos rfl, a2, pu_b4, b2, pu_b4, pu_b6, if_pos (show (0 : Int32) = 0 from rfl), w_isWord hT hB hk2 hfe2 heT2 (wi := 3) (by omega), pu_b1, m_takes hT hk2 hfe2 heT2 (wi := 20) (by omega), wd_eq (a := 20) (b := 3) rfl]
    cases hw2' : (decide (k2 = 1) && wdB m f2 e2 3)
    · rw [if_pos bI_f, if_pos bI_f, pu_b5, if_pos (show (0 : Int32) = 0 from rfl), m_numberB, pu_b6, m_tellsB, pu_b1, m_takesB, pu_b5, if_pos (show (0 : Int32) = 0 from rfl), m_takesB, pu_b5, if_pos (show (0 : Int32) = 0 from rfl), m_tellsB, pu_b1]
      exact ⟨_, _, _, _, _, _, _, _, _, _, _, _, rfl, rfl, Or.inl ⟨rfl, rfl, by omega⟩⟩
    · rw [if_neg (show ¬ bI true = 0 by decide), if_neg (show ¬ bI true = 0 by decide)]
      obtain ⟨tok3, f3, e3, val3, sort3, x3, p3, tk3, a3, b3⟩ := tok_both hT hB (e0 := e2) heT2 (nI k2) (nI f2) val2 (nI (min k2 3)) (nI f2) (nI w2)
      have tkk3 := tk3
      obtain ⟨hfe3, heT3, k3, w3, hk3, rfl, rfl, hw3, rfl, hv3, hfl3, hs3⟩ := tk3
      rw [a3, pu_b4, b3, pu_b4, pu_b5, if_neg (show ¬ (1 : Int32) = 0 by decide), w_isNumber (lo := 0) (hi := 47) (x := 0) (y := 47) hk3 hv3 rfl rfl (by omega) (by omega), pu_b1, m_number (lo := 0) (hi := 47) (x := 0) (y := 47) hk3 hw3 rfl rfl (by omega) (by omega)]
      cases hi3 : isn k3 w3 0 47
      · rw [if_pos bI_f, if_neg (show ¬ false = true by decide), pu_b6, m_tellsB, pu_b1, m_takesB, pu_b5, if_pos (show (0 : Int32) = 0 from rfl), m_takesB, pu_b5, if_pos (show (0 : Int32) = 0 from rfl), m_tellsB, pu_b1]
        exact ⟨_, _, _, _, _, _, _, _, _, _, _, _, rfl, rfl, Or.inl ⟨rfl, rfl, by omega⟩⟩
      · obtain ⟨j1, j2, j3⟩ := isn_t hi3
        have ev3 : val3 = nI w3 := by rw [hv3 j1, show min 1000 w3 = w3 by omega]
        subst ev3
        obtain ⟨tok4, f4, e4, val4, sort4, x4, p4, tk4, a4, b4⟩ := tok_both hT hB (e0 := e3) heT3 (nI k3) (nI f3) (nI w3) (nI (min k3 3)) (nI f3) (nI w3)
        have tkk4 := tk4
        obtain ⟨hfe4, heT4, k4, w4, hk4, rfl, rfl, hw4, rfl, hv4, hfl4, hs4⟩ := tk4
        have hM2 := hM.u_cc (b := w1) (by omega) (nI w3)
        have hC2 := hC.cell (j := w1) (c := w3) (by omega)
        rw [if_neg (show ¬ bI true = 0 by decide), if_pos rfl, pu_gdN (show w1 < 6 by omega) (by omega), nI_clamp (show w1 < 2 ^ 31 by omega), a4, pu_b4, b4, pu_b4, pu_b6, pu_y0, m_tells0 (show 6 + 3 * w1 < 82 by omega), pu_b1, w_isWord hT hB hk4 hfe4 heT4 (wi := 4) (by omega), pu_b1, m_takes hT hk4 hfe4 heT4 (wi := 21) (by omega), wd_eq (a := 21) (b := 4) rfl]
        cases hw4' : (decide (k4 = 1) && wdB m f4 e4 4)
        · rw [if_pos bI_f, if_pos bI_f, pu_b5, if_pos (show (0 : Int32) = 0 from rfl), w_isWord hT hB hk4 hfe4 heT4 (wi := 5) (by omega), pu_b1, m_takes hT hk4 hfe4 heT4 (wi := 22) (by omega), wd_eq (a := 22) (b := 5) rfl]
          cases hw5' : (decide (k4 = 1) && wdB m f4 e4 5)
          · obtain ⟨y, s1, s2, s3⟩ := w_setLit (lit := lit) (x := bI false) (j := w1) (by omega)
            rw [s1, pu_b1, if_pos bI_f, if_pos bI_f, pu_b5, if_pos (show (0 : Int32) = 0 from rfl), m_y2, m_tells0 (show 8 + 3 * w1 < 82 by omega), pu_b1]
            exact ⟨_, _, _, _, _, _, _, _, _, _, _, _, rfl, rfl, Or.inr ⟨rfl, rfl, by omega, tkk4, hM2.u_lit (b := w1) (by omega) (p := false) s2 (fun i hi q => s3 i (by omega) q), hC2⟩⟩
          · obtain ⟨y, s1, s2, s3⟩ := w_setLit (lit := lit) (x := bI true) (j := w1) (by omega)
            obtain ⟨tok5, f5, e5, val5, sort5, x5, p5, tk5, a5, b5⟩ := tok_both hT hB (e0 := e4) heT4 (nI k4) (nI f4) val4 (nI (min k4 3)) (nI f4) (nI w4)
            have tkk5 := tk5
            obtain ⟨hfe5, heT5, k5, w5, hk5, rfl, rfl, hw5, rfl, hv5, hfl5, hs5⟩ := tk5
            rw [s1, pu_b1, if_neg (show ¬ bI true = 0 by decide), if_neg (show ¬ bI true = 0 by decide), a5, pu_b4, b5, pu_b4, pu_b5, if_neg (show ¬ (1 : Int32) = 0 by decide), m_y2, m_tells0 (show 8 + 3 * w1 < 82 by omega), pu_b1]
            exact ⟨_, _, _, _, _, _, _, _, _, _, _, _, rfl, rfl, Or.inr ⟨rfl, rfl, by omega, tkk5, hM2.u_lit (b := w1) (by omega) (p := true) s2 (fun i hi q => s3 i (by omega) q), hC2⟩⟩
        · rw [if_neg (show ¬ bI true = 0 by decide), if_neg (show ¬ bI true = 0 by decide)]
          obtain ⟨tok5, f5, e5, val5, sort5, x5, p5, tk5, a5, b5⟩ := tok_both hT hB (e0 := e4) heT4 (nI k4) (nI f4) val4 (nI (min k4 3)) (nI f4) (nI w4)
          have tkk5 := tk5
          obtain ⟨hfe5, heT5, k5, w5, hk5, rfl, rfl, hw5, rfl, hv5, hfl5, hs5⟩ := tk5
          rw [a5, pu_b4, b5, pu_b4, pu_b5, if_neg (show ¬ (1 : Int32) = 0 by decide), w_isNumber (lo := 0) (hi := 30) (x := 0) (y := 30) hk5 hv5 rfl rfl (by omega) (by omega), pu_b1, m_number (lo := 0) (hi := 30) (x := 0) (y := 30) hk5 hw5 rfl rfl (by omega) (by omega)]
          cases hi5 : isn k5 w5 0 30
          · rw [if_pos bI_f, if_neg (show ¬ false = true by decide), pu_b6, m_tellsB, pu_b1, m_takesB, pu_b5, if_pos (show (0 : Int32) = 0 from rfl), m_tellsB, pu_b1]
            exact ⟨_, _, _, _, _, _, _, _, _, _, _, _, rfl, rfl, Or.inl ⟨rfl, rfl, by omega⟩⟩
          · obtain ⟨l1, l2, l3⟩ := isn_t hi5
            have ev5 : val5 = nI w5 := by rw [hv5 l1, show min 1000 w5 = w5 by omega]
            subst ev5
            have hM3 := hM2.u_cp (b := w1) (by omega) (nI w5)
            have hC3 := hC2.pow (j := w1) (q := w5) (by omega)
            obtain ⟨tok6, f6, e6, val6, sort6, x6, p6, tk6, a6, b6⟩ := tok_both hT hB (e0 := e5) heT5 (nI k5) (nI f5) (nI w5) (nI (min k5 3)) (nI f5) (nI w5)
            have tkk6 := tk6
            obtain ⟨hfe6, heT6, k6, w6, hk6, rfl, rfl, hw6, rfl, hv6, hfl6, hs6⟩ := tk6
            rw [if_neg (show ¬ bI true = 0 by decide), if_pos rfl, pu_gdN (show w1 < 6 by omega) (by omega), a6, pu_b4, b6, pu_b4, pu_b6, m_y1, m_tells0 (show 7 + 3 * w1 < 82 by omega), pu_b1, w_isWord hT hB hk6 hfe6 heT6 (wi := 5) (by omega), pu_b1, m_takes hT hk6 hfe6 heT6 (wi := 22) (by omega), wd_eq (a := 22) (b := 5) rfl]
            cases hw6' : (decide (k6 = 1) && wdB m f6 e6 5)
            · obtain ⟨y, s1, s2, s3⟩ := w_setLit (lit := lit) (x := bI false) (j := w1) (by omega)
              rw [s1, pu_b1, if_pos bI_f, if_pos bI_f, pu_b5, if_pos (show (0 : Int32) = 0 from rfl), m_y2, m_tells0 (show 8 + 3 * w1 < 82 by omega), pu_b1]
              exact ⟨_, _, _, _, _, _, _, _, _, _, _, _, rfl, rfl, Or.inr ⟨rfl, rfl, by omega, tkk6, hM3.u_lit (b := w1) (by omega) (p := false) s2 (fun i hi q => s3 i (by omega) q), hC3⟩⟩
            · obtain ⟨y, s1, s2, s3⟩ := w_setLit (lit := lit) (x := bI true) (j := w1) (by omega)
              obtain ⟨tok7, f7, e7, val7, sort7, x7, p7, tk7, a7, b7⟩ := tok_both hT hB (e0 := e6) heT6 (nI k6) (nI f6) val6 (nI (min k6 3)) (nI f6) (nI w6)
              have tkk7 := tk7
              obtain ⟨hfe7, heT7, k7, w7, hk7, rfl, rfl, hw7, rfl, hv7, hfl7, hs7⟩ := tk7
              rw [s1, pu_b1, if_neg (show ¬ bI true = 0 by decide), if_neg (show ¬ bI true = 0 by decide), a7, pu_b4, b7, pu_b4, pu_b5, if_neg (show ¬ (1 : Int32) = 0 by decide), m_y2, m_tells0 (show 8 + 3 * w1 < 82 by omega), pu_b1]
              exact ⟨_, _, _, _, _, _, _, _, _, _, _, _, rfl, rfl, Or.inr ⟨rfl, rfl, by omega, tkk7, hM3.u_lit (b := w1) (by omega) (p := true) s2 (fun i hi q => s3 i (by omega) q), hC3⟩⟩
end
