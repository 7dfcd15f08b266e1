/-! the items of a text -/
section
variable {T : Nat} {tby m mm : Nat → Int32} {hour cold air rub z : Int32} {N : Nat} {kd cl gr oc : Nat → Int32} {lit : Int32} {ccell cpow sp : Nat → Int32}
theorem isn_t {k w lo hi : Nat} (h : isn k w lo hi = true) : k = 2 ∧ lo ≤ w ∧ w ≤ hi := by
  unfold isn at h
  rw [Bool.and_eq_true, Bool.and_eq_true, decide_eq_true_eq, decide_eq_true_eq, decide_eq_true_eq] at h
  exact ⟨h.1, h.2.1, h.2.2⟩
theorem neg_nI {w : Nat} (h : w ≤ 20) : (-(nI w)).toInt = -(w : Int) := by
  rw [Int32.toInt_neg, nI_toInt (by omega)]
  exact pu_bm (by omega) (by omega)
theorem cold_both (hT : T ≤ 120) (hB : BY tby m) {tok sta en val tok1 val1 sort1 x1 : Int32} {f1 e1 : Nat} (ha : f_X4_advance tok sta en val (nI T) tby = some (tok1, nI f1, nI e1, val1)) (tk1 : TK T m tok1 f1 e1 val1 sort1 x1) (hM : MS mm hour cold air rub z N kd cl gr lit ccell cpow sp) (hC : CI cold ccell cpow) :
    ∃ r tok' f' e' val' sort' w' bad' cold' mm', f_X4_readCold tok sta en val (nI T) tby cold = some (r, tok', nI f', nI e', val', cold') ∧ f_X7_coldItem (nI T) sort1 (nI f1) (nI e1) x1 0 mm m = some (sort', nI f', nI e', w', bad', mm') ∧ ((r = 0 ∧ bad' = 1 ∧ f' ≤ T) ∨ (r = 1 ∧ bad' = 0 ∧ f1 ≤ f' ∧ TK T m tok' f' e' val' sort' w' ∧ MS mm' hour cold' air rub z N kd cl gr lit ccell cpow sp ∧ CI cold' ccell cpow)) := by
  have tkk1 := tk1
  obtain ⟨hfe1, heT1, k1, w1, hk1, rfl, rfl, hw1, rfl, hv1, hfl1, hs1⟩ := tk1
  have hsg := m_sign (e := e1) hT hB hk1 (fun h => (hs1 h).1) (c := 45) (x := 45) (by omega) rfl
  unfold f_X4_readCold f_X7_coldItem
  rw [ha, pu_b4, hsg, pu_b1]
  by_cases g : k1 = 4
  · have hcy := (hs1 (by omega)).2.2.mp g
    rw [if_pos (show nI k1 = 4 by rw [g]; rfl), if_neg (show ¬ (1 : Int32) = 0 by decide), decide_eq_true (show 3 ≤ k1 by omega), decide_eq_true hcy, if_neg (by decide)]
    obtain ⟨tok2, f2, e2, val2, sort2, x2, p2, tk2, a2, b2⟩ := tok_both hT hB (e0 := e1) heT1 (nI k1) (nI f1) val1 (nI (min k1 3)) (nI f1) (nI w1)
    have tkk2 := tk2
    obtain ⟨hfe2, heT2, k2, w2, hk2, rfl, rfl, hw2, rfl, hv2, hfl2, hs2⟩ := tk2
    rw [a2, pu_b4, b2, pu_b4, w_isNumber (lo := 0) (hi := 20) (x := 0) (y := 20) hk2 hv2 rfl rfl (by omega) (by omega), pu_b1, m_number (lo := 0) (hi := 20) (x := 0) (y := 20) hk2 hw2 rfl rfl (by omega) (by omega)]
    cases hi : isn k2 w2 0 20
    · rw [if_pos bI_f, if_neg (show ¬ false = true by decide), pu_b6, if_neg (by decide), m_tellsB, pu_b1]
      exact ⟨_, _, _, _, _, _, _, _, _, _, rfl, rfl, Or.inl ⟨rfl, rfl, by omega⟩⟩
    · obtain ⟨i1, i2, i3⟩ := isn_t hi
      obtain ⟨tok3, f3, e3, val3, sort3, x3, p3, tk3, a3, b3⟩ := tok_both hT hB (e0 := e2) heT2 (nI k2) (nI f2) val2 (nI (min k2 3)) (nI f2) (nI w2)
      have tkk3 := tk3
      obtain ⟨hfe3, heT3, k3, w3, hk3, rfl, rfl, hw3, rfl, hv3, hfl3, hs3⟩ := tk3
      rw [if_neg (show ¬ bI true = 0 by decide), if_neg (show ¬ (1 : Int32) = 0 by decide), a3, pu_b4, if_pos rfl, b3, pu_b4, pu_b6, if_neg (by decide), show f_X7_tells 0 mm 1 (-nI w2) = some (upd mm 1 (-nI w2)) from m_tells0 (i := 1) (by omega) _, pu_b1, hv2 i1, show min 1000 w2 = w2 by omega]
      exact ⟨_, _, _, _, _, _, _, _, _, _, rfl, rfl, Or.inr ⟨rfl, rfl, by omega, tkk3, hM.u_cold _, ⟨by rw [neg_nI (by omega)]; omega, hC.2⟩⟩⟩
  · have hns : (decide (3 ≤ k1) && decide (cy m f1 = 45)) = false := by
      by_cases g3 : 3 ≤ k1
      · rw [decide_eq_false (fun h => g ((hs1 g3).2.2.mpr h)), Bool.and_false]
      · rw [decide_eq_false g3, Bool.false_and]
    rw [if_neg (show ¬ nI k1 = 4 from fun h => g ((nI_eq (b := 4) (by omega) (by omega)).mp h)), if_pos (show (0 : Int32) = 0 from rfl), hns, if_pos bI_f, w_isNumber (lo := 0) (hi := 20) (x := 0) (y := 20) hk1 hv1 rfl rfl (by omega) (by omega), pu_b1, m_number (lo := 0) (hi := 20) (x := 0) (y := 20) hk1 hw1 rfl rfl (by omega) (by omega)]
    cases hi : isn k1 w1 0 20
    · rw [if_pos bI_f, if_neg (show ¬ false = true by decide), pu_b6, if_pos bI_f, m_tellsB, pu_b1]
      exact ⟨_, _, _, _, _, _, _, _, _, _, rfl, rfl, Or.inl ⟨rfl, rfl, by omega⟩⟩
    · obtain ⟨i1, i2, i3⟩ := isn_t hi
      obtain ⟨tok3, f3, e3, val3, sort3, x3, p3, tk3, a3, b3⟩ := tok_both hT hB (e0 := e1) heT1 (nI k1) (nI f1) val1 (nI (min k1 3)) (nI f1) (nI w1)
      have tkk3 := tk3
      obtain ⟨hfe3, heT3, k3, w3, hk3, rfl, rfl, hw3, rfl, hv3, hfl3, hs3⟩ := tk3
      rw [if_neg (show ¬ bI true = 0 by decide), if_pos (show (0 : Int32) = 0 from rfl), a3, pu_b4, if_pos rfl, b3, pu_b4, pu_b6, if_pos bI_f, show f_X7_tells 0 mm 1 (nI w1) = some (upd mm 1 (nI w1)) from m_tells0 (i := 1) (by omega) _, pu_b1, hv1 i1, show min 1000 w1 = w1 by omega]
      exact ⟨_, _, _, _, _, _, _, _, _, _, rfl, rfl, Or.inr ⟨rfl, rfl, by omega, tkk3, hM.u_cold _, ⟨by rw [nI_toInt (by omega)]; omega, hC.2⟩⟩⟩
end
