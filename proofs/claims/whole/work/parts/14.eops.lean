/-! small calls -/
theorem m_becomes {mm : Nat → Int32} {i : Nat} (hi : i < 82) (v : Int32) : f_X7_becomes mm (nI i) v = some (mm i, upd mm i v) := by
  unfold f_X7_becomes
  rw [pu_gdN hi (by omega), pu_gdN hi (by omega), nI_clamp (by omega)]
theorem wi_m20 (x : Int32) : f_X6_isWithin x (-20) 20 = some (bI (wn x (-20) 20)) := pu_within x (-20) 20
theorem in_m20 (x : Int32) : f_X7_in x.toInt64 (-20) 20 = some (bI (wn x (-20) 20)) := pu_in32 x (-20) 20
def lf (lit : Int32) (cpow : Nat → Int32) : Nat → Int32
  | 0 => 0
  | j + 1 => if bt lit j then lf lit cpow j + cpow j else lf lit cpow j
theorem w_light {lit : Int32} {cpow : Nat → Int32} : f_X0_lightOf cpow lit = some (lf lit cpow 6) := by
  unfold f_X0_lightOf
  refine lp_for2 (lf lit cpow) nI (some (lf lit cpow 6)) 6 (fun rc j hj => ?_) (fun rc => ?_) (pu_fu (by omega))
  · unfold b_X0_lightOf_4
    rw [if_neg (show ¬ (6 : Int32) ≤ nI j from nI_ge (b := 6) hj (by omega)), bt_us (by omega), pu_ifb, pu_gdN hj (by omega), nI_clamp (by omega), nI_1]
    show _ = rc (if bt lit j = true then _ else _) _
    cases bt lit j <;> rfl
  · unfold b_X0_lightOf_4
    rw [if_pos (show (6 : Int32) ≤ nI 6 from nI_le (a := 6) (by omega) (by omega))]
theorem m_light {mm : Nat → Int32} {hour cold air rub z : Int32} {N : Nat} {kd cl gr : Nat → Int32} {lit : Int32} {ccell cpow sp : Nat → Int32} (h : MS mm hour cold air rub z N kd cl gr lit ccell cpow sp) : f_X7_light mm = some (lf lit cpow 6) := by
  unfold f_X7_light
  refine lp_for2 (lf lit cpow) nI (some (lf lit cpow 6)) 6 (fun rc j hj => ?_) (fun rc => ?_) (pu_fu (by omega))
  · unfold b_X7_light_4
    rw [if_neg (show ¬ (6 : Int32) ≤ nI j from nI_ge (b := 6) hj (by omega)), m_isLit h hj, pu_b1, pu_ifb, pu_y1, pu_gdN (show 7 + 3 * j < 82 by omega) (by omega), nI_clamp (by omega), h.cp j hj, nI_1, Int32.add_zero]
    show _ = rc (if bt lit j = true then _ else _) _
    cases bt lit j <;> rfl
  · unfold b_X7_light_4
    rw [if_pos (show (6 : Int32) ≤ nI 6 from nI_le (a := 6) (by omega) (by omega))]
theorem g_light : hy_light Gd := by
  intro k isk fnd nhour nair nrub nz nnb nkd ncl ngr noc nlit ncold nccell ncpow nsp nwm ndr khour kair krub kz knb kkd kcl kgr koc klit kcold kccell kcpow ksp kwm kdr thour tair trub tz tnb tkd tcl tgr toc tlit tcold tccell tcpow tsp twm tdr tok sta en val tsize tby sbits ssize snum misKept mtaped msort mfrom mto mvalue mbad mm mkept mwas mother mfound mwarm mdrip mtape mbits msize mnumber hk hG
  obtain ⟨⟨N, A, rfl, rfl, hA, hM, hV, hS, hC⟩, hK, hF, hT, hSh⟩ := hG
  have hN := hM.hN
  have hk1 := gd_k k
  unfold f_X6_light
  rw [w_light, pu_b1, m_light hM]
  exact ⟨_, rfl, rfl, ⟨N, A, rfl, rfl, by omega, hM, hV, hS, hC⟩, hK.mono hk1, hF, hT, hSh⟩
theorem g_on : hy_on Gd := by
  intro k isk fnd nhour nair nrub nz nnb nkd ncl ngr noc nlit ncold nccell ncpow nsp nwm ndr khour kair krub kz knb kkd kcl kgr koc klit kcold kccell kcpow ksp kwm kdr thour tair trub tz tnb tkd tcl tgr toc tlit tcold tccell tcpow tsp twm tdr tok sta en val tsize tby sbits ssize snum misKept mtaped msort mfrom mto mvalue mbad mm mkept mwas mother mfound mwarm mdrip mtape mbits msize mnumber x1 hk hG
  obtain ⟨⟨N, A, rfl, rfl, hA, hM, hV, hS, hC⟩, hK, hF, hT, hSh⟩ := hG
  have hN := hM.hN
  have hk1 := gd_k k
  unfold f_X6_on f_X7_on
  rw [pu_6cell, pu_7cell, pu_b1, pu_b1]
  cases hw : wn x1 0 47
  · rw [if_pos bI_f, if_pos bI_f]
    obtain ⟨f', g', t1, t2, t3⟩ := fe1 hF
    rw [t1, t2, pu_b2, pu_b2]
    exact ⟨_, _, _, rfl, rfl, ⟨N, A, rfl, rfl, by omega, hM, hV, hS, hC⟩, hK.mono hk1, t3, hT, hSh⟩
  · obtain ⟨c, c1, c2, c3, rfl⟩ := wn_n hw (by decide)
    rw [if_neg (show ¬ bI true = 0 by decide), if_neg (show ¬ bI true = 0 by decide), w_blockAt hV.oc (show c < 48 by omega), m_bon hM.rm (nI_pos (by omega)), pu_b1, pu_b1]
    exact ⟨_, _, _, rfl, rfl, ⟨N, A, rfl, rfl, by omega, hM, hV, hS, hC⟩, hK.mono hk1, hF, hT, hSh⟩
theorem g_warmth : hy_warmth Gd := by
  intro k isk fnd nhour nair nrub nz nnb nkd ncl ngr noc nlit ncold nccell ncpow nsp nwm ndr khour kair krub kz knb kkd kcl kgr koc klit kcold kccell kcpow ksp kwm kdr thour tair trub tz tnb tkd tcl tgr toc tlit tcold tccell tcpow tsp twm tdr tok sta en val tsize tby sbits ssize snum misKept mtaped msort mfrom mto mvalue mbad mm mkept mwas mother mfound mwarm mdrip mtape mbits msize mnumber x1 hk hG
  obtain ⟨⟨N, A, rfl, rfl, hA, hM, hV, hS, hC⟩, hK, hF, hT, hSh⟩ := hG
  have hN := hM.hN
  have hk1 := gd_k k
  unfold f_X6_warmth f_X7_warmth
  rw [pu_6cell, pu_7cell, pu_b1, pu_b1]
  cases hw : wn x1 0 47
  · rw [if_pos bI_f, if_pos bI_f]
    obtain ⟨f', g', t1, t2, t3⟩ := fe1 hF
    rw [t1, t2, pu_b2, pu_b2]
    exact ⟨_, _, _, rfl, rfl, ⟨N, A, rfl, rfl, by omega, hM, hV, hS, hC⟩, hK.mono hk1, t3, hT, hSh⟩
  · obtain ⟨c, c1, c2, c3, rfl⟩ := wn_n hw (by decide)
    rw [if_neg (show ¬ bI true = 0 by decide), if_neg (show ¬ bI true = 0 by decide), w_warm hC (show c < 48 by omega), m_warm hM hC (show c < 48 by omega), pu_b1, pu_b1]
    exact ⟨_, _, _, rfl, rfl, ⟨N, A, rfl, rfl, by omega, hM, hV, hS, hC⟩, hK.mono hk1, hF, hT, hSh⟩
theorem g_cold : hy_cold Gd := by
  intro k isk fnd nhour nair nrub nz nnb nkd ncl ngr noc nlit ncold nccell ncpow nsp nwm ndr khour kair krub kz knb kkd kcl kgr koc klit kcold kccell kcpow ksp kwm kdr thour tair trub tz tnb tkd tcl tgr toc tlit tcold tccell tcpow tsp twm tdr tok sta en val tsize tby sbits ssize snum misKept mtaped msort mfrom mto mvalue mbad mm mkept mwas mother mfound mwarm mdrip mtape mbits msize mnumber x1 hk hG
  obtain ⟨⟨N, A, rfl, rfl, hA, hM, hV, hS, hC⟩, hK, hF, hT, hSh⟩ := hG
  have hN := hM.hN
  have hk1 := gd_k k
  unfold f_X6_cold f_X7_cold
  rw [wi_m20, in_m20, pu_b1, pu_b1]
  cases hw : wn x1 (-20) 20
  · rw [if_pos bI_f, if_pos bI_f]
    obtain ⟨f', g', t1, t2, t3⟩ := fe1 hF
    rw [t1, t2, pu_b2, pu_b2]
    exact ⟨_, _, _, _, _, rfl, rfl, ⟨N, A, rfl, rfl, by omega, hM, hV, hS, hC⟩, hK.mono hk1, t3, hT, hSh⟩
  · have h1 := of_decide_eq_true hw
    have eb : f_X7_becomes mm 1 x1 = some (mm 1, upd mm 1 x1) := m_becomes (i := 1) (by omega) x1
    rw [if_neg (show ¬ bI true = 0 by decide), if_neg (show ¬ bI true = 0 by decide), eb, pu_b2, hM.h1]
    exact ⟨_, _, _, _, _, rfl, rfl, ⟨N, A, rfl, rfl, by omega, hM.u_cold x1, hV, hS, h1, hC.2⟩, hK.mono hk1, hF, hT, hSh⟩
theorem g_turn : hy_turn Gd := by
  intro k isk fnd nhour nair nrub nz nnb nkd ncl ngr noc nlit ncold nccell ncpow nsp nwm ndr khour kair krub kz knb kkd kcl kgr koc klit kcold kccell kcpow ksp kwm kdr thour tair trub tz tnb tkd tcl tgr toc tlit tcold tccell tcpow tsp twm tdr tok sta en val tsize tby sbits ssize snum misKept mtaped msort mfrom mto mvalue mbad mm mkept mwas mother mfound mwarm mdrip mtape mbits msize mnumber x1 x2 hk hG
  obtain ⟨⟨N, A, rfl, rfl, hA, hM, hV, hS, hC⟩, hK, hF, hT, hSh⟩ := hG
  have hN := hM.hN
  have hk1 := gd_k k
  unfold f_X6_turn f_X7_turn
  rw [w_isBlock hN, m_isBlock hM.rm, pu_b1, pu_b1]
  cases hw : wn x1 0 (N - 1 : Int)
  · rw [if_pos bI_f, if_pos bI_f]
    obtain ⟨f', g', t1, t2, t3⟩ := fe1 hF
    rw [t1, t2, pu_b2, pu_b2]
    exact ⟨_, _, _, _, _, rfl, rfl, ⟨N, A, rfl, rfl, by omega, hM, hV, hS, hC⟩, hK.mono hk1, t3, hT, hSh⟩
  · obtain ⟨b, b1, b2, b3, rfl⟩ := wn_n hw (by decide)
    have hb : b < N := by omega
    rw [if_neg (show ¬ bI true = 0 by decide), if_neg (show ¬ bI true = 0 by decide), pu_6kind, pu_7kind, pu_b1, pu_b1]
    cases hw2 : wn x2 0 6
    · rw [if_pos bI_f, if_pos bI_f]
      obtain ⟨f', g', t1, t2, t3⟩ := fe1 hF
      rw [t1, t2, pu_b2, pu_b2]
      exact ⟨_, _, _, _, _, rfl, rfl, ⟨N, A, rfl, rfl, by omega, hM, hV, hS, hC⟩, hK.mono hk1, t3, hT, hSh⟩
    · obtain ⟨q, q1, q2, q3, rfl⟩ := wn_n hw2 (by decide)
      rw [if_neg (show ¬ bI true = 0 by decide), if_neg (show ¬ bI true = 0 by decide), pu_gdN (show b < 16 by omega) (by omega), pu_gdN (show b < 16 by omega) (by omega), nI_clamp (by omega), pu_x0, m_becomes (by omega), pu_b2, hM.hk b (by omega)]
      exact ⟨_, _, _, _, _, rfl, rfl, ⟨N, A, rfl, rfl, by omega, hM.u_kd (by omega) (nI q), ⟨⟨hN, fun a ha => ⟨by
        by_cases e : a = b
        · rw [e, upd_eq]; exact ⟨q, by omega, rfl⟩
        · rw [upd_ne e]; exact (hV.wi.2 a ha).1, (hV.wi.2 a ha).2⟩⟩, hV.dc, hV.oc⟩, hS, hC⟩, hK.mono hk1, hF, hT, hSh⟩
