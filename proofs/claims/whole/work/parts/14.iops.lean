/-! candles -/
theorem wi_0_1 (x : Int32) : f_X6_isWithin x 0 1 = some (bI (wn x 0 1)) := pu_within x 0 1
theorem wi_0_30 (x : Int32) : f_X6_isWithin x 0 30 = some (bI (wn x 0 30)) := pu_within x 0 30
theorem in_0_30 (x : Int32) : f_X7_in x.toInt64 0 30 = some (bI (wn x 0 30)) := pu_in32 x 0 30
theorem g_candle : hy_candle Gd := by
  intro k isk fnd nhour nair nrub nz nnb nkd ncl ngr noc nlit ncold nccell ncpow nsp nwm ndr khour kair krub kz knb kkd kcl kgr koc klit kcold kccell kcpow ksp kwm kdr thour tair trub tz tnb tkd tcl tgr toc tlit tcold tccell tcpow tsp twm tdr tok sta en val tsize tby sbits ssize snum misKept mtaped msort mfrom mto mvalue mbad mm mkept mwas mother mfound mwarm mdrip mtape mbits msize mnumber x1 x2 x3 hk hG
  obtain ⟨⟨N, A, rfl, rfl, hA, hM, hV, hS, hC⟩, hK, hF, hT, hSh⟩ := hG
  have hN := hM.hN
  have hk1 := gd_k k
  obtain ⟨f', g', t1, t2, t3⟩ := fe1 hF
  unfold f_X6_candle f_X7_candle
  simp only [pu_6candle, pu_7candle, pu_6cell, pu_7cell, wi_0_1, wi_0_30, in_0_30, pu_b1, t1, t2, pu_b2]
  cases hw : wn x1 0 5
  · simp only [bI_f, if_true, ite_self]
    exact ⟨_, _, _, _, _, _, rfl, rfl, ⟨N, A, rfl, rfl, by omega, hM, hV, hS, hC⟩, hK.mono hk1, t3, hT, hSh⟩
  · obtain ⟨j, j1, j2, j3, rfl⟩ := wn_n hw (by decide)
    have hj : j < 6 := by omega
    simp only [bI_t, show ¬ (1 : Int32) = 0 by decide, if_false, if_true]
    by_cases g0 : x2 = 0
    · subst g0
      have w1 : wn 0 0 1 = true := by decide
      simp only [w1, bI_t, show ¬ (1 : Int32) = 0 by decide, if_false, if_true]
      cases hw3 : wn x3 0 47
      · simp only [bI_f, if_true]
        exact ⟨_, _, _, _, _, _, rfl, rfl, ⟨N, A, rfl, rfl, by omega, hM, hV, hS, hC⟩, hK.mono hk1, t3, hT, hSh⟩
      · obtain ⟨c, c1, c2, c3, rfl⟩ := wn_n hw3 (by decide)
        simp only [bI_t, show ¬ (1 : Int32) = 0 by decide, if_false]
        rw [Int32.add_zero, pu_y0, m_becomes (show 6 + 3 * j < 82 by omega), pu_b2, pu_gdN hj (by omega), pu_gdN hj (by omega), nI_clamp (by omega), hM.cc j hj]
        exact ⟨_, _, _, _, _, _, rfl, rfl, ⟨N, A, rfl, rfl, by omega, hM.u_cc hj (nI c), hV, hS, hC.1, fun i hi => ⟨by
          by_cases e : i = j
          · rw [e, upd_eq]; exact ⟨c, by omega, rfl⟩
          · rw [upd_ne e]; exact (hC.2 i hi).1, (hC.2 i hi).2⟩⟩, hK.mono hk1, hF, hT, hSh⟩
    · by_cases g1 : x2 = 1
      · subst g1
        have w1 : wn 1 0 1 = true := by decide
        simp only [w1, bI_t, show ¬ (1 : Int32) = 0 by decide, if_false, if_true]
        cases hw3 : wn x3 0 30
        · simp only [bI_f, if_true]
          exact ⟨_, _, _, _, _, _, rfl, rfl, ⟨N, A, rfl, rfl, by omega, hM, hV, hS, hC⟩, hK.mono hk1, t3, hT, hSh⟩
        · obtain ⟨c, c1, c2, c3, rfl⟩ := wn_n hw3 (by decide)
          simp only [bI_t, show ¬ (1 : Int32) = 0 by decide, if_false]
          rw [pu_y1, m_becomes (show 7 + 3 * j < 82 by omega), pu_b2, pu_gdN hj (by omega), pu_gdN hj (by omega), nI_clamp (by omega), hM.cp j hj]
          exact ⟨_, _, _, _, _, _, rfl, rfl, ⟨N, A, rfl, rfl, by omega, hM.u_cp hj (nI c), hV, hS, hC.1, fun i hi => ⟨(hC.2 i hi).1, by
            by_cases e : i = j
            · rw [e, upd_eq]; exact ⟨c, by omega, rfl⟩
            · rw [upd_ne e]; exact (hC.2 i hi).2⟩⟩, hK.mono hk1, hF, hT, hSh⟩
      · have w1 : wn x2 0 1 = false := by
          cases h1 : wn x2 0 1
          · rfl
          · obtain ⟨i, i1, i2, i3, rfl⟩ := wn_n h1 (by decide)
            rcases (show i = 0 ∨ i = 1 by omega) with rfl | rfl
            · exact absurd nI_0 g0
            · exact absurd (by decide) g1
        simp only [w1, bI_f, if_true, if_neg g0, if_neg g1]
        exact ⟨_, _, _, _, _, _, rfl, rfl, ⟨N, A, rfl, rfl, by omega, hM, hV, hS, hC⟩, hK.mono hk1, t3, hT, hSh⟩
