/-! what is known of a block -/
theorem wi_0_6 (x : Int32) : f_X6_isWithin x 0 6 = some (bI (wn x 0 6)) := pu_within x 0 6
theorem in_0_6 (x : Int32) : f_X7_in x.toInt64 0 6 = some (bI (wn x 0 6)) := pu_in32 x 0 6
theorem g_blockOf : hy_blockOf Gd := by
  intro k isk fnd nhour nair nrub nz nnb nkd ncl ngr noc nlit ncold nccell ncpow nsp nwm ndr khour kair krub kz knb kkd kcl kgr koc klit kcold kccell kcpow ksp kwm kdr thour tair trub tz tnb tkd tcl tgr toc tlit tcold tccell tcpow tsp twm tdr tok sta en val tsize tby sbits ssize snum misKept mtaped msort mfrom mto mvalue mbad mm mkept mwas mother mfound mwarm mdrip mtape mbits msize mnumber x1 x2 hk hG
  obtain ⟨⟨N, A, rfl, rfl, hA, hM, hV, hS, hC⟩, hK, hF, hT, hSh⟩ := hG
  have hN := hM.hN
  have hk1 := gd_k k
  unfold f_X6_blockOf f_X7_blockOf
  rw [w_isBlock hN, m_isBlock hM.rm, pu_b1, pu_b1]
  cases hw : wn x1 0 (N - 1 : Int)
  · rw [if_pos bI_f, if_pos bI_f]
    obtain ⟨f', g', t1, t2, t3⟩ := fe1 hF
    rw [t1, t2, pu_b2, pu_b2]
    exact ⟨_, _, _, rfl, rfl, ⟨N, A, rfl, rfl, by omega, hM, hV, hS, hC⟩, hK.mono hk1, t3, hT, hSh⟩
  · obtain ⟨b, b1, b2, b3, rfl⟩ := wn_n hw (by decide)
    have hb : b < N := by omega
    have hb16 : b < 16 := by omega
    rw [if_neg (show ¬ bI true = 0 by decide), if_neg (show ¬ bI true = 0 by decide), wi_0_6, in_0_6, pu_b1, pu_b1]
    cases hw2 : wn x2 0 6
    · rw [if_pos bI_f, if_pos bI_f]
      obtain ⟨f', g', t1, t2, t3⟩ := fe1 hF
      rw [t1, t2, pu_b2, pu_b2]
      exact ⟨_, _, _, rfl, rfl, ⟨N, A, rfl, rfl, by omega, hM, hV, hS, hC⟩, hK.mono hk1, t3, hT, hSh⟩
    · rw [if_neg (show ¬ bI true = 0 by decide), if_neg (show ¬ bI true = 0 by decide)]
      simp only [pu_gdN hb16 (show 16 < 2 ^ 31 by omega), nI_clamp (show b < 2 ^ 31 by omega), m_kind hM.rm hb16, m_cell hM.rm hb16, m_grains hM.rm hb16, w_gone hb16, m_gone hM.rm hb16, pu_b1]
      by_cases g0 : x2 = 0
      · rw [if_pos g0, if_pos g0]; exact ⟨_, _, _, rfl, rfl, ⟨N, A, rfl, rfl, by omega, hM, hV, hS, hC⟩, hK.mono hk1, hF, hT, hSh⟩
      rw [if_neg g0, if_neg g0]
      by_cases g1 : x2 = 1
      · rw [if_pos g1, if_pos g1]; exact ⟨_, _, _, rfl, rfl, ⟨N, A, rfl, rfl, by omega, hM, hV, hS, hC⟩, hK.mono hk1, hF, hT, hSh⟩
      rw [if_neg g1, if_neg g1]
      by_cases g2 : x2 = 2
      · rw [if_pos g2, if_pos g2]; exact ⟨_, _, _, rfl, rfl, ⟨N, A, rfl, rfl, by omega, hM, hV, hS, hC⟩, hK.mono hk1, hF, hT, hSh⟩
      rw [if_neg g2, if_neg g2]
      by_cases g3 : x2 = 3
      · rw [if_pos g3, if_pos g3]
        cases decide (ncl b < 0)
        · rw [if_pos bI_f, if_pos bI_f]; exact ⟨_, _, _, rfl, rfl, ⟨N, A, rfl, rfl, by omega, hM, hV, hS, hC⟩, hK.mono hk1, hF, hT, hSh⟩
        · rw [if_neg (show ¬ bI true = 0 by decide), if_neg (show ¬ bI true = 0 by decide)]; exact ⟨_, _, _, rfl, rfl, ⟨N, A, rfl, rfl, by omega, hM, hV, hS, hC⟩, hK.mono hk1, hF, hT, hSh⟩
      rw [if_neg g3, if_neg g3]
      by_cases g4 : x2 = 4
      · rw [if_pos g4, if_pos g4]
        obtain ⟨T, x, y, a1, a2, a3, e1, e2⟩ := st_standing hM.rm hV.wi hV.dc
        rw [e1, e2, pu_b1, pu_b1, pu_has (by omega), pu_b1, a2 b (by omega), decide_eq_true hb, Bool.true_and]
        rcases (hV.wi.2 b hb).2 with hgo | ⟨c, hc, hcl⟩
        · have hT0 : T b = false := ts_nt (fun p => a3 b hb p (by rw [hgo]; decide))
          have ez : x &&& (0 : Int64) = 0 := lb_ext (fun i _ => by rw [lb_and, lb_0, Bool.and_false])
          rw [w_cellBitG hb16 hgo, pu_b1, hT0, if_pos ((lg0 _ _).mpr ez), if_pos bI_f]
          exact ⟨_, _, _, rfl, rfl, ⟨N, A, rfl, rfl, by omega, hM, hV, hS, hC⟩, hK.mono hk1, hF, hT, hSh⟩
        · have hng : ¬ ncl b < 0 := by rw [hcl]; exact nI_pos (by omega)
          have hq : lg_cmp (x &&& ik_lsh 1 (nI c)) 0 = 0 ↔ T b = false := by
            rw [lg0, lb_and0 (by omega), a1 c (by omega), decide_eq_true hc, Bool.true_and, ← hcl, onB_self hV.dc hb hng]
          rw [w_cellBit hb16 hc hcl, pu_b1]
          cases hTb : T b
          · rw [if_pos (hq.mpr hTb), if_pos bI_f]
            exact ⟨_, _, _, rfl, rfl, ⟨N, A, rfl, rfl, by omega, hM, hV, hS, hC⟩, hK.mono hk1, hF, hT, hSh⟩
          · rw [if_neg (fun p => by rw [hq.mp p] at hTb; exact absurd hTb (by decide)), if_neg (show ¬ bI true = 0 by decide)]
            exact ⟨_, _, _, rfl, rfl, ⟨N, A, rfl, rfl, by omega, hM, hV, hS, hC⟩, hK.mono hk1, hF, hT, hSh⟩
      rw [if_neg g4, if_neg g4]
      by_cases g5 : x2 = 5
      · rw [if_pos g5, if_pos g5]
        rcases (hV.wi.2 b hb).2 with hgo | ⟨c, hc, hcl⟩
        · rw [decide_eq_true (show ncl b < 0 by rw [hgo]; decide), if_neg (show ¬ bI true = 0 by decide), w_loadG hb16 hgo, pu_b1]
          exact ⟨_, _, _, rfl, rfl, ⟨N, A, rfl, rfl, by omega, hM, hV, hS, hC⟩, hK.mono hk1, hF, hT, hSh⟩
        · rw [decide_eq_false (show ¬ ncl b < 0 by rw [hcl]; exact nI_pos (by omega)), if_pos bI_f, w_load hN hV.oc hb16 hc hcl, m_load hM.rm hb16 hc hcl, pu_b1, pu_b1]
          exact ⟨_, _, _, rfl, rfl, ⟨N, A, rfl, rfl, by omega, hM, hV, hS, hC⟩, hK.mono hk1, hF, hT, hSh⟩
      · rw [if_neg g5, if_neg g5]
        rcases (hV.wi.2 b hb).2 with hgo | ⟨c, hc, hcl⟩
        · rw [decide_eq_true (show ncl b < 0 by rw [hgo]; decide), if_neg (show ¬ bI true = 0 by decide), w_strG hb16 hgo, pu_b1]
          exact ⟨_, _, _, rfl, rfl, ⟨N, A, rfl, rfl, by omega, hM, hV, hS, hC⟩, hK.mono hk1, hF, hT, hSh⟩
        · rw [decide_eq_false (show ¬ ncl b < 0 by rw [hcl]; exact nI_pos (by omega)), if_pos bI_f, w_str hb16 hc hcl, m_str hM.rm hb16, pu_b1, pu_b1]
          exact ⟨_, _, _, rfl, rfl, ⟨N, A, rfl, rfl, by omega, hM, hV, hS, hC⟩, hK.mono hk1, hF, hT, hSh⟩
