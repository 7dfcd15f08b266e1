/-! water -/
theorem g_water : hy_water Gd := by
  intro k isk fnd nhour nair nrub nz nnb nkd ncl ngr noc nlit ncold nccell ncpow nsp nwm ndr khour kair krub kz knb kkd kcl kgr koc klit kcold kccell kcpow ksp kwm kdr thour tair trub tz tnb tkd tcl tgr toc tlit tcold tccell tcpow tsp twm tdr tok sta en val tsize tby sbits ssize snum misKept mtaped msort mfrom mto mvalue mbad mm mkept mwas mother mfound mwarm mdrip mtape mbits msize mnumber x1 x2 hk hG
  obtain ⟨⟨N, A, rfl, rfl, hA, hM, hV, hS, hC⟩, hK, hF, hT, hSh⟩ := hG
  have hN := hM.hN
  have hk1 := gd_k k
  unfold f_X6_water f_X7_water
  rw [w_isBlock hN, m_isBlock hM.rm, pu_b1, pu_b1]
  cases hw : wn x1 0 (N - 1 : Int)
  · rw [if_pos bI_f, if_pos bI_f]
    obtain ⟨f', g', t1, t2, t3⟩ := fe1 hF
    rw [t1, t2, pu_b2, pu_b2]
    exact ⟨_, _, _, _, _, rfl, rfl, ⟨N, A, rfl, rfl, by omega, hM, hV, hS, hC⟩, hK.mono hk1, t3, hT, hSh⟩
  · obtain ⟨b, b1, b2, b3, rfl⟩ := wn_n hw (by decide)
    have hb : b < N := by omega
    have hb16 : b < 16 := by omega
    rw [if_neg (show ¬ bI true = 0 by decide), if_neg (show ¬ bI true = 0 by decide), wi_1_99, pu_7some, pu_b1, pu_b1]
    cases hw2 : wn x2 1 99
    · rw [if_pos bI_f, if_pos bI_f]
      obtain ⟨f', g', t1, t2, t3⟩ := fe1 hF
      rw [t1, t2, pu_b2, pu_b2]
      exact ⟨_, _, _, _, _, rfl, rfl, ⟨N, A, rfl, rfl, by omega, hM, hV, hS, hC⟩, hK.mono hk1, t3, hT, hSh⟩
    · obtain ⟨d, d1, d2, d3, rfl⟩ := wn_n hw2 (by decide)
      rw [if_neg (show ¬ bI true = 0 by decide), if_neg (show ¬ bI true = 0 by decide), w_gone hb16, m_gone hM.rm hb16, pu_b1, pu_b1]
      rcases (hV.wi.2 b hb).2 with hgo | ⟨c, hc, hcl⟩
      · rw [decide_eq_true (show ncl b < 0 by rw [hgo]; decide), if_neg (show ¬ bI true = 0 by decide), if_neg (show ¬ bI true = 0 by decide)]
        obtain ⟨f', g', t1, t2, t3⟩ := fe5 hF
        rw [t1, t2, pu_b2, pu_b2]
        exact ⟨_, _, _, _, _, rfl, rfl, ⟨N, A, rfl, rfl, by omega, hM, hV, hS, hC⟩, hK.mono hk1, t3, hT, hSh⟩
      · have hng : ¬ ncl b < 0 := by rw [hcl]; exact nI_pos (by omega)
        obtain ⟨G, hG, eg, hg3⟩ := hS b hb
        have e99 : (99 : Int32) - nI G = nI (99 - G) := pk_sub (a := 99) (by omega)
        rw [decide_eq_false hng, if_pos bI_f, if_pos bI_f]
        simp only [pu_gdN hb16 (show 16 < 2 ^ 31 by omega), nI_clamp (show b < 2 ^ 31 by omega), hcl, w_warm hC hc, m_cell hM.rm hb16, m_warm hM hC hc, pu_b1, m_grains hM.rm hb16, eg, e99, m_makes hb16]
        by_cases q : wf nlit ncold nccell ncpow c 6 < 0
        · rw [if_pos q, if_pos q]
          obtain ⟨t, ht⟩ : ∃ t, t = min d (99 - G) := ⟨_, rfl⟩
          have e1 : f_X5_thicken ngr (nI b) (nI d) = some (nI t, upd ngr b (nI (G + t))) := by
            unfold f_X5_thicken
            simp only [pu_gdN hb16 (show 16 < 2 ^ 31 by omega), nI_clamp (show b < 2 ^ 31 by omega), eg, e99, ik_minN (show d < 2 ^ 31 by omega) (show 99 - G < 2 ^ 31 by omega), nI_add, ← ht]
          have e2 : (if nI (99 - G) ≤ nI d then some (nI (99 - G), upd mm (26 + 3 * b) (nI G + nI (99 - G)), mfound) else some (nI d, upd mm (26 + 3 * b) (nI G + nI d), mfound)) = some (nI t, upd mm (26 + 3 * b) (nI (G + t)), mfound) := by
            by_cases r : 99 - G ≤ d
            · rw [if_pos (nI_le r (by omega)), nI_add, ht, Nat.min_eq_right r]
            · rw [if_neg (nI_ge (by omega) (by omega)), nI_add, ht, Nat.min_eq_left (by omega)]
          rw [e1, pu_b2, e2]
          exact ⟨_, _, _, _, _, rfl, rfl, ⟨N, A, rfl, rfl, by omega, hM.u_gr hb16 (nI (G + t)), hV, fun a ha => by
            by_cases e : a = b
            · rw [e, upd_eq]
              refine ⟨G + t, by omega, rfl, fun r => absurd r hng, fun r => absurd (hg3.mpr (by omega)) hng⟩
            · rw [upd_ne e]; exact hS a ha, hC⟩, hK.mono hk1, hF, hT, hSh⟩
        · rw [if_neg q, if_neg q]
          obtain ⟨f', g', t1, t2, t3⟩ := fe5 hF
          rw [t1, t2, pu_b2, pu_b2]
          exact ⟨_, _, _, _, _, rfl, rfl, ⟨N, A, rfl, rfl, by omega, hM, hV, hS, hC⟩, hK.mono hk1, t3, hT, hSh⟩
