/-! lights, water -/
theorem g_lit : hy_lit Gd := by
  intro k isk fnd nhour nair nrub nz nnb nkd ncl ngr noc nlit ncold nccell ncpow nsp nwm ndr khour kair krub kz knb kkd kcl kgr koc klit kcold kccell kcpow ksp kwm kdr thour tair trub tz tnb tkd tcl tgr toc tlit tcold tccell tcpow tsp twm tdr tok sta en val tsize tby sbits ssize snum misKept mtaped msort mfrom mto mvalue mbad mm mkept mwas mother mfound mwarm mdrip mtape mbits msize mnumber x1 x2 hk hG
  obtain ⟨⟨N, A, rfl, rfl, hA, hM, hV, hS, hC⟩, hK, hF, hT, hSh⟩ := hG
  have hN := hM.hN
  have hk1 := gd_k k
  intro _
  unfold f_X6_lit f_X7_lit
  rw [pu_6candle, pu_7candle, pu_b1, pu_b1]
  cases hw : wn x1 0 5
  · rw [if_pos bI_f, if_pos bI_f]
    obtain ⟨f', g', t1, t2, t3⟩ := fe1 hF
    rw [t1, t2, pu_b2, pu_b2]
    exact ⟨_, _, _, _, _, rfl, rfl, ⟨N, A, rfl, rfl, by omega, hM, hV, hS, hC⟩, hK.mono hk1, t3, hT, hSh⟩
  · obtain ⟨j, j1, j2, j3, rfl⟩ := wn_n hw (by decide)
    have hj : j < 6 := by omega
    obtain ⟨y, y1, y2, y3⟩ := w_setLit (lit := nlit) (x := x2) (show j < 32 by omega)
    have hms : ∀ p, bt y j = p → MS (upd mm (8 + 3 * j) (bI p)) nhour ncold (nI A) nrub nz N nkd ncl ngr y nccell ncpow nsp := fun p hp => hM.u_lit hj hp (fun i hi q => y3 i (by omega) q)
    rw [if_neg (show ¬ bI true = 0 by decide), if_neg (show ¬ bI true = 0 by decide), w_isLit (by omega), pu_b1, y1, pu_b1, pu_y2, m_becomes (show 8 + 3 * j < 82 by omega), m_becomes (show 8 + 3 * j < 82 by omega), pu_b2, pu_b2, hM.cb j hj]
    have eR : (if bI (bt nlit j) = 0 then some ((0 : Int32), fnd, y) else some ((1 : Int32), fnd, y)) = some (bI (bt nlit j), fnd, y) := by cases bt nlit j <;> rfl
    rw [eR]
    by_cases g : x2 = 0
    · rw [if_pos g]
      exact ⟨_, _, _, _, _, rfl, rfl, ⟨N, A, rfl, rfl, by omega, hms false (by rw [y2, decide_eq_true g]; rfl), hV, hS, hC⟩, hK.mono hk1, hF, hT, hSh⟩
    · rw [if_neg g]
      exact ⟨_, _, _, _, _, rfl, rfl, ⟨N, A, rfl, rfl, by omega, hms true (by rw [y2, decide_eq_false g]; rfl), hV, hS, hC⟩, hK.mono hk1, hF, hT, hSh⟩
theorem g_take : hy_take Gd := by
  intro k isk fnd nhour nair nrub nz nnb nkd ncl ngr noc nlit ncold nccell ncpow nsp nwm ndr khour kair krub kz knb kkd kcl kgr koc klit kcold kccell kcpow ksp kwm kdr thour tair trub tz tnb tkd tcl tgr toc tlit tcold tccell tcpow tsp twm tdr tok sta en val tsize tby sbits ssize snum misKept mtaped msort mfrom mto mvalue mbad mm mkept mwas mother mfound mwarm mdrip mtape mbits msize mnumber x1 x2 hk hG
  obtain ⟨⟨N, A, rfl, rfl, hA, hM, hV, hS, hC⟩, hK, hF, hT, hSh⟩ := hG
  have hN := hM.hN
  have hk1 := gd_k k
  unfold f_X6_take f_X7_take
  rw [w_isBlock hN, m_isBlock hM.rm, pu_b1, pu_b1]
  cases hw : wn x1 0 (N - 1 : Int)
  · rw [if_pos bI_f, if_pos bI_f]
    obtain ⟨f', g', t1, t2, t3⟩ := fe1 hF
    rw [t1, t2, pu_b2, pu_b2]
    exact ⟨_, _, _, _, _, _, rfl, rfl, ⟨N, A, rfl, rfl, by omega, hM, hV, hS, hC⟩, hK.mono hk1, t3, hT, hSh⟩
  · obtain ⟨b, b1, b2, b3, rfl⟩ := wn_n hw (by decide)
    have hb : b < N := by omega
    rw [if_neg (show ¬ bI true = 0 by decide), if_neg (show ¬ bI true = 0 by decide), pu_6cell, pu_7cell, pu_b1, pu_b1]
    cases hw2 : wn x2 0 47
    · rw [if_pos bI_f, if_pos bI_f]
      obtain ⟨f', g', t1, t2, t3⟩ := fe1 hF
      rw [t1, t2, pu_b2, pu_b2]
      exact ⟨_, _, _, _, _, _, rfl, rfl, ⟨N, A, rfl, rfl, by omega, hM, hV, hS, hC⟩, hK.mono hk1, t3, hT, hSh⟩
    · obtain ⟨d, d1, d2, d3, rfl⟩ := wn_n hw2 (by decide)
      have hd : d < 48 := by omega
      rw [if_neg (show ¬ bI true = 0 by decide), if_neg (show ¬ bI true = 0 by decide), w_blockAt hV.oc hd, m_bon hM.rm (nI_pos (by omega)), w_gone (show b < 16 by omega), m_gone hM.rm (show b < 16 by omega)]
      simp only [pu_b1]
      rcases (hV.wi.2 b hb).2 with hgo | ⟨c, hc, hcl⟩
      · rw [decide_eq_true (show ncl b < 0 by rw [hgo]; decide), if_neg (show ¬ bI true = 0 by decide), if_neg (show ¬ bI true = 0 by decide)]
        obtain ⟨f', g', t1, t2, t3⟩ := fe5 hF
        rw [t1, t2, pu_b2, pu_b2]
        exact ⟨_, _, _, _, _, _, rfl, rfl, ⟨N, A, rfl, rfl, by omega, hM, hV, hS, hC⟩, hK.mono hk1, t3, hT, hSh⟩
      · rw [decide_eq_false (show ¬ ncl b < 0 by rw [hcl]; exact nI_pos (by omega)), if_pos bI_f, if_pos bI_f]
        have hwc : wn (nI c) 0 47 = true := by unfold wn; rw [nI_toInt (by omega)]; exact decide_eq_true (by omega)
        have e1 : f_X5_move ncl noc (nI b) (nI d) = some (nI c, upd ncl b (nI d), upd (upd noc c (-1)) d (nI b)) := by
          unfold f_X5_move
          rw [pu_gdN (show b < 16 by omega) (by omega), nI_clamp (by omega), hcl, pu_6cell, pu_b1, hwc, if_neg (show ¬ bI true = 0 by decide), pu_6cell, pu_b1, hw2, if_neg (show ¬ bI true = 0 by decide), pu_gdN hc (by omega), pu_gdN hd (by omega), pu_gdN (show b < 16 by omega) (by omega), nI_clamp (by omega), nI_clamp (by omega)]
        have e2 : f_X7_becomes mm (24 + 3 * nI b + 1) (nI d) = some (nI c, upd mm (25 + 3 * b) (nI d)) := by
          rw [pu_x1, m_becomes (show 25 + 3 * b < 82 by omega), hM.hc b (by omega), hcl]
        have fin : (∀ a, a < N → a ≠ b → ¬ ncl a = nI d) → PR (1500000 * (k + 1)) (upd mm (25 + 3 * b) (nI d)) nhour (nI A) nrub nz (nI N) nkd (upd ncl b (nI d)) ngr (upd (upd noc c (-1)) d (nI b)) nlit ncold nccell ncpow nsp := fun hf => ⟨N, A, rfl, rfl, by omega, hM.u_cl (by omega) (nI d), WV_move hV hb hc hcl hd hf, fun a ha => by
          by_cases e : a = b
          · obtain ⟨g, h1, h2, h3⟩ := hS a ha
            rw [e, upd_eq, ← e]
            refine ⟨g, h1, h2, fun r => absurd r (nI_pos (by omega)), fun r => ?_⟩
            have := h3.mpr r
            rw [e, hcl] at this
            exact absurd this (nI_pos (by omega))
          · rw [upd_ne e]; exact hS a ha, hC⟩
        rcases bo_cases N ncl (nI d) with ⟨a, p1, p2, p3⟩ | ⟨p1, p2⟩
        · rw [p3]
          simp only [if_neg (nI_pos (show a < 2 ^ 31 by omega))]
          by_cases e : a = b
          · subst e
            rw [if_pos rfl, if_pos rfl, e1, e2, pu_b3, pu_b2]
            exact ⟨_, _, _, _, _, _, rfl, rfl, fin (fun x hx hne q => hne (hV.dc x a hx hb (by rw [q]; exact nI_pos (by omega)) (by rw [q, p2]))), hK.mono hk1, hF, hT, hSh⟩
          · have ne : ¬ nI a = nI b := fun q => e ((nI_eq (by omega) (by omega)).mp q)
            simp only [if_neg ne]
            obtain ⟨f', g', t1, t2, t3⟩ := fe5 hF
            rw [t1, t2, pu_b2, pu_b2]
            exact ⟨_, _, _, _, _, _, rfl, rfl, ⟨N, A, rfl, rfl, by omega, hM, hV, hS, hC⟩, hK.mono hk1, t3, hT, hSh⟩
        · rw [p1]
          simp only [if_pos (show (-1 : Int32) < 0 by decide)]
          rw [e1, e2, pu_b3, pu_b2]
          exact ⟨_, _, _, _, _, _, rfl, rfl, fin (fun x hx _ => p2 x hx), hK.mono hk1, hF, hT, hSh⟩
