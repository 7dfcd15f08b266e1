/-! what mending serves best -/
theorem wi_1_98 (x : Int32) : f_X6_isWithin x 1 98 = some (bI (wn x 1 98)) := pu_within x 1 98
theorem in_1_98 (x : Int32) : f_X7_in x.toInt64 1 98 = some (bI (wn x 1 98)) := pu_in32 x 1 98
theorem g_mend : hy_mend Gd := by
  intro k isk fnd nhour nair nrub nz nnb nkd ncl ngr noc nlit ncold nccell ncpow nsp nwm ndr khour kair krub kz knb kkd kcl kgr koc klit kcold kccell kcpow ksp kwm kdr thour tair trub tz tnb tkd tcl tgr toc tlit tcold tccell tcpow tsp twm tdr tok sta en val tsize tby sbits ssize snum misKept mtaped msort mfrom mto mvalue mbad mm mkept mwas mother mfound mwarm mdrip mtape mbits msize mnumber x1 hk hG
  obtain ⟨⟨N, A, rfl, rfl, hA, hM, hV, hS, hC⟩, hK, hF, hT, hSh⟩ := hG
  have hN := hM.hN
  have hk1 := gd_k k
  unfold f_X6_mend f_X7_mend
  rw [wi_1_98, in_1_98, pu_b1, pu_b1]
  cases hw : wn x1 1 98
  · rw [if_pos bI_f, if_pos bI_f]
    obtain ⟨f', g', t1, t2, t3⟩ := fe1 hF
    rw [t1, t2, pu_b2, pu_b2]
    exact ⟨_, _, _, _, _, _, _, _, _, _, _, _, _, _, _, _, _, _, _, _, _, _, _, rfl, rfl, ⟨N, A, rfl, rfl, by omega, hM, hV, hS, hC⟩, hK.mono hk1, t3, hT, hSh⟩
  · obtain ⟨d, n1, n2, n3, rfl⟩ := wn_n hw (by decide)
    rw [if_neg (show ¬ bI true = 0 by decide), if_neg (show ¬ bI true = 0 by decide), w_has, m_far hM, pu_b1, pu_b1]
    cases decide ((9999 : Int32) < nhour + 96)
    · rw [if_neg (show ¬ bI (!false) = 0 by decide), if_pos bI_f, lp_unc19, lp_unc7]
      refine lp_rel (R := (fun p q => ∃ (R : Int32) (fnd_r : Nat → Int32) (thour_r : Int32) (tair_r : Int32) (trub_r : Int32) (tz_r : Int32) (tnb_r : Int32) (tkd_r : Nat → Int32) (tcl_r : Nat → Int32) (tgr_r : Nat → Int32) (toc_r : Nat → Int32) (tlit_r : Int32) (tcold_r : Int32) (tccell_r : Nat → Int32) (tcpow_r : Nat → Int32) (tsp_r : Nat → Int32) (twm_r : Nat → Int32) (tdr_r : Nat → Int32) (mm_r : Nat → Int32) (mwas_r : Nat → Int32) (mfound_r : Nat → Int32) (mwarm_r : Nat → Int32) (mdrip_r : Nat → Int32), p = some (R, fnd_r, thour_r, tair_r, trub_r, tz_r, tnb_r, tkd_r, tcl_r, tgr_r, toc_r, tlit_r, tcold_r, tccell_r, tcpow_r, tsp_r, twm_r, tdr_r) ∧ q = some (R, mm_r, mwas_r, mfound_r, mwarm_r, mdrip_r) ∧ Gd (k + 1) isk fnd_r nhour (nI A) nrub nz (nI N) nkd ncl ngr noc nlit ncold nccell ncpow nsp nwm ndr khour kair krub kz knb kkd kcl kgr koc klit kcold kccell kcpow ksp kwm kdr thour_r tair_r trub_r tz_r tnb_r tkd_r tcl_r tgr_r toc_r tlit_r tcold_r tccell_r tcpow_r tsp_r twm_r tdr_r tok sta en val tsize tby sbits ssize snum misKept mtaped msort mfrom mto mvalue mbad mm_r mkept mwas_r mother mfound_r mwarm_r mdrip_r mtape mbits msize mnumber)) (fun i q r => ∃ th ta tr tzz tn tk tc tg to2 tl tcd tcc tcp ts tw td y2 y3 m ma mb mc z2 z3, q = (th, ta, tr, tzz, tn, tk, tc, tg, to2, tl, tcd, tcc, tcp, ts, tw, td, y2, y3, nI i) ∧ r = (m, ma, mb, mc, z2, z3, nI i) ∧ MS m nhour ncold (nI A) nrub nz N nkd ncl ngr nlit nccell ncpow nsp ∧ ((y2 = -1 ∧ z2 = -1 ∧ y3 = -1) ∨ ∃ b a, b < 64 ∧ a ≤ 180 ∧ y2 = nI b ∧ z2 = nI b ∧ y3 = nI a ∧ z3 = nI a)) N ?_ ?_ _ _ ⟨_, _, _, _, _, _, _, _, _, _, _, _, _, _, _, _, _, _, _, _, _, _, _, _, rfl, rfl, hM, Or.inl ⟨rfl, rfl, rfl⟩⟩ _ _ (pu_fu (by omega)) (pu_fu (by omega))
      · rintro i q r hi ⟨th, ta, tr, tzz, tn, tk, tc, tg, to2, tl, tcd, tcc, tcp, ts, tw, td, y2, y3, m, ma, mb, mc, z2, z3, rfl, rfl, i1, i2⟩ rc rd - - hc
        have h64 : ¬ nI N ≤ nI i := nI_ge hi (by omega)
        dsimp only
        unfold b_X6_mend_40 b_X7_mend_42
        rw [pu_c5, i1.h5, if_neg h64, if_neg h64, w_gone (by omega), m_gone i1.rm (by omega), pu_b1, pu_b1, nI_1]
        by_cases hl : ncl i < 0
        · rw [decide_eq_true hl, if_neg (show ¬ bI true = 0 by decide), if_neg (show ¬ bI true = 0 by decide)]
          exact hc _ _ ⟨_, _, _, _, _, _, _, _, _, _, _, _, _, _, _, _, _, _, _, _, _, _, _, _, rfl, rfl, i1, i2⟩
        · obtain ⟨g, hg, eg, hg0⟩ := hS i hi
          have g1 : 0 < g := by
            rcases Nat.eq_zero_or_pos g with q | q
            · exact absurd (hg0.mpr q) hl
            · exact q
          have l2 := i1.u_gr (b := i) (by omega) (nI (g + min d (99 - g)))
          obtain ⟨kd', cl', gr', oc', ccell', cpow', sp', e, r1, r2, r3, r4, r5, r6, r7, r8, r9, r10, r11⟩ := w_fresh hM hV hS hC th ta tr tzz tn tk tc tg to2 tl tcd tcc tcp ts
          have l3 : MS (upd m (26 + 3 * i) (nI (g + min d (99 - g)))) nhour ncold (nI A) nrub nz N kd' cl' (upd gr' i (nI (g + min d (99 - g)))) nlit ccell' cpow' sp' := l2.cg (fun _ _ => rfl) r9 r5 (up_cg r6 i _) r8 r7 r11
          obtain ⟨x, hr', air', rb', cl2, gr2, oc2, wm', dr', m', W', md', hx, w, u⟩ := held_both l3 r2 (r3.up (by rw [r5 i (by omega)]; exact hl) (v := g + min d (99 - g)) (by omega) (by omega)) r4 (n := 96) (by omega) (by omega) tw td ma mb mc
          have w2 : f_X1_hoursHeld nhour (nI A) nrub (nI N) kd' cl' (upd gr' i (nI (g + min d (99 - g)))) oc' nlit ncold ccell' cpow' tw td 96 = _ := w
          have u2 : f_X7_held (upd m (26 + 3 * i) (nI (g + min d (99 - g)))) ma mb mc 96 = _ := u
          have w1 := w_thick (gr := gr') (d := d) (show i < 16 by omega) (by rw [r6 i (by omega)]; exact eg) hg (by omega)
          have u1 := m_capped (a := g + d) (by omega)
          rw [show min (g + d) 99 = g + min d (99 - g) by omega] at u1
          have l4 := l2.fw (m := ma) |>.fw (m := m') |>.u_gr (b := i) (by omega) (nI g)
          rw [uu, upd_self eg] at l4
          rw [decide_eq_false hl, if_pos bI_f, if_pos bI_f, m_grains i1.rm (by omega), pu_b1, eg, nI_add, u1, pu_b1, m_makes (by omega), pu_b1, u2, pu_b5, m_makes (by omega), pu_b1, e, pu_b14, w1, pu_b2, w2, pu_b9]
          rcases i2 with ⟨rfl, rfl, rfl⟩ | ⟨b, c, hb, hc2, rfl, rfl, rfl, rfl⟩
          · have hneg : ¬ nI x ≤ (-1 : Int32) := by
              rw [Int32.le_iff_toInt_le, nI_toInt (by omega)]
              show ¬ _ ≤ (-1 : Int)
              omega
            rw [if_neg hneg, if_pos (show (-1 : Int32) < 0 by decide)]
            exact hc _ _ ⟨_, _, _, _, _, _, _, _, _, _, _, _, _, _, _, _, _, _, _, _, _, _, _, _, rfl, rfl, l4, Or.inr ⟨i, x, by omega, by omega, rfl, rfl, rfl, rfl⟩⟩
          · rw [if_neg (show ¬ nI b < 0 from nI_pos (by omega))]
            by_cases g2 : nI c < nI x
            · rw [if_pos g2, if_neg (Int32.not_le.mpr g2)]
              exact hc _ _ ⟨_, _, _, _, _, _, _, _, _, _, _, _, _, _, _, _, _, _, _, _, _, _, _, _, rfl, rfl, l4, Or.inr ⟨i, x, by omega, by omega, rfl, rfl, rfl, rfl⟩⟩
            · rw [if_neg g2, if_pos (Int32.not_lt.mp g2)]
              exact hc _ _ ⟨_, _, _, _, _, _, _, _, _, _, _, _, _, _, _, _, _, _, _, _, _, _, _, _, rfl, rfl, l4, Or.inr ⟨b, c, hb, hc2, rfl, rfl, rfl, rfl⟩⟩
      · rintro q r ⟨th, ta, tr, tzz, tn, tk, tc, tg, to2, tl, tcd, tcc, tcp, ts, tw, td, y2, y3, m, ma, mb, mc, z2, z3, rfl, rfl, i1, i2⟩ rc rd
        have g64 : nI N ≤ nI N := nI_le (Nat.le_refl N) (by omega)
        dsimp only
        unfold b_X6_mend_40 b_X7_mend_42
        rw [pu_c5, i1.h5, if_pos g64, if_pos g64]
        unfold f_X7_orNone
        rcases i2 with ⟨rfl, rfl, rfl⟩ | ⟨b, c, hb, hc2, rfl, rfl, rfl, rfl⟩
        · obtain ⟨f', g', t1, t2, t3⟩ := fe4 hF
          rw [if_neg (show ¬ (0 : Int32) ≤ -1 by decide), if_neg (show ¬ (0 : Int32) ≤ -1 by decide), t1, t2, pu_b2, pu_b2, pu_b2]
          exact ⟨_, _, _, _, _, _, _, _, _, _, _, _, _, _, _, _, _, _, _, _, _, _, _, rfl, rfl, ⟨N, A, rfl, rfl, by omega, i1, hV, hS, hC⟩, hK.mono hk1, t3, hT, hSh⟩
        · rw [if_pos (Int32.not_lt.mp (nI_pos (by omega))), if_pos (Int32.not_lt.mp (nI_pos (by omega))), pu_b2]
          exact ⟨_, _, _, _, _, _, _, _, _, _, _, _, _, _, _, _, _, _, _, _, _, _, _, rfl, rfl, ⟨N, A, rfl, rfl, by omega, i1, hV, hS, hC⟩, hK.mono hk1, hF, hT, hSh⟩
    · rw [if_pos (show bI (!true) = 0 from rfl), if_neg (show ¬ bI true = 0 by decide)]
      obtain ⟨f', g', t1, t2, t3⟩ := fe5 hF
      rw [t1, t2, pu_b2, pu_b2]
      exact ⟨_, _, _, _, _, _, _, _, _, _, _, _, _, _, _, _, _, _, _, _, _, _, _, rfl, rfl, ⟨N, A, rfl, rfl, by omega, hM, hV, hS, hC⟩, hK.mono hk1, t3, hT, hSh⟩
