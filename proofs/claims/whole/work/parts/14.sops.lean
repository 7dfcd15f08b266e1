/-! whose candle it is -/
theorem g_whose : hy_whose Gd := by
  intro k isk fnd nhour nair nrub nz nnb nkd ncl ngr noc nlit ncold nccell ncpow nsp nwm ndr khour kair krub kz knb kkd kcl kgr koc klit kcold kccell kcpow ksp kwm kdr thour tair trub tz tnb tkd tcl tgr toc tlit tcold tccell tcpow tsp twm tdr tok sta en val tsize tby sbits ssize snum misKept mtaped msort mfrom mto mvalue mbad mm mkept mwas mother mfound mwarm mdrip mtape mbits msize mnumber x1 hk hG
  obtain ⟨⟨N, A, rfl, rfl, hA, hM, hV, hS, hC⟩, hK, hF, hT, hSh⟩ := hG
  have hN := hM.hN
  have hk1 := gd_k k
  unfold f_X6_whose f_X7_whose f_X7_wrongFor
  rw [w_isBlock hN, m_isBlock hM.rm, pu_b1, pu_b1]
  cases hw : wn x1 0 (N - 1 : Int)
  · rw [if_pos bI_f, if_pos bI_f, pu_b1, if_neg (show ¬ (0 : Int32) ≤ -1000001 by decide)]
    obtain ⟨f', g', t1, t2, t3⟩ := fe1 hF
    rw [t1, t2, pu_b2, pu_b2]
    exact ⟨_, _, _, _, _, _, _, _, _, _, _, _, _, _, _, _, _, _, _, _, _, _, _, rfl, rfl, ⟨N, A, rfl, rfl, by omega, hM, hV, hS, hC⟩, hK.mono hk1, t3, hT, hSh⟩
  · obtain ⟨b, b1, b2, b3, rfl⟩ := wn_n hw (by decide)
    have hb : b < N := by omega
    rw [if_neg (show ¬ bI true = 0 by decide), if_neg (show ¬ bI true = 0 by decide), if_neg (show ¬ (1 : Int32) = 0 by decide), w_gone (by omega), m_gone hM.rm (by omega), pu_b1, pu_b1]
    by_cases hl : ncl b < 0
    · rw [decide_eq_true hl, if_neg (show ¬ bI true = 0 by decide), if_neg (show ¬ bI true = 0 by decide), pu_b1, if_neg (show ¬ (0 : Int32) ≤ -1000005 by decide)]
      obtain ⟨f', g', t1, t2, t3⟩ := fe5 hF
      rw [t1, t2, pu_b2, pu_b2]
      exact ⟨_, _, _, _, _, _, _, _, _, _, _, _, _, _, _, _, _, _, _, _, _, _, _, rfl, rfl, ⟨N, A, rfl, rfl, by omega, hM, hV, hS, hC⟩, hK.mono hk1, t3, hT, hSh⟩
    · rw [decide_eq_false hl, if_pos bI_f, if_pos bI_f, w_has, m_far hM, pu_b1, pu_b1]
      cases decide ((9999 : Int32) < nhour + 96)
      · rw [if_neg (show ¬ bI (!false) = 0 by decide), if_pos bI_f, pu_b1, if_pos (show (0 : Int32) ≤ 0 by decide), lp_unc19, lp_unc7]
        refine lp_rel (R := (fun p q => ∃ (R : Int32) (fnd_r : Nat → Int32) (thour_r : Int32) (tair_r : Int32) (trub_r : Int32) (tz_r : Int32) (tnb_r : Int32) (tkd_r : Nat → Int32) (tcl_r : Nat → Int32) (tgr_r : Nat → Int32) (toc_r : Nat → Int32) (tlit_r : Int32) (tcold_r : Int32) (tccell_r : Nat → Int32) (tcpow_r : Nat → Int32) (tsp_r : Nat → Int32) (twm_r : Nat → Int32) (tdr_r : Nat → Int32) (mm_r : Nat → Int32) (mwas_r : Nat → Int32) (mfound_r : Nat → Int32) (mwarm_r : Nat → Int32) (mdrip_r : Nat → Int32), p = some (R, fnd_r, thour_r, tair_r, trub_r, tz_r, tnb_r, tkd_r, tcl_r, tgr_r, toc_r, tlit_r, tcold_r, tccell_r, tcpow_r, tsp_r, twm_r, tdr_r) ∧ q = some (R, mm_r, mwas_r, mfound_r, mwarm_r, mdrip_r) ∧ Gd (k + 1) isk fnd_r nhour (nI A) nrub nz (nI N) nkd ncl ngr noc nlit ncold nccell ncpow nsp nwm ndr khour kair krub kz knb kkd kcl kgr koc klit kcold kccell kcpow ksp kwm kdr thour_r tair_r trub_r tz_r tnb_r tkd_r tcl_r tgr_r toc_r tlit_r tcold_r tccell_r tcpow_r tsp_r twm_r tdr_r tok sta en val tsize tby sbits ssize snum misKept mtaped msort mfrom mto mvalue mbad mm_r mkept mwas_r mother mfound_r mwarm_r mdrip_r mtape mbits msize mnumber)) (fun i q r => ∃ th ta tr tzz tn tk tc tg to2 tl tcd tcc tcp ts tw td y2 y3 m ma mb mc z2 z3, q = (th, ta, tr, tzz, tn, tk, tc, tg, to2, tl, tcd, tcc, tcp, ts, tw, td, y2, y3, nI i) ∧ r = (m, ma, mb, mc, z2, z3, nI i) ∧ MS m nhour ncold (nI A) nrub nz N nkd ncl ngr nlit nccell ncpow nsp ∧ ((y2 = -1 ∧ z2 = -1 ∧ y3 = 0) ∨ ∃ b a, b < 64 ∧ a ≤ 180 ∧ y2 = nI b ∧ z2 = nI b ∧ y3 = nI a ∧ z3 = nI a)) 6 ?_ ?_ _ _ ⟨_, _, _, _, _, _, _, _, _, _, _, _, _, _, _, _, _, _, _, _, _, _, _, _, rfl, rfl, hM, Or.inl ⟨rfl, rfl, rfl⟩⟩ _ _ (pu_fu (by omega)) (pu_fu (by omega))
        · rintro i q r hi ⟨th, ta, tr, tzz, tn, tk, tc, tg, to2, tl, tcd, tcc, tcp, ts, tw, td, y2, y3, m, ma, mb, mc, z2, z3, rfl, rfl, i1, i2⟩ rc rd - - hc
          have h64 : ¬ (6 : Int32) ≤ nI i := nI_ge (b := 6) hi (by omega)
          dsimp only
          unfold b_X6_whose_58 b_X7_whose_27
          rw [if_neg h64, if_neg h64, w_isLit (by omega), m_isLit i1 hi, pu_b1, pu_b1, nI_1]
          cases hlt : bt nlit i
          · rw [if_pos bI_f, if_pos bI_f]
            exact hc _ _ ⟨_, _, _, _, _, _, _, _, _, _, _, _, _, _, _, _, _, _, _, _, _, _, _, _, rfl, rfl, i1, i2⟩
          · obtain ⟨y, s1, s2, s3⟩ := w_setLit (lit := nlit) (x := 0) (j := i) (by omega)
            have l2 : MS (upd m (8 + 3 * i) 0) nhour ncold (nI A) nrub nz N nkd ncl ngr y nccell ncpow nsp := i1.u_lit (b := i) hi (p := false) s2 (fun j hj q => s3 j (by omega) q)
            obtain ⟨kd', cl', gr', oc', ccell', cpow', sp', e, r1, r2, r3, r4, r5, r6, r7, r8, r9, r10, r11⟩ := w_fresh hM hV hS hC th ta tr tzz tn tk tc tg to2 tl tcd tcc tcp ts
            have l3 : MS (upd m (8 + 3 * i) 0) nhour ncold (nI A) nrub nz N kd' cl' gr' y ccell' cpow' sp' := l2.cg (fun _ _ => rfl) r9 r5 r6 r8 r7 r11
            obtain ⟨x, hr', air', rb', cl2, gr2, oc2, wm', dr', m', W', md', hx0, hx, w, u⟩ := gone_pos l3 r2 r3 r4 (n := 96) hb (by rw [r5 b (by omega)]; exact hl) (by omega) (by omega) tw td ma mb mc
            have w2 : f_X1_goneIn nhour (nI A) nrub (nI N) kd' cl' gr' oc' y ncold ccell' cpow' tw td (nI b) 96 = _ := w
            have u2 : f_X7_goneIn (upd m (8 + 3 * i) 0) ma mb mc (nI b) 96 = _ := u
            have l4 : MS (upd (fw (fw (upd m (8 + 3 * i) 0) ma 82) m' 82) (8 + 3 * i) 1) nhour ncold (nI A) nrub nz N nkd ncl ngr nlit nccell ncpow nsp := l2.fw.fw.u_lit (b := i) hi (p := true) hlt (fun j hj q => (s3 j (by omega) q).symm)
            rw [if_neg (show ¬ bI true = 0 by decide), if_neg (show ¬ bI true = 0 by decide), pu_y2, pu_gdN (show 8 + 3 * i < 82 by omega) (by omega), nI_clamp (by omega), u2, pu_b5, pu_gdN (show 8 + 3 * i < 82 by omega) (by omega), e, pu_b14, s1, pu_b1, w2, pu_b9]
            rcases i2 with ⟨rfl, rfl, rfl⟩ | ⟨b', c, hb', hc2, rfl, rfl, rfl, rfl⟩
            · rw [if_neg (nI_nle hx0 (by omega)), if_pos (show (-1 : Int32) < 0 by decide)]
              exact hc _ _ ⟨_, _, _, _, _, _, _, _, _, _, _, _, _, _, _, _, _, _, _, _, _, _, _, _, rfl, rfl, l4, Or.inr ⟨i, x, by omega, by omega, rfl, rfl, rfl, rfl⟩⟩
            · rw [if_neg (show ¬ nI b' < 0 from nI_pos (by omega))]
              by_cases g2 : nI c < nI x
              · rw [if_pos g2, if_neg (Int32.not_le.mpr g2)]
                exact hc _ _ ⟨_, _, _, _, _, _, _, _, _, _, _, _, _, _, _, _, _, _, _, _, _, _, _, _, rfl, rfl, l4, Or.inr ⟨i, x, by omega, by omega, rfl, rfl, rfl, rfl⟩⟩
              · rw [if_neg g2, if_pos (Int32.not_lt.mp g2)]
                exact hc _ _ ⟨_, _, _, _, _, _, _, _, _, _, _, _, _, _, _, _, _, _, _, _, _, _, _, _, rfl, rfl, l4, Or.inr ⟨b', c, hb', hc2, rfl, rfl, rfl, rfl⟩⟩
        · rintro q r ⟨th, ta, tr, tzz, tn, tk, tc, tg, to2, tl, tcd, tcc, tcp, ts, tw, td, y2, y3, m, ma, mb, mc, z2, z3, rfl, rfl, i1, i2⟩ rc rd
          have g64 : (6 : Int32) ≤ nI 6 := nI_le (a := 6) (by omega) (by omega)
          dsimp only
          unfold b_X6_whose_58 b_X7_whose_27
          rw [if_pos g64, if_pos g64]
          unfold f_X7_orNone
          rcases i2 with ⟨rfl, rfl, rfl⟩ | ⟨b', c, hb', hc2, rfl, rfl, rfl, rfl⟩
          · obtain ⟨f', g', t1, t2, t3⟩ := fe4 hF
            rw [if_neg (show ¬ (0 : Int32) ≤ -1 by decide), if_neg (show ¬ (0 : Int32) ≤ -1 by decide), t1, t2, pu_b2, pu_b2, pu_b2]
            exact ⟨_, _, _, _, _, _, _, _, _, _, _, _, _, _, _, _, _, _, _, _, _, _, _, rfl, rfl, ⟨N, A, rfl, rfl, by omega, i1, hV, hS, hC⟩, hK.mono hk1, t3, hT, hSh⟩
          · rw [if_pos (Int32.not_lt.mp (nI_pos (by omega))), if_pos (Int32.not_lt.mp (nI_pos (by omega))), pu_b2]
            exact ⟨_, _, _, _, _, _, _, _, _, _, _, _, _, _, _, _, _, _, _, _, _, _, _, rfl, rfl, ⟨N, A, rfl, rfl, by omega, i1, hV, hS, hC⟩, hK.mono hk1, hF, hT, hSh⟩
      · rw [if_pos (show bI (!true) = 0 from rfl), if_neg (show ¬ bI true = 0 by decide), pu_b1, if_neg (show ¬ (0 : Int32) ≤ -1000005 by decide)]
        obtain ⟨f', g', t1, t2, t3⟩ := fe5 hF
        rw [t1, t2, pu_b2, pu_b2]
        exact ⟨_, _, _, _, _, _, _, _, _, _, _, _, _, _, _, _, _, _, _, _, _, _, _, rfl, rfl, ⟨N, A, rfl, rfl, by omega, hM, hV, hS, hC⟩, hK.mono hk1, t3, hT, hSh⟩
