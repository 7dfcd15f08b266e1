/-! how warm it was -/
theorem gb_both {hour rub z : Int32} {A N : Nat} {kd cl gr oc : Nat → Int32} {lit cold : Int32} {ccell cpow sp mm : Nat → Int32} (hM : MS mm hour cold (nI A) rub z N kd cl gr lit ccell cpow sp) (hV : WV N kd cl oc) (hS : GS N cl gr) (hC : CI cold ccell cpow) {b n : Nat} (hb : b < N) (hn : n < 200) (hA : A < 100000000) (wm dr mwas mwarm mdrip : Nat → Int32) :
    ∃ (r hr' air' rb' : Int32) (cl' gr' oc' wm' dr' m' W' md' : Nat → Int32), f_X1_passHours hour (nI A) rub (nI N) kd cl gr oc lit cold ccell cpow wm dr (nI n) = some (r, hr', air', rb', cl', gr', oc', wm', dr') ∧ f_X7_grainsBehind mm mwas mwarm mdrip (nI b) (nI n) = some (gr' b, fw (fw mm mwas 82) m' 82, fw mm mwas 82, W', md') := by
  have hN := hM.hN
  obtain ⟨hr, A', rb, cl2, gr2, oc2, dr2, v, mm', W, md, ⟨e1, e2, e3, e4, e5, e6, e7, e8, e9, e10⟩, hq⟩ := hq_ex hM hV hS hC (M := n) (by omega) (wm := fw (fv cl lit cold ccell cpow) wm N) (fun b hb _ => fw_at N b hb) dr mwarm mdrip
  have w := w_hours hq (Nat.le_refl n) (by omega)
  rw [e1, e2, e3, e4, e5, e6, e7] at w
  refine ⟨nI (live cl N - live (cl2 n) N), hr n, nI (A' n), rb n, cl2 n, gr2 n, oc2 n, fw (fv cl lit cold ccell cpow) wm N, dr2 n, mm' n, W n, md n, ?_, ?_⟩
  · unfold f_X1_passHours
    rw [w_feel hN hV.wi hC, pu_b1]
    exact w
  · unfold f_X7_grainsBehind
    rw [m_row, pu_b1, ← e9, ← e10]
    have := lp_for4 (f := b_X7_grainsBehind_13 (nI b) (nI n) (fw mm mwas 82)) (n := ik_fu) mm' W md nI (some (gr2 n b, fw (fw mm mwas 82) (mm' n) 82, fw mm mwas 82, W n, md n)) n (fun rc i hi => ?_) (fun rc => ?_) (pu_fu (show n < 4000 by omega))
    · rw [e8] at this
      exact this
    · unfold b_X7_grainsBehind_13
      rw [if_neg (nI_ge hi (by omega)), (hq.2 i hi).2.1, pu_b3, nI_1]
    · unfold b_X7_grainsBehind_13
      rw [if_pos (nI_le (Nat.le_refl _) (by omega)), m_grains (hq.1 n (Nat.le_refl n)).1.rm (by omega), pu_b1, m_row, pu_b1]
theorem wi_1_24 (x : Int32) : f_X6_isWithin x 1 24 = some (bI (wn x 1 24)) := pu_within x 1 24
theorem in_1_24 (x : Int32) : f_X7_in x.toInt64 1 24 = some (bI (wn x 1 24)) := pu_in32 x 1 24
theorem wi_0_99 (x : Int32) : f_X6_isWithin x 0 99 = some (bI (wn x 0 99)) := pu_within x 0 99
theorem in_0_99 (x : Int32) : f_X7_in x.toInt64 0 99 = some (bI (wn x 0 99)) := pu_in32 x 0 99
theorem g_drawing : hy_drawing Gd := by
  intro k isk fnd nhour nair nrub nz nnb nkd ncl ngr noc nlit ncold nccell ncpow nsp nwm ndr khour kair krub kz knb kkd kcl kgr koc klit kcold kccell kcpow ksp kwm kdr thour tair trub tz tnb tkd tcl tgr toc tlit tcold tccell tcpow tsp twm tdr tok sta en val tsize tby sbits ssize snum misKept mtaped msort mfrom mto mvalue mbad mm mkept mwas mother mfound mwarm mdrip mtape mbits msize mnumber x1 x2 x3 hk hG
  obtain ⟨⟨N, A, rfl, rfl, hA, hM, hV, hS, hC⟩, hK, hF, hT, hSh⟩ := hG
  have hN := hM.hN
  have hk1 := gd_k k
  unfold f_X6_drawing f_X7_drawing
  rw [w_isBlock hN, in_1_24, pu_b1, pu_b1]
  cases hw : wn x1 0 (N - 1 : Int)
  · have hj : ∀ v, j_X7_drawing_32 mm mwas mfound mwarm mdrip x1 x2 x3 v = ik_b2 (f_X7_finds mfound (-1000001)) (fun r2 g3 => some (r2, mm, mwas, g3, mwarm, mdrip)) := by
      intro v
      unfold j_X7_drawing_32 f_X7_wrongFor
      rw [m_isBlock hM.rm, pu_b1, hw, if_pos bI_f, pu_b1, if_neg (show ¬ (0 : Int32) ≤ -1000001 by decide)]
    rw [hj, hj, in_0_99, pu_b1, ite_self, ite_self, if_pos bI_f]
    obtain ⟨f', g', t1, t2, t3⟩ := fe1 hF
    rw [t1, t2, pu_b2, pu_b2]
    exact ⟨_, _, _, _, _, _, _, _, _, _, _, _, _, _, _, _, _, _, _, _, _, _, _, rfl, rfl, ⟨N, A, rfl, rfl, by omega, hM, hV, hS, hC⟩, hK.mono hk1, t3, hT, hSh⟩
  · obtain ⟨b, b1, b2, b3, rfl⟩ := wn_n hw (by decide)
    have hb : b < N := by omega
    have hj : j_X7_drawing_32 mm mwas mfound mwarm mdrip (nI b) x2 x3 0 = ik_b2 (f_X7_finds mfound (-1000001)) (fun r2 g3 => some (r2, mm, mwas, g3, mwarm, mdrip)) := by
      unfold j_X7_drawing_32 f_X7_wrongFor
      rw [m_isBlock hM.rm, pu_b1, hw, if_neg (show ¬ bI true = 0 by decide), if_pos rfl, pu_b1, if_neg (show ¬ (0 : Int32) ≤ -1000001 by decide)]
    rw [if_neg (show ¬ bI true = 0 by decide), wi_1_24, pu_b1, hj]
    cases hw2 : wn x2 1 24
    · rw [if_pos bI_f, if_pos bI_f]
      obtain ⟨f', g', t1, t2, t3⟩ := fe1 hF
      rw [t1, t2, pu_b2, pu_b2]
      exact ⟨_, _, _, _, _, _, _, _, _, _, _, _, _, _, _, _, _, _, _, _, _, _, _, rfl, rfl, ⟨N, A, rfl, rfl, by omega, hM, hV, hS, hC⟩, hK.mono hk1, t3, hT, hSh⟩
    · obtain ⟨n, n1, n2, n3, rfl⟩ := wn_n hw2 (by decide)
      rw [if_neg (show ¬ bI true = 0 by decide), if_neg (show ¬ bI true = 0 by decide), wi_0_99, in_0_99, pu_b1, pu_b1]
      cases hw3 : wn x3 0 99
      · rw [if_pos bI_f, if_pos bI_f]
        obtain ⟨f', g', t1, t2, t3⟩ := fe1 hF
        rw [t1, t2, pu_b2, pu_b2]
        exact ⟨_, _, _, _, _, _, _, _, _, _, _, _, _, _, _, _, _, _, _, _, _, _, _, rfl, rfl, ⟨N, A, rfl, rfl, by omega, hM, hV, hS, hC⟩, hK.mono hk1, t3, hT, hSh⟩
      · unfold j_X7_drawing_32 f_X7_wrongFor
        rw [if_neg (show ¬ bI true = 0 by decide), if_neg (show ¬ bI true = 0 by decide), m_isBlock hM.rm, pu_b1, hw, if_neg (show ¬ bI true = 0 by decide), if_neg (show ¬ (1 : Int32) = 0 by decide), w_gone (by omega), m_gone hM.rm (by omega), pu_b1, pu_b1]
        by_cases hl : ncl b < 0
        · rw [decide_eq_true hl, if_neg (show ¬ bI true = 0 by decide), if_neg (show ¬ bI true = 0 by decide), pu_b1, if_neg (show ¬ (0 : Int32) ≤ -1000005 by decide)]
          obtain ⟨f', g', t1, t2, t3⟩ := fe5 hF
          rw [t1, t2, pu_b2, pu_b2]
          exact ⟨_, _, _, _, _, _, _, _, _, _, _, _, _, _, _, _, _, _, _, _, _, _, _, rfl, rfl, ⟨N, A, rfl, rfl, by omega, hM, hV, hS, hC⟩, hK.mono hk1, t3, hT, hSh⟩
        · rw [decide_eq_false hl, if_pos bI_f, if_pos bI_f, w_has, m_far hM, pu_b1, pu_b1]
          cases decide ((9999 : Int32) < nhour + nI n)
          · rw [if_neg (show ¬ bI (!false) = 0 by decide), if_pos bI_f, pu_b1, if_pos (show (0 : Int32) ≤ 0 by decide), lp_unc19, lp_unc7, dn_0]
            refine lp_rel (R := (fun p q => ∃ (R : Int32) (fnd_r : Nat → Int32) (thour_r : Int32) (tair_r : Int32) (trub_r : Int32) (tz_r : Int32) (tnb_r : Int32) (tkd_r : Nat → Int32) (tcl_r : Nat → Int32) (tgr_r : Nat → Int32) (toc_r : Nat → Int32) (tlit_r : Int32) (tcold_r : Int32) (tccell_r : Nat → Int32) (tcpow_r : Nat → Int32) (tsp_r : Nat → Int32) (twm_r : Nat → Int32) (tdr_r : Nat → Int32) (mm_r : Nat → Int32) (mwas_r : Nat → Int32) (mfound_r : Nat → Int32) (mwarm_r : Nat → Int32) (mdrip_r : Nat → Int32), p = some (R, fnd_r, thour_r, tair_r, trub_r, tz_r, tnb_r, tkd_r, tcl_r, tgr_r, toc_r, tlit_r, tcold_r, tccell_r, tcpow_r, tsp_r, twm_r, tdr_r) ∧ q = some (R, mm_r, mwas_r, mfound_r, mwarm_r, mdrip_r) ∧ Gd (k + 1) isk fnd_r nhour (nI A) nrub nz (nI N) nkd ncl ngr noc nlit ncold nccell ncpow nsp nwm ndr khour kair krub kz knb kkd kcl kgr koc klit kcold kccell kcpow ksp kwm kdr thour_r tair_r trub_r tz_r tnb_r tkd_r tcl_r tgr_r toc_r tlit_r tcold_r tccell_r tcpow_r tsp_r twm_r tdr_r tok sta en val tsize tby sbits ssize snum misKept mtaped msort mfrom mto mvalue mbad mm_r mkept mwas_r mother mfound_r mwarm_r mdrip_r mtape mbits msize mnumber)) (fun i q r => ∃ th ta tr tzz tn tk tc tg to2 tl tcd tcc tcp ts tw td c d m ma mb mc cd', q = (th, ta, tr, tzz, tn, tk, tc, tg, to2, tl, tcd, tcc, tcp, ts, tw, td, c, d, dn i) ∧ r = (m, ma, mb, mc, c, d, dn i) ∧ MS m nhour cd' (nI A) nrub nz N nkd ncl ngr nlit nccell ncpow nsp) 41 ?_ ?_ _ _ ⟨_, _, _, _, _, _, _, _, _, _, _, _, _, _, _, _, _, _, _, _, _, _, ncold, rfl, rfl, hM⟩ _ _ (pu_fu (by omega)) (pu_fu (by omega))
            · rintro i q r hi ⟨th, ta, tr, tzz, tn, tk, tc, tg, to2, tl, tcd, tcc, tcp, ts, tw, td, c, d, m, ma, mb, mc, cd', rfl, rfl, i1⟩ rc rd - - hc
              have l2 := i1.u_cold (dn i)
              obtain ⟨kd', cl', gr', oc', ccell', cpow', sp', e, r1, r2, r3, r4, r5, r6, r7, r8, r9, r10, r11⟩ := w_fresh hM hV hS hC th ta tr tzz tn tk tc tg to2 tl tcd tcc tcp ts
              have l3 : MS (upd m 1 (dn i)) nhour (dn i) (nI A) nrub nz N kd' cl' gr' nlit ccell' cpow' sp' := l2.cg (fun _ _ => rfl) r9 r5 r6 r8 r7 r11
              obtain ⟨r, hr', air', rb', cl2, gr2, oc2, wm', dr', m', W', md', w, u⟩ := gb_both l3 r2 r3 ⟨dn_ci hi, r4.2⟩ (n := n) hb (by omega) (by omega) tw td ma mb mc
              dsimp only
              unfold b_X6_drawing_80 b_X7_drawing_67
              rw [if_neg (dn_ge hi), if_neg (dn_ge hi), pu_c1, e, pu_b14, w, pu_b9, u, pu_b5, pu_gdN (show b < 16 by omega) (by omega), nI_clamp (by omega), dn_s (by omega)]
              by_cases g : gr2 b = x3
              · rw [if_pos g, if_pos g]
                exact hc _ _ ⟨_, _, _, _, _, _, _, _, _, _, _, _, _, _, _, _, _, _, _, _, _, _, dn i, rfl, rfl, l2.fw.fw⟩
              · rw [if_neg g, if_neg g]
                exact hc _ _ ⟨_, _, _, _, _, _, _, _, _, _, _, _, _, _, _, _, _, _, _, _, _, _, dn i, rfl, rfl, l2.fw.fw⟩
            · rintro q r ⟨th, ta, tr, tzz, tn, tk, tc, tg, to2, tl, tcd, tcc, tcp, ts, tw, td, c, d, m, ma, mb, mc, cd', rfl, rfl, i1⟩ rc rd
              dsimp only
              unfold b_X6_drawing_80 b_X7_drawing_67
              rw [if_pos dn_41, if_pos dn_41, pu_c1, hM.h1]
              by_cases g : c = 0
              · obtain ⟨f', g', t1, t2, t3⟩ := fe4 hF
                rw [if_pos g, if_pos g, t1, t2, pu_b2, pu_b2]
                exact ⟨_, _, _, _, _, _, _, _, _, _, _, _, _, _, _, _, _, _, _, _, _, _, _, rfl, rfl, ⟨N, A, rfl, rfl, by omega, i1.u_cold ncold, hV, hS, hC⟩, hK.mono hk1, t3, hT, hSh⟩
              · rw [if_neg g, if_neg g]
                exact ⟨_, _, _, _, _, _, _, _, _, _, _, _, _, _, _, _, _, _, _, _, _, _, _, rfl, rfl, ⟨N, A, rfl, rfl, by omega, i1.u_cold ncold, hV, hS, hC⟩, hK.mono hk1, hF, hT, hSh⟩
          · rw [if_pos (show bI (!true) = 0 from rfl), if_neg (show ¬ bI true = 0 by decide), pu_b1, if_neg (show ¬ (0 : Int32) ≤ -1000005 by decide)]
            obtain ⟨f', g', t1, t2, t3⟩ := fe5 hF
            rw [t1, t2, pu_b2, pu_b2]
            exact ⟨_, _, _, _, _, _, _, _, _, _, _, _, _, _, _, _, _, _, _, _, _, _, _, rfl, rfl, ⟨N, A, rfl, rfl, by omega, hM, hV, hS, hC⟩, hK.mono hk1, t3, hT, hSh⟩
