/-! how warm it may be -/
theorem g_bears : hy_bears Gd := by
  intro k isk fnd nhour nair nrub nz nnb nkd ncl ngr noc nlit ncold nccell ncpow nsp nwm ndr khour kair krub kz knb kkd kcl kgr koc klit kcold kccell kcpow ksp kwm kdr thour tair trub tz tnb tkd tcl tgr toc tlit tcold tccell tcpow tsp twm tdr tok sta en val tsize tby sbits ssize snum misKept mtaped msort mfrom mto mvalue mbad mm mkept mwas mother mfound mwarm mdrip mtape mbits msize mnumber x1 hk hG
  obtain ⟨⟨N, A, rfl, rfl, hA, hM, hV, hS, hC⟩, hK, hF, hT, hSh⟩ := hG
  have hN := hM.hN
  have hk1 := gd_k k
  unfold f_X6_bears f_X7_bears
  rw [wi_1_48, in_1_48, pu_b1, pu_b1]
  cases hw : wn x1 1 48
  · rw [if_pos bI_f, if_pos bI_f]
    obtain ⟨f', g', t1, t2, t3⟩ := fe1 hF
    rw [t1, t2, pu_b2, pu_b2]
    exact ⟨_, _, _, _, _, _, _, _, _, _, _, _, _, _, _, _, _, _, _, _, _, _, _, rfl, rfl, ⟨N, A, rfl, rfl, by omega, hM, hV, hS, hC⟩, hK.mono hk1, t3, hT, hSh⟩
  · obtain ⟨n, n1, n2, n3, rfl⟩ := wn_n hw (by decide)
    rw [if_neg (show ¬ bI true = 0 by decide), if_neg (show ¬ bI true = 0 by decide), w_has, m_far hM, pu_b1, pu_b1]
    cases decide ((9999 : Int32) < nhour + nI n)
    · rw [if_neg (show ¬ bI (!false) = 0 by decide), if_pos bI_f, lp_unc17, lp_unc6, dn_0]
      refine lp_rel (R := (fun p q => ∃ (R : Int32) (fnd_r : Nat → Int32) (thour_r : Int32) (tair_r : Int32) (trub_r : Int32) (tz_r : Int32) (tnb_r : Int32) (tkd_r : Nat → Int32) (tcl_r : Nat → Int32) (tgr_r : Nat → Int32) (toc_r : Nat → Int32) (tlit_r : Int32) (tcold_r : Int32) (tccell_r : Nat → Int32) (tcpow_r : Nat → Int32) (tsp_r : Nat → Int32) (twm_r : Nat → Int32) (tdr_r : Nat → Int32) (mm_r : Nat → Int32) (mwas_r : Nat → Int32) (mfound_r : Nat → Int32) (mwarm_r : Nat → Int32) (mdrip_r : Nat → Int32), p = some (R, fnd_r, thour_r, tair_r, trub_r, tz_r, tnb_r, tkd_r, tcl_r, tgr_r, toc_r, tlit_r, tcold_r, tccell_r, tcpow_r, tsp_r, twm_r, tdr_r) ∧ q = some (R, mm_r, mwas_r, mfound_r, mwarm_r, mdrip_r) ∧ Gd (k + 1) isk fnd_r nhour (nI A) nrub nz (nI N) nkd ncl ngr noc nlit ncold nccell ncpow nsp nwm ndr khour kair krub kz knb kkd kcl kgr koc klit kcold kccell kcpow ksp kwm kdr thour_r tair_r trub_r tz_r tnb_r tkd_r tcl_r tgr_r toc_r tlit_r tcold_r tccell_r tcpow_r tsp_r twm_r tdr_r tok sta en val tsize tby sbits ssize snum misKept mtaped msort mfrom mto mvalue mbad mm_r mkept mwas_r mother mfound_r mwarm_r mdrip_r mtape mbits msize mnumber)) (fun i q r => ∃ th ta tr tzz tn tk tc tg to2 tl tcd tcc tcp ts tw td m ma mb mc cd', q = (th, ta, tr, tzz, tn, tk, tc, tg, to2, tl, tcd, tcc, tcp, ts, tw, td, dn i) ∧ r = (m, ma, mb, mc, dn i, 0) ∧ MS m nhour cd' (nI A) nrub nz N nkd ncl ngr nlit nccell ncpow nsp) 41 ?_ ?_ _ _ ⟨_, _, _, _, _, _, _, _, _, _, _, _, _, _, _, _, _, _, _, _, ncold, rfl, rfl, hM⟩ _ _ (pu_fu (by omega)) (pu_fu (by omega))
      · rintro i q r hi ⟨th, ta, tr, tzz, tn, tk, tc, tg, to2, tl, tcd, tcc, tcp, ts, tw, td, m, ma, mb, mc, cd', rfl, rfl, i1⟩ rc rd - hrd hc
        have l2 := i1.u_cold (dn i)
        obtain ⟨kd', cl', gr', oc', ccell', cpow', sp', e, r1, r2, r3, r4, r5, r6, r7, r8, r9, r10, r11⟩ := w_fresh hM hV hS hC th ta tr tzz tn tk tc tg to2 tl tcd tcc tcp ts
        have l3 : MS (upd m 1 (dn i)) nhour (dn i) (nI A) nrub nz N kd' cl' gr' nlit ccell' cpow' sp' := l2.cg (fun _ _ => rfl) r9 r5 r6 r8 r7 r11
        obtain ⟨x, hr', air', rb', cl2, gr2, oc2, wm', dr', m', W', md', hx, w, u⟩ := held_both l3 r2 r3 ⟨dn_ci hi, r4.2⟩ (n := n) (by omega) (by omega) tw td ma mb mc
        have hxe : nI x = nI n ↔ x = n := nI_eq (by omega) (by omega)
        dsimp only
        unfold b_X6_bears_35 b_X7_bears_47
        rw [if_neg (dn_ge hi), if_neg (dn_ge hi), if_pos (show (0 : Int32) = 0 from rfl), pu_c1, e, pu_b14, w, pu_b9, u, pu_b5]
        by_cases g : x = n
        · obtain ⟨rd', hr⟩ := hrd (fw (fw (upd m 1 (dn i)) ma 82) m' 82, fw (upd m 1 (dn i)) ma 82, W', md', dn i - 0, 1)
          dsimp only at hr
          unfold b_X7_bears_47 at hr
          rw [Int32.sub_zero, if_neg (dn_ge hi), if_neg (show ¬ (1 : Int32) = 0 by decide), if_neg (show ¬ (1 : Int32) = 0 by decide), pu_c1, hM.h1] at hr
          rw [if_pos (hxe.mpr g), if_pos (hxe.mpr g), if_neg (show ¬ (1 : Int32) = 0 by decide), Int32.sub_zero]
          dsimp only
          rw [hr]
          exact ⟨_, _, _, _, _, _, _, _, _, _, _, _, _, _, _, _, _, _, _, _, _, _, _, rfl, rfl, ⟨N, A, rfl, rfl, by omega, l2.fw.fw.u_cold ncold, hV, hS, hC⟩, hK.mono hk1, hF, hT, hSh⟩
        · rw [if_neg (fun p => g (hxe.mp p)), if_neg (fun p => g (hxe.mp p)), if_pos (show (0 : Int32) = 0 from rfl), i_sub1, dn_s (by omega)]
          exact hc _ _ ⟨_, _, _, _, _, _, _, _, _, _, _, _, _, _, _, _, _, _, _, _, dn i, rfl, rfl, l2.fw.fw⟩
      · rintro q r ⟨th, ta, tr, tzz, tn, tk, tc, tg, to2, tl, tcd, tcc, tcp, ts, tw, td, m, ma, mb, mc, cd', rfl, rfl, i1⟩ rc rd
        obtain ⟨f', g', t1, t2, t3⟩ := fe4 hF
        dsimp only
        unfold b_X6_bears_35 b_X7_bears_47
        rw [if_pos dn_41, if_pos dn_41, if_pos (show (0 : Int32) = 0 from rfl), pu_c1, hM.h1, t1, t2, pu_b2, pu_b2]
        exact ⟨_, _, _, _, _, _, _, _, _, _, _, _, _, _, _, _, _, _, _, _, _, _, _, rfl, rfl, ⟨N, A, rfl, rfl, by omega, i1.u_cold ncold, hV, hS, hC⟩, hK.mono hk1, t3, hT, hSh⟩
    · rw [if_pos (show bI (!true) = 0 from rfl), if_neg (show ¬ bI true = 0 by decide)]
      obtain ⟨f', g', t1, t2, t3⟩ := fe5 hF
      rw [t1, t2, pu_b2, pu_b2]
      exact ⟨_, _, _, _, _, _, _, _, _, _, _, _, _, _, _, _, _, _, _, _, _, _, _, rfl, rfl, ⟨N, A, rfl, rfl, by omega, hM, hV, hS, hC⟩, hK.mono hk1, t3, hT, hSh⟩
