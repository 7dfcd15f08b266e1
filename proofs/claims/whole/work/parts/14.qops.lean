/-! how much a block needs -/
theorem g_needs : hy_needs Gd := by
  intro k isk fnd nhour nair nrub nz nnb nkd ncl ngr noc nlit ncold nccell ncpow nsp nwm ndr khour kair krub kz knb kkd kcl kgr koc klit kcold kccell kcpow ksp kwm kdr thour tair trub tz tnb tkd tcl tgr toc tlit tcold tccell tcpow tsp twm tdr tok sta en val tsize tby sbits ssize snum misKept mtaped msort mfrom mto mvalue mbad mm mkept mwas mother mfound mwarm mdrip mtape mbits msize mnumber x1 x2 hk hG
  obtain ⟨⟨N, A, rfl, rfl, hA, hM, hV, hS, hC⟩, hK, hF, hT, hSh⟩ := hG
  have hN := hM.hN
  have hk1 := gd_k k
  unfold f_X6_needs f_X7_needs f_X7_wrongFor
  rw [w_isBlock hN, m_isBlock hM.rm, in_1_48, pu_b1, pu_b1, pu_b1]
  cases hw : wn x1 0 (N - 1 : Int)
  · rw [if_pos bI_f, if_pos bI_f, pu_b1, if_neg (show ¬ (0 : Int32) ≤ -1000001 by decide)]
    obtain ⟨f', g', t1, t2, t3⟩ := fe1 hF
    rw [t1, t2, pu_b2, pu_b2]
    exact ⟨_, _, _, _, _, _, _, _, _, _, _, _, _, _, _, _, _, _, _, _, _, _, _, rfl, rfl, ⟨N, A, rfl, rfl, by omega, hM, hV, hS, hC⟩, hK.mono hk1, t3, hT, hSh⟩
  · obtain ⟨b, b1, b2, b3, rfl⟩ := wn_n hw (by decide)
    have hb : b < N := by omega
    rw [if_neg (show ¬ bI true = 0 by decide), if_neg (show ¬ bI true = 0 by decide), wi_1_48, pu_b1]
    cases hw2 : wn x2 1 48
    · rw [if_pos bI_f, if_pos bI_f, pu_b1, if_neg (show ¬ (0 : Int32) ≤ -1000001 by decide)]
      obtain ⟨f', g', t1, t2, t3⟩ := fe1 hF
      rw [t1, t2, pu_b2, pu_b2]
      exact ⟨_, _, _, _, _, _, _, _, _, _, _, _, _, _, _, _, _, _, _, _, _, _, _, rfl, rfl, ⟨N, A, rfl, rfl, by omega, hM, hV, hS, hC⟩, hK.mono hk1, t3, hT, hSh⟩
    · obtain ⟨n, n1, n2, n3, rfl⟩ := wn_n hw2 (by decide)
      rw [if_neg (show ¬ bI true = 0 by decide), if_neg (show ¬ bI true = 0 by decide), w_gone (by omega), m_gone hM.rm (by omega), pu_b1, pu_b1]
      by_cases hl : ncl b < 0
      · rw [decide_eq_true hl, if_neg (show ¬ bI true = 0 by decide), if_neg (show ¬ bI true = 0 by decide), pu_b1, if_neg (show ¬ (0 : Int32) ≤ -1000005 by decide)]
        obtain ⟨f', g', t1, t2, t3⟩ := fe5 hF
        rw [t1, t2, pu_b2, pu_b2]
        exact ⟨_, _, _, _, _, _, _, _, _, _, _, _, _, _, _, _, _, _, _, _, _, _, _, rfl, rfl, ⟨N, A, rfl, rfl, by omega, hM, hV, hS, hC⟩, hK.mono hk1, t3, hT, hSh⟩
      · rw [decide_eq_false hl, if_pos bI_f, if_pos bI_f, w_has, m_far hM, pu_b1, pu_b1]
        cases decide ((9999 : Int32) < nhour + nI n)
        · obtain ⟨g, hg, eg, hg0⟩ := hS b hb
          have g1 : 0 < g := by
            rcases Nat.eq_zero_or_pos g with q | q
            · exact absurd (hg0.mpr q) hl
            · exact q
          rw [if_neg (show ¬ bI (!false) = 0 by decide), if_pos bI_f, pu_b1, if_pos (show (0 : Int32) ≤ 0 by decide), pu_gdN (show b < 16 by omega) (by omega), m_grains hM.rm (by omega), pu_b1, eg, lp_unc17, lp_unc6]
          have hself : upd ngr b (nI g) = ngr := upd_self eg
          have e99 : (99 : Int32) - nI g = nI (99 - g) := pk_sub (a := 99) (by omega)
          refine lp_relG (R := (fun p q => ∃ (R : Int32) (fnd_r : Nat → Int32) (thour_r : Int32) (tair_r : Int32) (trub_r : Int32) (tz_r : Int32) (tnb_r : Int32) (tkd_r : Nat → Int32) (tcl_r : Nat → Int32) (tgr_r : Nat → Int32) (toc_r : Nat → Int32) (tlit_r : Int32) (tcold_r : Int32) (tccell_r : Nat → Int32) (tcpow_r : Nat → Int32) (tsp_r : Nat → Int32) (twm_r : Nat → Int32) (tdr_r : Nat → Int32) (mm_r : Nat → Int32) (mwas_r : Nat → Int32) (mfound_r : Nat → Int32) (mwarm_r : Nat → Int32) (mdrip_r : Nat → Int32), p = some (R, fnd_r, thour_r, tair_r, trub_r, tz_r, tnb_r, tkd_r, tcl_r, tgr_r, toc_r, tlit_r, tcold_r, tccell_r, tcpow_r, tsp_r, twm_r, tdr_r) ∧ q = some (R, mm_r, mwas_r, mfound_r, mwarm_r, mdrip_r) ∧ Gd (k + 1) isk fnd_r nhour (nI A) nrub nz (nI N) nkd ncl ngr noc nlit ncold nccell ncpow nsp nwm ndr khour kair krub kz knb kkd kcl kgr koc klit kcold kccell kcpow ksp kwm kdr thour_r tair_r trub_r tz_r tnb_r tkd_r tcl_r tgr_r toc_r tlit_r tcold_r tccell_r tcpow_r tsp_r twm_r tdr_r tok sta en val tsize tby sbits ssize snum misKept mtaped msort mfrom mto mvalue mbad mm_r mkept mwas_r mother mfound_r mwarm_r mdrip_r mtape mbits msize mnumber)) (fun i q r => ∃ th ta tr tzz tn tk tc tg to2 tl tcd tcc tcp ts tw td m ma mb mc v, q = (th, ta, tr, tzz, tn, tk, tc, tg, to2, tl, tcd, tcc, tcp, ts, tw, td, nI i) ∧ r = (m, ma, mb, mc, -1, nI i) ∧ MS m nhour ncold (nI A) nrub nz N nkd ncl (upd ngr b v) nlit nccell ncpow nsp ∧ (i = 0 ∨ ∀ m ma mb mc, MS m nhour ncold (nI A) nrub nz N nkd ncl (upd ngr b (nI (g + (i - 1)))) nlit nccell ncpow nsp → ∃ x m' W' md', ¬ nI x = nI n ∧ f_X7_held m ma mb mc (nI n) = some (nI x, fw (fw m ma 82) m' 82, fw m ma 82, W', md'))) (100 - g) 0 g ?_ ?_ _ _ ⟨_, _, _, _, _, _, _, _, _, _, _, _, _, _, _, _, _, _, _, _, nI g, rfl, rfl, by rw [hself]; exact hM, Or.inl rfl⟩ _ _ (pu_fu (by omega)) (pu_fu (by omega))
          · rintro i q r hi ⟨th, ta, tr, tzz, tn, tk, tc, tg, to2, tl, tcd, tcc, tcp, ts, tw, td, m, ma, mb, mc, v, rfl, rfl, i1, i2⟩ rc rd - hrd hc
            have l2 := i1.u_gr (b := b) (by omega) (nI (g + i))
            rw [uu] at l2
            obtain ⟨kd', cl', gr', oc', ccell', cpow', sp', e, r1, r2, r3, r4, r5, r6, r7, r8, r9, r10, r11⟩ := w_fresh hM hV hS hC th ta tr tzz tn tk tc tg to2 tl tcd tcc tcp ts
            have l3 : MS (upd m (26 + 3 * b) (nI (g + i))) nhour ncold (nI A) nrub nz N kd' cl' (upd gr' b (nI (g + i))) nlit ccell' cpow' sp' := l2.cg (fun _ _ => rfl) r9 r5 (up_cg r6 b _) r8 r7 r11
            obtain ⟨x, hx, w0, u0⟩ := held_all l3 r2 (r3.up (by rw [r5 b (by omega)]; exact hl) (v := g + i) (by omega) (by omega)) r4 (n := n) (by omega) (by omega)
            obtain ⟨hr', air', rb', cl2, gr2, oc2, wm', dr', w⟩ := w0 tw td
            obtain ⟨m', W', md', u⟩ := u0 _ ma mb mc l3
            have hxe : nI x = nI n ↔ x = n := nI_eq (by omega) (by omega)
            have w1 := w_thick (gr := gr') (d := i) (show b < 16 by omega) (by rw [r6 b (by omega)]; exact eg) hg (by omega)
            rw [Nat.min_eq_left (by omega)] at w1
            have u1 := m_capped (a := g + i) (by omega)
            rw [Nat.min_eq_left (by omega)] at u1
            dsimp only
            unfold b_X6_needs_79 b_X7_needs_39
            rw [nI_clamp (by omega), eg, e99, if_neg (nI_nlt (by omega) (by omega)), if_neg (show ¬ (99 : Int32) < nI i from nI_nlt (a := 99) (by omega) (by omega)), if_neg (show ¬ (0 : Int32) ≤ -1 by decide), nI_add, u1, pu_b1, m_makes (by omega), pu_b1, u, pu_b5, e, pu_b14, w1, pu_b2, w, pu_b9]
            by_cases h : x = n
            · obtain ⟨rd', hr⟩ := hrd (fw (fw (upd m (26 + 3 * b) (nI (g + i))) ma 82) m' 82, fw (upd m (26 + 3 * b) (nI (g + i))) ma 82, W', md', nI i, nI i + 1)
              dsimp only at hr
              unfold b_X7_needs_39 f_X7_orNone at hr
              rw [nI_1, if_neg (show ¬ (99 : Int32) < nI (i + 1) from nI_nlt (a := 99) (by omega) (by omega)), if_pos (Int32.not_lt.mp (nI_pos (by omega))), m_makes (by omega), pu_b1, if_pos (Int32.not_lt.mp (nI_pos (by omega))), pu_b2] at hr
              rw [if_pos (hxe.mpr h), if_pos (hxe.mpr h), nI_1]
              dsimp only
              rw [hr]
              have l4 := l2.fw (m := ma) |>.fw (m := m') |>.u_gr (b := b) (by omega) (nI g)
              rw [uu, hself] at l4
              exact ⟨_, _, _, _, _, _, _, _, _, _, _, _, _, _, _, _, _, _, _, _, _, _, _, rfl, rfl, ⟨N, A, rfl, rfl, by omega, l4, hV, hS, hC⟩, hK.mono hk1, hF, hT, hSh⟩
            · rw [if_neg (fun p => h (hxe.mp p)), if_neg (fun p => h (hxe.mp p)), nI_1]
              refine hc _ _ ⟨_, _, _, _, _, _, _, _, _, _, _, _, _, _, _, _, _, _, _, _, nI (g + i), rfl, rfl, l2.fw.fw, Or.inr (fun m2 a2 b2 c2 k2 => ?_)⟩
              rw [Nat.add_sub_cancel] at k2
              obtain ⟨m', W', md', u⟩ := u0 m2 a2 b2 c2 (k2.cg (fun _ _ => rfl) r9 r5 (up_cg r6 b _) r8 r7 r11)
              exact ⟨x, m', W', md', fun p => h (hxe.mp p), u⟩
          · rintro q r ⟨th, ta, tr, tzz, tn, tk, tc, tg, to2, tl, tcd, tcc, tcp, ts, tw, td, m, ma, mb, mc, v, rfl, rfl, i1, i2⟩ n1 m1 hn1 hm1
            have i3 := i2.resolve_left (by omega)
            rw [show g + (100 - g - 1) = 99 by omega] at i3
            obtain ⟨n1, rfl⟩ := Nat.exists_eq_succ_of_ne_zero (show n1 ≠ 0 by omega)
            obtain ⟨f', g', t1, t2, t3⟩ := fe4 hF
            rw [lp1_s]
            dsimp only
            unfold b_X6_needs_79
            rw [nI_clamp (by omega), eg, e99, if_pos (nI_lt (by omega) (by omega)), t1, pu_b2]
            refine lp_relR (R := fun q => (fun p q => ∃ (R : Int32) (fnd_r : Nat → Int32) (thour_r : Int32) (tair_r : Int32) (trub_r : Int32) (tz_r : Int32) (tnb_r : Int32) (tkd_r : Nat → Int32) (tcl_r : Nat → Int32) (tgr_r : Nat → Int32) (toc_r : Nat → Int32) (tlit_r : Int32) (tcold_r : Int32) (tccell_r : Nat → Int32) (tcpow_r : Nat → Int32) (tsp_r : Nat → Int32) (twm_r : Nat → Int32) (tdr_r : Nat → Int32) (mm_r : Nat → Int32) (mwas_r : Nat → Int32) (mfound_r : Nat → Int32) (mwarm_r : Nat → Int32) (mdrip_r : Nat → Int32), p = some (R, fnd_r, thour_r, tair_r, trub_r, tz_r, tnb_r, tkd_r, tcl_r, tgr_r, toc_r, tlit_r, tcold_r, tccell_r, tcpow_r, tsp_r, twm_r, tdr_r) ∧ q = some (R, mm_r, mwas_r, mfound_r, mwarm_r, mdrip_r) ∧ Gd (k + 1) isk fnd_r nhour (nI A) nrub nz (nI N) nkd ncl ngr noc nlit ncold nccell ncpow nsp nwm ndr khour kair krub kz knb kkd kcl kgr koc klit kcold kccell kcpow ksp kwm kdr thour_r tair_r trub_r tz_r tnb_r tkd_r tcl_r tgr_r toc_r tlit_r tcold_r tccell_r tcpow_r tsp_r twm_r tdr_r tok sta en val tsize tby sbits ssize snum misKept mtaped msort mfrom mto mvalue mbad mm_r mkept mwas_r mother mfound_r mwarm_r mdrip_r mtape mbits msize mnumber) _ q) (fun i r => ∃ m ma mb mc v, r = (m, ma, mb, mc, -1, nI (100 - g + i)) ∧ MS m nhour ncold (nI A) nrub nz N nkd ncl (upd ngr b v) nlit nccell ncpow nsp) g ?_ ?_ _ ⟨_, _, _, _, v, rfl, i1⟩ m1 hm1
            · rintro i r hi ⟨m, ma, mb, mc, v, rfl, i1⟩ rd - hc
              have l2 := i1.u_gr (b := b) (by omega) (nI 99)
              rw [uu] at l2
              obtain ⟨x, m', W', md', hx, u⟩ := i3 _ ma mb mc l2
              have u1 := m_capped (a := g + (100 - g + i)) (by omega)
              rw [Nat.min_eq_right (by omega)] at u1
              have gg : (b_X7_needs_39 mfound (nI b) (nI n) (nI g) (fun a1 a2 a3 a4 a5 a6 => rd (a1, a2, a3, a4, a5, a6)) m ma mb mc (-1) (nI (100 - g + i))) = rd (fw (fw (upd m (26 + 3 * b) (nI 99)) ma 82) m' 82, fw (upd m (26 + 3 * b) (nI 99)) ma 82, W', md', -1, nI (100 - g + (i + 1))) := by
                unfold b_X7_needs_39
                rw [if_neg (show ¬ (99 : Int32) < nI (100 - g + i) from nI_nlt (a := 99) (by omega) (by omega)), if_neg (show ¬ (0 : Int32) ≤ -1 by decide), nI_add, u1, pu_b1, m_makes (by omega), pu_b1, u, pu_b5, if_neg hx, nI_1, Nat.add_assoc]
              have := hc (fw (fw (upd m (26 + 3 * b) (nI 99)) ma 82) m' 82, fw (upd m (26 + 3 * b) (nI 99)) ma 82, W', md', -1, nI (100 - g + (i + 1))) ⟨_, _, _, _, nI 99, rfl, l2.fw.fw⟩
              rw [← gg] at this
              exact this
            · rintro r ⟨m, ma, mb, mc, v, rfl, i1⟩ rd
              have l4 := i1.u_gr (b := b) (by omega) (nI g)
              rw [uu, hself] at l4
              rw [show 100 - g + g = 100 by omega]
              dsimp only
              unfold b_X7_needs_39 f_X7_orNone
              rw [if_pos (show (99 : Int32) < nI 100 by decide), m_makes (by omega), pu_b1, if_neg (show ¬ (0 : Int32) ≤ -1 by decide), t2, pu_b2, pu_b2]
              exact ⟨_, _, _, _, _, _, _, _, _, _, _, _, _, _, _, _, _, _, _, _, _, _, _, rfl, rfl, ⟨N, A, rfl, rfl, by omega, l4, hV, hS, hC⟩, hK.mono hk1, t3, hT, hSh⟩
        · rw [if_pos (show bI (!true) = 0 from rfl), if_neg (show ¬ bI true = 0 by decide), pu_b1, if_neg (show ¬ (0 : Int32) ≤ -1000005 by decide)]
          obtain ⟨f', g', t1, t2, t3⟩ := fe5 hF
          rw [t1, t2, pu_b2, pu_b2]
          exact ⟨_, _, _, _, _, _, _, _, _, _, _, _, _, _, _, _, _, _, _, _, _, _, _, rfl, rfl, ⟨N, A, rfl, rfl, by omega, hM, hV, hS, hC⟩, hK.mono hk1, t3, hT, hSh⟩
