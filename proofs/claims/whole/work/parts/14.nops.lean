/-! which lights -/
theorem g_deal : hy_deal Gd := by
  intro k isk fnd nhour nair nrub nz nnb nkd ncl ngr noc nlit ncold nccell ncpow nsp nwm ndr khour kair krub kz knb kkd kcl kgr koc klit kcold kccell kcpow ksp kwm kdr thour tair trub tz tnb tkd tcl tgr toc tlit tcold tccell tcpow tsp twm tdr tok sta en val tsize tby sbits ssize snum misKept mtaped msort mfrom mto mvalue mbad mm mkept mwas mother mfound mwarm mdrip mtape mbits msize mnumber x1 hk hG
  obtain ⟨⟨N, A, rfl, rfl, hA, hM, hV, hS, hC⟩, hK, hF, hT, hSh⟩ := hG
  have hN := hM.hN
  have hk1 := gd_k k
  unfold f_X6_deal f_X7_deal
  rw [wi_1_48, in_1_48, pu_b1, pu_b1]
  cases hw : wn x1 1 48
  · rw [if_pos bI_f, if_pos bI_f]
    obtain ⟨f', g', t1, t2, t3⟩ := fe1 hF
    rw [t1, t2, pu_b2, pu_b2]
    exact ⟨_, _, _, _, _, _, _, _, _, _, _, _, _, _, _, _, _, _, _, _, _, _, _, _, rfl, rfl, ⟨N, A, rfl, rfl, by omega, hM, hV, hS, hC⟩, hK.mono hk1, t3, hT, hSh⟩
  · obtain ⟨n, n1, n2, n3, rfl⟩ := wn_n hw (by decide)
    rw [if_neg (show ¬ bI true = 0 by decide), if_neg (show ¬ bI true = 0 by decide), w_has, m_far hM, pu_b1, pu_b1]
    cases decide ((9999 : Int32) < nhour + nI n)
    · rw [if_neg (show ¬ bI (!false) = 0 by decide), if_pos bI_f, m_row, pu_b1, lp_unc19, lp_unc7]
      refine lp_rel (R := (fun p q => ∃ (R : Int32) (fnd_r : Nat → Int32) (thour_r : Int32) (tair_r : Int32) (trub_r : Int32) (tz_r : Int32) (tnb_r : Int32) (tkd_r : Nat → Int32) (tcl_r : Nat → Int32) (tgr_r : Nat → Int32) (toc_r : Nat → Int32) (tlit_r : Int32) (tcold_r : Int32) (tccell_r : Nat → Int32) (tcpow_r : Nat → Int32) (tsp_r : Nat → Int32) (twm_r : Nat → Int32) (tdr_r : Nat → Int32) (mm_r : Nat → Int32) (mwas_r : Nat → Int32) (mother_r : Nat → Int32) (mfound_r : Nat → Int32) (mwarm_r : Nat → Int32) (mdrip_r : Nat → Int32), p = some (R, fnd_r, thour_r, tair_r, trub_r, tz_r, tnb_r, tkd_r, tcl_r, tgr_r, toc_r, tlit_r, tcold_r, tccell_r, tcpow_r, tsp_r, twm_r, tdr_r) ∧ q = some (R, mm_r, mwas_r, mother_r, mfound_r, mwarm_r, mdrip_r) ∧ Gd (k + 1) isk fnd_r nhour (nI A) nrub nz (nI N) nkd ncl ngr noc nlit ncold nccell ncpow nsp nwm ndr khour kair krub kz knb kkd kcl kgr koc klit kcold kccell kcpow ksp kwm kdr thour_r tair_r trub_r tz_r tnb_r tkd_r tcl_r tgr_r toc_r tlit_r tcold_r tccell_r tcpow_r tsp_r twm_r tdr_r tok sta en val tsize tby sbits ssize snum misKept mtaped msort mfrom mto mvalue mbad mm_r mkept mwas_r mother_r mfound_r mwarm_r mdrip_r mtape mbits msize mnumber)) (fun i q r => ∃ th ta tr tzz tn tk tc tg to2 tl tcd tcc tcp ts tw td y2 y3 m ma mb mc z2 z3 lit', q = (th, ta, tr, tzz, tn, tk, tc, tg, to2, tl, tcd, tcc, tcp, ts, tw, td, y2, y3, nI i) ∧ r = (m, ma, mb, mc, z2, z3, nI i) ∧ MS m nhour ncold (nI A) nrub nz N nkd ncl ngr lit' nccell ncpow nsp ∧ ((y2 = -1 ∧ z2 = -1 ∧ y3 = -1) ∨ ∃ b a, b < 64 ∧ a ≤ 180 ∧ y2 = nI b ∧ z2 = nI b ∧ y3 = nI a ∧ z3 = nI a)) 64 ?_ ?_ _ _ ⟨_, _, _, _, _, _, _, _, _, _, _, _, _, _, _, _, _, _, _, _, _, _, _, _, nlit, rfl, rfl, hM, Or.inl ⟨rfl, rfl, rfl⟩⟩ _ _ (pu_fu (by omega)) (pu_fu (by omega))
      · rintro i q r hi ⟨th, ta, tr, tzz, tn, tk, tc, tg, to2, tl, tcd, tcc, tcp, ts, tw, td, y2, y3, m, ma, mb, mc, z2, z3, lit', rfl, rfl, i1, i2⟩ rc rd - - hc
        obtain ⟨l1, l2⟩ := m_lights i1 (nI i)
        obtain ⟨a, ha, ea⟩ := lf_nat (lit := nI i) hC 6 (by omega)
        obtain ⟨kd', cl', gr', oc', ccell', cpow', sp', e, r1, r2, r3, r4, r5, r6, r7, r8, r9, r10, r11⟩ := w_fresh hM hV hS hC th ta tr tzz tn tk tc tg to2 tl tcd tcc tcp ts
        have l3 : MS (lt m (nI i) 6) nhour ncold (nI A) nrub nz N kd' cl' gr' (nI i) ccell' cpow' sp' := l2.cg (fun _ _ => rfl) r9 r5 r6 r8 r7 r11
        obtain ⟨x, hr', air', rb', cl2, gr2, oc2, wm', dr', m', W', md', hx, w, u⟩ := held_both l3 r2 r3 r4 (n := n) (by omega) (by omega) tw td ma mb mc
        have hlt : ∀ c : Nat, c ≤ 180 → (nI c < nI a ↔ c < a) := fun c hc => nI_ltI (by omega) (by omega)
        have hxe : nI x = nI n ↔ x = n := nI_eq (by omega) (by omega)
        have hxl : nI n ≤ nI x ↔ n ≤ x := nI_leI (by omega) (by omega)
        have ml : f_X7_light (fw (fw (lt m (nI i) 6) ma 82) m' 82) = some (nI a) := by rw [m_light l2.fw.fw, ea]
        have h64 : ¬ (64 : Int32) ≤ nI i := nI_ge (b := 64) hi (by omega)
        dsimp only
        unfold b_X6_deal_39 b_X7_deal_52
        rw [if_neg h64, if_neg h64, w_light, l1, pu_b1, pu_b1, ea, nI_1]
        rcases i2 with ⟨rfl, rfl, rfl⟩ | ⟨b, c, hb, hc2, rfl, rfl, rfl, rfl⟩
        · have hneg : (-1 : Int32) < nI a := by
            rw [Int32.lt_iff_toInt_lt, nI_toInt (by omega)]; show (-1 : Int) < _; omega
          rw [if_pos hneg, if_pos (show (-1 : Int32) < 0 by decide), e, pu_b14, w, pu_b9, u, pu_b5, ml, pu_b1]
          by_cases g : x = n
          · rw [if_pos (hxe.mpr g), if_pos (hxl.mpr (by omega))]
            exact hc _ _ ⟨_, _, _, _, _, _, _, _, _, _, _, _, _, _, _, _, _, _, _, _, _, _, _, _, nI i, rfl, rfl, l2.fw.fw, Or.inr ⟨i, a, hi, by omega, rfl, rfl, rfl, rfl⟩⟩
          · rw [if_neg (fun p => g (hxe.mp p)), if_neg (fun p => g (by have := hxl.mp p; omega))]
            exact hc _ _ ⟨_, _, _, _, _, _, _, _, _, _, _, _, _, _, _, _, _, _, _, _, _, _, _, _, nI i, rfl, rfl, l2.fw.fw, Or.inl ⟨rfl, rfl, rfl⟩⟩
        · rw [if_neg (nI_pos (by omega)), m_light l2, pu_b1, ea]
          by_cases g2 : nI c < nI a
          · rw [if_pos g2, if_neg (Int32.not_le.mpr g2), e, pu_b14, w, pu_b9, u, pu_b5, ml, pu_b1]
            by_cases g : x = n
            · rw [if_pos (hxe.mpr g), if_pos (hxl.mpr (by omega))]
              exact hc _ _ ⟨_, _, _, _, _, _, _, _, _, _, _, _, _, _, _, _, _, _, _, _, _, _, _, _, nI i, rfl, rfl, l2.fw.fw, Or.inr ⟨i, a, hi, by omega, rfl, rfl, rfl, rfl⟩⟩
            · rw [if_neg (fun p => g (hxe.mp p)), if_neg (fun p => g (by have := hxl.mp p; omega))]
              exact hc _ _ ⟨_, _, _, _, _, _, _, _, _, _, _, _, _, _, _, _, _, _, _, _, _, _, _, _, nI i, rfl, rfl, l2.fw.fw, Or.inr ⟨b, c, hb, hc2, rfl, rfl, rfl, rfl⟩⟩
          · rw [if_neg g2, if_pos (Int32.not_lt.mp g2)]
            exact hc _ _ ⟨_, _, _, _, _, _, _, _, _, _, _, _, _, _, _, _, _, _, _, _, _, _, _, _, nI i, rfl, rfl, l2, Or.inr ⟨b, c, hb, hc2, rfl, rfl, rfl, rfl⟩⟩
      · rintro q r ⟨th, ta, tr, tzz, tn, tk, tc, tg, to2, tl, tcd, tcc, tcp, ts, tw, td, y2, y3, m, ma, mb, mc, z2, z3, lit', rfl, rfl, i1, i2⟩ rc rd
        have g64 : (64 : Int32) ≤ nI 64 := nI_le (a := 64) (by omega) (by omega)
        dsimp only
        unfold b_X6_deal_39 b_X7_deal_52
        rw [if_pos g64, if_pos g64, m_row, pu_b1]
        unfold f_X7_orNone
        rcases i2 with ⟨rfl, rfl, rfl⟩ | ⟨b, c, hb, hc2, rfl, rfl, rfl, rfl⟩
        · obtain ⟨f', g', t1, t2, t3⟩ := fe4 hF
          rw [if_neg (show ¬ (0 : Int32) ≤ -1 by decide), if_neg (show ¬ (0 : Int32) ≤ -1 by decide), t1, t2, pu_b2, pu_b2, pu_b2]
          exact ⟨_, _, _, _, _, _, _, _, _, _, _, _, _, _, _, _, _, _, _, _, _, _, _, _, rfl, rfl, ⟨N, A, rfl, rfl, by omega, hM.fw.fw, hV, hS, hC⟩, hK.mono hk1, t3, hT, hSh⟩
        · rw [if_pos (Int32.not_lt.mp (nI_pos (by omega))), if_pos (Int32.not_lt.mp (nI_pos (by omega))), pu_b2]
          exact ⟨_, _, _, _, _, _, _, _, _, _, _, _, _, _, _, _, _, _, _, _, _, _, _, _, rfl, rfl, ⟨N, A, rfl, rfl, by omega, hM.fw.fw, hV, hS, hC⟩, hK.mono hk1, hF, hT, hSh⟩
    · rw [if_pos (show bI (!true) = 0 from rfl), if_neg (show ¬ bI true = 0 by decide)]
      obtain ⟨f', g', t1, t2, t3⟩ := fe5 hF
      rw [t1, t2, pu_b2, pu_b2]
      exact ⟨_, _, _, _, _, _, _, _, _, _, _, _, _, _, _, _, _, _, _, _, _, _, _, _, rfl, rfl, ⟨N, A, rfl, rfl, by omega, hM, hV, hS, hC⟩, hK.mono hk1, t3, hT, hSh⟩
