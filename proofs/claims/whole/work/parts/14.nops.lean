/-! which lights -/
theorem g_deal : hy_deal Gd := by
  intro k isk fnd nhour nair nrub nz nnb nkd ncl ngr noc nlit ncold nccell ncpow nsp nwm ndr khour kair krub kz knb kkd kcl kgr koc klit kcold kccell kcpow ksp kwm kdr thour tair trub tz tnb tkd tcl tgr toc tlit tcold tccell tcpow tsp twm tdr tok sta en val tsize tby sbits ssize snum misKept mtaped msort mfrom mto mvalue mbad mm mkept mwas mother mfound mwarm mdrip mtape mbits msize mnumber x1 hk hG
  obtain ⟨⟨N, A, rfl, rfl, hA, hM, hV, hS, hC⟩, hK, hF, hT, hSh⟩ := hG
  have hN := hM.hN
  have hk1 := gd_k k
  unfold f_X6_deal f_X7_deal
  rw [wi_1_48, in_1_48, pu_b1, pu_b1]
  cases hw : wn x1 1 48
  · rw [if_pos bI_f, if_pos bI_f]
    obtain ⟨f', g', t1, t2, t3⟩ := fe1 hF
    rw [t1, t2, pu_b2, pu_b2]
    exact ⟨_, _, _, _, _, _, _, _, _, _, _, _, _, _, _, _, _, _, _, _, _, _, _, _, rfl, rfl, ⟨N, A, rfl, rfl, by omega, hM, hV, hS, hC⟩, hK.mono hk1, t3, hT, hSh⟩
  · obtain ⟨n, n1, n2, n3, rfl⟩ := wn_n hw (by decide)
    rw [if_neg (show ¬ bI true = 0 by decide), if_neg (show ¬ bI true = 0 by decide), w_has, m_far hM, pu_b1, pu_b1]
    cases decide ((9999 : Int32) < nhour + nI n)
    · rw [if_neg (show ¬ bI (!false) = 0 by decide), if_pos bI_f, m_row, pu_b1]
      obtain ⟨q, ⟨m, ma, mb, mc, z2, z3, j⟩, ⟨th, ta, tr, tzz, tn, tk, tc, tg, to2, tl, tcd, tcc, tcp, ts, tw, td, y2, y3, lit', rfl, hj, i1, i2⟩, e1, e2⟩ := lp_sim
        (P := Unit) (Q := Unit)
        (α := Int32 × Int32 × Int32 × Int32 × Int32 × (Nat → Int32) × (Nat → Int32) × (Nat → Int32) × (Nat → Int32) × Int32 × Int32 × (Nat → Int32) × (Nat → Int32) × (Nat → Int32) × (Nat → Int32) × (Nat → Int32) × Int32 × Int32 × Int32) (β := (Nat → Int32) × (Nat → Int32) × (Nat → Int32) × (Nat → Int32) × Int32 × Int32 × Int32)
        (fun _ rc q => b_X6_deal_39 fnd nhour (nI A) nrub nz (nI N) nkd ncl ngr noc nlit ncold nccell ncpow nsp (nI n) (fun a1 a2 a3 a4 a5 a6 a7 a8 a9 a10 a11 a12 a13 a14 a15 a16 a17 a18 a19 => rc (a1, a2, a3, a4, a5, a6, a7, a8, a9, a10, a11, a12, a13, a14, a15, a16, a17, a18, a19)) q.1 q.2.1 q.2.2.1 q.2.2.2.1 q.2.2.2.2.1 q.2.2.2.2.2.1 q.2.2.2.2.2.2.1 q.2.2.2.2.2.2.2.1 q.2.2.2.2.2.2.2.2.1 q.2.2.2.2.2.2.2.2.2.1 q.2.2.2.2.2.2.2.2.2.2.1 q.2.2.2.2.2.2.2.2.2.2.2.1 q.2.2.2.2.2.2.2.2.2.2.2.2.1 q.2.2.2.2.2.2.2.2.2.2.2.2.2.1 q.2.2.2.2.2.2.2.2.2.2.2.2.2.2.1 q.2.2.2.2.2.2.2.2.2.2.2.2.2.2.2.1 q.2.2.2.2.2.2.2.2.2.2.2.2.2.2.2.2.1 q.2.2.2.2.2.2.2.2.2.2.2.2.2.2.2.2.2.1 q.2.2.2.2.2.2.2.2.2.2.2.2.2.2.2.2.2.2)
        (fun _ rc q => b_X7_deal_52 mfound (nI n) (fw mm mother 82) (fun a1 a2 a3 a4 a5 a6 a7 => rc (a1, a2, a3, a4, a5, a6, a7)) q.1 q.2.1 q.2.2.1 q.2.2.2.1 q.2.2.2.2.1 q.2.2.2.2.2.1 q.2.2.2.2.2.2)
        (fun _ q => b_X6_deal_39 fnd nhour (nI A) nrub nz (nI N) nkd ncl ngr noc nlit ncold nccell ncpow nsp (nI n) (fun _ _ _ _ _ _ _ _ _ _ _ _ _ _ _ _ _ _ _ => none) q.1 q.2.1 q.2.2.1 q.2.2.2.1 q.2.2.2.2.1 q.2.2.2.2.2.1 q.2.2.2.2.2.2.1 q.2.2.2.2.2.2.2.1 q.2.2.2.2.2.2.2.2.1 q.2.2.2.2.2.2.2.2.2.1 q.2.2.2.2.2.2.2.2.2.2.1 q.2.2.2.2.2.2.2.2.2.2.2.1 q.2.2.2.2.2.2.2.2.2.2.2.2.1 q.2.2.2.2.2.2.2.2.2.2.2.2.2.1 q.2.2.2.2.2.2.2.2.2.2.2.2.2.2.1 q.2.2.2.2.2.2.2.2.2.2.2.2.2.2.2.1 q.2.2.2.2.2.2.2.2.2.2.2.2.2.2.2.2.1 q.2.2.2.2.2.2.2.2.2.2.2.2.2.2.2.2.2.1 q.2.2.2.2.2.2.2.2.2.2.2.2.2.2.2.2.2.2)
        (fun _ q => b_X7_deal_52 mfound (nI n) (fw mm mother 82) (fun _ _ _ _ _ _ _ => none) q.1 q.2.1 q.2.2.1 q.2.2.2.1 q.2.2.2.2.1 q.2.2.2.2.2.1 q.2.2.2.2.2.2)
        (fun i q r => ∃ (th : Int32) (ta : Int32) (tr : Int32) (tzz : Int32) (tn : Int32) (tk : (Nat → Int32)) (tc : (Nat → Int32)) (tg : (Nat → Int32)) (to2 : (Nat → Int32)) (tl : Int32) (tcd : Int32) (tcc : (Nat → Int32)) (tcp : (Nat → Int32)) (ts : (Nat → Int32)) (tw : (Nat → Int32)) (td : (Nat → Int32)) (y2 y3 lit' : Int32), q = (th, ta, tr, tzz, tn, tk, tc, tg, to2, tl, tcd, tcc, tcp, ts, tw, td, y2, y3, nI i) ∧ r.2.2.2.2.2.2 = nI i ∧ MS r.1 nhour ncold (nI A) nrub nz N nkd ncl ngr lit' nccell ncpow nsp ∧ ((y2 = -1 ∧ r.2.2.2.2.1 = -1 ∧ y3 = -1) ∨ ∃ b a, b < 64 ∧ a ≤ 180 ∧ y2 = nI b ∧ r.2.2.2.2.1 = nI b ∧ y3 = nI a ∧ r.2.2.2.2.2.1 = nI a))
        64
        (by
          rintro i q ⟨m, ma, mb, mc, z2, z3, j⟩ hi ⟨th, ta, tr, tzz, tn, tk, tc, tg, to2, tl, tcd, tcc, tcp, ts, tw, td, y2, y3, lit', rfl, hj, i1, i2⟩
          dsimp only at hj i1 i2
          subst hj
          obtain ⟨l1, l2⟩ := m_lights i1 (nI i)
          obtain ⟨a, ha, ea⟩ := lf_nat (lit := nI i) hC 6 (by omega)
          obtain ⟨kd', cl', gr', oc', ccell', cpow', sp', e, r1, r2, r3, r4, r5, r6, r7, r8, r9, r10, r11⟩ := w_fresh hM hV hS hC th ta tr tzz tn tk tc tg to2 tl tcd tcc tcp ts
          have l3 : MS (lt m (nI i) 6) nhour ncold (nI A) nrub nz N kd' cl' gr' (nI i) ccell' cpow' sp' := l2.cg (fun _ _ => rfl) r9 r5 r6 r8 r7 r11
          obtain ⟨x, hr', air', rb', cl2, gr2, oc2, wm', dr', m', W', md', hx, w, u⟩ := held_both l3 r2 r3 r4 (n := n) (by omega) (by omega) tw td ma mb mc
          have hlt : ∀ c : Nat, c ≤ 180 → (nI c < nI a ↔ c < a) := fun c hc => nI_ltI (by omega) (by omega)
          have hxe : nI x = nI n ↔ x = n := nI_eq (by omega) (by omega)
          have hxl : nI n ≤ nI x ↔ n ≤ x := nI_leI (by omega) (by omega)
          have ml : f_X7_light (fw (fw (lt m (nI i) 6) ma 82) m' 82) = some (nI a) := by rw [m_light l2.fw.fw, ea]
          have hcls : ∀ (rc : _ → Option _), b_X6_deal_39 fnd nhour (nI A) nrub nz (nI N) nkd ncl ngr noc nlit ncold nccell ncpow nsp (nI n) (fun a1 a2 a3 a4 a5 a6 a7 a8 a9 a10 a11 a12 a13 a14 a15 a16 a17 a18 a19 => rc (a1, a2, a3, a4, a5, a6, a7, a8, a9, a10, a11, a12, a13, a14, a15, a16, a17, a18, a19)) th ta tr tzz tn tk tc tg to2 tl tcd tcc tcp ts tw td y2 y3 (nI i) = (if y3 < nI a then (if x = n then rc (hr', air', rb', nz, nI N, kd', cl2, gr2, oc2, nI i, ncold, ccell', cpow', sp', wm', dr', nI i, nI a, nI (i + 1)) else rc (hr', air', rb', nz, nI N, kd', cl2, gr2, oc2, nI i, ncold, ccell', cpow', sp', wm', dr', y2, y3, nI (i + 1))) else rc (th, ta, tr, tzz, tn, tk, tc, tg, to2, tl, tcd, tcc, tcp, ts, tw, td, y2, y3, nI (i + 1))) := by
            intro rc
            unfold b_X6_deal_39
            rw [if_neg (show ¬ (64 : Int32) ≤ nI i from nI_ge (b := 64) hi (by omega)), w_light, pu_b1, ea, e, pu_b14, w, pu_b9, nI_1]
            simp only [hxe]
          rcases i2 with ⟨rfl, q2, rfl⟩ | ⟨b, c, hb, hc, rfl, q2, rfl, q3⟩
          · subst q2
            have hmod : ∀ (rc : _ → Option _), b_X7_deal_52 mfound (nI n) (fw mm mother 82) (fun a1 a2 a3 a4 a5 a6 a7 => rc (a1, a2, a3, a4, a5, a6, a7)) m ma mb mc (-1) z3 (nI i) = (if x = n then rc (fw (fw (lt m (nI i) 6) ma 82) m' 82, fw (lt m (nI i) 6) ma 82, W', md', nI i, nI a, nI (i + 1)) else rc (fw (fw (lt m (nI i) 6) ma 82) m' 82, fw (lt m (nI i) 6) ma 82, W', md', -1, z3, nI (i + 1))) := by
              intro rc
              unfold b_X7_deal_52
              rw [if_neg (show ¬ (64 : Int32) ≤ nI i from nI_ge (b := 64) hi (by omega)), l1, pu_b1, if_pos (show (-1 : Int32) < 0 by decide), u, pu_b5, ml, pu_b1, nI_1]
              by_cases g : x = n
              · rw [if_pos (hxl.mpr (by omega)), if_pos g]
              · rw [if_neg (fun p => g (by have := hxl.mp p; omega)), if_neg g]
            have hneg : (-1 : Int32) < nI a := by
              rw [Int32.lt_iff_toInt_lt, nI_toInt (by omega)]; show (-1 : Int) < _; omega
            by_cases g : x = n
            · refine ⟨(hr', air', rb', nz, nI N, kd', cl2, gr2, oc2, nI i, ncold, ccell', cpow', sp', wm', dr', nI i, nI a, nI (i + 1)), (fw (fw (lt m (nI i) 6) ma 82) m' 82, fw (lt m (nI i) 6) ma 82, W', md', nI i, nI a, nI (i + 1)), fun u rc => ?_, fun u rc => ?_, hr', air', rb', nz, nI N, kd', cl2, gr2, oc2, nI i, ncold, ccell', cpow', sp', wm', dr', nI i, nI a, nI i, rfl, rfl, l2.fw.fw, Or.inr ⟨i, a, hi, by omega, rfl, rfl, rfl, rfl⟩⟩
              · exact (hcls rc).trans (by rw [if_pos hneg, if_pos g])
              · exact (hmod rc).trans (by rw [if_pos g])
            · refine ⟨(hr', air', rb', nz, nI N, kd', cl2, gr2, oc2, nI i, ncold, ccell', cpow', sp', wm', dr', -1, -1, nI (i + 1)), (fw (fw (lt m (nI i) 6) ma 82) m' 82, fw (lt m (nI i) 6) ma 82, W', md', -1, z3, nI (i + 1)), fun u rc => ?_, fun u rc => ?_, hr', air', rb', nz, nI N, kd', cl2, gr2, oc2, nI i, ncold, ccell', cpow', sp', wm', dr', -1, -1, nI i, rfl, rfl, l2.fw.fw, Or.inl ⟨rfl, rfl, rfl⟩⟩
              · exact (hcls rc).trans (by rw [if_pos hneg, if_neg g])
              · exact (hmod rc).trans (by rw [if_neg g])
          · subst q2
            subst q3
            have hmod : ∀ (rc : _ → Option _), b_X7_deal_52 mfound (nI n) (fw mm mother 82) (fun a1 a2 a3 a4 a5 a6 a7 => rc (a1, a2, a3, a4, a5, a6, a7)) m ma mb mc (nI b) (nI c) (nI i) = (if nI c < nI a then (if x = n then rc (fw (fw (lt m (nI i) 6) ma 82) m' 82, fw (lt m (nI i) 6) ma 82, W', md', nI i, nI a, nI (i + 1)) else rc (fw (fw (lt m (nI i) 6) ma 82) m' 82, fw (lt m (nI i) 6) ma 82, W', md', nI b, nI c, nI (i + 1))) else rc (lt m (nI i) 6, ma, mb, mc, nI b, nI c, nI (i + 1))) := by
              intro rc
              unfold b_X7_deal_52
              rw [if_neg (show ¬ (64 : Int32) ≤ nI i from nI_ge (b := 64) hi (by omega)), l1, pu_b1, if_neg (nI_pos (by omega)), m_light l2, pu_b1, ea, u, pu_b5, ml, pu_b1, nI_1]
              by_cases g2 : nI c < nI a
              · rw [if_neg (Int32.not_le.mpr g2), if_pos g2]
                by_cases g : x = n
                · rw [if_pos (hxl.mpr (by omega)), if_pos g]
                · rw [if_neg (fun p => g (by have := hxl.mp p; omega)), if_neg g]
              · rw [if_pos (Int32.not_lt.mp g2), if_neg g2]
            by_cases g2 : nI c < nI a
            · by_cases g : x = n
              · refine ⟨(hr', air', rb', nz, nI N, kd', cl2, gr2, oc2, nI i, ncold, ccell', cpow', sp', wm', dr', nI i, nI a, nI (i + 1)), (fw (fw (lt m (nI i) 6) ma 82) m' 82, fw (lt m (nI i) 6) ma 82, W', md', nI i, nI a, nI (i + 1)), fun u rc => ?_, fun u rc => ?_, hr', air', rb', nz, nI N, kd', cl2, gr2, oc2, nI i, ncold, ccell', cpow', sp', wm', dr', nI i, nI a, nI i, rfl, rfl, l2.fw.fw, Or.inr ⟨i, a, hi, by omega, rfl, rfl, rfl, rfl⟩⟩
                · exact (hcls rc).trans (by rw [if_pos g2, if_pos g])
                · exact (hmod rc).trans (by rw [if_pos g2, if_pos g])
              · refine ⟨(hr', air', rb', nz, nI N, kd', cl2, gr2, oc2, nI i, ncold, ccell', cpow', sp', wm', dr', nI b, nI c, nI (i + 1)), (fw (fw (lt m (nI i) 6) ma 82) m' 82, fw (lt m (nI i) 6) ma 82, W', md', nI b, nI c, nI (i + 1)), fun u rc => ?_, fun u rc => ?_, hr', air', rb', nz, nI N, kd', cl2, gr2, oc2, nI i, ncold, ccell', cpow', sp', wm', dr', nI b, nI c, nI i, rfl, rfl, l2.fw.fw, Or.inr ⟨b, c, hb, hc, rfl, rfl, rfl, rfl⟩⟩
                · exact (hcls rc).trans (by rw [if_pos g2, if_neg g])
                · exact (hmod rc).trans (by rw [if_pos g2, if_neg g])
            · refine ⟨(th, ta, tr, tzz, tn, tk, tc, tg, to2, tl, tcd, tcc, tcp, ts, tw, td, nI b, nI c, nI (i + 1)), (lt m (nI i) 6, ma, mb, mc, nI b, nI c, nI (i + 1)), fun u rc => ?_, fun u rc => ?_, th, ta, tr, tzz, tn, tk, tc, tg, to2, tl, tcd, tcc, tcp, ts, tw, td, nI b, nI c, nI i, rfl, rfl, l2, Or.inr ⟨b, c, hb, hc, rfl, rfl, rfl, rfl⟩⟩
              · exact (hcls rc).trans (by rw [if_neg g2])
              · exact (hmod rc).trans (by rw [if_neg g2]))
        (by
          rintro q ⟨m, ma, mb, mc, z2, z3, j⟩ ⟨th, ta, tr, tzz, tn, tk, tc, tg, to2, tl, tcd, tcc, tcp, ts, tw, td, y2, y3, lit', rfl, hj, i1, i2⟩
          dsimp only at hj
          subst hj
          have g64 : (64 : Int32) ≤ nI 64 := nI_le (a := 64) (by omega) (by omega)
          refine ⟨fun u rc => ?_, fun u rc => ?_⟩
          · dsimp only
            unfold b_X6_deal_39
            rw [if_pos g64, if_pos g64]
          · dsimp only
            unfold b_X7_deal_52
            rw [if_pos g64, if_pos g64])
        (thour, tair, trub, tz, tnb, tkd, tcl, tgr, toc, tlit, tcold, tccell, tcpow, tsp, twm, tdr, -1, -1, nI 0) (mm, mwas, mwarm, mdrip, -1, 0, nI 0) ⟨thour, tair, trub, tz, tnb, tkd, tcl, tgr, toc, tlit, tcold, tccell, tcpow, tsp, twm, tdr, -1, -1, nlit, rfl, rfl, hM, Or.inl ⟨rfl, rfl, rfl⟩⟩
      have f1 := e1 () ik_fu (pu_fu (by omega))
      have f2 := e2 () ik_fu (pu_fu (by omega))
      rw [← lp_unc19 (b_X6_deal_39 fnd nhour (nI A) nrub nz (nI N) nkd ncl ngr noc nlit ncold nccell ncpow nsp (nI n))] at f1
      rw [← lp_unc7 (b_X7_deal_52 mfound (nI n) (fw mm mother 82))] at f2
      have g64 : (64 : Int32) ≤ nI 64 := nI_le (a := 64) (by omega) (by omega)
      dsimp only at hj i2
      subst hj
      unfold b_X6_deal_39 at f1
      sorry
    · rw [if_pos (show bI (!true) = 0 from rfl), if_neg (show ¬ bI true = 0 by decide)]
      obtain ⟨f', g', t1, t2, t3⟩ := fe5 hF
      rw [t1, t2, pu_b2, pu_b2]
      exact ⟨_, _, _, _, _, _, _, _, _, _, _, _, _, _, _, _, _, _, _, _, _, _, _, _, rfl, rfl, ⟨N, A, rfl, rfl, by omega, hM, hV, hS, hC⟩, hK.mono hk1, t3, hT, hSh⟩
