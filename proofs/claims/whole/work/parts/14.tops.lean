/-! shaking -/
def skp (cl gr : Nat → Int32) (t : Int32) : Nat → Bool := fun b => !decide (cl b < 0) && decide (gr b - gr b / t * t = 0)
theorem w_shaken {cl gr : Nat → Int32} {N t : Nat} (hN : N ≤ 16) (t1 : 0 < t) (t2 : t < 2 ^ 31) : f_X5_shakenSet (nI N) cl gr (nI t) = some (mk (skp cl gr (nI t)) N) := by
  unfold f_X5_shakenSet
  refine lp_for2 (mk (skp cl gr (nI t))) nI (some (mk (skp cl gr (nI t)) N)) N (fun rc b hb => ?_) (fun rc => ?_) (pu_fu (by omega))
  · unfold b_X5_shakenSet_4
    rw [if_neg (nI_ge hb (by omega)), w_gone (by omega), pu_b1, nI_1]
    show _ = rc (if (!decide (cl b < 0) && decide (gr b - gr b / nI t * nI t = 0)) = true then _ else _) _
    by_cases g : cl b < 0
    · rw [decide_eq_true g, if_neg (show ¬ bI true = 0 by decide)]; rfl
    · rw [decide_eq_false g, if_pos bI_f, if_neg (nI_nle t1 t2), pu_gdN (show b < 16 by omega) (by omega), pu_gn (nI_ne0 t1 t2), nI_clamp (by omega)]
      by_cases q : gr b - gr b / nI t * nI t = 0
      · rw [if_pos q, decide_eq_true q]; rfl
      · rw [if_neg q, decide_eq_false q]; rfl
  · unfold b_X5_shakenSet_4
    rw [if_pos (nI_le (Nat.le_refl _) (by omega))]
theorem m_shaken {mm kd cl gr : Nat → Int32} {N t : Nat} (h : RM mm N kd cl gr) (h5 : mm 5 = nI N) (hN : N ≤ 16) (t1 : 0 < t) (t2 : t < 2 ^ 31) : f_X7_shaken mm (nI t) = some (mk (skp cl gr (nI t)) N) := by
  unfold f_X7_shaken
  refine lp_for2 (mk (skp cl gr (nI t))) nI (some (mk (skp cl gr (nI t)) N)) N (fun rc b hb => ?_) (fun rc => ?_) (pu_fu (by omega))
  · unfold b_X7_shaken_4
    rw [pu_c5, h5, if_neg (nI_ge hb (by omega)), m_gone h (by omega), pu_b1, nI_1]
    show _ = rc (if (!decide (cl b < 0) && decide (gr b - gr b / nI t * nI t = 0)) = true then _ else _) _
    by_cases g : cl b < 0
    · rw [decide_eq_true g, if_neg (show ¬ bI true = 0 by decide), Int32.or_zero]; rfl
    · rw [decide_eq_false g, if_pos bI_f, m_grains h (by omega), pu_b1, pu_gn (nI_ne0 t1 t2)]
      by_cases q : gr b - gr b / nI t * nI t = 0
      · rw [if_pos q, decide_eq_true q]; rfl
      · rw [if_neg q, decide_eq_false q, Int32.or_zero]; rfl
  · unfold b_X7_shaken_4
    rw [pu_c5, h5, if_pos (nI_le (Nat.le_refl _) (by omega))]
theorem da_both {mm : Nat → Int32} {hour cold rub z : Int32} {A N : Nat} {kd cl gr oc : Nat → Int32} {lit : Int32} {ccell cpow sp : Nat → Int32} (hM : MS mm hour cold (nI A) rub z N kd cl gr lit ccell cpow sp) (hV : WV N kd cl oc) (hS : GS N cl gr) {t : Nat} (t1 : 0 < t) (t2 : t < 2 ^ 31) :
    ∃ (A' : Nat) (rub' : Int32) (cl' gr' oc' : Nat → Int32) (v : Nat) (mm' : Nat → Int32), A' ≤ A + 16 ∧ v ≤ 16 ∧ MS mm' hour cold (nI A') rub' z N kd cl' gr' lit ccell cpow sp ∧ WV N kd cl' oc' ∧ GS N cl' gr' ∧ f_X1_danceTo (nI A) rub (nI N) kd cl gr oc (nI t) = some (nI v, nI A', rub', cl', gr', oc') ∧ f_X7_danced mm (nI t) = some (nI v, mm') := by
  have hN := hM.hN
  unfold f_X1_danceTo f_X7_danced
  rw [w_shaken hN t1 t2, m_shaken hM.rm hM.h5 hN t1 t2, m_goneNow hM, pu_b1, pu_b1, pu_b1, lp_unc3, lp_unc2]
  refine lp_rel (R := fun p q => ∃ (A' : Nat) (rub' : Int32) (cl' gr' oc' : Nat → Int32) (v : Nat) (mm' : Nat → Int32), A' ≤ A + 16 ∧ v ≤ 16 ∧ MS mm' hour cold (nI A') rub' z N kd cl' gr' lit ccell cpow sp ∧ WV N kd cl' oc' ∧ GS N cl' gr' ∧ p = some (nI v, nI A', rub', cl', gr', oc') ∧ q = some (nI v, mm'))
    (fun i q r => ∃ a g m, q = (nI a, g, nI i) ∧ r = (m, nI i) ∧ a ≤ A + i ∧ MS m hour cold (nI a) rub z N kd cl g lit ccell cpow sp ∧ GZ N cl g ∧ ∀ b, i ≤ b → g b = gr b) N ?_ ?_ _ _ ⟨A, gr, mm, rfl, rfl, by omega, hM, hS.gz, fun _ _ => rfl⟩ _ _ (pu_fu (by omega)) (pu_fu (by omega))
  · rintro i q r hi ⟨a, g, m, rfl, rfl, ha, i1, i2, i3⟩ rc rd - - hc
    have hbt := mk_bits (skp cl gr (nI t)) N (by omega) i (by omega)
    rw [decide_eq_true hi, Bool.true_and] at hbt
    dsimp only
    unfold b_X1_danceTo_11 b_X7_danced_14
    rw [pu_c5, i1.h5, if_neg (nI_ge hi (by omega)), if_neg (nI_ge hi (by omega)), bt_us (by omega), pu_has (by omega), pu_b1, hbt, nI_1]
    cases hp : skp cl gr (nI t) i
    · rw [if_pos bI_f, if_pos bI_f]
      exact hc _ _ ⟨a, g, m, rfl, rfl, by omega, i1, i2, fun b hb => i3 b (by omega)⟩
    · have hl : ¬ cl i < 0 := by
        intro q
        unfold skp at hp
        rw [decide_eq_true q] at hp
        exact absurd hp (by simp)
      obtain ⟨G, hG, eG, hG0⟩ := hS i hi
      have g1 : 0 < G := by
        rcases Nat.eq_zero_or_pos G with q | q
        · exact absurd (hG0.mpr q) hl
        · exact q
      have eg : g i = nI G := (i3 i (Nat.le_refl i)).trans eG
      have l2 := i1.u_gr (b := i) (by omega) (nI (G - 1))
      have es : nI G - 1 = nI (G - 1) := pk_sub (b := 1) g1
      rw [if_neg (show ¬ bI true = 0 by decide), if_neg (show ¬ bI true = 0 by decide), pu_gdN (show i < 16 by omega) (by omega), pu_gdN (show i < 16 by omega) (by omega), nI_clamp (by omega), m_grains i1.rm (by omega), pu_b1, eg, es, m_makes (by omega), pu_b1, pu_c2, l2.h2, nI_1]
      refine hc _ _ ⟨a + 1, upd g i (nI (G - 1)), _, rfl, rfl, by omega, l2.u_air _, fun x hx => ?_, fun b hb => ?_⟩
      · by_cases e : x = i
        · rw [e, upd_eq]
          exact ⟨G - 1, by omega, rfl, fun p => absurd p hl⟩
        · rw [upd_ne e]; exact i2 x hx
      · rw [upd_ne (by omega)]
        exact i3 b (by omega)
  · rintro q r ⟨a, g, m, rfl, rfl, ha, i1, i2, i3⟩ rc rd
    obtain ⟨cl3, gr3, oc3, v3, mm3, c1, c2, c3, c4, c5, e5, e6⟩ := eg_both i1 hV i2
    obtain ⟨rub4, cl4, gr4, oc4, v4, mm4, d1, d2, d3, d4, e7, e8⟩ := co_both c1 c2
    have hlv := live_le cl N
    dsimp only
    unfold b_X1_danceTo_11 b_X7_danced_14
    rw [pu_c5, i1.h5, if_pos (nI_le (Nat.le_refl _) (by omega)), if_pos (nI_le (Nat.le_refl _) (by omega)), e5, pu_b4, e7, pu_b5, nI_add, e6, pu_b1, e8, pu_b1, m_goneNow d1, pu_b1, m_went hN (fun a ha => by
      rcases d4 a ha with ⟨q1, -⟩ | ⟨q1, -⟩
      · rw [q1]; exact c5 a ha
      · exact Or.inr q1), pu_b1, show live cl N - live cl4 N = v3 + v4 by omega]
    exact ⟨a, rub4, cl4, gr4, oc4, v3 + v4, mm4, by omega, by omega, d1, d2, GS_LO c4 d4, rfl, rfl⟩
theorem wi_2_9 (x : Int32) : f_X6_isWithin x 2 9 = some (bI (wn x 2 9)) := pu_within x 2 9
theorem in_2_9 (x : Int32) : f_X7_in x.toInt64 2 9 = some (bI (wn x 2 9)) := pu_in32 x 2 9
theorem wi_tune (x : Int32) : f_X6_isTune x = some (bI (wn x 2 9)) := by unfold f_X6_isTune; rw [wi_2_9, pu_b1, pu_gz]
theorem in_tune (x : Int32) : f_X7_isTune x = some (bI (wn x 2 9)) := by unfold f_X7_isTune; rw [in_2_9, pu_b1, pu_gz]
theorem g_dance : hy_dance Gd := by
  intro k isk fnd nhour nair nrub nz nnb nkd ncl ngr noc nlit ncold nccell ncpow nsp nwm ndr khour kair krub kz knb kkd kcl kgr koc klit kcold kccell kcpow ksp kwm kdr thour tair trub tz tnb tkd tcl tgr toc tlit tcold tccell tcpow tsp twm tdr tok sta en val tsize tby sbits ssize snum misKept mtaped msort mfrom mto mvalue mbad mm mkept mwas mother mfound mwarm mdrip mtape mbits msize mnumber x1 hk hG
  obtain ⟨⟨N, A, rfl, rfl, hA, hM, hV, hS, hC⟩, hK, hF, hT, hSh⟩ := hG
  have hN := hM.hN
  have hk1 := gd_k k
  unfold f_X6_dance f_X7_dance
  rw [wi_tune, in_tune, pu_b1, pu_b1]
  cases hw : wn x1 2 9
  · rw [if_pos bI_f, if_pos bI_f]
    obtain ⟨f', g', t1, t2, t3⟩ := fe1 hF
    rw [t1, t2, pu_b2, pu_b2]
    exact ⟨_, _, _, _, _, _, _, _, _, rfl, rfl, ⟨N, A, rfl, rfl, by omega, hM, hV, hS, hC⟩, hK.mono hk1, t3, hT, hSh⟩
  · obtain ⟨t, n1, n2, n3, rfl⟩ := wn_n hw (by decide)
    obtain ⟨A', rub', cl', gr', oc', v, mm', a1, a2, a3, a4, a5, e1, e2⟩ := da_both hM hV hS (t := t) (by omega) n3
    rw [if_neg (show ¬ bI true = 0 by decide), if_neg (show ¬ bI true = 0 by decide), e1, pu_b6, e2, pu_b2]
    exact ⟨_, _, _, _, _, _, _, _, _, rfl, rfl, ⟨N, A', rfl, rfl, by omega, a3, a4, a5, hC⟩, hK.mono hk1, hF, hT, hSh⟩
theorem g_shakes : hy_shakes Gd := by
  intro k isk fnd nhour nair nrub nz nnb nkd ncl ngr noc nlit ncold nccell ncpow nsp nwm ndr khour kair krub kz knb kkd kcl kgr koc klit kcold kccell kcpow ksp kwm kdr thour tair trub tz tnb tkd tcl tgr toc tlit tcold tccell tcpow tsp twm tdr tok sta en val tsize tby sbits ssize snum misKept mtaped msort mfrom mto mvalue mbad mm mkept mwas mother mfound mwarm mdrip mtape mbits msize mnumber x1 hk hG
  obtain ⟨⟨N, A, rfl, rfl, hA, hM, hV, hS, hC⟩, hK, hF, hT, hSh⟩ := hG
  have hN := hM.hN
  have hk1 := gd_k k
  unfold f_X6_shakes f_X7_shakes
  rw [wi_tune, in_tune, pu_b1, pu_b1]
  cases hw : wn x1 2 9
  · rw [if_pos bI_f, if_pos bI_f]
    obtain ⟨f', g', t1, t2, t3⟩ := fe1 hF
    rw [t1, t2, pu_b2, pu_b2]
    exact ⟨_, _, _, rfl, rfl, ⟨N, A, rfl, rfl, by omega, hM, hV, hS, hC⟩, hK.mono hk1, t3, hT, hSh⟩
  · obtain ⟨t, n1, n2, n3, rfl⟩ := wn_n hw (by decide)
    rw [if_neg (show ¬ bI true = 0 by decide), if_neg (show ¬ bI true = 0 by decide), w_shaken hN (by omega) n3, m_shaken hM.rm hM.h5 hN (by omega) n3, pu_b1, pu_b1]
    exact ⟨_, _, _, rfl, rfl, ⟨N, A, rfl, rfl, by omega, hM, hV, hS, hC⟩, hK.mono hk1, hF, hT, hSh⟩
theorem g_tune : hy_tune Gd := by
  intro k isk fnd nhour nair nrub nz nnb nkd ncl ngr noc nlit ncold nccell ncpow nsp nwm ndr khour kair krub kz knb kkd kcl kgr koc klit kcold kccell kcpow ksp kwm kdr thour tair trub tz tnb tkd tcl tgr toc tlit tcold tccell tcpow tsp twm tdr tok sta en val tsize tby sbits ssize snum misKept mtaped msort mfrom mto mvalue mbad mm mkept mwas mother mfound mwarm mdrip mtape mbits msize mnumber hk hG
  obtain ⟨⟨N, A, rfl, rfl, hA, hM, hV, hS, hC⟩, hK, hF, hT, hSh⟩ := hG
  have hN := hM.hN
  have hk1 := gd_k k
  unfold f_X6_tune f_X7_tune
  rw [lp_unc17, lp_unc5]
  refine lp_rel (R := (fun p q => ∃ (R : Int32) (thour_r : Int32) (tair_r : Int32) (trub_r : Int32) (tz_r : Int32) (tnb_r : Int32) (tkd_r : Nat → Int32) (tcl_r : Nat → Int32) (tgr_r : Nat → Int32) (toc_r : Nat → Int32) (tlit_r : Int32) (tcold_r : Int32) (tccell_r : Nat → Int32) (tcpow_r : Nat → Int32) (tsp_r : Nat → Int32) (mm_r : Nat → Int32) (mwas_r : Nat → Int32), p = some (R, thour_r, tair_r, trub_r, tz_r, tnb_r, tkd_r, tcl_r, tgr_r, toc_r, tlit_r, tcold_r, tccell_r, tcpow_r, tsp_r) ∧ q = some (R, mm_r, mwas_r) ∧ Gd (k + 1) isk fnd nhour (nI A) nrub nz (nI N) nkd ncl ngr noc nlit ncold nccell ncpow nsp nwm ndr khour kair krub kz knb kkd kcl kgr koc klit kcold kccell kcpow ksp kwm kdr thour_r tair_r trub_r tz_r tnb_r tkd_r tcl_r tgr_r toc_r tlit_r tcold_r tccell_r tcpow_r tsp_r twm tdr tok sta en val tsize tby sbits ssize snum misKept mtaped msort mfrom mto mvalue mbad mm_r mkept mwas_r mother mfound mwarm mdrip mtape mbits msize mnumber)) (fun i q r => ∃ th ta tr tzz tn tk tc tg to2 tl tcd tcc tcp ts y1 y2 m ma z1 z2, q = (th, ta, tr, tzz, tn, tk, tc, tg, to2, tl, tcd, tcc, tcp, ts, y1, y2, nI (2 + i)) ∧ r = (m, ma, z1, z2, nI (2 + i)) ∧ MS m nhour ncold (nI A) nrub nz N nkd ncl ngr nlit nccell ncpow nsp ∧ ((i = 0 ∧ y2 = 17 ∧ z1 = 0) ∨ ∃ b c, 2 ≤ b ∧ b ≤ 9 ∧ c ≤ 16 ∧ y1 = nI b ∧ z1 = nI b ∧ y2 = nI c ∧ z2 = nI c)) 8 ?_ ?_ _ _ ⟨_, _, _, _, _, _, _, _, _, _, _, _, _, _, _, _, _, _, _, _, rfl, rfl, hM, Or.inl ⟨rfl, rfl, rfl⟩⟩ _ _ (pu_fu (by omega)) (pu_fu (by omega))
  · rintro i q r hi ⟨th, ta, tr, tzz, tn, tk, tc, tg, to2, tl, tcd, tcc, tcp, ts, y1, y2, m, ma, z1, z2, rfl, rfl, i1, i2⟩ rc rd - - hc
    obtain ⟨kd', cl', gr', oc', ccell', cpow', sp', e, r1, r2, r3, r4, r5, r6, r7, r8, r9, r10, r11⟩ := w_fresh hM hV hS hC th ta tr tzz tn tk tc tg to2 tl tcd tcc tcp ts
    have l3 : MS m nhour ncold (nI A) nrub nz N kd' cl' gr' nlit ccell' cpow' sp' := i1.cg (fun _ _ => rfl) r9 r5 r6 r8 r7 r11
    obtain ⟨A', rub', cl2, gr2, oc2, v, mm', a1, a2, a3, a4, a5, e1, e2⟩ := da_both l3 r2 r3 (t := 2 + i) (by omega) (by omega)
    have h9 : ¬ (9 : Int32) < nI (2 + i) := nI_nlt (a := 9) (by omega) (by omega)
    dsimp only
    unfold b_X6_tune_7 b_X7_tune_6
    rw [if_neg h9, if_neg h9, m_row, pu_b1, e2, pu_b2, m_row, pu_b1, e, pu_b14, e1, pu_b6, nI_1, Nat.add_assoc]
    rcases i2 with ⟨rfl, rfl, rfl⟩ | ⟨b, c, hb, hb2, hc2, rfl, rfl, rfl, rfl⟩
    · rw [if_pos (show (0 : Int32) ≤ 0 by decide), if_neg (show ¬ (17 : Int32) ≤ nI v from nI_ge (b := 17) (by omega) (by omega))]
      exact hc _ _ ⟨_, _, _, _, _, _, _, _, _, _, _, _, _, _, _, _, _, _, _, _, rfl, rfl, i1.fw.fw, Or.inr ⟨2 + 0, v, by omega, by omega, a2, rfl, rfl, rfl, rfl⟩⟩
    · rw [if_neg (nI_nle (show 0 < b by omega) (by omega))]
      by_cases g2 : nI v < nI c
      · rw [if_pos g2, if_neg (Int32.not_le.mpr g2)]
        exact hc _ _ ⟨_, _, _, _, _, _, _, _, _, _, _, _, _, _, _, _, _, _, _, _, rfl, rfl, i1.fw.fw, Or.inr ⟨2 + i, v, by omega, by omega, a2, rfl, rfl, rfl, rfl⟩⟩
      · rw [if_neg g2, if_pos (Int32.not_lt.mp g2)]
        exact hc _ _ ⟨_, _, _, _, _, _, _, _, _, _, _, _, _, _, _, _, _, _, _, _, rfl, rfl, i1.fw.fw, Or.inr ⟨b, c, hb, hb2, hc2, rfl, rfl, rfl, rfl⟩⟩
  · rintro q r ⟨th, ta, tr, tzz, tn, tk, tc, tg, to2, tl, tcd, tcc, tcp, ts, y1, y2, m, ma, z1, z2, rfl, rfl, i1, i2⟩ rc rd
    have h9 : (9 : Int32) < nI (2 + 8) := nI_lt (a := 9) (by omega) (by omega)
    dsimp only
    unfold b_X6_tune_7 b_X7_tune_6
    rw [if_pos h9, if_pos h9]
    rcases i2 with ⟨q, -⟩ | ⟨b, c, hb, hb2, hc2, rfl, rfl, rfl, rfl⟩
    · exact absurd q (by omega)
    · exact ⟨_, _, _, _, _, _, _, _, _, _, _, _, _, _, _, _, _, rfl, rfl, ⟨N, A, rfl, rfl, by omega, i1, hV, hS, hC⟩, hK.mono hk1, hF, hT, hSh⟩
theorem g_seed : hy_seed Gd := by
  intro k isk fnd nhour nair nrub nz nnb nkd ncl ngr noc nlit ncold nccell ncpow nsp nwm ndr khour kair krub kz knb kkd kcl kgr koc klit kcold kccell kcpow ksp kwm kdr thour tair trub tz tnb tkd tcl tgr toc tlit tcold tccell tcpow tsp twm tdr tok sta en val tsize tby sbits ssize snum misKept mtaped msort mfrom mto mvalue mbad mm mkept mwas mother mfound mwarm mdrip mtape mbits msize mnumber x1 hk hG
  obtain ⟨⟨N, A, rfl, rfl, hA, hM, hV, hS, hC⟩, hK, hF, hT, hSh⟩ := hG
  have hN := hM.hN
  have hk1 := gd_k k
  unfold f_X6_seed f_X7_seed
  have e : f_X7_becomes mm 4 x1 = some (mm 4, upd mm 4 x1) := m_becomes (i := 4) (by omega) x1
  rw [e, pu_b2, hM.h4]
  exact ⟨_, _, _, rfl, rfl, ⟨N, A, rfl, rfl, by omega, hM.u_z x1, hV, hS, hC⟩, hK.mono hk1, hF, hT, hSh⟩
theorem us8 (x : Int32) : ∃ a, a < 2 ^ 24 ∧ ik_us x 8 = nI a := by
  have h := pk_ushr x 8 8 (by decide)
  have hx : x.toBitVec.toNat < 2 ^ 32 := x.toBitVec.isLt
  refine ⟨x.toBitVec.toNat / 2 ^ 8, by omega, ?_⟩
  unfold ik_us
  apply Int32.toBitVec_inj.mp
  apply BitVec.eq_of_toNat_eq
  rw [h]
  show _ = (Int32.ofNat (x.toBitVec.toNat / 2 ^ 8)).toBitVec.toNat
  rw [Int32.toBitVec_ofNat', BitVec.toNat_ofNat, Nat.mod_eq_of_lt (by omega)]
theorem wi_1_20 (x : Int32) : f_X6_isWithin x 1 20 = some (bI (wn x 1 20)) := pu_within x 1 20
theorem in_1_20 (x : Int32) : f_X7_in x.toInt64 1 20 = some (bI (wn x 1 20)) := pu_in32 x 1 20
theorem g_wind : hy_wind Gd := by
  intro k isk fnd nhour nair nrub nz nnb nkd ncl ngr noc nlit ncold nccell ncpow nsp nwm ndr khour kair krub kz knb kkd kcl kgr koc klit kcold kccell kcpow ksp kwm kdr thour tair trub tz tnb tkd tcl tgr toc tlit tcold tccell tcpow tsp twm tdr tok sta en val tsize tby sbits ssize snum misKept mtaped msort mfrom mto mvalue mbad mm mkept mwas mother mfound mwarm mdrip mtape mbits msize mnumber x1 hk hG
  obtain ⟨⟨N, A, rfl, rfl, hA, hM, hV, hS, hC⟩, hK, hF, hT, hSh⟩ := hG
  have hN := hM.hN
  have hk1 := gd_k k
  unfold f_X6_wind f_X7_wind
  rw [wi_1_20, in_1_20, pu_b1, pu_b1]
  cases hw : wn x1 1 20
  · rw [if_pos bI_f, if_pos bI_f]
    obtain ⟨f', g', t1, t2, t3⟩ := fe1 hF
    rw [t1, t2, pu_b2, pu_b2]
    exact ⟨_, _, _, _, _, _, rfl, rfl, ⟨N, A, rfl, rfl, by omega, hM, hV, hS, hC⟩, hK.mono hk1, t3, hT, hSh⟩
  · obtain ⟨n, n1, n2, n3, rfl⟩ := wn_n hw (by decide)
    rw [if_neg (show ¬ bI true = 0 by decide), if_neg (show ¬ bI true = 0 by decide), lp_unc3, lp_unc2]
    refine lp_rel (R := (fun p q => ∃ (R : Int32) (fnd_r : Nat → Int32) (nz_r : Int32) (nlit_r : Int32) (mm_r : Nat → Int32) (mfound_r : Nat → Int32), p = some (R, fnd_r, nz_r, nlit_r) ∧ q = some (R, mm_r, mfound_r) ∧ Gd (k + 1) isk fnd_r nhour (nI A) nrub nz_r (nI N) nkd ncl ngr noc nlit_r ncold nccell ncpow nsp nwm ndr khour kair krub kz knb kkd kcl kgr koc klit kcold kccell kcpow ksp kwm kdr thour tair trub tz tnb tkd tcl tgr toc tlit tcold tccell tcpow tsp twm tdr tok sta en val tsize tby sbits ssize snum misKept mtaped msort mfrom mto mvalue mbad mm_r mkept mwas mother mfound_r mwarm mdrip mtape mbits msize mnumber)) (fun i q r => ∃ z l m, q = (z, l, nI i) ∧ r = (m, nI i) ∧ MS m nhour ncold (nI A) nrub z N nkd ncl ngr l nccell ncpow nsp) n ?_ ?_ _ _ ⟨nz, nlit, mm, rfl, rfl, hM⟩ _ _ (pu_fu (by omega)) (pu_fu (by omega))
    · rintro i q r hi ⟨z, l, m, rfl, rfl, i1⟩ rc rd - - hc
      obtain ⟨a, ha, ea⟩ := us8 (z * 1103515245 + 12345)
      have l2 := i1.u_z (z * 1103515245 + 12345)
      have er : nI a - nI a / 6 * 6 = nI (a % 6) := pk_rem (d := 6) (by omega) (by omega) (by omega)
      have hj : a % 6 < 6 := Nat.mod_lt _ (by omega)
      generalize a % 6 = j at er hj
      have e1 : f_X1_draw z = some (nI a, z * 1103515245 + 12345) := by unfold f_X1_draw; rw [ea]
      have e2 : f_X7_draw m = some (nI a, upd m 4 (z * 1103515245 + 12345)) := by unfold f_X7_draw; rw [pu_c4, i1.h4, upd_eq, ea]
      dsimp only
      unfold b_X6_wind_19 b_X7_wind_21
      rw [if_neg (nI_ge hi (by omega)), if_neg (nI_ge hi (by omega)), e1, e2, pu_b2, pu_b2, er, pu_y2, pu_gdN (show 8 + 3 * j < 82 by omega) (by omega), pu_gdN (show 8 + 3 * j < 82 by omega) (by omega), nI_clamp (by omega), w_isLit (by omega), pu_b1, l2.cb j hj, nI_1]
      cases hlt : bt l j
      · obtain ⟨y, s1, s2, s3⟩ := w_setLit (lit := l) (x := 1) (j := j) (by omega)
        rw [if_pos bI_f, s1, pu_b1]
        exact hc _ _ ⟨_, _, _, rfl, rfl, l2.u_lit (b := j) hj (p := true) s2 (fun k hk q => s3 k (by omega) q)⟩
      · obtain ⟨y, s1, s2, s3⟩ := w_setLit (lit := l) (x := 0) (j := j) (by omega)
        rw [if_neg (show ¬ bI true = 0 by decide), s1, pu_b1]
        exact hc _ _ ⟨_, _, _, rfl, rfl, l2.u_lit (b := j) hj (p := false) s2 (fun k hk q => s3 k (by omega) q)⟩
    · rintro q r ⟨z, l, m, rfl, rfl, i1⟩ rc rd
      dsimp only
      unfold b_X6_wind_19 b_X7_wind_21
      rw [if_pos (nI_le (Nat.le_refl _) (by omega)), if_pos (nI_le (Nat.le_refl _) (by omega)), w_light, m_light i1, pu_b1, pu_b1]
      exact ⟨_, _, _, _, _, _, rfl, rfl, ⟨N, A, rfl, rfl, by omega, i1, hV, hS, hC⟩, hK.mono hk1, hF, hT, hSh⟩
