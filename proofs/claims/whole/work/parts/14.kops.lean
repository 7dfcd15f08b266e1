/-! looking ahead -/
theorem wi_0_96 (x : Int32) : f_X6_isWithin x 0 96 = some (bI (wn x 0 96)) := pu_within x 0 96
theorem in_0_96 (x : Int32) : f_X7_in x.toInt64 0 96 = some (bI (wn x 0 96)) := pu_in32 x 0 96
theorem wi_0_4 (x : Int32) : f_X6_isWithin x 0 4 = some (bI (wn x 0 4)) := pu_within x 0 4
theorem in_0_4 (x : Int32) : f_X7_in x.toInt64 0 4 = some (bI (wn x 0 4)) := pu_in32 x 0 4
def sg (gr : Nat → Int32) : Nat → Int32
  | 0 => 0
  | b + 1 => sg gr b + gr b
theorem w_all {N : Nat} (hN : N ≤ 16) {gr : Nat → Int32} : f_X5_allGrains (nI N) gr = some (sg gr N) := by
  unfold f_X5_allGrains
  refine lp_for2 (sg gr) nI (some (sg gr N)) N (fun rc b hb => ?_) (fun rc => ?_) (pu_fu (by omega))
  · unfold b_X5_allGrains_4
    rw [if_neg (nI_ge hb (by omega)), pu_gdN (show b < 16 by omega) (by omega), nI_clamp (by omega), nI_1]
    rfl
  · unfold b_X5_allGrains_4
    rw [if_pos (nI_le (Nat.le_refl _) (by omega))]
theorem m_all {mm kd cl gr : Nat → Int32} {N : Nat} (h : RM mm N kd cl gr) : f_X7_allGrains mm = some (sg gr N) := by
  have hN := h.1
  unfold f_X7_allGrains
  refine lp_for2 (sg gr) nI (some (sg gr N)) N (fun rc b hb => ?_) (fun rc => ?_) (pu_fu (by omega))
  · unfold b_X7_allGrains_4
    rw [pu_c5, h.2.1, if_neg (nI_ge hb (by omega)), m_grains h (by omega), pu_b1, nI_1]
    rfl
  · unfold b_X7_allGrains_4
    rw [pu_c5, h.2.1, if_pos (nI_le (Nat.le_refl _) (by omega))]
theorem w_goneSet {N : Nat} (hN : N ≤ 16) {cl : Nat → Int32} : f_X5_goneSet (nI N) cl = some (mk (fun b => decide (cl b < 0)) N) := by
  unfold f_X5_goneSet
  refine lp_for2 (mk (fun b => decide (cl b < 0))) nI (some (mk (fun b => decide (cl b < 0)) N)) N (fun rc b hb => ?_) (fun rc => ?_) (pu_fu (by omega))
  · unfold b_X5_goneSet_4
    rw [if_neg (nI_ge hb (by omega)), w_gone (by omega), pu_b1, pu_ifb, nI_1]
    show _ = rc (if decide (cl b < 0) = true then _ else _) _
    cases decide (cl b < 0) <;> rfl
  · unfold b_X5_goneSet_4
    rw [if_pos (nI_le (Nat.le_refl _) (by omega))]
theorem g_ahead : hy_ahead Gd := by
  intro k isk fnd nhour nair nrub nz nnb nkd ncl ngr noc nlit ncold nccell ncpow nsp nwm ndr khour kair krub kz knb kkd kcl kgr koc klit kcold kccell kcpow ksp kwm kdr thour tair trub tz tnb tkd tcl tgr toc tlit tcold tccell tcpow tsp twm tdr tok sta en val tsize tby sbits ssize snum misKept mtaped msort mfrom mto mvalue mbad mm mkept mwas mother mfound mwarm mdrip mtape mbits msize mnumber x1 x2 hk hG
  obtain ⟨⟨N, A, rfl, rfl, hA, hM, hV, hS, hC⟩, hK, hF, hT, hSh⟩ := hG
  have hN := hM.hN
  have hk1 := gd_k k
  unfold f_X6_ahead f_X7_ahead
  rw [wi_0_96, in_0_96, pu_b1, pu_b1]
  cases hw : wn x1 0 96
  · rw [if_pos bI_f, if_pos bI_f]
    obtain ⟨f', g', t1, t2, t3⟩ := fe1 hF
    rw [t1, t2, pu_b2, pu_b2]
    exact ⟨_, _, _, _, _, _, _, _, _, _, _, _, _, _, _, _, _, _, _, _, _, _, _, rfl, rfl, ⟨N, A, rfl, rfl, by omega, hM, hV, hS, hC⟩, hK.mono hk1, t3, hT, hSh⟩
  · obtain ⟨n, n1, n2, n3, rfl⟩ := wn_n hw (by decide)
    rw [if_neg (show ¬ bI true = 0 by decide), if_neg (show ¬ bI true = 0 by decide), wi_0_4, in_0_4, pu_b1, pu_b1]
    cases hw2 : wn x2 0 4
    · rw [if_pos bI_f, if_pos bI_f]
      obtain ⟨f', g', t1, t2, t3⟩ := fe1 hF
      rw [t1, t2, pu_b2, pu_b2]
      exact ⟨_, _, _, _, _, _, _, _, _, _, _, _, _, _, _, _, _, _, _, _, _, _, _, rfl, rfl, ⟨N, A, rfl, rfl, by omega, hM, hV, hS, hC⟩, hK.mono hk1, t3, hT, hSh⟩
    · rw [if_neg (show ¬ bI true = 0 by decide), if_neg (show ¬ bI true = 0 by decide), w_has, pu_b1, pu_c0, hM.h0]
      by_cases q : (9999 : Int32) < nhour + nI n
      · obtain ⟨f', g', t1, t2, t3⟩ := fe5 hF
        rw [decide_eq_true q, if_pos (show bI (!true) = 0 from rfl), if_neg (Int32.not_le.mpr q), t1, t2, pu_b2, pu_b2]
        exact ⟨_, _, _, _, _, _, _, _, _, _, _, _, _, _, _, _, _, _, _, _, _, _, _, rfl, rfl, ⟨N, A, rfl, rfl, by omega, hM, hV, hS, hC⟩, hK.mono hk1, t3, hT, hSh⟩
      · rw [decide_eq_false q, if_neg (show ¬ bI (!false) = 0 by decide), if_pos (Int32.not_lt.mp q), m_row, pu_b1, m_goneNow hM, pu_b1]
        obtain ⟨kd', cl', gr', oc', ccell', cpow', sp', e, r1, r2, r3, r4, r5, r6⟩ := w_fresh hM hV hS hC thour tair trub tz tnb tkd tcl tgr toc tlit tcold tccell tcpow tsp
        obtain ⟨hr, A', rb, cl, gr, oc, dr, v, mm', W, md, ⟨e1, e2, e3, e4, e5, e6, e7, e8, e9, e10⟩, hq⟩ := hq_ex r1 r2 r3 r4 (M := n) (by omega) (wm := fw (fv cl' nlit ncold ccell' cpow') twm N) (fun b hb _ => fw_at N b hb) tdr mwarm mdrip
        have w := w_hours hq (Nat.le_refl n) (by omega)
        rw [e1, e2, e3, e4, e5, e6, e7] at w
        obtain ⟨z1, z2, z3, z4, z5⟩ := hq.1 n (Nat.le_refl _)
        have hm : ik_lp4 (b_X7_ahead_71 mfound (nI n) x2 (fw mm mwas 82) (mk (fun b => decide (ncl b < 0)) N)) ik_fu mm mwarm mdrip 0 = b_X7_ahead_71 mfound (nI n) x2 (fw mm mwas 82) (mk (fun b => decide (ncl b < 0)) N) (fun _ _ _ _ => none) (mm' n) (W n) (md n) (nI n) := by
          have := lp_for4 (f := b_X7_ahead_71 mfound (nI n) x2 (fw mm mwas 82) (mk (fun b => decide (ncl b < 0)) N)) mm' W md nI (b_X7_ahead_71 mfound (nI n) x2 (fw mm mwas 82) (mk (fun b => decide (ncl b < 0)) N) (fun _ _ _ _ => none) (mm' n) (W n) (md n) (nI n)) n (fun rc i hi => ?_) (fun rc => ?_) (pu_fu (show n < 4000 by omega))
          · rw [e8, e9, e10] at this
            exact this
          · unfold b_X7_ahead_71
            rw [if_neg (nI_ge hi (by omega)), (hq.2 i hi).2.1, pu_b3, nI_1]
          · unfold b_X7_ahead_71
            rw [if_pos (nI_le (Nat.le_refl _) (by omega)), if_pos (nI_le (Nat.le_refl _) (by omega))]
        have hl : live cl' N = live ncl N := by
          unfold live
          exact cnt_congr N (fun b hb => by rw [r5 b (by omega)])
        have hwent := m_went (cl := ncl) (cl' := cl n) hN (fun a ha => by rw [← r5 a (by omega), ← e4]; exact z5 a ha)
        unfold f_X1_passHours
        rw [e, pu_b14, w_feel hN r2.wi r4, pu_b1, w, pu_b9, hm]
        unfold b_X7_ahead_71
        rw [if_pos (nI_le (Nat.le_refl _) (by omega))]
        simp only [m_row, pu_b1, m_goneNow z1, hwent, m_all z1.rm, w_all hN, w_goneSet hN, pu_c2, pu_c3, z1.h2, z1.h3, hl]
        by_cases g0 : x2 = 0
        · rw [if_pos g0, if_pos g0]; exact ⟨_, _, _, _, _, _, _, _, _, _, _, _, _, _, _, _, _, _, _, _, _, _, _, rfl, rfl, ⟨N, A, rfl, rfl, by omega, hM.fw.fw, hV, hS, hC⟩, hK.mono hk1, hF, hT, hSh⟩
        rw [if_neg g0, if_neg g0]
        by_cases g1 : x2 = 1
        · rw [if_pos g1, if_pos g1]; exact ⟨_, _, _, _, _, _, _, _, _, _, _, _, _, _, _, _, _, _, _, _, _, _, _, rfl, rfl, ⟨N, A, rfl, rfl, by omega, hM.fw.fw, hV, hS, hC⟩, hK.mono hk1, hF, hT, hSh⟩
        rw [if_neg g1, if_neg g1]
        by_cases g2 : x2 = 2
        · rw [if_pos g2, if_pos g2]; exact ⟨_, _, _, _, _, _, _, _, _, _, _, _, _, _, _, _, _, _, _, _, _, _, _, rfl, rfl, ⟨N, A, rfl, rfl, by omega, hM.fw.fw, hV, hS, hC⟩, hK.mono hk1, hF, hT, hSh⟩
        rw [if_neg g2, if_neg g2]
        by_cases g3 : x2 = 3
        · rw [if_pos g3, if_pos g3]; exact ⟨_, _, _, _, _, _, _, _, _, _, _, _, _, _, _, _, _, _, _, _, _, _, _, rfl, rfl, ⟨N, A, rfl, rfl, by omega, hM.fw.fw, hV, hS, hC⟩, hK.mono hk1, hF, hT, hSh⟩
        rw [if_neg g3, if_neg g3]
        exact ⟨_, _, _, _, _, _, _, _, _, _, _, _, _, _, _, _, _, _, _, _, _, _, _, rfl, rfl, ⟨N, A, rfl, rfl, by omega, hM.fw.fw, hV, hS, hC⟩, hK.mono hk1, hF, hT, hSh⟩
